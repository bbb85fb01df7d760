/-- the cells of the class's fixed part (0 to 18), of the reference (19 to 45), the answers' array (46) -/
def wd_fx (A : Nat) (f : Nat → Int32) (a : Nat → Nat → Int32) (xi : Nat → Int32) (xa : Nat → Nat → Int32) (lr : Nat → Option Nat) (wk : Int64) (mm : Nat) (o : Nat → Int64) (j : Nat) : tk_AE := match j with
  | 0 => .inl (4, [.ref (A + 1), .ref (A + 2), .ref (A + 5), .ref (A + 13), .ref (A + 18), .int (xi 0), .int (xi 1), .int (xi 2), .int (xi 3), .int (xi 4)])
  | 1 => .inr (3, 14, .inr (.inr lr))
  | 2 => .inl (3, [.ref (A + 3), .ref (A + 4)])
  | 3 => .inr (0, 14, .inl (xa 0))
  | 4 => .inr (0, 196, .inl (xa 1))
  | 5 => .inl (1, [.ref (A + 6), .ref (A + 7), .ref (A + 8), .ref (A + 9), .ref (A + 10), .ref (A + 11), .ref (mm), .long wk, .int (xi 5), .int (xi 6)])
  | 6 => .inr (0, 455, .inl (xa 2))
  | 7 => .inr (0, 455, .inl (xa 3))
  | 8 => .inr (0, 455, .inl (xa 4))
  | 9 => .inr (0, 455, .inl (xa 5))
  | 10 => .inr (0, 15, .inl (xa 6))
  | 11 => .inr (0, 14, .inl (xa 7))
  | 12 => .inr (2, 0, .inr (.inl (fun _ => 0)))
  | 13 => .inl (2, [.ref (A + 14), .ref (A + 15), .ref (A + 16), .ref (A + 17), .int (xi 7), .int (xi 8), .int (xi 9), .int (xi 10)])
  | 14 => .inr (0, 80, .inl (xa 8))
  | 15 => .inr (0, 1681, .inl (xa 9))
  | 16 => .inr (0, 80, .inl (xa 10))
  | 17 => .inr (0, 5, .inl (xa 11))
  | 18 => .inr (0, 42, .inl (xa 12))
  | 19 => .inl (5, [.int (f 0), .int (f 1), .int (f 2), .int (f 3), .int (f 4), .ref (A + 20), .ref (A + 21), .ref (A + 22), .ref (A + 23), .ref (A + 24), .ref (A + 25), .ref (A + 26), .ref (A + 27), .ref (A + 28), .ref (A + 29), .int (f 15), .ref (A + 30), .ref (A + 31), .ref (A + 32), .ref (A + 33), .ref (A + 34), .ref (A + 35), .ref (A + 36), .int (f 23), .int (f 24), .ref (A + 37), .ref (A + 38), .int (f 27), .ref (A + 39), .ref (A + 40), .ref (A + 41), .ref (A + 42), .ref (A + 43), .ref (A + 44), .ref (A + 45)])
  | 20 => .inr (0, 14, .inl (a 0))
  | 21 => .inr (0, 112, .inl (a 1))
  | 22 => .inr (0, 112, .inl (a 2))
  | 23 => .inr (0, 112, .inl (a 3))
  | 24 => .inr (0, 112, .inl (a 4))
  | 25 => .inr (0, 112, .inl (a 5))
  | 26 => .inr (0, 28, .inl (a 6))
  | 27 => .inr (0, 14, .inl (a 7))
  | 28 => .inr (0, 14, .inl (a 8))
  | 29 => .inr (0, 14, .inl (a 9))
  | 30 => .inr (0, 21, .inl (a 10))
  | 31 => .inr (0, 21, .inl (a 11))
  | 32 => .inr (1, 14, .inl (a 12))
  | 33 => .inr (0, 14, .inl (a 13))
  | 34 => .inr (0, 560, .inl (a 14))
  | 35 => .inr (0, 560, .inl (a 15))
  | 36 => .inr (0, 80, .inl (a 16))
  | 37 => .inr (0, 80, .inl (a 17))
  | 38 => .inr (0, 3, .inl (a 18))
  | 39 => .inr (0, 2460, .inl (a 19))
  | 40 => .inr (0, 820, .inl (a 20))
  | 41 => .inr (0, 820, .inl (a 21))
  | 42 => .inr (0, 15, .inl (a 22))
  | 43 => .inr (0, 16384, .inl (a 23))
  | 44 => .inr (0, 16384, .inl (a 24))
  | 45 => .inr (0, 1681, .inl (a 25))
  | _ => .inr (2, 1, .inr (.inl o))
/-- a learner's cells -/
def wd_cl (p : Nat) (f : Nat → Int32) (a : Nat → Nat → Int32) (j : Nat) : tk_AE := match j with
  | 0 => .inl (0, [.ref (p + 1), .ref (p + 2), .ref (p + 3), .ref (p + 4), .ref (p + 5), .ref (p + 6), .ref (p + 7), .ref (p + 8), .int (f 8), .int (f 9), .int (f 10), .int (f 11), .int (f 12), .int (f 13), .int (f 14)])
  | 1 => .inr (0, 8, .inl (a 0))
  | 2 => .inr (0, 8, .inl (a 1))
  | 3 => .inr (0, 8, .inl (a 2))
  | 4 => .inr (0, 8, .inl (a 3))
  | 5 => .inr (0, 8, .inl (a 4))
  | 6 => .inr (0, 2, .inl (a 5))
  | 7 => .inr (0, 40, .inl (a 6))
  | _ => .inr (0, 40, .inl (a 7))
def wd (A : Nat) (f : Nat → Int32) (a : Nat → Nat → Int32) (xi : Nat → Int32) (xa : Nat → Nat → Int32) (lr : Nat → Option Nat) (wk : Int64) (mm : Nat) (o : Nat → Int64) (own : Nat → Option (Nat × Nat)) (ad : Nat → Nat) (lf : Nat → Nat → Int32) (la : Nat → Nat → Nat → Int32) (h0 : tk_AH) : tk_AH := fun q =>
  if A ≤ q ∧ q < A + 47 then some (wd_fx A f a xi xa lr wk mm o (q - A)) else match own q with
    | some (l, j) => some (wd_cl (ad l) (lf l) (la l) j)
    | none => h0 q
/-- the learners' cells lie where 'own' says, apart, behind the fixed part -/
def wd_ok (A n : Nat) (own : Nat → Option (Nat × Nat)) (ad : Nat → Nat) : Prop := (∀ l, l < n → ∀ j, j < 9 → own (ad l + j) = some (l, j)) ∧ ∀ q l j, own q = some (l, j) → l < n ∧ j < 9 ∧ q = ad l + j ∧ A + 47 ≤ q
section WD
variable {A : Nat} {f : Nat → Int32} {a : Nat → Nat → Int32} {xi : Nat → Int32} {xa : Nat → Nat → Int32} {lr : Nat → Option Nat} {wk : Int64} {mm : Nat} {o : Nat → Int64} {own : Nat → Option (Nat × Nat)} {ad : Nat → Nat} {lf : Nat → Nat → Int32} {la : Nat → Nat → Nat → Int32} {h0 : tk_AH}
theorem wd_at {j : Nat} (hj : j < 47) : wd A f a xi xa lr wk mm o own ad lf la h0 (A + j) = some (wd_fx A f a xi xa lr wk mm o j) := by
  unfold wd
  rw [if_pos ⟨by omega, by omega⟩, Nat.add_sub_cancel_left]
theorem wd_a0 : wd A f a xi xa lr wk mm o own ad lf la h0 A = some (wd_fx A f a xi xa lr wk mm o 0) := wd_at (j := 0) (by decide)
theorem wd_up {j : Nat} (hj : j < 47) {e : tk_AE} {f' : Nat → Int32} {a' : Nat → Nat → Int32} {xi' : Nat → Int32} {xa' : Nat → Nat → Int32} {lr' : Nat → Option Nat} {wk' : Int64} {mm' : Nat} {o' : Nat → Int64} (he : ∀ i, i < 47 → wd_fx A f' a' xi' xa' lr' wk' mm' o' i = if i = j then e else wd_fx A f a xi xa lr wk mm o i) : va_up (wd A f a xi xa lr wk mm o own ad lf la h0) (A + j) (some e) = wd A f' a' xi' xa' lr' wk' mm' o' own ad lf la h0 := by
  funext q
  unfold va_up wd
  by_cases hq : A ≤ q ∧ q < A + 47
  · rw [if_pos hq, if_pos hq, he _ (by omega)]
    by_cases hz : q = A + j
    · rw [if_pos hz, if_pos (by omega)]
    · rw [if_neg hz, if_neg (by omega)]
  · rw [if_neg hq, if_neg hq, if_neg (by omega)]
theorem wd_lt {n l j : Nat} (hO : wd_ok A n own ad) (hl : l < n) (hj : j < 9) : A + 47 ≤ ad l + j := (hO.2 _ _ _ (hO.1 l hl j hj)).2.2.2
theorem wd_la {n l j : Nat} (hO : wd_ok A n own ad) (hl : l < n) (hj : j < 9) : wd A f a xi xa lr wk mm o own ad lf la h0 (ad l + j) = some (wd_cl (ad l) (lf l) (la l) j) := by
  have h1 := wd_lt hO hl hj
  unfold wd
  rw [if_neg (by omega), hO.1 l hl j hj]
theorem wd_l0 {n l : Nat} (hO : wd_ok A n own ad) (hl : l < n) : wd A f a xi xa lr wk mm o own ad lf la h0 (ad l) = some (wd_cl (ad l) (lf l) (la l) 0) := wd_la (j := 0) hO hl (by decide)
theorem wd_lup {n l j : Nat} (hO : wd_ok A n own ad) (hl : l < n) (hj : j < 9) {e : tk_AE} {F : Nat → Int32} {L : Nat → Nat → Int32} (he : ∀ i, i < 9 → wd_cl (ad l) F L i = if i = j then e else wd_cl (ad l) (lf l) (la l) i) : va_up (wd A f a xi xa lr wk mm o own ad lf la h0) (ad l + j) (some e) = wd A f a xi xa lr wk mm o own ad (va_up lf l F) (va_up la l L) h0 := by
  funext q
  have h1 := wd_lt hO hl hj
  have h2 := hO.1 l hl j hj
  unfold va_up wd
  by_cases hq : A ≤ q ∧ q < A + 47
  · rw [if_pos hq, if_pos hq, if_neg (by omega)]
  · rw [if_neg hq, if_neg hq]
    by_cases hz : q = ad l + j
    · subst hz
      rw [if_pos rfl, h2]
      show some e = some (wd_cl (ad l) (if l = l then F else lf l) (if l = l then L else la l) j)
      rw [if_pos rfl, if_pos rfl, he j hj, if_pos rfl]
    · rw [if_neg hz]
      cases hw : own q with
      | none => rfl
      | some w =>
        obtain ⟨l2, j2⟩ := w
        obtain ⟨g1, g2, g3, g4⟩ := hO.2 q l2 j2 hw
        show some (wd_cl (ad l2) (lf l2) (la l2) j2) = some (wd_cl (ad l2) (if l2 = l then F else lf l2) (if l2 = l then L else la l2) j2)
        by_cases hll : l2 = l
        · subst hll
          rw [if_pos rfl, if_pos rfl, he j2 g2, if_neg (fun z => hz (by rw [g3, z]))]
        · rw [if_neg hll, if_neg hll]
theorem wg_4_0 : tk_gR (wd A f a xi xa lr wk mm o own ad lf la h0) 4 0 A = some (A + 1) := by unfold tk_gR; rw [wd_a0]; rfl
theorem wg_4_1 : tk_gR (wd A f a xi xa lr wk mm o own ad lf la h0) 4 1 A = some (A + 2) := by unfold tk_gR; rw [wd_a0]; rfl
theorem wg_4_2 : tk_gR (wd A f a xi xa lr wk mm o own ad lf la h0) 4 2 A = some (A + 5) := by unfold tk_gR; rw [wd_a0]; rfl
theorem wg_4_3 : tk_gR (wd A f a xi xa lr wk mm o own ad lf la h0) 4 3 A = some (A + 13) := by unfold tk_gR; rw [wd_a0]; rfl
theorem wg_4_4 : tk_gR (wd A f a xi xa lr wk mm o own ad lf la h0) 4 4 A = some (A + 18) := by unfold tk_gR; rw [wd_a0]; rfl
theorem wg_4_5 : tk_gI (wd A f a xi xa lr wk mm o own ad lf la h0) 4 5 A = some (xi 0) := by unfold tk_gI; rw [wd_a0]; rfl
theorem wp_4_5 (v : Int32) : tk_pF (wd A f a xi xa lr wk mm o own ad lf la h0) 4 5 A (.int v) = some (wd A f a (upd xi 0 v) xa lr wk mm o own ad lf la h0) := by
  unfold tk_pF
  rw [wd_a0]
  exact congrArg some (wd_up (j := 0) (by decide) (fun i hi => by
    match i, hi with
    | 0, _ => rfl
    | 1, _ => rfl
    | 2, _ => rfl
    | 3, _ => rfl
    | 4, _ => rfl
    | 5, _ => rfl
    | 6, _ => rfl
    | 7, _ => rfl
    | 8, _ => rfl
    | 9, _ => rfl
    | 10, _ => rfl
    | 11, _ => rfl
    | 12, _ => rfl
    | 13, _ => rfl
    | 14, _ => rfl
    | 15, _ => rfl
    | 16, _ => rfl
    | 17, _ => rfl
    | 18, _ => rfl
    | 19, _ => rfl
    | 20, _ => rfl
    | 21, _ => rfl
    | 22, _ => rfl
    | 23, _ => rfl
    | 24, _ => rfl
    | 25, _ => rfl
    | 26, _ => rfl
    | 27, _ => rfl
    | 28, _ => rfl
    | 29, _ => rfl
    | 30, _ => rfl
    | 31, _ => rfl
    | 32, _ => rfl
    | 33, _ => rfl
    | 34, _ => rfl
    | 35, _ => rfl
    | 36, _ => rfl
    | 37, _ => rfl
    | 38, _ => rfl
    | 39, _ => rfl
    | 40, _ => rfl
    | 41, _ => rfl
    | 42, _ => rfl
    | 43, _ => rfl
    | 44, _ => rfl
    | 45, _ => rfl
    | 46, _ => rfl
    | n + 47, hi => exact absurd hi (by omega)))
theorem wg_4_6 : tk_gI (wd A f a xi xa lr wk mm o own ad lf la h0) 4 6 A = some (xi 1) := by unfold tk_gI; rw [wd_a0]; rfl
theorem wp_4_6 (v : Int32) : tk_pF (wd A f a xi xa lr wk mm o own ad lf la h0) 4 6 A (.int v) = some (wd A f a (upd xi 1 v) xa lr wk mm o own ad lf la h0) := by
  unfold tk_pF
  rw [wd_a0]
  exact congrArg some (wd_up (j := 0) (by decide) (fun i hi => by
    match i, hi with
    | 0, _ => rfl
    | 1, _ => rfl
    | 2, _ => rfl
    | 3, _ => rfl
    | 4, _ => rfl
    | 5, _ => rfl
    | 6, _ => rfl
    | 7, _ => rfl
    | 8, _ => rfl
    | 9, _ => rfl
    | 10, _ => rfl
    | 11, _ => rfl
    | 12, _ => rfl
    | 13, _ => rfl
    | 14, _ => rfl
    | 15, _ => rfl
    | 16, _ => rfl
    | 17, _ => rfl
    | 18, _ => rfl
    | 19, _ => rfl
    | 20, _ => rfl
    | 21, _ => rfl
    | 22, _ => rfl
    | 23, _ => rfl
    | 24, _ => rfl
    | 25, _ => rfl
    | 26, _ => rfl
    | 27, _ => rfl
    | 28, _ => rfl
    | 29, _ => rfl
    | 30, _ => rfl
    | 31, _ => rfl
    | 32, _ => rfl
    | 33, _ => rfl
    | 34, _ => rfl
    | 35, _ => rfl
    | 36, _ => rfl
    | 37, _ => rfl
    | 38, _ => rfl
    | 39, _ => rfl
    | 40, _ => rfl
    | 41, _ => rfl
    | 42, _ => rfl
    | 43, _ => rfl
    | 44, _ => rfl
    | 45, _ => rfl
    | 46, _ => rfl
    | n + 47, hi => exact absurd hi (by omega)))
theorem wg_4_7 : tk_gI (wd A f a xi xa lr wk mm o own ad lf la h0) 4 7 A = some (xi 2) := by unfold tk_gI; rw [wd_a0]; rfl
theorem wp_4_7 (v : Int32) : tk_pF (wd A f a xi xa lr wk mm o own ad lf la h0) 4 7 A (.int v) = some (wd A f a (upd xi 2 v) xa lr wk mm o own ad lf la h0) := by
  unfold tk_pF
  rw [wd_a0]
  exact congrArg some (wd_up (j := 0) (by decide) (fun i hi => by
    match i, hi with
    | 0, _ => rfl
    | 1, _ => rfl
    | 2, _ => rfl
    | 3, _ => rfl
    | 4, _ => rfl
    | 5, _ => rfl
    | 6, _ => rfl
    | 7, _ => rfl
    | 8, _ => rfl
    | 9, _ => rfl
    | 10, _ => rfl
    | 11, _ => rfl
    | 12, _ => rfl
    | 13, _ => rfl
    | 14, _ => rfl
    | 15, _ => rfl
    | 16, _ => rfl
    | 17, _ => rfl
    | 18, _ => rfl
    | 19, _ => rfl
    | 20, _ => rfl
    | 21, _ => rfl
    | 22, _ => rfl
    | 23, _ => rfl
    | 24, _ => rfl
    | 25, _ => rfl
    | 26, _ => rfl
    | 27, _ => rfl
    | 28, _ => rfl
    | 29, _ => rfl
    | 30, _ => rfl
    | 31, _ => rfl
    | 32, _ => rfl
    | 33, _ => rfl
    | 34, _ => rfl
    | 35, _ => rfl
    | 36, _ => rfl
    | 37, _ => rfl
    | 38, _ => rfl
    | 39, _ => rfl
    | 40, _ => rfl
    | 41, _ => rfl
    | 42, _ => rfl
    | 43, _ => rfl
    | 44, _ => rfl
    | 45, _ => rfl
    | 46, _ => rfl
    | n + 47, hi => exact absurd hi (by omega)))
theorem wg_4_8 : tk_gI (wd A f a xi xa lr wk mm o own ad lf la h0) 4 8 A = some (xi 3) := by unfold tk_gI; rw [wd_a0]; rfl
theorem wp_4_8 (v : Int32) : tk_pF (wd A f a xi xa lr wk mm o own ad lf la h0) 4 8 A (.int v) = some (wd A f a (upd xi 3 v) xa lr wk mm o own ad lf la h0) := by
  unfold tk_pF
  rw [wd_a0]
  exact congrArg some (wd_up (j := 0) (by decide) (fun i hi => by
    match i, hi with
    | 0, _ => rfl
    | 1, _ => rfl
    | 2, _ => rfl
    | 3, _ => rfl
    | 4, _ => rfl
    | 5, _ => rfl
    | 6, _ => rfl
    | 7, _ => rfl
    | 8, _ => rfl
    | 9, _ => rfl
    | 10, _ => rfl
    | 11, _ => rfl
    | 12, _ => rfl
    | 13, _ => rfl
    | 14, _ => rfl
    | 15, _ => rfl
    | 16, _ => rfl
    | 17, _ => rfl
    | 18, _ => rfl
    | 19, _ => rfl
    | 20, _ => rfl
    | 21, _ => rfl
    | 22, _ => rfl
    | 23, _ => rfl
    | 24, _ => rfl
    | 25, _ => rfl
    | 26, _ => rfl
    | 27, _ => rfl
    | 28, _ => rfl
    | 29, _ => rfl
    | 30, _ => rfl
    | 31, _ => rfl
    | 32, _ => rfl
    | 33, _ => rfl
    | 34, _ => rfl
    | 35, _ => rfl
    | 36, _ => rfl
    | 37, _ => rfl
    | 38, _ => rfl
    | 39, _ => rfl
    | 40, _ => rfl
    | 41, _ => rfl
    | 42, _ => rfl
    | 43, _ => rfl
    | 44, _ => rfl
    | 45, _ => rfl
    | 46, _ => rfl
    | n + 47, hi => exact absurd hi (by omega)))
theorem wg_4_9 : tk_gI (wd A f a xi xa lr wk mm o own ad lf la h0) 4 9 A = some (xi 4) := by unfold tk_gI; rw [wd_a0]; rfl
theorem wp_4_9 (v : Int32) : tk_pF (wd A f a xi xa lr wk mm o own ad lf la h0) 4 9 A (.int v) = some (wd A f a (upd xi 4 v) xa lr wk mm o own ad lf la h0) := by
  unfold tk_pF
  rw [wd_a0]
  exact congrArg some (wd_up (j := 0) (by decide) (fun i hi => by
    match i, hi with
    | 0, _ => rfl
    | 1, _ => rfl
    | 2, _ => rfl
    | 3, _ => rfl
    | 4, _ => rfl
    | 5, _ => rfl
    | 6, _ => rfl
    | 7, _ => rfl
    | 8, _ => rfl
    | 9, _ => rfl
    | 10, _ => rfl
    | 11, _ => rfl
    | 12, _ => rfl
    | 13, _ => rfl
    | 14, _ => rfl
    | 15, _ => rfl
    | 16, _ => rfl
    | 17, _ => rfl
    | 18, _ => rfl
    | 19, _ => rfl
    | 20, _ => rfl
    | 21, _ => rfl
    | 22, _ => rfl
    | 23, _ => rfl
    | 24, _ => rfl
    | 25, _ => rfl
    | 26, _ => rfl
    | 27, _ => rfl
    | 28, _ => rfl
    | 29, _ => rfl
    | 30, _ => rfl
    | 31, _ => rfl
    | 32, _ => rfl
    | 33, _ => rfl
    | 34, _ => rfl
    | 35, _ => rfl
    | 36, _ => rfl
    | 37, _ => rfl
    | 38, _ => rfl
    | 39, _ => rfl
    | 40, _ => rfl
    | 41, _ => rfl
    | 42, _ => rfl
    | 43, _ => rfl
    | 44, _ => rfl
    | 45, _ => rfl
    | 46, _ => rfl
    | n + 47, hi => exact absurd hi (by omega)))
theorem wo_4 : tk_ok (wd A f a xi xa lr wk mm o own ad lf la h0) 4 A = some () := by unfold tk_ok tk_ob; rw [wd_a0]; rfl
theorem wg_3_0 : tk_gR (wd A f a xi xa lr wk mm o own ad lf la h0) 3 0 (A + 2) = some (A + 3) := by unfold tk_gR; rw [wd_at (j := 2) (by decide)]; rfl
theorem wg_3_1 : tk_gR (wd A f a xi xa lr wk mm o own ad lf la h0) 3 1 (A + 2) = some (A + 4) := by unfold tk_gR; rw [wd_at (j := 2) (by decide)]; rfl
theorem wo_3 : tk_ok (wd A f a xi xa lr wk mm o own ad lf la h0) 3 (A + 2) = some () := by unfold tk_ok tk_ob; rw [wd_at (j := 2) (by decide)]; rfl
theorem wg_1_0 : tk_gR (wd A f a xi xa lr wk mm o own ad lf la h0) 1 0 (A + 5) = some (A + 6) := by unfold tk_gR; rw [wd_at (j := 5) (by decide)]; rfl
theorem wg_1_1 : tk_gR (wd A f a xi xa lr wk mm o own ad lf la h0) 1 1 (A + 5) = some (A + 7) := by unfold tk_gR; rw [wd_at (j := 5) (by decide)]; rfl
theorem wg_1_2 : tk_gR (wd A f a xi xa lr wk mm o own ad lf la h0) 1 2 (A + 5) = some (A + 8) := by unfold tk_gR; rw [wd_at (j := 5) (by decide)]; rfl
theorem wg_1_3 : tk_gR (wd A f a xi xa lr wk mm o own ad lf la h0) 1 3 (A + 5) = some (A + 9) := by unfold tk_gR; rw [wd_at (j := 5) (by decide)]; rfl
theorem wg_1_4 : tk_gR (wd A f a xi xa lr wk mm o own ad lf la h0) 1 4 (A + 5) = some (A + 10) := by unfold tk_gR; rw [wd_at (j := 5) (by decide)]; rfl
theorem wg_1_5 : tk_gR (wd A f a xi xa lr wk mm o own ad lf la h0) 1 5 (A + 5) = some (A + 11) := by unfold tk_gR; rw [wd_at (j := 5) (by decide)]; rfl
theorem wg_1_6 : tk_gR (wd A f a xi xa lr wk mm o own ad lf la h0) 1 6 (A + 5) = some (mm) := by unfold tk_gR; rw [wd_at (j := 5) (by decide)]; rfl
theorem wg_1_7 : tk_gL (wd A f a xi xa lr wk mm o own ad lf la h0) 1 7 (A + 5) = some (wk) := by unfold tk_gL; rw [wd_at (j := 5) (by decide)]; rfl
theorem wg_1_8 : tk_gI (wd A f a xi xa lr wk mm o own ad lf la h0) 1 8 (A + 5) = some (xi 5) := by unfold tk_gI; rw [wd_at (j := 5) (by decide)]; rfl
theorem wp_1_8 (v : Int32) : tk_pF (wd A f a xi xa lr wk mm o own ad lf la h0) 1 8 (A + 5) (.int v) = some (wd A f a (upd xi 5 v) xa lr wk mm o own ad lf la h0) := by
  unfold tk_pF
  rw [wd_at (j := 5) (by decide)]
  exact congrArg some (wd_up (j := 5) (by decide) (fun i hi => by
    match i, hi with
    | 0, _ => rfl
    | 1, _ => rfl
    | 2, _ => rfl
    | 3, _ => rfl
    | 4, _ => rfl
    | 5, _ => rfl
    | 6, _ => rfl
    | 7, _ => rfl
    | 8, _ => rfl
    | 9, _ => rfl
    | 10, _ => rfl
    | 11, _ => rfl
    | 12, _ => rfl
    | 13, _ => rfl
    | 14, _ => rfl
    | 15, _ => rfl
    | 16, _ => rfl
    | 17, _ => rfl
    | 18, _ => rfl
    | 19, _ => rfl
    | 20, _ => rfl
    | 21, _ => rfl
    | 22, _ => rfl
    | 23, _ => rfl
    | 24, _ => rfl
    | 25, _ => rfl
    | 26, _ => rfl
    | 27, _ => rfl
    | 28, _ => rfl
    | 29, _ => rfl
    | 30, _ => rfl
    | 31, _ => rfl
    | 32, _ => rfl
    | 33, _ => rfl
    | 34, _ => rfl
    | 35, _ => rfl
    | 36, _ => rfl
    | 37, _ => rfl
    | 38, _ => rfl
    | 39, _ => rfl
    | 40, _ => rfl
    | 41, _ => rfl
    | 42, _ => rfl
    | 43, _ => rfl
    | 44, _ => rfl
    | 45, _ => rfl
    | 46, _ => rfl
    | n + 47, hi => exact absurd hi (by omega)))
theorem wg_1_9 : tk_gI (wd A f a xi xa lr wk mm o own ad lf la h0) 1 9 (A + 5) = some (xi 6) := by unfold tk_gI; rw [wd_at (j := 5) (by decide)]; rfl
theorem wp_1_9 (v : Int32) : tk_pF (wd A f a xi xa lr wk mm o own ad lf la h0) 1 9 (A + 5) (.int v) = some (wd A f a (upd xi 6 v) xa lr wk mm o own ad lf la h0) := by
  unfold tk_pF
  rw [wd_at (j := 5) (by decide)]
  exact congrArg some (wd_up (j := 5) (by decide) (fun i hi => by
    match i, hi with
    | 0, _ => rfl
    | 1, _ => rfl
    | 2, _ => rfl
    | 3, _ => rfl
    | 4, _ => rfl
    | 5, _ => rfl
    | 6, _ => rfl
    | 7, _ => rfl
    | 8, _ => rfl
    | 9, _ => rfl
    | 10, _ => rfl
    | 11, _ => rfl
    | 12, _ => rfl
    | 13, _ => rfl
    | 14, _ => rfl
    | 15, _ => rfl
    | 16, _ => rfl
    | 17, _ => rfl
    | 18, _ => rfl
    | 19, _ => rfl
    | 20, _ => rfl
    | 21, _ => rfl
    | 22, _ => rfl
    | 23, _ => rfl
    | 24, _ => rfl
    | 25, _ => rfl
    | 26, _ => rfl
    | 27, _ => rfl
    | 28, _ => rfl
    | 29, _ => rfl
    | 30, _ => rfl
    | 31, _ => rfl
    | 32, _ => rfl
    | 33, _ => rfl
    | 34, _ => rfl
    | 35, _ => rfl
    | 36, _ => rfl
    | 37, _ => rfl
    | 38, _ => rfl
    | 39, _ => rfl
    | 40, _ => rfl
    | 41, _ => rfl
    | 42, _ => rfl
    | 43, _ => rfl
    | 44, _ => rfl
    | 45, _ => rfl
    | 46, _ => rfl
    | n + 47, hi => exact absurd hi (by omega)))
theorem wo_1 : tk_ok (wd A f a xi xa lr wk mm o own ad lf la h0) 1 (A + 5) = some () := by unfold tk_ok tk_ob; rw [wd_at (j := 5) (by decide)]; rfl
theorem wg_2_0 : tk_gR (wd A f a xi xa lr wk mm o own ad lf la h0) 2 0 (A + 13) = some (A + 14) := by unfold tk_gR; rw [wd_at (j := 13) (by decide)]; rfl
theorem wg_2_1 : tk_gR (wd A f a xi xa lr wk mm o own ad lf la h0) 2 1 (A + 13) = some (A + 15) := by unfold tk_gR; rw [wd_at (j := 13) (by decide)]; rfl
theorem wg_2_2 : tk_gR (wd A f a xi xa lr wk mm o own ad lf la h0) 2 2 (A + 13) = some (A + 16) := by unfold tk_gR; rw [wd_at (j := 13) (by decide)]; rfl
theorem wg_2_3 : tk_gR (wd A f a xi xa lr wk mm o own ad lf la h0) 2 3 (A + 13) = some (A + 17) := by unfold tk_gR; rw [wd_at (j := 13) (by decide)]; rfl
theorem wg_2_4 : tk_gI (wd A f a xi xa lr wk mm o own ad lf la h0) 2 4 (A + 13) = some (xi 7) := by unfold tk_gI; rw [wd_at (j := 13) (by decide)]; rfl
theorem wp_2_4 (v : Int32) : tk_pF (wd A f a xi xa lr wk mm o own ad lf la h0) 2 4 (A + 13) (.int v) = some (wd A f a (upd xi 7 v) xa lr wk mm o own ad lf la h0) := by
  unfold tk_pF
  rw [wd_at (j := 13) (by decide)]
  exact congrArg some (wd_up (j := 13) (by decide) (fun i hi => by
    match i, hi with
    | 0, _ => rfl
    | 1, _ => rfl
    | 2, _ => rfl
    | 3, _ => rfl
    | 4, _ => rfl
    | 5, _ => rfl
    | 6, _ => rfl
    | 7, _ => rfl
    | 8, _ => rfl
    | 9, _ => rfl
    | 10, _ => rfl
    | 11, _ => rfl
    | 12, _ => rfl
    | 13, _ => rfl
    | 14, _ => rfl
    | 15, _ => rfl
    | 16, _ => rfl
    | 17, _ => rfl
    | 18, _ => rfl
    | 19, _ => rfl
    | 20, _ => rfl
    | 21, _ => rfl
    | 22, _ => rfl
    | 23, _ => rfl
    | 24, _ => rfl
    | 25, _ => rfl
    | 26, _ => rfl
    | 27, _ => rfl
    | 28, _ => rfl
    | 29, _ => rfl
    | 30, _ => rfl
    | 31, _ => rfl
    | 32, _ => rfl
    | 33, _ => rfl
    | 34, _ => rfl
    | 35, _ => rfl
    | 36, _ => rfl
    | 37, _ => rfl
    | 38, _ => rfl
    | 39, _ => rfl
    | 40, _ => rfl
    | 41, _ => rfl
    | 42, _ => rfl
    | 43, _ => rfl
    | 44, _ => rfl
    | 45, _ => rfl
    | 46, _ => rfl
    | n + 47, hi => exact absurd hi (by omega)))
theorem wg_2_5 : tk_gI (wd A f a xi xa lr wk mm o own ad lf la h0) 2 5 (A + 13) = some (xi 8) := by unfold tk_gI; rw [wd_at (j := 13) (by decide)]; rfl
theorem wp_2_5 (v : Int32) : tk_pF (wd A f a xi xa lr wk mm o own ad lf la h0) 2 5 (A + 13) (.int v) = some (wd A f a (upd xi 8 v) xa lr wk mm o own ad lf la h0) := by
  unfold tk_pF
  rw [wd_at (j := 13) (by decide)]
  exact congrArg some (wd_up (j := 13) (by decide) (fun i hi => by
    match i, hi with
    | 0, _ => rfl
    | 1, _ => rfl
    | 2, _ => rfl
    | 3, _ => rfl
    | 4, _ => rfl
    | 5, _ => rfl
    | 6, _ => rfl
    | 7, _ => rfl
    | 8, _ => rfl
    | 9, _ => rfl
    | 10, _ => rfl
    | 11, _ => rfl
    | 12, _ => rfl
    | 13, _ => rfl
    | 14, _ => rfl
    | 15, _ => rfl
    | 16, _ => rfl
    | 17, _ => rfl
    | 18, _ => rfl
    | 19, _ => rfl
    | 20, _ => rfl
    | 21, _ => rfl
    | 22, _ => rfl
    | 23, _ => rfl
    | 24, _ => rfl
    | 25, _ => rfl
    | 26, _ => rfl
    | 27, _ => rfl
    | 28, _ => rfl
    | 29, _ => rfl
    | 30, _ => rfl
    | 31, _ => rfl
    | 32, _ => rfl
    | 33, _ => rfl
    | 34, _ => rfl
    | 35, _ => rfl
    | 36, _ => rfl
    | 37, _ => rfl
    | 38, _ => rfl
    | 39, _ => rfl
    | 40, _ => rfl
    | 41, _ => rfl
    | 42, _ => rfl
    | 43, _ => rfl
    | 44, _ => rfl
    | 45, _ => rfl
    | 46, _ => rfl
    | n + 47, hi => exact absurd hi (by omega)))
theorem wg_2_6 : tk_gI (wd A f a xi xa lr wk mm o own ad lf la h0) 2 6 (A + 13) = some (xi 9) := by unfold tk_gI; rw [wd_at (j := 13) (by decide)]; rfl
theorem wp_2_6 (v : Int32) : tk_pF (wd A f a xi xa lr wk mm o own ad lf la h0) 2 6 (A + 13) (.int v) = some (wd A f a (upd xi 9 v) xa lr wk mm o own ad lf la h0) := by
  unfold tk_pF
  rw [wd_at (j := 13) (by decide)]
  exact congrArg some (wd_up (j := 13) (by decide) (fun i hi => by
    match i, hi with
    | 0, _ => rfl
    | 1, _ => rfl
    | 2, _ => rfl
    | 3, _ => rfl
    | 4, _ => rfl
    | 5, _ => rfl
    | 6, _ => rfl
    | 7, _ => rfl
    | 8, _ => rfl
    | 9, _ => rfl
    | 10, _ => rfl
    | 11, _ => rfl
    | 12, _ => rfl
    | 13, _ => rfl
    | 14, _ => rfl
    | 15, _ => rfl
    | 16, _ => rfl
    | 17, _ => rfl
    | 18, _ => rfl
    | 19, _ => rfl
    | 20, _ => rfl
    | 21, _ => rfl
    | 22, _ => rfl
    | 23, _ => rfl
    | 24, _ => rfl
    | 25, _ => rfl
    | 26, _ => rfl
    | 27, _ => rfl
    | 28, _ => rfl
    | 29, _ => rfl
    | 30, _ => rfl
    | 31, _ => rfl
    | 32, _ => rfl
    | 33, _ => rfl
    | 34, _ => rfl
    | 35, _ => rfl
    | 36, _ => rfl
    | 37, _ => rfl
    | 38, _ => rfl
    | 39, _ => rfl
    | 40, _ => rfl
    | 41, _ => rfl
    | 42, _ => rfl
    | 43, _ => rfl
    | 44, _ => rfl
    | 45, _ => rfl
    | 46, _ => rfl
    | n + 47, hi => exact absurd hi (by omega)))
theorem wg_2_7 : tk_gI (wd A f a xi xa lr wk mm o own ad lf la h0) 2 7 (A + 13) = some (xi 10) := by unfold tk_gI; rw [wd_at (j := 13) (by decide)]; rfl
theorem wp_2_7 (v : Int32) : tk_pF (wd A f a xi xa lr wk mm o own ad lf la h0) 2 7 (A + 13) (.int v) = some (wd A f a (upd xi 10 v) xa lr wk mm o own ad lf la h0) := by
  unfold tk_pF
  rw [wd_at (j := 13) (by decide)]
  exact congrArg some (wd_up (j := 13) (by decide) (fun i hi => by
    match i, hi with
    | 0, _ => rfl
    | 1, _ => rfl
    | 2, _ => rfl
    | 3, _ => rfl
    | 4, _ => rfl
    | 5, _ => rfl
    | 6, _ => rfl
    | 7, _ => rfl
    | 8, _ => rfl
    | 9, _ => rfl
    | 10, _ => rfl
    | 11, _ => rfl
    | 12, _ => rfl
    | 13, _ => rfl
    | 14, _ => rfl
    | 15, _ => rfl
    | 16, _ => rfl
    | 17, _ => rfl
    | 18, _ => rfl
    | 19, _ => rfl
    | 20, _ => rfl
    | 21, _ => rfl
    | 22, _ => rfl
    | 23, _ => rfl
    | 24, _ => rfl
    | 25, _ => rfl
    | 26, _ => rfl
    | 27, _ => rfl
    | 28, _ => rfl
    | 29, _ => rfl
    | 30, _ => rfl
    | 31, _ => rfl
    | 32, _ => rfl
    | 33, _ => rfl
    | 34, _ => rfl
    | 35, _ => rfl
    | 36, _ => rfl
    | 37, _ => rfl
    | 38, _ => rfl
    | 39, _ => rfl
    | 40, _ => rfl
    | 41, _ => rfl
    | 42, _ => rfl
    | 43, _ => rfl
    | 44, _ => rfl
    | 45, _ => rfl
    | 46, _ => rfl
    | n + 47, hi => exact absurd hi (by omega)))
theorem wo_2 : tk_ok (wd A f a xi xa lr wk mm o own ad lf la h0) 2 (A + 13) = some () := by unfold tk_ok tk_ob; rw [wd_at (j := 13) (by decide)]; rfl
theorem wg_5_0 : tk_gI (wd A f a xi xa lr wk mm o own ad lf la h0) 5 0 (A + 19) = some (f 0) := by unfold tk_gI; rw [wd_at (j := 19) (by decide)]; rfl
theorem wp_5_0 (v : Int32) : tk_pF (wd A f a xi xa lr wk mm o own ad lf la h0) 5 0 (A + 19) (.int v) = some (wd A (upd f 0 v) a xi xa lr wk mm o own ad lf la h0) := by
  unfold tk_pF
  rw [wd_at (j := 19) (by decide)]
  exact congrArg some (wd_up (j := 19) (by decide) (fun i hi => by
    match i, hi with
    | 0, _ => rfl
    | 1, _ => rfl
    | 2, _ => rfl
    | 3, _ => rfl
    | 4, _ => rfl
    | 5, _ => rfl
    | 6, _ => rfl
    | 7, _ => rfl
    | 8, _ => rfl
    | 9, _ => rfl
    | 10, _ => rfl
    | 11, _ => rfl
    | 12, _ => rfl
    | 13, _ => rfl
    | 14, _ => rfl
    | 15, _ => rfl
    | 16, _ => rfl
    | 17, _ => rfl
    | 18, _ => rfl
    | 19, _ => rfl
    | 20, _ => rfl
    | 21, _ => rfl
    | 22, _ => rfl
    | 23, _ => rfl
    | 24, _ => rfl
    | 25, _ => rfl
    | 26, _ => rfl
    | 27, _ => rfl
    | 28, _ => rfl
    | 29, _ => rfl
    | 30, _ => rfl
    | 31, _ => rfl
    | 32, _ => rfl
    | 33, _ => rfl
    | 34, _ => rfl
    | 35, _ => rfl
    | 36, _ => rfl
    | 37, _ => rfl
    | 38, _ => rfl
    | 39, _ => rfl
    | 40, _ => rfl
    | 41, _ => rfl
    | 42, _ => rfl
    | 43, _ => rfl
    | 44, _ => rfl
    | 45, _ => rfl
    | 46, _ => rfl
    | n + 47, hi => exact absurd hi (by omega)))
theorem wg_5_1 : tk_gI (wd A f a xi xa lr wk mm o own ad lf la h0) 5 1 (A + 19) = some (f 1) := by unfold tk_gI; rw [wd_at (j := 19) (by decide)]; rfl
theorem wp_5_1 (v : Int32) : tk_pF (wd A f a xi xa lr wk mm o own ad lf la h0) 5 1 (A + 19) (.int v) = some (wd A (upd f 1 v) a xi xa lr wk mm o own ad lf la h0) := by
  unfold tk_pF
  rw [wd_at (j := 19) (by decide)]
  exact congrArg some (wd_up (j := 19) (by decide) (fun i hi => by
    match i, hi with
    | 0, _ => rfl
    | 1, _ => rfl
    | 2, _ => rfl
    | 3, _ => rfl
    | 4, _ => rfl
    | 5, _ => rfl
    | 6, _ => rfl
    | 7, _ => rfl
    | 8, _ => rfl
    | 9, _ => rfl
    | 10, _ => rfl
    | 11, _ => rfl
    | 12, _ => rfl
    | 13, _ => rfl
    | 14, _ => rfl
    | 15, _ => rfl
    | 16, _ => rfl
    | 17, _ => rfl
    | 18, _ => rfl
    | 19, _ => rfl
    | 20, _ => rfl
    | 21, _ => rfl
    | 22, _ => rfl
    | 23, _ => rfl
    | 24, _ => rfl
    | 25, _ => rfl
    | 26, _ => rfl
    | 27, _ => rfl
    | 28, _ => rfl
    | 29, _ => rfl
    | 30, _ => rfl
    | 31, _ => rfl
    | 32, _ => rfl
    | 33, _ => rfl
    | 34, _ => rfl
    | 35, _ => rfl
    | 36, _ => rfl
    | 37, _ => rfl
    | 38, _ => rfl
    | 39, _ => rfl
    | 40, _ => rfl
    | 41, _ => rfl
    | 42, _ => rfl
    | 43, _ => rfl
    | 44, _ => rfl
    | 45, _ => rfl
    | 46, _ => rfl
    | n + 47, hi => exact absurd hi (by omega)))
theorem wg_5_2 : tk_gI (wd A f a xi xa lr wk mm o own ad lf la h0) 5 2 (A + 19) = some (f 2) := by unfold tk_gI; rw [wd_at (j := 19) (by decide)]; rfl
theorem wp_5_2 (v : Int32) : tk_pF (wd A f a xi xa lr wk mm o own ad lf la h0) 5 2 (A + 19) (.int v) = some (wd A (upd f 2 v) a xi xa lr wk mm o own ad lf la h0) := by
  unfold tk_pF
  rw [wd_at (j := 19) (by decide)]
  exact congrArg some (wd_up (j := 19) (by decide) (fun i hi => by
    match i, hi with
    | 0, _ => rfl
    | 1, _ => rfl
    | 2, _ => rfl
    | 3, _ => rfl
    | 4, _ => rfl
    | 5, _ => rfl
    | 6, _ => rfl
    | 7, _ => rfl
    | 8, _ => rfl
    | 9, _ => rfl
    | 10, _ => rfl
    | 11, _ => rfl
    | 12, _ => rfl
    | 13, _ => rfl
    | 14, _ => rfl
    | 15, _ => rfl
    | 16, _ => rfl
    | 17, _ => rfl
    | 18, _ => rfl
    | 19, _ => rfl
    | 20, _ => rfl
    | 21, _ => rfl
    | 22, _ => rfl
    | 23, _ => rfl
    | 24, _ => rfl
    | 25, _ => rfl
    | 26, _ => rfl
    | 27, _ => rfl
    | 28, _ => rfl
    | 29, _ => rfl
    | 30, _ => rfl
    | 31, _ => rfl
    | 32, _ => rfl
    | 33, _ => rfl
    | 34, _ => rfl
    | 35, _ => rfl
    | 36, _ => rfl
    | 37, _ => rfl
    | 38, _ => rfl
    | 39, _ => rfl
    | 40, _ => rfl
    | 41, _ => rfl
    | 42, _ => rfl
    | 43, _ => rfl
    | 44, _ => rfl
    | 45, _ => rfl
    | 46, _ => rfl
    | n + 47, hi => exact absurd hi (by omega)))
theorem wg_5_3 : tk_gI (wd A f a xi xa lr wk mm o own ad lf la h0) 5 3 (A + 19) = some (f 3) := by unfold tk_gI; rw [wd_at (j := 19) (by decide)]; rfl
theorem wp_5_3 (v : Int32) : tk_pF (wd A f a xi xa lr wk mm o own ad lf la h0) 5 3 (A + 19) (.int v) = some (wd A (upd f 3 v) a xi xa lr wk mm o own ad lf la h0) := by
  unfold tk_pF
  rw [wd_at (j := 19) (by decide)]
  exact congrArg some (wd_up (j := 19) (by decide) (fun i hi => by
    match i, hi with
    | 0, _ => rfl
    | 1, _ => rfl
    | 2, _ => rfl
    | 3, _ => rfl
    | 4, _ => rfl
    | 5, _ => rfl
    | 6, _ => rfl
    | 7, _ => rfl
    | 8, _ => rfl
    | 9, _ => rfl
    | 10, _ => rfl
    | 11, _ => rfl
    | 12, _ => rfl
    | 13, _ => rfl
    | 14, _ => rfl
    | 15, _ => rfl
    | 16, _ => rfl
    | 17, _ => rfl
    | 18, _ => rfl
    | 19, _ => rfl
    | 20, _ => rfl
    | 21, _ => rfl
    | 22, _ => rfl
    | 23, _ => rfl
    | 24, _ => rfl
    | 25, _ => rfl
    | 26, _ => rfl
    | 27, _ => rfl
    | 28, _ => rfl
    | 29, _ => rfl
    | 30, _ => rfl
    | 31, _ => rfl
    | 32, _ => rfl
    | 33, _ => rfl
    | 34, _ => rfl
    | 35, _ => rfl
    | 36, _ => rfl
    | 37, _ => rfl
    | 38, _ => rfl
    | 39, _ => rfl
    | 40, _ => rfl
    | 41, _ => rfl
    | 42, _ => rfl
    | 43, _ => rfl
    | 44, _ => rfl
    | 45, _ => rfl
    | 46, _ => rfl
    | n + 47, hi => exact absurd hi (by omega)))
theorem wg_5_4 : tk_gI (wd A f a xi xa lr wk mm o own ad lf la h0) 5 4 (A + 19) = some (f 4) := by unfold tk_gI; rw [wd_at (j := 19) (by decide)]; rfl
theorem wp_5_4 (v : Int32) : tk_pF (wd A f a xi xa lr wk mm o own ad lf la h0) 5 4 (A + 19) (.int v) = some (wd A (upd f 4 v) a xi xa lr wk mm o own ad lf la h0) := by
  unfold tk_pF
  rw [wd_at (j := 19) (by decide)]
  exact congrArg some (wd_up (j := 19) (by decide) (fun i hi => by
    match i, hi with
    | 0, _ => rfl
    | 1, _ => rfl
    | 2, _ => rfl
    | 3, _ => rfl
    | 4, _ => rfl
    | 5, _ => rfl
    | 6, _ => rfl
    | 7, _ => rfl
    | 8, _ => rfl
    | 9, _ => rfl
    | 10, _ => rfl
    | 11, _ => rfl
    | 12, _ => rfl
    | 13, _ => rfl
    | 14, _ => rfl
    | 15, _ => rfl
    | 16, _ => rfl
    | 17, _ => rfl
    | 18, _ => rfl
    | 19, _ => rfl
    | 20, _ => rfl
    | 21, _ => rfl
    | 22, _ => rfl
    | 23, _ => rfl
    | 24, _ => rfl
    | 25, _ => rfl
    | 26, _ => rfl
    | 27, _ => rfl
    | 28, _ => rfl
    | 29, _ => rfl
    | 30, _ => rfl
    | 31, _ => rfl
    | 32, _ => rfl
    | 33, _ => rfl
    | 34, _ => rfl
    | 35, _ => rfl
    | 36, _ => rfl
    | 37, _ => rfl
    | 38, _ => rfl
    | 39, _ => rfl
    | 40, _ => rfl
    | 41, _ => rfl
    | 42, _ => rfl
    | 43, _ => rfl
    | 44, _ => rfl
    | 45, _ => rfl
    | 46, _ => rfl
    | n + 47, hi => exact absurd hi (by omega)))
theorem wg_5_5 : tk_gR (wd A f a xi xa lr wk mm o own ad lf la h0) 5 5 (A + 19) = some (A + 20) := by unfold tk_gR; rw [wd_at (j := 19) (by decide)]; rfl
theorem wg_5_6 : tk_gR (wd A f a xi xa lr wk mm o own ad lf la h0) 5 6 (A + 19) = some (A + 21) := by unfold tk_gR; rw [wd_at (j := 19) (by decide)]; rfl
theorem wg_5_7 : tk_gR (wd A f a xi xa lr wk mm o own ad lf la h0) 5 7 (A + 19) = some (A + 22) := by unfold tk_gR; rw [wd_at (j := 19) (by decide)]; rfl
theorem wg_5_8 : tk_gR (wd A f a xi xa lr wk mm o own ad lf la h0) 5 8 (A + 19) = some (A + 23) := by unfold tk_gR; rw [wd_at (j := 19) (by decide)]; rfl
theorem wg_5_9 : tk_gR (wd A f a xi xa lr wk mm o own ad lf la h0) 5 9 (A + 19) = some (A + 24) := by unfold tk_gR; rw [wd_at (j := 19) (by decide)]; rfl
theorem wg_5_10 : tk_gR (wd A f a xi xa lr wk mm o own ad lf la h0) 5 10 (A + 19) = some (A + 25) := by unfold tk_gR; rw [wd_at (j := 19) (by decide)]; rfl
theorem wg_5_11 : tk_gR (wd A f a xi xa lr wk mm o own ad lf la h0) 5 11 (A + 19) = some (A + 26) := by unfold tk_gR; rw [wd_at (j := 19) (by decide)]; rfl
theorem wg_5_12 : tk_gR (wd A f a xi xa lr wk mm o own ad lf la h0) 5 12 (A + 19) = some (A + 27) := by unfold tk_gR; rw [wd_at (j := 19) (by decide)]; rfl
theorem wg_5_13 : tk_gR (wd A f a xi xa lr wk mm o own ad lf la h0) 5 13 (A + 19) = some (A + 28) := by unfold tk_gR; rw [wd_at (j := 19) (by decide)]; rfl
theorem wg_5_14 : tk_gR (wd A f a xi xa lr wk mm o own ad lf la h0) 5 14 (A + 19) = some (A + 29) := by unfold tk_gR; rw [wd_at (j := 19) (by decide)]; rfl
theorem wg_5_15 : tk_gI (wd A f a xi xa lr wk mm o own ad lf la h0) 5 15 (A + 19) = some (f 15) := by unfold tk_gI; rw [wd_at (j := 19) (by decide)]; rfl
theorem wp_5_15 (v : Int32) : tk_pF (wd A f a xi xa lr wk mm o own ad lf la h0) 5 15 (A + 19) (.int v) = some (wd A (upd f 15 v) a xi xa lr wk mm o own ad lf la h0) := by
  unfold tk_pF
  rw [wd_at (j := 19) (by decide)]
  exact congrArg some (wd_up (j := 19) (by decide) (fun i hi => by
    match i, hi with
    | 0, _ => rfl
    | 1, _ => rfl
    | 2, _ => rfl
    | 3, _ => rfl
    | 4, _ => rfl
    | 5, _ => rfl
    | 6, _ => rfl
    | 7, _ => rfl
    | 8, _ => rfl
    | 9, _ => rfl
    | 10, _ => rfl
    | 11, _ => rfl
    | 12, _ => rfl
    | 13, _ => rfl
    | 14, _ => rfl
    | 15, _ => rfl
    | 16, _ => rfl
    | 17, _ => rfl
    | 18, _ => rfl
    | 19, _ => rfl
    | 20, _ => rfl
    | 21, _ => rfl
    | 22, _ => rfl
    | 23, _ => rfl
    | 24, _ => rfl
    | 25, _ => rfl
    | 26, _ => rfl
    | 27, _ => rfl
    | 28, _ => rfl
    | 29, _ => rfl
    | 30, _ => rfl
    | 31, _ => rfl
    | 32, _ => rfl
    | 33, _ => rfl
    | 34, _ => rfl
    | 35, _ => rfl
    | 36, _ => rfl
    | 37, _ => rfl
    | 38, _ => rfl
    | 39, _ => rfl
    | 40, _ => rfl
    | 41, _ => rfl
    | 42, _ => rfl
    | 43, _ => rfl
    | 44, _ => rfl
    | 45, _ => rfl
    | 46, _ => rfl
    | n + 47, hi => exact absurd hi (by omega)))
theorem wg_5_16 : tk_gR (wd A f a xi xa lr wk mm o own ad lf la h0) 5 16 (A + 19) = some (A + 30) := by unfold tk_gR; rw [wd_at (j := 19) (by decide)]; rfl
theorem wg_5_17 : tk_gR (wd A f a xi xa lr wk mm o own ad lf la h0) 5 17 (A + 19) = some (A + 31) := by unfold tk_gR; rw [wd_at (j := 19) (by decide)]; rfl
theorem wg_5_18 : tk_gR (wd A f a xi xa lr wk mm o own ad lf la h0) 5 18 (A + 19) = some (A + 32) := by unfold tk_gR; rw [wd_at (j := 19) (by decide)]; rfl
theorem wg_5_19 : tk_gR (wd A f a xi xa lr wk mm o own ad lf la h0) 5 19 (A + 19) = some (A + 33) := by unfold tk_gR; rw [wd_at (j := 19) (by decide)]; rfl
theorem wg_5_20 : tk_gR (wd A f a xi xa lr wk mm o own ad lf la h0) 5 20 (A + 19) = some (A + 34) := by unfold tk_gR; rw [wd_at (j := 19) (by decide)]; rfl
theorem wg_5_21 : tk_gR (wd A f a xi xa lr wk mm o own ad lf la h0) 5 21 (A + 19) = some (A + 35) := by unfold tk_gR; rw [wd_at (j := 19) (by decide)]; rfl
theorem wg_5_22 : tk_gR (wd A f a xi xa lr wk mm o own ad lf la h0) 5 22 (A + 19) = some (A + 36) := by unfold tk_gR; rw [wd_at (j := 19) (by decide)]; rfl
theorem wg_5_23 : tk_gI (wd A f a xi xa lr wk mm o own ad lf la h0) 5 23 (A + 19) = some (f 23) := by unfold tk_gI; rw [wd_at (j := 19) (by decide)]; rfl
theorem wp_5_23 (v : Int32) : tk_pF (wd A f a xi xa lr wk mm o own ad lf la h0) 5 23 (A + 19) (.int v) = some (wd A (upd f 23 v) a xi xa lr wk mm o own ad lf la h0) := by
  unfold tk_pF
  rw [wd_at (j := 19) (by decide)]
  exact congrArg some (wd_up (j := 19) (by decide) (fun i hi => by
    match i, hi with
    | 0, _ => rfl
    | 1, _ => rfl
    | 2, _ => rfl
    | 3, _ => rfl
    | 4, _ => rfl
    | 5, _ => rfl
    | 6, _ => rfl
    | 7, _ => rfl
    | 8, _ => rfl
    | 9, _ => rfl
    | 10, _ => rfl
    | 11, _ => rfl
    | 12, _ => rfl
    | 13, _ => rfl
    | 14, _ => rfl
    | 15, _ => rfl
    | 16, _ => rfl
    | 17, _ => rfl
    | 18, _ => rfl
    | 19, _ => rfl
    | 20, _ => rfl
    | 21, _ => rfl
    | 22, _ => rfl
    | 23, _ => rfl
    | 24, _ => rfl
    | 25, _ => rfl
    | 26, _ => rfl
    | 27, _ => rfl
    | 28, _ => rfl
    | 29, _ => rfl
    | 30, _ => rfl
    | 31, _ => rfl
    | 32, _ => rfl
    | 33, _ => rfl
    | 34, _ => rfl
    | 35, _ => rfl
    | 36, _ => rfl
    | 37, _ => rfl
    | 38, _ => rfl
    | 39, _ => rfl
    | 40, _ => rfl
    | 41, _ => rfl
    | 42, _ => rfl
    | 43, _ => rfl
    | 44, _ => rfl
    | 45, _ => rfl
    | 46, _ => rfl
    | n + 47, hi => exact absurd hi (by omega)))
theorem wg_5_24 : tk_gI (wd A f a xi xa lr wk mm o own ad lf la h0) 5 24 (A + 19) = some (f 24) := by unfold tk_gI; rw [wd_at (j := 19) (by decide)]; rfl
theorem wp_5_24 (v : Int32) : tk_pF (wd A f a xi xa lr wk mm o own ad lf la h0) 5 24 (A + 19) (.int v) = some (wd A (upd f 24 v) a xi xa lr wk mm o own ad lf la h0) := by
  unfold tk_pF
  rw [wd_at (j := 19) (by decide)]
  exact congrArg some (wd_up (j := 19) (by decide) (fun i hi => by
    match i, hi with
    | 0, _ => rfl
    | 1, _ => rfl
    | 2, _ => rfl
    | 3, _ => rfl
    | 4, _ => rfl
    | 5, _ => rfl
    | 6, _ => rfl
    | 7, _ => rfl
    | 8, _ => rfl
    | 9, _ => rfl
    | 10, _ => rfl
    | 11, _ => rfl
    | 12, _ => rfl
    | 13, _ => rfl
    | 14, _ => rfl
    | 15, _ => rfl
    | 16, _ => rfl
    | 17, _ => rfl
    | 18, _ => rfl
    | 19, _ => rfl
    | 20, _ => rfl
    | 21, _ => rfl
    | 22, _ => rfl
    | 23, _ => rfl
    | 24, _ => rfl
    | 25, _ => rfl
    | 26, _ => rfl
    | 27, _ => rfl
    | 28, _ => rfl
    | 29, _ => rfl
    | 30, _ => rfl
    | 31, _ => rfl
    | 32, _ => rfl
    | 33, _ => rfl
    | 34, _ => rfl
    | 35, _ => rfl
    | 36, _ => rfl
    | 37, _ => rfl
    | 38, _ => rfl
    | 39, _ => rfl
    | 40, _ => rfl
    | 41, _ => rfl
    | 42, _ => rfl
    | 43, _ => rfl
    | 44, _ => rfl
    | 45, _ => rfl
    | 46, _ => rfl
    | n + 47, hi => exact absurd hi (by omega)))
theorem wg_5_25 : tk_gR (wd A f a xi xa lr wk mm o own ad lf la h0) 5 25 (A + 19) = some (A + 37) := by unfold tk_gR; rw [wd_at (j := 19) (by decide)]; rfl
theorem wg_5_26 : tk_gR (wd A f a xi xa lr wk mm o own ad lf la h0) 5 26 (A + 19) = some (A + 38) := by unfold tk_gR; rw [wd_at (j := 19) (by decide)]; rfl
theorem wg_5_27 : tk_gI (wd A f a xi xa lr wk mm o own ad lf la h0) 5 27 (A + 19) = some (f 27) := by unfold tk_gI; rw [wd_at (j := 19) (by decide)]; rfl
theorem wp_5_27 (v : Int32) : tk_pF (wd A f a xi xa lr wk mm o own ad lf la h0) 5 27 (A + 19) (.int v) = some (wd A (upd f 27 v) a xi xa lr wk mm o own ad lf la h0) := by
  unfold tk_pF
  rw [wd_at (j := 19) (by decide)]
  exact congrArg some (wd_up (j := 19) (by decide) (fun i hi => by
    match i, hi with
    | 0, _ => rfl
    | 1, _ => rfl
    | 2, _ => rfl
    | 3, _ => rfl
    | 4, _ => rfl
    | 5, _ => rfl
    | 6, _ => rfl
    | 7, _ => rfl
    | 8, _ => rfl
    | 9, _ => rfl
    | 10, _ => rfl
    | 11, _ => rfl
    | 12, _ => rfl
    | 13, _ => rfl
    | 14, _ => rfl
    | 15, _ => rfl
    | 16, _ => rfl
    | 17, _ => rfl
    | 18, _ => rfl
    | 19, _ => rfl
    | 20, _ => rfl
    | 21, _ => rfl
    | 22, _ => rfl
    | 23, _ => rfl
    | 24, _ => rfl
    | 25, _ => rfl
    | 26, _ => rfl
    | 27, _ => rfl
    | 28, _ => rfl
    | 29, _ => rfl
    | 30, _ => rfl
    | 31, _ => rfl
    | 32, _ => rfl
    | 33, _ => rfl
    | 34, _ => rfl
    | 35, _ => rfl
    | 36, _ => rfl
    | 37, _ => rfl
    | 38, _ => rfl
    | 39, _ => rfl
    | 40, _ => rfl
    | 41, _ => rfl
    | 42, _ => rfl
    | 43, _ => rfl
    | 44, _ => rfl
    | 45, _ => rfl
    | 46, _ => rfl
    | n + 47, hi => exact absurd hi (by omega)))
theorem wg_5_28 : tk_gR (wd A f a xi xa lr wk mm o own ad lf la h0) 5 28 (A + 19) = some (A + 39) := by unfold tk_gR; rw [wd_at (j := 19) (by decide)]; rfl
theorem wg_5_29 : tk_gR (wd A f a xi xa lr wk mm o own ad lf la h0) 5 29 (A + 19) = some (A + 40) := by unfold tk_gR; rw [wd_at (j := 19) (by decide)]; rfl
theorem wg_5_30 : tk_gR (wd A f a xi xa lr wk mm o own ad lf la h0) 5 30 (A + 19) = some (A + 41) := by unfold tk_gR; rw [wd_at (j := 19) (by decide)]; rfl
theorem wg_5_31 : tk_gR (wd A f a xi xa lr wk mm o own ad lf la h0) 5 31 (A + 19) = some (A + 42) := by unfold tk_gR; rw [wd_at (j := 19) (by decide)]; rfl
theorem wg_5_32 : tk_gR (wd A f a xi xa lr wk mm o own ad lf la h0) 5 32 (A + 19) = some (A + 43) := by unfold tk_gR; rw [wd_at (j := 19) (by decide)]; rfl
theorem wg_5_33 : tk_gR (wd A f a xi xa lr wk mm o own ad lf la h0) 5 33 (A + 19) = some (A + 44) := by unfold tk_gR; rw [wd_at (j := 19) (by decide)]; rfl
theorem wg_5_34 : tk_gR (wd A f a xi xa lr wk mm o own ad lf la h0) 5 34 (A + 19) = some (A + 45) := by unfold tk_gR; rw [wd_at (j := 19) (by decide)]; rfl
theorem wo_5 : tk_ok (wd A f a xi xa lr wk mm o own ad lf la h0) 5 (A + 19) = some () := by unfold tk_ok tk_ob; rw [wd_at (j := 19) (by decide)]; rfl
theorem wp_1_6 (v : Nat) : tk_pF (wd A f a xi xa lr wk mm o own ad lf la h0) 1 6 (A + 5) (.ref v) = some (wd A f a xi xa lr wk (v) o own ad lf la h0) := by
  unfold tk_pF
  rw [wd_at (j := 5) (by decide)]
  exact congrArg some (wd_up (j := 5) (by decide) (fun i hi => by
    match i, hi with
    | 0, _ => rfl
    | 1, _ => rfl
    | 2, _ => rfl
    | 3, _ => rfl
    | 4, _ => rfl
    | 5, _ => rfl
    | 6, _ => rfl
    | 7, _ => rfl
    | 8, _ => rfl
    | 9, _ => rfl
    | 10, _ => rfl
    | 11, _ => rfl
    | 12, _ => rfl
    | 13, _ => rfl
    | 14, _ => rfl
    | 15, _ => rfl
    | 16, _ => rfl
    | 17, _ => rfl
    | 18, _ => rfl
    | 19, _ => rfl
    | 20, _ => rfl
    | 21, _ => rfl
    | 22, _ => rfl
    | 23, _ => rfl
    | 24, _ => rfl
    | 25, _ => rfl
    | 26, _ => rfl
    | 27, _ => rfl
    | 28, _ => rfl
    | 29, _ => rfl
    | 30, _ => rfl
    | 31, _ => rfl
    | 32, _ => rfl
    | 33, _ => rfl
    | 34, _ => rfl
    | 35, _ => rfl
    | 36, _ => rfl
    | 37, _ => rfl
    | 38, _ => rfl
    | 39, _ => rfl
    | 40, _ => rfl
    | 41, _ => rfl
    | 42, _ => rfl
    | 43, _ => rfl
    | 44, _ => rfl
    | 45, _ => rfl
    | 46, _ => rfl
    | n + 47, hi => exact absurd hi (by omega)))
theorem wp_1_7 (v : Int64) : tk_pF (wd A f a xi xa lr wk mm o own ad lf la h0) 1 7 (A + 5) (.long v) = some (wd A f a xi xa lr (v) mm o own ad lf la h0) := by
  unfold tk_pF
  rw [wd_at (j := 5) (by decide)]
  exact congrArg some (wd_up (j := 5) (by decide) (fun i hi => by
    match i, hi with
    | 0, _ => rfl
    | 1, _ => rfl
    | 2, _ => rfl
    | 3, _ => rfl
    | 4, _ => rfl
    | 5, _ => rfl
    | 6, _ => rfl
    | 7, _ => rfl
    | 8, _ => rfl
    | 9, _ => rfl
    | 10, _ => rfl
    | 11, _ => rfl
    | 12, _ => rfl
    | 13, _ => rfl
    | 14, _ => rfl
    | 15, _ => rfl
    | 16, _ => rfl
    | 17, _ => rfl
    | 18, _ => rfl
    | 19, _ => rfl
    | 20, _ => rfl
    | 21, _ => rfl
    | 22, _ => rfl
    | 23, _ => rfl
    | 24, _ => rfl
    | 25, _ => rfl
    | 26, _ => rfl
    | 27, _ => rfl
    | 28, _ => rfl
    | 29, _ => rfl
    | 30, _ => rfl
    | 31, _ => rfl
    | 32, _ => rfl
    | 33, _ => rfl
    | 34, _ => rfl
    | 35, _ => rfl
    | 36, _ => rfl
    | 37, _ => rfl
    | 38, _ => rfl
    | 39, _ => rfl
    | 40, _ => rfl
    | 41, _ => rfl
    | 42, _ => rfl
    | 43, _ => rfl
    | 44, _ => rfl
    | 45, _ => rfl
    | 46, _ => rfl
    | n + 47, hi => exact absurd hi (by omega)))
theorem wr_3 (i : Int32) : tk_aI (wd A f a xi xa lr wk mm o own ad lf la h0) 0 (A + 3) i = if i < 0 ∨ 14 ≤ i.toNatClampNeg then none else some (xa 0 i.toNatClampNeg) := by unfold tk_aI; rw [wd_at (j := 3) (by decide)]; rfl
theorem ww_3 (i x : Int32) : tk_sI (wd A f a xi xa lr wk mm o own ad lf la h0) 0 (A + 3) i x = if i < 0 ∨ 14 ≤ i.toNatClampNeg then none else some (wd A f a xi (va_up xa 0 (upd (xa 0) i.toNatClampNeg x)) lr wk mm o own ad lf la h0) := by
  unfold tk_sI
  rw [wd_at (j := 3) (by decide)]
  show (if 0 = 0 then (if i < 0 ∨ 14 ≤ i.toNatClampNeg then none else some (va_up (wd A f a xi xa lr wk mm o own ad lf la h0) (A + 3) _)) else none) = _
  rw [if_pos rfl, wd_up (j := 3) (by decide) (e := .inr (0, 14, .inl (upd (xa 0) i.toNatClampNeg x))) (f' := f) (a' := a) (xi' := xi) (xa' := va_up xa 0 (upd (xa 0) i.toNatClampNeg x)) (lr' := lr) (wk' := wk) (mm' := mm) (o' := o) (fun i9 hi => by
    match i9, hi with
    | 0, _ => rfl
    | 1, _ => rfl
    | 2, _ => rfl
    | 3, _ => rfl
    | 4, _ => rfl
    | 5, _ => rfl
    | 6, _ => rfl
    | 7, _ => rfl
    | 8, _ => rfl
    | 9, _ => rfl
    | 10, _ => rfl
    | 11, _ => rfl
    | 12, _ => rfl
    | 13, _ => rfl
    | 14, _ => rfl
    | 15, _ => rfl
    | 16, _ => rfl
    | 17, _ => rfl
    | 18, _ => rfl
    | 19, _ => rfl
    | 20, _ => rfl
    | 21, _ => rfl
    | 22, _ => rfl
    | 23, _ => rfl
    | 24, _ => rfl
    | 25, _ => rfl
    | 26, _ => rfl
    | 27, _ => rfl
    | 28, _ => rfl
    | 29, _ => rfl
    | 30, _ => rfl
    | 31, _ => rfl
    | 32, _ => rfl
    | 33, _ => rfl
    | 34, _ => rfl
    | 35, _ => rfl
    | 36, _ => rfl
    | 37, _ => rfl
    | 38, _ => rfl
    | 39, _ => rfl
    | 40, _ => rfl
    | 41, _ => rfl
    | 42, _ => rfl
    | 43, _ => rfl
    | 44, _ => rfl
    | 45, _ => rfl
    | 46, _ => rfl
    | n + 47, hi => exact absurd hi (by omega))]
theorem wr_4 (i : Int32) : tk_aI (wd A f a xi xa lr wk mm o own ad lf la h0) 0 (A + 4) i = if i < 0 ∨ 196 ≤ i.toNatClampNeg then none else some (xa 1 i.toNatClampNeg) := by unfold tk_aI; rw [wd_at (j := 4) (by decide)]; rfl
theorem ww_4 (i x : Int32) : tk_sI (wd A f a xi xa lr wk mm o own ad lf la h0) 0 (A + 4) i x = if i < 0 ∨ 196 ≤ i.toNatClampNeg then none else some (wd A f a xi (va_up xa 1 (upd (xa 1) i.toNatClampNeg x)) lr wk mm o own ad lf la h0) := by
  unfold tk_sI
  rw [wd_at (j := 4) (by decide)]
  show (if 0 = 0 then (if i < 0 ∨ 196 ≤ i.toNatClampNeg then none else some (va_up (wd A f a xi xa lr wk mm o own ad lf la h0) (A + 4) _)) else none) = _
  rw [if_pos rfl, wd_up (j := 4) (by decide) (e := .inr (0, 196, .inl (upd (xa 1) i.toNatClampNeg x))) (f' := f) (a' := a) (xi' := xi) (xa' := va_up xa 1 (upd (xa 1) i.toNatClampNeg x)) (lr' := lr) (wk' := wk) (mm' := mm) (o' := o) (fun i9 hi => by
    match i9, hi with
    | 0, _ => rfl
    | 1, _ => rfl
    | 2, _ => rfl
    | 3, _ => rfl
    | 4, _ => rfl
    | 5, _ => rfl
    | 6, _ => rfl
    | 7, _ => rfl
    | 8, _ => rfl
    | 9, _ => rfl
    | 10, _ => rfl
    | 11, _ => rfl
    | 12, _ => rfl
    | 13, _ => rfl
    | 14, _ => rfl
    | 15, _ => rfl
    | 16, _ => rfl
    | 17, _ => rfl
    | 18, _ => rfl
    | 19, _ => rfl
    | 20, _ => rfl
    | 21, _ => rfl
    | 22, _ => rfl
    | 23, _ => rfl
    | 24, _ => rfl
    | 25, _ => rfl
    | 26, _ => rfl
    | 27, _ => rfl
    | 28, _ => rfl
    | 29, _ => rfl
    | 30, _ => rfl
    | 31, _ => rfl
    | 32, _ => rfl
    | 33, _ => rfl
    | 34, _ => rfl
    | 35, _ => rfl
    | 36, _ => rfl
    | 37, _ => rfl
    | 38, _ => rfl
    | 39, _ => rfl
    | 40, _ => rfl
    | 41, _ => rfl
    | 42, _ => rfl
    | 43, _ => rfl
    | 44, _ => rfl
    | 45, _ => rfl
    | 46, _ => rfl
    | n + 47, hi => exact absurd hi (by omega))]
theorem wr_6 (i : Int32) : tk_aI (wd A f a xi xa lr wk mm o own ad lf la h0) 0 (A + 6) i = if i < 0 ∨ 455 ≤ i.toNatClampNeg then none else some (xa 2 i.toNatClampNeg) := by unfold tk_aI; rw [wd_at (j := 6) (by decide)]; rfl
theorem ww_6 (i x : Int32) : tk_sI (wd A f a xi xa lr wk mm o own ad lf la h0) 0 (A + 6) i x = if i < 0 ∨ 455 ≤ i.toNatClampNeg then none else some (wd A f a xi (va_up xa 2 (upd (xa 2) i.toNatClampNeg x)) lr wk mm o own ad lf la h0) := by
  unfold tk_sI
  rw [wd_at (j := 6) (by decide)]
  show (if 0 = 0 then (if i < 0 ∨ 455 ≤ i.toNatClampNeg then none else some (va_up (wd A f a xi xa lr wk mm o own ad lf la h0) (A + 6) _)) else none) = _
  rw [if_pos rfl, wd_up (j := 6) (by decide) (e := .inr (0, 455, .inl (upd (xa 2) i.toNatClampNeg x))) (f' := f) (a' := a) (xi' := xi) (xa' := va_up xa 2 (upd (xa 2) i.toNatClampNeg x)) (lr' := lr) (wk' := wk) (mm' := mm) (o' := o) (fun i9 hi => by
    match i9, hi with
    | 0, _ => rfl
    | 1, _ => rfl
    | 2, _ => rfl
    | 3, _ => rfl
    | 4, _ => rfl
    | 5, _ => rfl
    | 6, _ => rfl
    | 7, _ => rfl
    | 8, _ => rfl
    | 9, _ => rfl
    | 10, _ => rfl
    | 11, _ => rfl
    | 12, _ => rfl
    | 13, _ => rfl
    | 14, _ => rfl
    | 15, _ => rfl
    | 16, _ => rfl
    | 17, _ => rfl
    | 18, _ => rfl
    | 19, _ => rfl
    | 20, _ => rfl
    | 21, _ => rfl
    | 22, _ => rfl
    | 23, _ => rfl
    | 24, _ => rfl
    | 25, _ => rfl
    | 26, _ => rfl
    | 27, _ => rfl
    | 28, _ => rfl
    | 29, _ => rfl
    | 30, _ => rfl
    | 31, _ => rfl
    | 32, _ => rfl
    | 33, _ => rfl
    | 34, _ => rfl
    | 35, _ => rfl
    | 36, _ => rfl
    | 37, _ => rfl
    | 38, _ => rfl
    | 39, _ => rfl
    | 40, _ => rfl
    | 41, _ => rfl
    | 42, _ => rfl
    | 43, _ => rfl
    | 44, _ => rfl
    | 45, _ => rfl
    | 46, _ => rfl
    | n + 47, hi => exact absurd hi (by omega))]
theorem wr_7 (i : Int32) : tk_aI (wd A f a xi xa lr wk mm o own ad lf la h0) 0 (A + 7) i = if i < 0 ∨ 455 ≤ i.toNatClampNeg then none else some (xa 3 i.toNatClampNeg) := by unfold tk_aI; rw [wd_at (j := 7) (by decide)]; rfl
theorem ww_7 (i x : Int32) : tk_sI (wd A f a xi xa lr wk mm o own ad lf la h0) 0 (A + 7) i x = if i < 0 ∨ 455 ≤ i.toNatClampNeg then none else some (wd A f a xi (va_up xa 3 (upd (xa 3) i.toNatClampNeg x)) lr wk mm o own ad lf la h0) := by
  unfold tk_sI
  rw [wd_at (j := 7) (by decide)]
  show (if 0 = 0 then (if i < 0 ∨ 455 ≤ i.toNatClampNeg then none else some (va_up (wd A f a xi xa lr wk mm o own ad lf la h0) (A + 7) _)) else none) = _
  rw [if_pos rfl, wd_up (j := 7) (by decide) (e := .inr (0, 455, .inl (upd (xa 3) i.toNatClampNeg x))) (f' := f) (a' := a) (xi' := xi) (xa' := va_up xa 3 (upd (xa 3) i.toNatClampNeg x)) (lr' := lr) (wk' := wk) (mm' := mm) (o' := o) (fun i9 hi => by
    match i9, hi with
    | 0, _ => rfl
    | 1, _ => rfl
    | 2, _ => rfl
    | 3, _ => rfl
    | 4, _ => rfl
    | 5, _ => rfl
    | 6, _ => rfl
    | 7, _ => rfl
    | 8, _ => rfl
    | 9, _ => rfl
    | 10, _ => rfl
    | 11, _ => rfl
    | 12, _ => rfl
    | 13, _ => rfl
    | 14, _ => rfl
    | 15, _ => rfl
    | 16, _ => rfl
    | 17, _ => rfl
    | 18, _ => rfl
    | 19, _ => rfl
    | 20, _ => rfl
    | 21, _ => rfl
    | 22, _ => rfl
    | 23, _ => rfl
    | 24, _ => rfl
    | 25, _ => rfl
    | 26, _ => rfl
    | 27, _ => rfl
    | 28, _ => rfl
    | 29, _ => rfl
    | 30, _ => rfl
    | 31, _ => rfl
    | 32, _ => rfl
    | 33, _ => rfl
    | 34, _ => rfl
    | 35, _ => rfl
    | 36, _ => rfl
    | 37, _ => rfl
    | 38, _ => rfl
    | 39, _ => rfl
    | 40, _ => rfl
    | 41, _ => rfl
    | 42, _ => rfl
    | 43, _ => rfl
    | 44, _ => rfl
    | 45, _ => rfl
    | 46, _ => rfl
    | n + 47, hi => exact absurd hi (by omega))]
theorem wr_8 (i : Int32) : tk_aI (wd A f a xi xa lr wk mm o own ad lf la h0) 0 (A + 8) i = if i < 0 ∨ 455 ≤ i.toNatClampNeg then none else some (xa 4 i.toNatClampNeg) := by unfold tk_aI; rw [wd_at (j := 8) (by decide)]; rfl
theorem ww_8 (i x : Int32) : tk_sI (wd A f a xi xa lr wk mm o own ad lf la h0) 0 (A + 8) i x = if i < 0 ∨ 455 ≤ i.toNatClampNeg then none else some (wd A f a xi (va_up xa 4 (upd (xa 4) i.toNatClampNeg x)) lr wk mm o own ad lf la h0) := by
  unfold tk_sI
  rw [wd_at (j := 8) (by decide)]
  show (if 0 = 0 then (if i < 0 ∨ 455 ≤ i.toNatClampNeg then none else some (va_up (wd A f a xi xa lr wk mm o own ad lf la h0) (A + 8) _)) else none) = _
  rw [if_pos rfl, wd_up (j := 8) (by decide) (e := .inr (0, 455, .inl (upd (xa 4) i.toNatClampNeg x))) (f' := f) (a' := a) (xi' := xi) (xa' := va_up xa 4 (upd (xa 4) i.toNatClampNeg x)) (lr' := lr) (wk' := wk) (mm' := mm) (o' := o) (fun i9 hi => by
    match i9, hi with
    | 0, _ => rfl
    | 1, _ => rfl
    | 2, _ => rfl
    | 3, _ => rfl
    | 4, _ => rfl
    | 5, _ => rfl
    | 6, _ => rfl
    | 7, _ => rfl
    | 8, _ => rfl
    | 9, _ => rfl
    | 10, _ => rfl
    | 11, _ => rfl
    | 12, _ => rfl
    | 13, _ => rfl
    | 14, _ => rfl
    | 15, _ => rfl
    | 16, _ => rfl
    | 17, _ => rfl
    | 18, _ => rfl
    | 19, _ => rfl
    | 20, _ => rfl
    | 21, _ => rfl
    | 22, _ => rfl
    | 23, _ => rfl
    | 24, _ => rfl
    | 25, _ => rfl
    | 26, _ => rfl
    | 27, _ => rfl
    | 28, _ => rfl
    | 29, _ => rfl
    | 30, _ => rfl
    | 31, _ => rfl
    | 32, _ => rfl
    | 33, _ => rfl
    | 34, _ => rfl
    | 35, _ => rfl
    | 36, _ => rfl
    | 37, _ => rfl
    | 38, _ => rfl
    | 39, _ => rfl
    | 40, _ => rfl
    | 41, _ => rfl
    | 42, _ => rfl
    | 43, _ => rfl
    | 44, _ => rfl
    | 45, _ => rfl
    | 46, _ => rfl
    | n + 47, hi => exact absurd hi (by omega))]
theorem wr_9 (i : Int32) : tk_aI (wd A f a xi xa lr wk mm o own ad lf la h0) 0 (A + 9) i = if i < 0 ∨ 455 ≤ i.toNatClampNeg then none else some (xa 5 i.toNatClampNeg) := by unfold tk_aI; rw [wd_at (j := 9) (by decide)]; rfl
theorem ww_9 (i x : Int32) : tk_sI (wd A f a xi xa lr wk mm o own ad lf la h0) 0 (A + 9) i x = if i < 0 ∨ 455 ≤ i.toNatClampNeg then none else some (wd A f a xi (va_up xa 5 (upd (xa 5) i.toNatClampNeg x)) lr wk mm o own ad lf la h0) := by
  unfold tk_sI
  rw [wd_at (j := 9) (by decide)]
  show (if 0 = 0 then (if i < 0 ∨ 455 ≤ i.toNatClampNeg then none else some (va_up (wd A f a xi xa lr wk mm o own ad lf la h0) (A + 9) _)) else none) = _
  rw [if_pos rfl, wd_up (j := 9) (by decide) (e := .inr (0, 455, .inl (upd (xa 5) i.toNatClampNeg x))) (f' := f) (a' := a) (xi' := xi) (xa' := va_up xa 5 (upd (xa 5) i.toNatClampNeg x)) (lr' := lr) (wk' := wk) (mm' := mm) (o' := o) (fun i9 hi => by
    match i9, hi with
    | 0, _ => rfl
    | 1, _ => rfl
    | 2, _ => rfl
    | 3, _ => rfl
    | 4, _ => rfl
    | 5, _ => rfl
    | 6, _ => rfl
    | 7, _ => rfl
    | 8, _ => rfl
    | 9, _ => rfl
    | 10, _ => rfl
    | 11, _ => rfl
    | 12, _ => rfl
    | 13, _ => rfl
    | 14, _ => rfl
    | 15, _ => rfl
    | 16, _ => rfl
    | 17, _ => rfl
    | 18, _ => rfl
    | 19, _ => rfl
    | 20, _ => rfl
    | 21, _ => rfl
    | 22, _ => rfl
    | 23, _ => rfl
    | 24, _ => rfl
    | 25, _ => rfl
    | 26, _ => rfl
    | 27, _ => rfl
    | 28, _ => rfl
    | 29, _ => rfl
    | 30, _ => rfl
    | 31, _ => rfl
    | 32, _ => rfl
    | 33, _ => rfl
    | 34, _ => rfl
    | 35, _ => rfl
    | 36, _ => rfl
    | 37, _ => rfl
    | 38, _ => rfl
    | 39, _ => rfl
    | 40, _ => rfl
    | 41, _ => rfl
    | 42, _ => rfl
    | 43, _ => rfl
    | 44, _ => rfl
    | 45, _ => rfl
    | 46, _ => rfl
    | n + 47, hi => exact absurd hi (by omega))]
theorem wr_10 (i : Int32) : tk_aI (wd A f a xi xa lr wk mm o own ad lf la h0) 0 (A + 10) i = if i < 0 ∨ 15 ≤ i.toNatClampNeg then none else some (xa 6 i.toNatClampNeg) := by unfold tk_aI; rw [wd_at (j := 10) (by decide)]; rfl
theorem ww_10 (i x : Int32) : tk_sI (wd A f a xi xa lr wk mm o own ad lf la h0) 0 (A + 10) i x = if i < 0 ∨ 15 ≤ i.toNatClampNeg then none else some (wd A f a xi (va_up xa 6 (upd (xa 6) i.toNatClampNeg x)) lr wk mm o own ad lf la h0) := by
  unfold tk_sI
  rw [wd_at (j := 10) (by decide)]
  show (if 0 = 0 then (if i < 0 ∨ 15 ≤ i.toNatClampNeg then none else some (va_up (wd A f a xi xa lr wk mm o own ad lf la h0) (A + 10) _)) else none) = _
  rw [if_pos rfl, wd_up (j := 10) (by decide) (e := .inr (0, 15, .inl (upd (xa 6) i.toNatClampNeg x))) (f' := f) (a' := a) (xi' := xi) (xa' := va_up xa 6 (upd (xa 6) i.toNatClampNeg x)) (lr' := lr) (wk' := wk) (mm' := mm) (o' := o) (fun i9 hi => by
    match i9, hi with
    | 0, _ => rfl
    | 1, _ => rfl
    | 2, _ => rfl
    | 3, _ => rfl
    | 4, _ => rfl
    | 5, _ => rfl
    | 6, _ => rfl
    | 7, _ => rfl
    | 8, _ => rfl
    | 9, _ => rfl
    | 10, _ => rfl
    | 11, _ => rfl
    | 12, _ => rfl
    | 13, _ => rfl
    | 14, _ => rfl
    | 15, _ => rfl
    | 16, _ => rfl
    | 17, _ => rfl
    | 18, _ => rfl
    | 19, _ => rfl
    | 20, _ => rfl
    | 21, _ => rfl
    | 22, _ => rfl
    | 23, _ => rfl
    | 24, _ => rfl
    | 25, _ => rfl
    | 26, _ => rfl
    | 27, _ => rfl
    | 28, _ => rfl
    | 29, _ => rfl
    | 30, _ => rfl
    | 31, _ => rfl
    | 32, _ => rfl
    | 33, _ => rfl
    | 34, _ => rfl
    | 35, _ => rfl
    | 36, _ => rfl
    | 37, _ => rfl
    | 38, _ => rfl
    | 39, _ => rfl
    | 40, _ => rfl
    | 41, _ => rfl
    | 42, _ => rfl
    | 43, _ => rfl
    | 44, _ => rfl
    | 45, _ => rfl
    | 46, _ => rfl
    | n + 47, hi => exact absurd hi (by omega))]
theorem wr_11 (i : Int32) : tk_aI (wd A f a xi xa lr wk mm o own ad lf la h0) 0 (A + 11) i = if i < 0 ∨ 14 ≤ i.toNatClampNeg then none else some (xa 7 i.toNatClampNeg) := by unfold tk_aI; rw [wd_at (j := 11) (by decide)]; rfl
theorem ww_11 (i x : Int32) : tk_sI (wd A f a xi xa lr wk mm o own ad lf la h0) 0 (A + 11) i x = if i < 0 ∨ 14 ≤ i.toNatClampNeg then none else some (wd A f a xi (va_up xa 7 (upd (xa 7) i.toNatClampNeg x)) lr wk mm o own ad lf la h0) := by
  unfold tk_sI
  rw [wd_at (j := 11) (by decide)]
  show (if 0 = 0 then (if i < 0 ∨ 14 ≤ i.toNatClampNeg then none else some (va_up (wd A f a xi xa lr wk mm o own ad lf la h0) (A + 11) _)) else none) = _
  rw [if_pos rfl, wd_up (j := 11) (by decide) (e := .inr (0, 14, .inl (upd (xa 7) i.toNatClampNeg x))) (f' := f) (a' := a) (xi' := xi) (xa' := va_up xa 7 (upd (xa 7) i.toNatClampNeg x)) (lr' := lr) (wk' := wk) (mm' := mm) (o' := o) (fun i9 hi => by
    match i9, hi with
    | 0, _ => rfl
    | 1, _ => rfl
    | 2, _ => rfl
    | 3, _ => rfl
    | 4, _ => rfl
    | 5, _ => rfl
    | 6, _ => rfl
    | 7, _ => rfl
    | 8, _ => rfl
    | 9, _ => rfl
    | 10, _ => rfl
    | 11, _ => rfl
    | 12, _ => rfl
    | 13, _ => rfl
    | 14, _ => rfl
    | 15, _ => rfl
    | 16, _ => rfl
    | 17, _ => rfl
    | 18, _ => rfl
    | 19, _ => rfl
    | 20, _ => rfl
    | 21, _ => rfl
    | 22, _ => rfl
    | 23, _ => rfl
    | 24, _ => rfl
    | 25, _ => rfl
    | 26, _ => rfl
    | 27, _ => rfl
    | 28, _ => rfl
    | 29, _ => rfl
    | 30, _ => rfl
    | 31, _ => rfl
    | 32, _ => rfl
    | 33, _ => rfl
    | 34, _ => rfl
    | 35, _ => rfl
    | 36, _ => rfl
    | 37, _ => rfl
    | 38, _ => rfl
    | 39, _ => rfl
    | 40, _ => rfl
    | 41, _ => rfl
    | 42, _ => rfl
    | 43, _ => rfl
    | 44, _ => rfl
    | 45, _ => rfl
    | 46, _ => rfl
    | n + 47, hi => exact absurd hi (by omega))]
theorem wr_14 (i : Int32) : tk_aI (wd A f a xi xa lr wk mm o own ad lf la h0) 0 (A + 14) i = if i < 0 ∨ 80 ≤ i.toNatClampNeg then none else some (xa 8 i.toNatClampNeg) := by unfold tk_aI; rw [wd_at (j := 14) (by decide)]; rfl
theorem ww_14 (i x : Int32) : tk_sI (wd A f a xi xa lr wk mm o own ad lf la h0) 0 (A + 14) i x = if i < 0 ∨ 80 ≤ i.toNatClampNeg then none else some (wd A f a xi (va_up xa 8 (upd (xa 8) i.toNatClampNeg x)) lr wk mm o own ad lf la h0) := by
  unfold tk_sI
  rw [wd_at (j := 14) (by decide)]
  show (if 0 = 0 then (if i < 0 ∨ 80 ≤ i.toNatClampNeg then none else some (va_up (wd A f a xi xa lr wk mm o own ad lf la h0) (A + 14) _)) else none) = _
  rw [if_pos rfl, wd_up (j := 14) (by decide) (e := .inr (0, 80, .inl (upd (xa 8) i.toNatClampNeg x))) (f' := f) (a' := a) (xi' := xi) (xa' := va_up xa 8 (upd (xa 8) i.toNatClampNeg x)) (lr' := lr) (wk' := wk) (mm' := mm) (o' := o) (fun i9 hi => by
    match i9, hi with
    | 0, _ => rfl
    | 1, _ => rfl
    | 2, _ => rfl
    | 3, _ => rfl
    | 4, _ => rfl
    | 5, _ => rfl
    | 6, _ => rfl
    | 7, _ => rfl
    | 8, _ => rfl
    | 9, _ => rfl
    | 10, _ => rfl
    | 11, _ => rfl
    | 12, _ => rfl
    | 13, _ => rfl
    | 14, _ => rfl
    | 15, _ => rfl
    | 16, _ => rfl
    | 17, _ => rfl
    | 18, _ => rfl
    | 19, _ => rfl
    | 20, _ => rfl
    | 21, _ => rfl
    | 22, _ => rfl
    | 23, _ => rfl
    | 24, _ => rfl
    | 25, _ => rfl
    | 26, _ => rfl
    | 27, _ => rfl
    | 28, _ => rfl
    | 29, _ => rfl
    | 30, _ => rfl
    | 31, _ => rfl
    | 32, _ => rfl
    | 33, _ => rfl
    | 34, _ => rfl
    | 35, _ => rfl
    | 36, _ => rfl
    | 37, _ => rfl
    | 38, _ => rfl
    | 39, _ => rfl
    | 40, _ => rfl
    | 41, _ => rfl
    | 42, _ => rfl
    | 43, _ => rfl
    | 44, _ => rfl
    | 45, _ => rfl
    | 46, _ => rfl
    | n + 47, hi => exact absurd hi (by omega))]
theorem wr_15 (i : Int32) : tk_aI (wd A f a xi xa lr wk mm o own ad lf la h0) 0 (A + 15) i = if i < 0 ∨ 1681 ≤ i.toNatClampNeg then none else some (xa 9 i.toNatClampNeg) := by unfold tk_aI; rw [wd_at (j := 15) (by decide)]; rfl
theorem ww_15 (i x : Int32) : tk_sI (wd A f a xi xa lr wk mm o own ad lf la h0) 0 (A + 15) i x = if i < 0 ∨ 1681 ≤ i.toNatClampNeg then none else some (wd A f a xi (va_up xa 9 (upd (xa 9) i.toNatClampNeg x)) lr wk mm o own ad lf la h0) := by
  unfold tk_sI
  rw [wd_at (j := 15) (by decide)]
  show (if 0 = 0 then (if i < 0 ∨ 1681 ≤ i.toNatClampNeg then none else some (va_up (wd A f a xi xa lr wk mm o own ad lf la h0) (A + 15) _)) else none) = _
  rw [if_pos rfl, wd_up (j := 15) (by decide) (e := .inr (0, 1681, .inl (upd (xa 9) i.toNatClampNeg x))) (f' := f) (a' := a) (xi' := xi) (xa' := va_up xa 9 (upd (xa 9) i.toNatClampNeg x)) (lr' := lr) (wk' := wk) (mm' := mm) (o' := o) (fun i9 hi => by
    match i9, hi with
    | 0, _ => rfl
    | 1, _ => rfl
    | 2, _ => rfl
    | 3, _ => rfl
    | 4, _ => rfl
    | 5, _ => rfl
    | 6, _ => rfl
    | 7, _ => rfl
    | 8, _ => rfl
    | 9, _ => rfl
    | 10, _ => rfl
    | 11, _ => rfl
    | 12, _ => rfl
    | 13, _ => rfl
    | 14, _ => rfl
    | 15, _ => rfl
    | 16, _ => rfl
    | 17, _ => rfl
    | 18, _ => rfl
    | 19, _ => rfl
    | 20, _ => rfl
    | 21, _ => rfl
    | 22, _ => rfl
    | 23, _ => rfl
    | 24, _ => rfl
    | 25, _ => rfl
    | 26, _ => rfl
    | 27, _ => rfl
    | 28, _ => rfl
    | 29, _ => rfl
    | 30, _ => rfl
    | 31, _ => rfl
    | 32, _ => rfl
    | 33, _ => rfl
    | 34, _ => rfl
    | 35, _ => rfl
    | 36, _ => rfl
    | 37, _ => rfl
    | 38, _ => rfl
    | 39, _ => rfl
    | 40, _ => rfl
    | 41, _ => rfl
    | 42, _ => rfl
    | 43, _ => rfl
    | 44, _ => rfl
    | 45, _ => rfl
    | 46, _ => rfl
    | n + 47, hi => exact absurd hi (by omega))]
theorem wr_16 (i : Int32) : tk_aI (wd A f a xi xa lr wk mm o own ad lf la h0) 0 (A + 16) i = if i < 0 ∨ 80 ≤ i.toNatClampNeg then none else some (xa 10 i.toNatClampNeg) := by unfold tk_aI; rw [wd_at (j := 16) (by decide)]; rfl
theorem ww_16 (i x : Int32) : tk_sI (wd A f a xi xa lr wk mm o own ad lf la h0) 0 (A + 16) i x = if i < 0 ∨ 80 ≤ i.toNatClampNeg then none else some (wd A f a xi (va_up xa 10 (upd (xa 10) i.toNatClampNeg x)) lr wk mm o own ad lf la h0) := by
  unfold tk_sI
  rw [wd_at (j := 16) (by decide)]
  show (if 0 = 0 then (if i < 0 ∨ 80 ≤ i.toNatClampNeg then none else some (va_up (wd A f a xi xa lr wk mm o own ad lf la h0) (A + 16) _)) else none) = _
  rw [if_pos rfl, wd_up (j := 16) (by decide) (e := .inr (0, 80, .inl (upd (xa 10) i.toNatClampNeg x))) (f' := f) (a' := a) (xi' := xi) (xa' := va_up xa 10 (upd (xa 10) i.toNatClampNeg x)) (lr' := lr) (wk' := wk) (mm' := mm) (o' := o) (fun i9 hi => by
    match i9, hi with
    | 0, _ => rfl
    | 1, _ => rfl
    | 2, _ => rfl
    | 3, _ => rfl
    | 4, _ => rfl
    | 5, _ => rfl
    | 6, _ => rfl
    | 7, _ => rfl
    | 8, _ => rfl
    | 9, _ => rfl
    | 10, _ => rfl
    | 11, _ => rfl
    | 12, _ => rfl
    | 13, _ => rfl
    | 14, _ => rfl
    | 15, _ => rfl
    | 16, _ => rfl
    | 17, _ => rfl
    | 18, _ => rfl
    | 19, _ => rfl
    | 20, _ => rfl
    | 21, _ => rfl
    | 22, _ => rfl
    | 23, _ => rfl
    | 24, _ => rfl
    | 25, _ => rfl
    | 26, _ => rfl
    | 27, _ => rfl
    | 28, _ => rfl
    | 29, _ => rfl
    | 30, _ => rfl
    | 31, _ => rfl
    | 32, _ => rfl
    | 33, _ => rfl
    | 34, _ => rfl
    | 35, _ => rfl
    | 36, _ => rfl
    | 37, _ => rfl
    | 38, _ => rfl
    | 39, _ => rfl
    | 40, _ => rfl
    | 41, _ => rfl
    | 42, _ => rfl
    | 43, _ => rfl
    | 44, _ => rfl
    | 45, _ => rfl
    | 46, _ => rfl
    | n + 47, hi => exact absurd hi (by omega))]
theorem wr_17 (i : Int32) : tk_aI (wd A f a xi xa lr wk mm o own ad lf la h0) 0 (A + 17) i = if i < 0 ∨ 5 ≤ i.toNatClampNeg then none else some (xa 11 i.toNatClampNeg) := by unfold tk_aI; rw [wd_at (j := 17) (by decide)]; rfl
theorem ww_17 (i x : Int32) : tk_sI (wd A f a xi xa lr wk mm o own ad lf la h0) 0 (A + 17) i x = if i < 0 ∨ 5 ≤ i.toNatClampNeg then none else some (wd A f a xi (va_up xa 11 (upd (xa 11) i.toNatClampNeg x)) lr wk mm o own ad lf la h0) := by
  unfold tk_sI
  rw [wd_at (j := 17) (by decide)]
  show (if 0 = 0 then (if i < 0 ∨ 5 ≤ i.toNatClampNeg then none else some (va_up (wd A f a xi xa lr wk mm o own ad lf la h0) (A + 17) _)) else none) = _
  rw [if_pos rfl, wd_up (j := 17) (by decide) (e := .inr (0, 5, .inl (upd (xa 11) i.toNatClampNeg x))) (f' := f) (a' := a) (xi' := xi) (xa' := va_up xa 11 (upd (xa 11) i.toNatClampNeg x)) (lr' := lr) (wk' := wk) (mm' := mm) (o' := o) (fun i9 hi => by
    match i9, hi with
    | 0, _ => rfl
    | 1, _ => rfl
    | 2, _ => rfl
    | 3, _ => rfl
    | 4, _ => rfl
    | 5, _ => rfl
    | 6, _ => rfl
    | 7, _ => rfl
    | 8, _ => rfl
    | 9, _ => rfl
    | 10, _ => rfl
    | 11, _ => rfl
    | 12, _ => rfl
    | 13, _ => rfl
    | 14, _ => rfl
    | 15, _ => rfl
    | 16, _ => rfl
    | 17, _ => rfl
    | 18, _ => rfl
    | 19, _ => rfl
    | 20, _ => rfl
    | 21, _ => rfl
    | 22, _ => rfl
    | 23, _ => rfl
    | 24, _ => rfl
    | 25, _ => rfl
    | 26, _ => rfl
    | 27, _ => rfl
    | 28, _ => rfl
    | 29, _ => rfl
    | 30, _ => rfl
    | 31, _ => rfl
    | 32, _ => rfl
    | 33, _ => rfl
    | 34, _ => rfl
    | 35, _ => rfl
    | 36, _ => rfl
    | 37, _ => rfl
    | 38, _ => rfl
    | 39, _ => rfl
    | 40, _ => rfl
    | 41, _ => rfl
    | 42, _ => rfl
    | 43, _ => rfl
    | 44, _ => rfl
    | 45, _ => rfl
    | 46, _ => rfl
    | n + 47, hi => exact absurd hi (by omega))]
theorem wr_18 (i : Int32) : tk_aI (wd A f a xi xa lr wk mm o own ad lf la h0) 0 (A + 18) i = if i < 0 ∨ 42 ≤ i.toNatClampNeg then none else some (xa 12 i.toNatClampNeg) := by unfold tk_aI; rw [wd_at (j := 18) (by decide)]; rfl
theorem ww_18 (i x : Int32) : tk_sI (wd A f a xi xa lr wk mm o own ad lf la h0) 0 (A + 18) i x = if i < 0 ∨ 42 ≤ i.toNatClampNeg then none else some (wd A f a xi (va_up xa 12 (upd (xa 12) i.toNatClampNeg x)) lr wk mm o own ad lf la h0) := by
  unfold tk_sI
  rw [wd_at (j := 18) (by decide)]
  show (if 0 = 0 then (if i < 0 ∨ 42 ≤ i.toNatClampNeg then none else some (va_up (wd A f a xi xa lr wk mm o own ad lf la h0) (A + 18) _)) else none) = _
  rw [if_pos rfl, wd_up (j := 18) (by decide) (e := .inr (0, 42, .inl (upd (xa 12) i.toNatClampNeg x))) (f' := f) (a' := a) (xi' := xi) (xa' := va_up xa 12 (upd (xa 12) i.toNatClampNeg x)) (lr' := lr) (wk' := wk) (mm' := mm) (o' := o) (fun i9 hi => by
    match i9, hi with
    | 0, _ => rfl
    | 1, _ => rfl
    | 2, _ => rfl
    | 3, _ => rfl
    | 4, _ => rfl
    | 5, _ => rfl
    | 6, _ => rfl
    | 7, _ => rfl
    | 8, _ => rfl
    | 9, _ => rfl
    | 10, _ => rfl
    | 11, _ => rfl
    | 12, _ => rfl
    | 13, _ => rfl
    | 14, _ => rfl
    | 15, _ => rfl
    | 16, _ => rfl
    | 17, _ => rfl
    | 18, _ => rfl
    | 19, _ => rfl
    | 20, _ => rfl
    | 21, _ => rfl
    | 22, _ => rfl
    | 23, _ => rfl
    | 24, _ => rfl
    | 25, _ => rfl
    | 26, _ => rfl
    | 27, _ => rfl
    | 28, _ => rfl
    | 29, _ => rfl
    | 30, _ => rfl
    | 31, _ => rfl
    | 32, _ => rfl
    | 33, _ => rfl
    | 34, _ => rfl
    | 35, _ => rfl
    | 36, _ => rfl
    | 37, _ => rfl
    | 38, _ => rfl
    | 39, _ => rfl
    | 40, _ => rfl
    | 41, _ => rfl
    | 42, _ => rfl
    | 43, _ => rfl
    | 44, _ => rfl
    | 45, _ => rfl
    | 46, _ => rfl
    | n + 47, hi => exact absurd hi (by omega))]
theorem wr_20 (i : Int32) : tk_aI (wd A f a xi xa lr wk mm o own ad lf la h0) 0 (A + 20) i = if i < 0 ∨ 14 ≤ i.toNatClampNeg then none else some (a 0 i.toNatClampNeg) := by unfold tk_aI; rw [wd_at (j := 20) (by decide)]; rfl
theorem ww_20 (i x : Int32) : tk_sI (wd A f a xi xa lr wk mm o own ad lf la h0) 0 (A + 20) i x = if i < 0 ∨ 14 ≤ i.toNatClampNeg then none else some (wd A f (va_up a 0 (upd (a 0) i.toNatClampNeg x)) xi xa lr wk mm o own ad lf la h0) := by
  unfold tk_sI
  rw [wd_at (j := 20) (by decide)]
  show (if 0 = 0 then (if i < 0 ∨ 14 ≤ i.toNatClampNeg then none else some (va_up (wd A f a xi xa lr wk mm o own ad lf la h0) (A + 20) _)) else none) = _
  rw [if_pos rfl, wd_up (j := 20) (by decide) (e := .inr (0, 14, .inl (upd (a 0) i.toNatClampNeg x))) (f' := f) (a' := va_up a 0 (upd (a 0) i.toNatClampNeg x)) (xi' := xi) (xa' := xa) (lr' := lr) (wk' := wk) (mm' := mm) (o' := o) (fun i9 hi => by
    match i9, hi with
    | 0, _ => rfl
    | 1, _ => rfl
    | 2, _ => rfl
    | 3, _ => rfl
    | 4, _ => rfl
    | 5, _ => rfl
    | 6, _ => rfl
    | 7, _ => rfl
    | 8, _ => rfl
    | 9, _ => rfl
    | 10, _ => rfl
    | 11, _ => rfl
    | 12, _ => rfl
    | 13, _ => rfl
    | 14, _ => rfl
    | 15, _ => rfl
    | 16, _ => rfl
    | 17, _ => rfl
    | 18, _ => rfl
    | 19, _ => rfl
    | 20, _ => rfl
    | 21, _ => rfl
    | 22, _ => rfl
    | 23, _ => rfl
    | 24, _ => rfl
    | 25, _ => rfl
    | 26, _ => rfl
    | 27, _ => rfl
    | 28, _ => rfl
    | 29, _ => rfl
    | 30, _ => rfl
    | 31, _ => rfl
    | 32, _ => rfl
    | 33, _ => rfl
    | 34, _ => rfl
    | 35, _ => rfl
    | 36, _ => rfl
    | 37, _ => rfl
    | 38, _ => rfl
    | 39, _ => rfl
    | 40, _ => rfl
    | 41, _ => rfl
    | 42, _ => rfl
    | 43, _ => rfl
    | 44, _ => rfl
    | 45, _ => rfl
    | 46, _ => rfl
    | n + 47, hi => exact absurd hi (by omega))]
theorem wr_21 (i : Int32) : tk_aI (wd A f a xi xa lr wk mm o own ad lf la h0) 0 (A + 21) i = if i < 0 ∨ 112 ≤ i.toNatClampNeg then none else some (a 1 i.toNatClampNeg) := by unfold tk_aI; rw [wd_at (j := 21) (by decide)]; rfl
theorem ww_21 (i x : Int32) : tk_sI (wd A f a xi xa lr wk mm o own ad lf la h0) 0 (A + 21) i x = if i < 0 ∨ 112 ≤ i.toNatClampNeg then none else some (wd A f (va_up a 1 (upd (a 1) i.toNatClampNeg x)) xi xa lr wk mm o own ad lf la h0) := by
  unfold tk_sI
  rw [wd_at (j := 21) (by decide)]
  show (if 0 = 0 then (if i < 0 ∨ 112 ≤ i.toNatClampNeg then none else some (va_up (wd A f a xi xa lr wk mm o own ad lf la h0) (A + 21) _)) else none) = _
  rw [if_pos rfl, wd_up (j := 21) (by decide) (e := .inr (0, 112, .inl (upd (a 1) i.toNatClampNeg x))) (f' := f) (a' := va_up a 1 (upd (a 1) i.toNatClampNeg x)) (xi' := xi) (xa' := xa) (lr' := lr) (wk' := wk) (mm' := mm) (o' := o) (fun i9 hi => by
    match i9, hi with
    | 0, _ => rfl
    | 1, _ => rfl
    | 2, _ => rfl
    | 3, _ => rfl
    | 4, _ => rfl
    | 5, _ => rfl
    | 6, _ => rfl
    | 7, _ => rfl
    | 8, _ => rfl
    | 9, _ => rfl
    | 10, _ => rfl
    | 11, _ => rfl
    | 12, _ => rfl
    | 13, _ => rfl
    | 14, _ => rfl
    | 15, _ => rfl
    | 16, _ => rfl
    | 17, _ => rfl
    | 18, _ => rfl
    | 19, _ => rfl
    | 20, _ => rfl
    | 21, _ => rfl
    | 22, _ => rfl
    | 23, _ => rfl
    | 24, _ => rfl
    | 25, _ => rfl
    | 26, _ => rfl
    | 27, _ => rfl
    | 28, _ => rfl
    | 29, _ => rfl
    | 30, _ => rfl
    | 31, _ => rfl
    | 32, _ => rfl
    | 33, _ => rfl
    | 34, _ => rfl
    | 35, _ => rfl
    | 36, _ => rfl
    | 37, _ => rfl
    | 38, _ => rfl
    | 39, _ => rfl
    | 40, _ => rfl
    | 41, _ => rfl
    | 42, _ => rfl
    | 43, _ => rfl
    | 44, _ => rfl
    | 45, _ => rfl
    | 46, _ => rfl
    | n + 47, hi => exact absurd hi (by omega))]
theorem wr_22 (i : Int32) : tk_aI (wd A f a xi xa lr wk mm o own ad lf la h0) 0 (A + 22) i = if i < 0 ∨ 112 ≤ i.toNatClampNeg then none else some (a 2 i.toNatClampNeg) := by unfold tk_aI; rw [wd_at (j := 22) (by decide)]; rfl
theorem ww_22 (i x : Int32) : tk_sI (wd A f a xi xa lr wk mm o own ad lf la h0) 0 (A + 22) i x = if i < 0 ∨ 112 ≤ i.toNatClampNeg then none else some (wd A f (va_up a 2 (upd (a 2) i.toNatClampNeg x)) xi xa lr wk mm o own ad lf la h0) := by
  unfold tk_sI
  rw [wd_at (j := 22) (by decide)]
  show (if 0 = 0 then (if i < 0 ∨ 112 ≤ i.toNatClampNeg then none else some (va_up (wd A f a xi xa lr wk mm o own ad lf la h0) (A + 22) _)) else none) = _
  rw [if_pos rfl, wd_up (j := 22) (by decide) (e := .inr (0, 112, .inl (upd (a 2) i.toNatClampNeg x))) (f' := f) (a' := va_up a 2 (upd (a 2) i.toNatClampNeg x)) (xi' := xi) (xa' := xa) (lr' := lr) (wk' := wk) (mm' := mm) (o' := o) (fun i9 hi => by
    match i9, hi with
    | 0, _ => rfl
    | 1, _ => rfl
    | 2, _ => rfl
    | 3, _ => rfl
    | 4, _ => rfl
    | 5, _ => rfl
    | 6, _ => rfl
    | 7, _ => rfl
    | 8, _ => rfl
    | 9, _ => rfl
    | 10, _ => rfl
    | 11, _ => rfl
    | 12, _ => rfl
    | 13, _ => rfl
    | 14, _ => rfl
    | 15, _ => rfl
    | 16, _ => rfl
    | 17, _ => rfl
    | 18, _ => rfl
    | 19, _ => rfl
    | 20, _ => rfl
    | 21, _ => rfl
    | 22, _ => rfl
    | 23, _ => rfl
    | 24, _ => rfl
    | 25, _ => rfl
    | 26, _ => rfl
    | 27, _ => rfl
    | 28, _ => rfl
    | 29, _ => rfl
    | 30, _ => rfl
    | 31, _ => rfl
    | 32, _ => rfl
    | 33, _ => rfl
    | 34, _ => rfl
    | 35, _ => rfl
    | 36, _ => rfl
    | 37, _ => rfl
    | 38, _ => rfl
    | 39, _ => rfl
    | 40, _ => rfl
    | 41, _ => rfl
    | 42, _ => rfl
    | 43, _ => rfl
    | 44, _ => rfl
    | 45, _ => rfl
    | 46, _ => rfl
    | n + 47, hi => exact absurd hi (by omega))]
theorem wr_23 (i : Int32) : tk_aI (wd A f a xi xa lr wk mm o own ad lf la h0) 0 (A + 23) i = if i < 0 ∨ 112 ≤ i.toNatClampNeg then none else some (a 3 i.toNatClampNeg) := by unfold tk_aI; rw [wd_at (j := 23) (by decide)]; rfl
theorem ww_23 (i x : Int32) : tk_sI (wd A f a xi xa lr wk mm o own ad lf la h0) 0 (A + 23) i x = if i < 0 ∨ 112 ≤ i.toNatClampNeg then none else some (wd A f (va_up a 3 (upd (a 3) i.toNatClampNeg x)) xi xa lr wk mm o own ad lf la h0) := by
  unfold tk_sI
  rw [wd_at (j := 23) (by decide)]
  show (if 0 = 0 then (if i < 0 ∨ 112 ≤ i.toNatClampNeg then none else some (va_up (wd A f a xi xa lr wk mm o own ad lf la h0) (A + 23) _)) else none) = _
  rw [if_pos rfl, wd_up (j := 23) (by decide) (e := .inr (0, 112, .inl (upd (a 3) i.toNatClampNeg x))) (f' := f) (a' := va_up a 3 (upd (a 3) i.toNatClampNeg x)) (xi' := xi) (xa' := xa) (lr' := lr) (wk' := wk) (mm' := mm) (o' := o) (fun i9 hi => by
    match i9, hi with
    | 0, _ => rfl
    | 1, _ => rfl
    | 2, _ => rfl
    | 3, _ => rfl
    | 4, _ => rfl
    | 5, _ => rfl
    | 6, _ => rfl
    | 7, _ => rfl
    | 8, _ => rfl
    | 9, _ => rfl
    | 10, _ => rfl
    | 11, _ => rfl
    | 12, _ => rfl
    | 13, _ => rfl
    | 14, _ => rfl
    | 15, _ => rfl
    | 16, _ => rfl
    | 17, _ => rfl
    | 18, _ => rfl
    | 19, _ => rfl
    | 20, _ => rfl
    | 21, _ => rfl
    | 22, _ => rfl
    | 23, _ => rfl
    | 24, _ => rfl
    | 25, _ => rfl
    | 26, _ => rfl
    | 27, _ => rfl
    | 28, _ => rfl
    | 29, _ => rfl
    | 30, _ => rfl
    | 31, _ => rfl
    | 32, _ => rfl
    | 33, _ => rfl
    | 34, _ => rfl
    | 35, _ => rfl
    | 36, _ => rfl
    | 37, _ => rfl
    | 38, _ => rfl
    | 39, _ => rfl
    | 40, _ => rfl
    | 41, _ => rfl
    | 42, _ => rfl
    | 43, _ => rfl
    | 44, _ => rfl
    | 45, _ => rfl
    | 46, _ => rfl
    | n + 47, hi => exact absurd hi (by omega))]
theorem wr_24 (i : Int32) : tk_aI (wd A f a xi xa lr wk mm o own ad lf la h0) 0 (A + 24) i = if i < 0 ∨ 112 ≤ i.toNatClampNeg then none else some (a 4 i.toNatClampNeg) := by unfold tk_aI; rw [wd_at (j := 24) (by decide)]; rfl
theorem ww_24 (i x : Int32) : tk_sI (wd A f a xi xa lr wk mm o own ad lf la h0) 0 (A + 24) i x = if i < 0 ∨ 112 ≤ i.toNatClampNeg then none else some (wd A f (va_up a 4 (upd (a 4) i.toNatClampNeg x)) xi xa lr wk mm o own ad lf la h0) := by
  unfold tk_sI
  rw [wd_at (j := 24) (by decide)]
  show (if 0 = 0 then (if i < 0 ∨ 112 ≤ i.toNatClampNeg then none else some (va_up (wd A f a xi xa lr wk mm o own ad lf la h0) (A + 24) _)) else none) = _
  rw [if_pos rfl, wd_up (j := 24) (by decide) (e := .inr (0, 112, .inl (upd (a 4) i.toNatClampNeg x))) (f' := f) (a' := va_up a 4 (upd (a 4) i.toNatClampNeg x)) (xi' := xi) (xa' := xa) (lr' := lr) (wk' := wk) (mm' := mm) (o' := o) (fun i9 hi => by
    match i9, hi with
    | 0, _ => rfl
    | 1, _ => rfl
    | 2, _ => rfl
    | 3, _ => rfl
    | 4, _ => rfl
    | 5, _ => rfl
    | 6, _ => rfl
    | 7, _ => rfl
    | 8, _ => rfl
    | 9, _ => rfl
    | 10, _ => rfl
    | 11, _ => rfl
    | 12, _ => rfl
    | 13, _ => rfl
    | 14, _ => rfl
    | 15, _ => rfl
    | 16, _ => rfl
    | 17, _ => rfl
    | 18, _ => rfl
    | 19, _ => rfl
    | 20, _ => rfl
    | 21, _ => rfl
    | 22, _ => rfl
    | 23, _ => rfl
    | 24, _ => rfl
    | 25, _ => rfl
    | 26, _ => rfl
    | 27, _ => rfl
    | 28, _ => rfl
    | 29, _ => rfl
    | 30, _ => rfl
    | 31, _ => rfl
    | 32, _ => rfl
    | 33, _ => rfl
    | 34, _ => rfl
    | 35, _ => rfl
    | 36, _ => rfl
    | 37, _ => rfl
    | 38, _ => rfl
    | 39, _ => rfl
    | 40, _ => rfl
    | 41, _ => rfl
    | 42, _ => rfl
    | 43, _ => rfl
    | 44, _ => rfl
    | 45, _ => rfl
    | 46, _ => rfl
    | n + 47, hi => exact absurd hi (by omega))]
theorem wr_25 (i : Int32) : tk_aI (wd A f a xi xa lr wk mm o own ad lf la h0) 0 (A + 25) i = if i < 0 ∨ 112 ≤ i.toNatClampNeg then none else some (a 5 i.toNatClampNeg) := by unfold tk_aI; rw [wd_at (j := 25) (by decide)]; rfl
theorem ww_25 (i x : Int32) : tk_sI (wd A f a xi xa lr wk mm o own ad lf la h0) 0 (A + 25) i x = if i < 0 ∨ 112 ≤ i.toNatClampNeg then none else some (wd A f (va_up a 5 (upd (a 5) i.toNatClampNeg x)) xi xa lr wk mm o own ad lf la h0) := by
  unfold tk_sI
  rw [wd_at (j := 25) (by decide)]
  show (if 0 = 0 then (if i < 0 ∨ 112 ≤ i.toNatClampNeg then none else some (va_up (wd A f a xi xa lr wk mm o own ad lf la h0) (A + 25) _)) else none) = _
  rw [if_pos rfl, wd_up (j := 25) (by decide) (e := .inr (0, 112, .inl (upd (a 5) i.toNatClampNeg x))) (f' := f) (a' := va_up a 5 (upd (a 5) i.toNatClampNeg x)) (xi' := xi) (xa' := xa) (lr' := lr) (wk' := wk) (mm' := mm) (o' := o) (fun i9 hi => by
    match i9, hi with
    | 0, _ => rfl
    | 1, _ => rfl
    | 2, _ => rfl
    | 3, _ => rfl
    | 4, _ => rfl
    | 5, _ => rfl
    | 6, _ => rfl
    | 7, _ => rfl
    | 8, _ => rfl
    | 9, _ => rfl
    | 10, _ => rfl
    | 11, _ => rfl
    | 12, _ => rfl
    | 13, _ => rfl
    | 14, _ => rfl
    | 15, _ => rfl
    | 16, _ => rfl
    | 17, _ => rfl
    | 18, _ => rfl
    | 19, _ => rfl
    | 20, _ => rfl
    | 21, _ => rfl
    | 22, _ => rfl
    | 23, _ => rfl
    | 24, _ => rfl
    | 25, _ => rfl
    | 26, _ => rfl
    | 27, _ => rfl
    | 28, _ => rfl
    | 29, _ => rfl
    | 30, _ => rfl
    | 31, _ => rfl
    | 32, _ => rfl
    | 33, _ => rfl
    | 34, _ => rfl
    | 35, _ => rfl
    | 36, _ => rfl
    | 37, _ => rfl
    | 38, _ => rfl
    | 39, _ => rfl
    | 40, _ => rfl
    | 41, _ => rfl
    | 42, _ => rfl
    | 43, _ => rfl
    | 44, _ => rfl
    | 45, _ => rfl
    | 46, _ => rfl
    | n + 47, hi => exact absurd hi (by omega))]
theorem wr_26 (i : Int32) : tk_aI (wd A f a xi xa lr wk mm o own ad lf la h0) 0 (A + 26) i = if i < 0 ∨ 28 ≤ i.toNatClampNeg then none else some (a 6 i.toNatClampNeg) := by unfold tk_aI; rw [wd_at (j := 26) (by decide)]; rfl
theorem ww_26 (i x : Int32) : tk_sI (wd A f a xi xa lr wk mm o own ad lf la h0) 0 (A + 26) i x = if i < 0 ∨ 28 ≤ i.toNatClampNeg then none else some (wd A f (va_up a 6 (upd (a 6) i.toNatClampNeg x)) xi xa lr wk mm o own ad lf la h0) := by
  unfold tk_sI
  rw [wd_at (j := 26) (by decide)]
  show (if 0 = 0 then (if i < 0 ∨ 28 ≤ i.toNatClampNeg then none else some (va_up (wd A f a xi xa lr wk mm o own ad lf la h0) (A + 26) _)) else none) = _
  rw [if_pos rfl, wd_up (j := 26) (by decide) (e := .inr (0, 28, .inl (upd (a 6) i.toNatClampNeg x))) (f' := f) (a' := va_up a 6 (upd (a 6) i.toNatClampNeg x)) (xi' := xi) (xa' := xa) (lr' := lr) (wk' := wk) (mm' := mm) (o' := o) (fun i9 hi => by
    match i9, hi with
    | 0, _ => rfl
    | 1, _ => rfl
    | 2, _ => rfl
    | 3, _ => rfl
    | 4, _ => rfl
    | 5, _ => rfl
    | 6, _ => rfl
    | 7, _ => rfl
    | 8, _ => rfl
    | 9, _ => rfl
    | 10, _ => rfl
    | 11, _ => rfl
    | 12, _ => rfl
    | 13, _ => rfl
    | 14, _ => rfl
    | 15, _ => rfl
    | 16, _ => rfl
    | 17, _ => rfl
    | 18, _ => rfl
    | 19, _ => rfl
    | 20, _ => rfl
    | 21, _ => rfl
    | 22, _ => rfl
    | 23, _ => rfl
    | 24, _ => rfl
    | 25, _ => rfl
    | 26, _ => rfl
    | 27, _ => rfl
    | 28, _ => rfl
    | 29, _ => rfl
    | 30, _ => rfl
    | 31, _ => rfl
    | 32, _ => rfl
    | 33, _ => rfl
    | 34, _ => rfl
    | 35, _ => rfl
    | 36, _ => rfl
    | 37, _ => rfl
    | 38, _ => rfl
    | 39, _ => rfl
    | 40, _ => rfl
    | 41, _ => rfl
    | 42, _ => rfl
    | 43, _ => rfl
    | 44, _ => rfl
    | 45, _ => rfl
    | 46, _ => rfl
    | n + 47, hi => exact absurd hi (by omega))]
theorem wr_27 (i : Int32) : tk_aI (wd A f a xi xa lr wk mm o own ad lf la h0) 0 (A + 27) i = if i < 0 ∨ 14 ≤ i.toNatClampNeg then none else some (a 7 i.toNatClampNeg) := by unfold tk_aI; rw [wd_at (j := 27) (by decide)]; rfl
theorem ww_27 (i x : Int32) : tk_sI (wd A f a xi xa lr wk mm o own ad lf la h0) 0 (A + 27) i x = if i < 0 ∨ 14 ≤ i.toNatClampNeg then none else some (wd A f (va_up a 7 (upd (a 7) i.toNatClampNeg x)) xi xa lr wk mm o own ad lf la h0) := by
  unfold tk_sI
  rw [wd_at (j := 27) (by decide)]
  show (if 0 = 0 then (if i < 0 ∨ 14 ≤ i.toNatClampNeg then none else some (va_up (wd A f a xi xa lr wk mm o own ad lf la h0) (A + 27) _)) else none) = _
  rw [if_pos rfl, wd_up (j := 27) (by decide) (e := .inr (0, 14, .inl (upd (a 7) i.toNatClampNeg x))) (f' := f) (a' := va_up a 7 (upd (a 7) i.toNatClampNeg x)) (xi' := xi) (xa' := xa) (lr' := lr) (wk' := wk) (mm' := mm) (o' := o) (fun i9 hi => by
    match i9, hi with
    | 0, _ => rfl
    | 1, _ => rfl
    | 2, _ => rfl
    | 3, _ => rfl
    | 4, _ => rfl
    | 5, _ => rfl
    | 6, _ => rfl
    | 7, _ => rfl
    | 8, _ => rfl
    | 9, _ => rfl
    | 10, _ => rfl
    | 11, _ => rfl
    | 12, _ => rfl
    | 13, _ => rfl
    | 14, _ => rfl
    | 15, _ => rfl
    | 16, _ => rfl
    | 17, _ => rfl
    | 18, _ => rfl
    | 19, _ => rfl
    | 20, _ => rfl
    | 21, _ => rfl
    | 22, _ => rfl
    | 23, _ => rfl
    | 24, _ => rfl
    | 25, _ => rfl
    | 26, _ => rfl
    | 27, _ => rfl
    | 28, _ => rfl
    | 29, _ => rfl
    | 30, _ => rfl
    | 31, _ => rfl
    | 32, _ => rfl
    | 33, _ => rfl
    | 34, _ => rfl
    | 35, _ => rfl
    | 36, _ => rfl
    | 37, _ => rfl
    | 38, _ => rfl
    | 39, _ => rfl
    | 40, _ => rfl
    | 41, _ => rfl
    | 42, _ => rfl
    | 43, _ => rfl
    | 44, _ => rfl
    | 45, _ => rfl
    | 46, _ => rfl
    | n + 47, hi => exact absurd hi (by omega))]
theorem wr_28 (i : Int32) : tk_aI (wd A f a xi xa lr wk mm o own ad lf la h0) 0 (A + 28) i = if i < 0 ∨ 14 ≤ i.toNatClampNeg then none else some (a 8 i.toNatClampNeg) := by unfold tk_aI; rw [wd_at (j := 28) (by decide)]; rfl
theorem ww_28 (i x : Int32) : tk_sI (wd A f a xi xa lr wk mm o own ad lf la h0) 0 (A + 28) i x = if i < 0 ∨ 14 ≤ i.toNatClampNeg then none else some (wd A f (va_up a 8 (upd (a 8) i.toNatClampNeg x)) xi xa lr wk mm o own ad lf la h0) := by
  unfold tk_sI
  rw [wd_at (j := 28) (by decide)]
  show (if 0 = 0 then (if i < 0 ∨ 14 ≤ i.toNatClampNeg then none else some (va_up (wd A f a xi xa lr wk mm o own ad lf la h0) (A + 28) _)) else none) = _
  rw [if_pos rfl, wd_up (j := 28) (by decide) (e := .inr (0, 14, .inl (upd (a 8) i.toNatClampNeg x))) (f' := f) (a' := va_up a 8 (upd (a 8) i.toNatClampNeg x)) (xi' := xi) (xa' := xa) (lr' := lr) (wk' := wk) (mm' := mm) (o' := o) (fun i9 hi => by
    match i9, hi with
    | 0, _ => rfl
    | 1, _ => rfl
    | 2, _ => rfl
    | 3, _ => rfl
    | 4, _ => rfl
    | 5, _ => rfl
    | 6, _ => rfl
    | 7, _ => rfl
    | 8, _ => rfl
    | 9, _ => rfl
    | 10, _ => rfl
    | 11, _ => rfl
    | 12, _ => rfl
    | 13, _ => rfl
    | 14, _ => rfl
    | 15, _ => rfl
    | 16, _ => rfl
    | 17, _ => rfl
    | 18, _ => rfl
    | 19, _ => rfl
    | 20, _ => rfl
    | 21, _ => rfl
    | 22, _ => rfl
    | 23, _ => rfl
    | 24, _ => rfl
    | 25, _ => rfl
    | 26, _ => rfl
    | 27, _ => rfl
    | 28, _ => rfl
    | 29, _ => rfl
    | 30, _ => rfl
    | 31, _ => rfl
    | 32, _ => rfl
    | 33, _ => rfl
    | 34, _ => rfl
    | 35, _ => rfl
    | 36, _ => rfl
    | 37, _ => rfl
    | 38, _ => rfl
    | 39, _ => rfl
    | 40, _ => rfl
    | 41, _ => rfl
    | 42, _ => rfl
    | 43, _ => rfl
    | 44, _ => rfl
    | 45, _ => rfl
    | 46, _ => rfl
    | n + 47, hi => exact absurd hi (by omega))]
theorem wr_29 (i : Int32) : tk_aI (wd A f a xi xa lr wk mm o own ad lf la h0) 0 (A + 29) i = if i < 0 ∨ 14 ≤ i.toNatClampNeg then none else some (a 9 i.toNatClampNeg) := by unfold tk_aI; rw [wd_at (j := 29) (by decide)]; rfl
theorem ww_29 (i x : Int32) : tk_sI (wd A f a xi xa lr wk mm o own ad lf la h0) 0 (A + 29) i x = if i < 0 ∨ 14 ≤ i.toNatClampNeg then none else some (wd A f (va_up a 9 (upd (a 9) i.toNatClampNeg x)) xi xa lr wk mm o own ad lf la h0) := by
  unfold tk_sI
  rw [wd_at (j := 29) (by decide)]
  show (if 0 = 0 then (if i < 0 ∨ 14 ≤ i.toNatClampNeg then none else some (va_up (wd A f a xi xa lr wk mm o own ad lf la h0) (A + 29) _)) else none) = _
  rw [if_pos rfl, wd_up (j := 29) (by decide) (e := .inr (0, 14, .inl (upd (a 9) i.toNatClampNeg x))) (f' := f) (a' := va_up a 9 (upd (a 9) i.toNatClampNeg x)) (xi' := xi) (xa' := xa) (lr' := lr) (wk' := wk) (mm' := mm) (o' := o) (fun i9 hi => by
    match i9, hi with
    | 0, _ => rfl
    | 1, _ => rfl
    | 2, _ => rfl
    | 3, _ => rfl
    | 4, _ => rfl
    | 5, _ => rfl
    | 6, _ => rfl
    | 7, _ => rfl
    | 8, _ => rfl
    | 9, _ => rfl
    | 10, _ => rfl
    | 11, _ => rfl
    | 12, _ => rfl
    | 13, _ => rfl
    | 14, _ => rfl
    | 15, _ => rfl
    | 16, _ => rfl
    | 17, _ => rfl
    | 18, _ => rfl
    | 19, _ => rfl
    | 20, _ => rfl
    | 21, _ => rfl
    | 22, _ => rfl
    | 23, _ => rfl
    | 24, _ => rfl
    | 25, _ => rfl
    | 26, _ => rfl
    | 27, _ => rfl
    | 28, _ => rfl
    | 29, _ => rfl
    | 30, _ => rfl
    | 31, _ => rfl
    | 32, _ => rfl
    | 33, _ => rfl
    | 34, _ => rfl
    | 35, _ => rfl
    | 36, _ => rfl
    | 37, _ => rfl
    | 38, _ => rfl
    | 39, _ => rfl
    | 40, _ => rfl
    | 41, _ => rfl
    | 42, _ => rfl
    | 43, _ => rfl
    | 44, _ => rfl
    | 45, _ => rfl
    | 46, _ => rfl
    | n + 47, hi => exact absurd hi (by omega))]
theorem wr_30 (i : Int32) : tk_aI (wd A f a xi xa lr wk mm o own ad lf la h0) 0 (A + 30) i = if i < 0 ∨ 21 ≤ i.toNatClampNeg then none else some (a 10 i.toNatClampNeg) := by unfold tk_aI; rw [wd_at (j := 30) (by decide)]; rfl
theorem ww_30 (i x : Int32) : tk_sI (wd A f a xi xa lr wk mm o own ad lf la h0) 0 (A + 30) i x = if i < 0 ∨ 21 ≤ i.toNatClampNeg then none else some (wd A f (va_up a 10 (upd (a 10) i.toNatClampNeg x)) xi xa lr wk mm o own ad lf la h0) := by
  unfold tk_sI
  rw [wd_at (j := 30) (by decide)]
  show (if 0 = 0 then (if i < 0 ∨ 21 ≤ i.toNatClampNeg then none else some (va_up (wd A f a xi xa lr wk mm o own ad lf la h0) (A + 30) _)) else none) = _
  rw [if_pos rfl, wd_up (j := 30) (by decide) (e := .inr (0, 21, .inl (upd (a 10) i.toNatClampNeg x))) (f' := f) (a' := va_up a 10 (upd (a 10) i.toNatClampNeg x)) (xi' := xi) (xa' := xa) (lr' := lr) (wk' := wk) (mm' := mm) (o' := o) (fun i9 hi => by
    match i9, hi with
    | 0, _ => rfl
    | 1, _ => rfl
    | 2, _ => rfl
    | 3, _ => rfl
    | 4, _ => rfl
    | 5, _ => rfl
    | 6, _ => rfl
    | 7, _ => rfl
    | 8, _ => rfl
    | 9, _ => rfl
    | 10, _ => rfl
    | 11, _ => rfl
    | 12, _ => rfl
    | 13, _ => rfl
    | 14, _ => rfl
    | 15, _ => rfl
    | 16, _ => rfl
    | 17, _ => rfl
    | 18, _ => rfl
    | 19, _ => rfl
    | 20, _ => rfl
    | 21, _ => rfl
    | 22, _ => rfl
    | 23, _ => rfl
    | 24, _ => rfl
    | 25, _ => rfl
    | 26, _ => rfl
    | 27, _ => rfl
    | 28, _ => rfl
    | 29, _ => rfl
    | 30, _ => rfl
    | 31, _ => rfl
    | 32, _ => rfl
    | 33, _ => rfl
    | 34, _ => rfl
    | 35, _ => rfl
    | 36, _ => rfl
    | 37, _ => rfl
    | 38, _ => rfl
    | 39, _ => rfl
    | 40, _ => rfl
    | 41, _ => rfl
    | 42, _ => rfl
    | 43, _ => rfl
    | 44, _ => rfl
    | 45, _ => rfl
    | 46, _ => rfl
    | n + 47, hi => exact absurd hi (by omega))]
theorem wr_31 (i : Int32) : tk_aI (wd A f a xi xa lr wk mm o own ad lf la h0) 0 (A + 31) i = if i < 0 ∨ 21 ≤ i.toNatClampNeg then none else some (a 11 i.toNatClampNeg) := by unfold tk_aI; rw [wd_at (j := 31) (by decide)]; rfl
theorem ww_31 (i x : Int32) : tk_sI (wd A f a xi xa lr wk mm o own ad lf la h0) 0 (A + 31) i x = if i < 0 ∨ 21 ≤ i.toNatClampNeg then none else some (wd A f (va_up a 11 (upd (a 11) i.toNatClampNeg x)) xi xa lr wk mm o own ad lf la h0) := by
  unfold tk_sI
  rw [wd_at (j := 31) (by decide)]
  show (if 0 = 0 then (if i < 0 ∨ 21 ≤ i.toNatClampNeg then none else some (va_up (wd A f a xi xa lr wk mm o own ad lf la h0) (A + 31) _)) else none) = _
  rw [if_pos rfl, wd_up (j := 31) (by decide) (e := .inr (0, 21, .inl (upd (a 11) i.toNatClampNeg x))) (f' := f) (a' := va_up a 11 (upd (a 11) i.toNatClampNeg x)) (xi' := xi) (xa' := xa) (lr' := lr) (wk' := wk) (mm' := mm) (o' := o) (fun i9 hi => by
    match i9, hi with
    | 0, _ => rfl
    | 1, _ => rfl
    | 2, _ => rfl
    | 3, _ => rfl
    | 4, _ => rfl
    | 5, _ => rfl
    | 6, _ => rfl
    | 7, _ => rfl
    | 8, _ => rfl
    | 9, _ => rfl
    | 10, _ => rfl
    | 11, _ => rfl
    | 12, _ => rfl
    | 13, _ => rfl
    | 14, _ => rfl
    | 15, _ => rfl
    | 16, _ => rfl
    | 17, _ => rfl
    | 18, _ => rfl
    | 19, _ => rfl
    | 20, _ => rfl
    | 21, _ => rfl
    | 22, _ => rfl
    | 23, _ => rfl
    | 24, _ => rfl
    | 25, _ => rfl
    | 26, _ => rfl
    | 27, _ => rfl
    | 28, _ => rfl
    | 29, _ => rfl
    | 30, _ => rfl
    | 31, _ => rfl
    | 32, _ => rfl
    | 33, _ => rfl
    | 34, _ => rfl
    | 35, _ => rfl
    | 36, _ => rfl
    | 37, _ => rfl
    | 38, _ => rfl
    | 39, _ => rfl
    | 40, _ => rfl
    | 41, _ => rfl
    | 42, _ => rfl
    | 43, _ => rfl
    | 44, _ => rfl
    | 45, _ => rfl
    | 46, _ => rfl
    | n + 47, hi => exact absurd hi (by omega))]
theorem wr_32 (i : Int32) : tk_aI (wd A f a xi xa lr wk mm o own ad lf la h0) 1 (A + 32) i = if i < 0 ∨ 14 ≤ i.toNatClampNeg then none else some (a 12 i.toNatClampNeg) := by unfold tk_aI; rw [wd_at (j := 32) (by decide)]; rfl
theorem ww_32 (i x : Int32) : tk_sI (wd A f a xi xa lr wk mm o own ad lf la h0) 1 (A + 32) i x = if i < 0 ∨ 14 ≤ i.toNatClampNeg then none else some (wd A f (va_up a 12 (upd (a 12) i.toNatClampNeg x)) xi xa lr wk mm o own ad lf la h0) := by
  unfold tk_sI
  rw [wd_at (j := 32) (by decide)]
  show (if 1 = 1 then (if i < 0 ∨ 14 ≤ i.toNatClampNeg then none else some (va_up (wd A f a xi xa lr wk mm o own ad lf la h0) (A + 32) _)) else none) = _
  rw [if_pos rfl, wd_up (j := 32) (by decide) (e := .inr (1, 14, .inl (upd (a 12) i.toNatClampNeg x))) (f' := f) (a' := va_up a 12 (upd (a 12) i.toNatClampNeg x)) (xi' := xi) (xa' := xa) (lr' := lr) (wk' := wk) (mm' := mm) (o' := o) (fun i9 hi => by
    match i9, hi with
    | 0, _ => rfl
    | 1, _ => rfl
    | 2, _ => rfl
    | 3, _ => rfl
    | 4, _ => rfl
    | 5, _ => rfl
    | 6, _ => rfl
    | 7, _ => rfl
    | 8, _ => rfl
    | 9, _ => rfl
    | 10, _ => rfl
    | 11, _ => rfl
    | 12, _ => rfl
    | 13, _ => rfl
    | 14, _ => rfl
    | 15, _ => rfl
    | 16, _ => rfl
    | 17, _ => rfl
    | 18, _ => rfl
    | 19, _ => rfl
    | 20, _ => rfl
    | 21, _ => rfl
    | 22, _ => rfl
    | 23, _ => rfl
    | 24, _ => rfl
    | 25, _ => rfl
    | 26, _ => rfl
    | 27, _ => rfl
    | 28, _ => rfl
    | 29, _ => rfl
    | 30, _ => rfl
    | 31, _ => rfl
    | 32, _ => rfl
    | 33, _ => rfl
    | 34, _ => rfl
    | 35, _ => rfl
    | 36, _ => rfl
    | 37, _ => rfl
    | 38, _ => rfl
    | 39, _ => rfl
    | 40, _ => rfl
    | 41, _ => rfl
    | 42, _ => rfl
    | 43, _ => rfl
    | 44, _ => rfl
    | 45, _ => rfl
    | 46, _ => rfl
    | n + 47, hi => exact absurd hi (by omega))]
theorem wr_33 (i : Int32) : tk_aI (wd A f a xi xa lr wk mm o own ad lf la h0) 0 (A + 33) i = if i < 0 ∨ 14 ≤ i.toNatClampNeg then none else some (a 13 i.toNatClampNeg) := by unfold tk_aI; rw [wd_at (j := 33) (by decide)]; rfl
theorem ww_33 (i x : Int32) : tk_sI (wd A f a xi xa lr wk mm o own ad lf la h0) 0 (A + 33) i x = if i < 0 ∨ 14 ≤ i.toNatClampNeg then none else some (wd A f (va_up a 13 (upd (a 13) i.toNatClampNeg x)) xi xa lr wk mm o own ad lf la h0) := by
  unfold tk_sI
  rw [wd_at (j := 33) (by decide)]
  show (if 0 = 0 then (if i < 0 ∨ 14 ≤ i.toNatClampNeg then none else some (va_up (wd A f a xi xa lr wk mm o own ad lf la h0) (A + 33) _)) else none) = _
  rw [if_pos rfl, wd_up (j := 33) (by decide) (e := .inr (0, 14, .inl (upd (a 13) i.toNatClampNeg x))) (f' := f) (a' := va_up a 13 (upd (a 13) i.toNatClampNeg x)) (xi' := xi) (xa' := xa) (lr' := lr) (wk' := wk) (mm' := mm) (o' := o) (fun i9 hi => by
    match i9, hi with
    | 0, _ => rfl
    | 1, _ => rfl
    | 2, _ => rfl
    | 3, _ => rfl
    | 4, _ => rfl
    | 5, _ => rfl
    | 6, _ => rfl
    | 7, _ => rfl
    | 8, _ => rfl
    | 9, _ => rfl
    | 10, _ => rfl
    | 11, _ => rfl
    | 12, _ => rfl
    | 13, _ => rfl
    | 14, _ => rfl
    | 15, _ => rfl
    | 16, _ => rfl
    | 17, _ => rfl
    | 18, _ => rfl
    | 19, _ => rfl
    | 20, _ => rfl
    | 21, _ => rfl
    | 22, _ => rfl
    | 23, _ => rfl
    | 24, _ => rfl
    | 25, _ => rfl
    | 26, _ => rfl
    | 27, _ => rfl
    | 28, _ => rfl
    | 29, _ => rfl
    | 30, _ => rfl
    | 31, _ => rfl
    | 32, _ => rfl
    | 33, _ => rfl
    | 34, _ => rfl
    | 35, _ => rfl
    | 36, _ => rfl
    | 37, _ => rfl
    | 38, _ => rfl
    | 39, _ => rfl
    | 40, _ => rfl
    | 41, _ => rfl
    | 42, _ => rfl
    | 43, _ => rfl
    | 44, _ => rfl
    | 45, _ => rfl
    | 46, _ => rfl
    | n + 47, hi => exact absurd hi (by omega))]
theorem wr_34 (i : Int32) : tk_aI (wd A f a xi xa lr wk mm o own ad lf la h0) 0 (A + 34) i = if i < 0 ∨ 560 ≤ i.toNatClampNeg then none else some (a 14 i.toNatClampNeg) := by unfold tk_aI; rw [wd_at (j := 34) (by decide)]; rfl
theorem ww_34 (i x : Int32) : tk_sI (wd A f a xi xa lr wk mm o own ad lf la h0) 0 (A + 34) i x = if i < 0 ∨ 560 ≤ i.toNatClampNeg then none else some (wd A f (va_up a 14 (upd (a 14) i.toNatClampNeg x)) xi xa lr wk mm o own ad lf la h0) := by
  unfold tk_sI
  rw [wd_at (j := 34) (by decide)]
  show (if 0 = 0 then (if i < 0 ∨ 560 ≤ i.toNatClampNeg then none else some (va_up (wd A f a xi xa lr wk mm o own ad lf la h0) (A + 34) _)) else none) = _
  rw [if_pos rfl, wd_up (j := 34) (by decide) (e := .inr (0, 560, .inl (upd (a 14) i.toNatClampNeg x))) (f' := f) (a' := va_up a 14 (upd (a 14) i.toNatClampNeg x)) (xi' := xi) (xa' := xa) (lr' := lr) (wk' := wk) (mm' := mm) (o' := o) (fun i9 hi => by
    match i9, hi with
    | 0, _ => rfl
    | 1, _ => rfl
    | 2, _ => rfl
    | 3, _ => rfl
    | 4, _ => rfl
    | 5, _ => rfl
    | 6, _ => rfl
    | 7, _ => rfl
    | 8, _ => rfl
    | 9, _ => rfl
    | 10, _ => rfl
    | 11, _ => rfl
    | 12, _ => rfl
    | 13, _ => rfl
    | 14, _ => rfl
    | 15, _ => rfl
    | 16, _ => rfl
    | 17, _ => rfl
    | 18, _ => rfl
    | 19, _ => rfl
    | 20, _ => rfl
    | 21, _ => rfl
    | 22, _ => rfl
    | 23, _ => rfl
    | 24, _ => rfl
    | 25, _ => rfl
    | 26, _ => rfl
    | 27, _ => rfl
    | 28, _ => rfl
    | 29, _ => rfl
    | 30, _ => rfl
    | 31, _ => rfl
    | 32, _ => rfl
    | 33, _ => rfl
    | 34, _ => rfl
    | 35, _ => rfl
    | 36, _ => rfl
    | 37, _ => rfl
    | 38, _ => rfl
    | 39, _ => rfl
    | 40, _ => rfl
    | 41, _ => rfl
    | 42, _ => rfl
    | 43, _ => rfl
    | 44, _ => rfl
    | 45, _ => rfl
    | 46, _ => rfl
    | n + 47, hi => exact absurd hi (by omega))]
theorem wr_35 (i : Int32) : tk_aI (wd A f a xi xa lr wk mm o own ad lf la h0) 0 (A + 35) i = if i < 0 ∨ 560 ≤ i.toNatClampNeg then none else some (a 15 i.toNatClampNeg) := by unfold tk_aI; rw [wd_at (j := 35) (by decide)]; rfl
theorem ww_35 (i x : Int32) : tk_sI (wd A f a xi xa lr wk mm o own ad lf la h0) 0 (A + 35) i x = if i < 0 ∨ 560 ≤ i.toNatClampNeg then none else some (wd A f (va_up a 15 (upd (a 15) i.toNatClampNeg x)) xi xa lr wk mm o own ad lf la h0) := by
  unfold tk_sI
  rw [wd_at (j := 35) (by decide)]
  show (if 0 = 0 then (if i < 0 ∨ 560 ≤ i.toNatClampNeg then none else some (va_up (wd A f a xi xa lr wk mm o own ad lf la h0) (A + 35) _)) else none) = _
  rw [if_pos rfl, wd_up (j := 35) (by decide) (e := .inr (0, 560, .inl (upd (a 15) i.toNatClampNeg x))) (f' := f) (a' := va_up a 15 (upd (a 15) i.toNatClampNeg x)) (xi' := xi) (xa' := xa) (lr' := lr) (wk' := wk) (mm' := mm) (o' := o) (fun i9 hi => by
    match i9, hi with
    | 0, _ => rfl
    | 1, _ => rfl
    | 2, _ => rfl
    | 3, _ => rfl
    | 4, _ => rfl
    | 5, _ => rfl
    | 6, _ => rfl
    | 7, _ => rfl
    | 8, _ => rfl
    | 9, _ => rfl
    | 10, _ => rfl
    | 11, _ => rfl
    | 12, _ => rfl
    | 13, _ => rfl
    | 14, _ => rfl
    | 15, _ => rfl
    | 16, _ => rfl
    | 17, _ => rfl
    | 18, _ => rfl
    | 19, _ => rfl
    | 20, _ => rfl
    | 21, _ => rfl
    | 22, _ => rfl
    | 23, _ => rfl
    | 24, _ => rfl
    | 25, _ => rfl
    | 26, _ => rfl
    | 27, _ => rfl
    | 28, _ => rfl
    | 29, _ => rfl
    | 30, _ => rfl
    | 31, _ => rfl
    | 32, _ => rfl
    | 33, _ => rfl
    | 34, _ => rfl
    | 35, _ => rfl
    | 36, _ => rfl
    | 37, _ => rfl
    | 38, _ => rfl
    | 39, _ => rfl
    | 40, _ => rfl
    | 41, _ => rfl
    | 42, _ => rfl
    | 43, _ => rfl
    | 44, _ => rfl
    | 45, _ => rfl
    | 46, _ => rfl
    | n + 47, hi => exact absurd hi (by omega))]
theorem wr_36 (i : Int32) : tk_aI (wd A f a xi xa lr wk mm o own ad lf la h0) 0 (A + 36) i = if i < 0 ∨ 80 ≤ i.toNatClampNeg then none else some (a 16 i.toNatClampNeg) := by unfold tk_aI; rw [wd_at (j := 36) (by decide)]; rfl
theorem ww_36 (i x : Int32) : tk_sI (wd A f a xi xa lr wk mm o own ad lf la h0) 0 (A + 36) i x = if i < 0 ∨ 80 ≤ i.toNatClampNeg then none else some (wd A f (va_up a 16 (upd (a 16) i.toNatClampNeg x)) xi xa lr wk mm o own ad lf la h0) := by
  unfold tk_sI
  rw [wd_at (j := 36) (by decide)]
  show (if 0 = 0 then (if i < 0 ∨ 80 ≤ i.toNatClampNeg then none else some (va_up (wd A f a xi xa lr wk mm o own ad lf la h0) (A + 36) _)) else none) = _
  rw [if_pos rfl, wd_up (j := 36) (by decide) (e := .inr (0, 80, .inl (upd (a 16) i.toNatClampNeg x))) (f' := f) (a' := va_up a 16 (upd (a 16) i.toNatClampNeg x)) (xi' := xi) (xa' := xa) (lr' := lr) (wk' := wk) (mm' := mm) (o' := o) (fun i9 hi => by
    match i9, hi with
    | 0, _ => rfl
    | 1, _ => rfl
    | 2, _ => rfl
    | 3, _ => rfl
    | 4, _ => rfl
    | 5, _ => rfl
    | 6, _ => rfl
    | 7, _ => rfl
    | 8, _ => rfl
    | 9, _ => rfl
    | 10, _ => rfl
    | 11, _ => rfl
    | 12, _ => rfl
    | 13, _ => rfl
    | 14, _ => rfl
    | 15, _ => rfl
    | 16, _ => rfl
    | 17, _ => rfl
    | 18, _ => rfl
    | 19, _ => rfl
    | 20, _ => rfl
    | 21, _ => rfl
    | 22, _ => rfl
    | 23, _ => rfl
    | 24, _ => rfl
    | 25, _ => rfl
    | 26, _ => rfl
    | 27, _ => rfl
    | 28, _ => rfl
    | 29, _ => rfl
    | 30, _ => rfl
    | 31, _ => rfl
    | 32, _ => rfl
    | 33, _ => rfl
    | 34, _ => rfl
    | 35, _ => rfl
    | 36, _ => rfl
    | 37, _ => rfl
    | 38, _ => rfl
    | 39, _ => rfl
    | 40, _ => rfl
    | 41, _ => rfl
    | 42, _ => rfl
    | 43, _ => rfl
    | 44, _ => rfl
    | 45, _ => rfl
    | 46, _ => rfl
    | n + 47, hi => exact absurd hi (by omega))]
theorem wr_37 (i : Int32) : tk_aI (wd A f a xi xa lr wk mm o own ad lf la h0) 0 (A + 37) i = if i < 0 ∨ 80 ≤ i.toNatClampNeg then none else some (a 17 i.toNatClampNeg) := by unfold tk_aI; rw [wd_at (j := 37) (by decide)]; rfl
theorem ww_37 (i x : Int32) : tk_sI (wd A f a xi xa lr wk mm o own ad lf la h0) 0 (A + 37) i x = if i < 0 ∨ 80 ≤ i.toNatClampNeg then none else some (wd A f (va_up a 17 (upd (a 17) i.toNatClampNeg x)) xi xa lr wk mm o own ad lf la h0) := by
  unfold tk_sI
  rw [wd_at (j := 37) (by decide)]
  show (if 0 = 0 then (if i < 0 ∨ 80 ≤ i.toNatClampNeg then none else some (va_up (wd A f a xi xa lr wk mm o own ad lf la h0) (A + 37) _)) else none) = _
  rw [if_pos rfl, wd_up (j := 37) (by decide) (e := .inr (0, 80, .inl (upd (a 17) i.toNatClampNeg x))) (f' := f) (a' := va_up a 17 (upd (a 17) i.toNatClampNeg x)) (xi' := xi) (xa' := xa) (lr' := lr) (wk' := wk) (mm' := mm) (o' := o) (fun i9 hi => by
    match i9, hi with
    | 0, _ => rfl
    | 1, _ => rfl
    | 2, _ => rfl
    | 3, _ => rfl
    | 4, _ => rfl
    | 5, _ => rfl
    | 6, _ => rfl
    | 7, _ => rfl
    | 8, _ => rfl
    | 9, _ => rfl
    | 10, _ => rfl
    | 11, _ => rfl
    | 12, _ => rfl
    | 13, _ => rfl
    | 14, _ => rfl
    | 15, _ => rfl
    | 16, _ => rfl
    | 17, _ => rfl
    | 18, _ => rfl
    | 19, _ => rfl
    | 20, _ => rfl
    | 21, _ => rfl
    | 22, _ => rfl
    | 23, _ => rfl
    | 24, _ => rfl
    | 25, _ => rfl
    | 26, _ => rfl
    | 27, _ => rfl
    | 28, _ => rfl
    | 29, _ => rfl
    | 30, _ => rfl
    | 31, _ => rfl
    | 32, _ => rfl
    | 33, _ => rfl
    | 34, _ => rfl
    | 35, _ => rfl
    | 36, _ => rfl
    | 37, _ => rfl
    | 38, _ => rfl
    | 39, _ => rfl
    | 40, _ => rfl
    | 41, _ => rfl
    | 42, _ => rfl
    | 43, _ => rfl
    | 44, _ => rfl
    | 45, _ => rfl
    | 46, _ => rfl
    | n + 47, hi => exact absurd hi (by omega))]
theorem wr_38 (i : Int32) : tk_aI (wd A f a xi xa lr wk mm o own ad lf la h0) 0 (A + 38) i = if i < 0 ∨ 3 ≤ i.toNatClampNeg then none else some (a 18 i.toNatClampNeg) := by unfold tk_aI; rw [wd_at (j := 38) (by decide)]; rfl
theorem ww_38 (i x : Int32) : tk_sI (wd A f a xi xa lr wk mm o own ad lf la h0) 0 (A + 38) i x = if i < 0 ∨ 3 ≤ i.toNatClampNeg then none else some (wd A f (va_up a 18 (upd (a 18) i.toNatClampNeg x)) xi xa lr wk mm o own ad lf la h0) := by
  unfold tk_sI
  rw [wd_at (j := 38) (by decide)]
  show (if 0 = 0 then (if i < 0 ∨ 3 ≤ i.toNatClampNeg then none else some (va_up (wd A f a xi xa lr wk mm o own ad lf la h0) (A + 38) _)) else none) = _
  rw [if_pos rfl, wd_up (j := 38) (by decide) (e := .inr (0, 3, .inl (upd (a 18) i.toNatClampNeg x))) (f' := f) (a' := va_up a 18 (upd (a 18) i.toNatClampNeg x)) (xi' := xi) (xa' := xa) (lr' := lr) (wk' := wk) (mm' := mm) (o' := o) (fun i9 hi => by
    match i9, hi with
    | 0, _ => rfl
    | 1, _ => rfl
    | 2, _ => rfl
    | 3, _ => rfl
    | 4, _ => rfl
    | 5, _ => rfl
    | 6, _ => rfl
    | 7, _ => rfl
    | 8, _ => rfl
    | 9, _ => rfl
    | 10, _ => rfl
    | 11, _ => rfl
    | 12, _ => rfl
    | 13, _ => rfl
    | 14, _ => rfl
    | 15, _ => rfl
    | 16, _ => rfl
    | 17, _ => rfl
    | 18, _ => rfl
    | 19, _ => rfl
    | 20, _ => rfl
    | 21, _ => rfl
    | 22, _ => rfl
    | 23, _ => rfl
    | 24, _ => rfl
    | 25, _ => rfl
    | 26, _ => rfl
    | 27, _ => rfl
    | 28, _ => rfl
    | 29, _ => rfl
    | 30, _ => rfl
    | 31, _ => rfl
    | 32, _ => rfl
    | 33, _ => rfl
    | 34, _ => rfl
    | 35, _ => rfl
    | 36, _ => rfl
    | 37, _ => rfl
    | 38, _ => rfl
    | 39, _ => rfl
    | 40, _ => rfl
    | 41, _ => rfl
    | 42, _ => rfl
    | 43, _ => rfl
    | 44, _ => rfl
    | 45, _ => rfl
    | 46, _ => rfl
    | n + 47, hi => exact absurd hi (by omega))]
theorem wr_39 (i : Int32) : tk_aI (wd A f a xi xa lr wk mm o own ad lf la h0) 0 (A + 39) i = if i < 0 ∨ 2460 ≤ i.toNatClampNeg then none else some (a 19 i.toNatClampNeg) := by unfold tk_aI; rw [wd_at (j := 39) (by decide)]; rfl
theorem ww_39 (i x : Int32) : tk_sI (wd A f a xi xa lr wk mm o own ad lf la h0) 0 (A + 39) i x = if i < 0 ∨ 2460 ≤ i.toNatClampNeg then none else some (wd A f (va_up a 19 (upd (a 19) i.toNatClampNeg x)) xi xa lr wk mm o own ad lf la h0) := by
  unfold tk_sI
  rw [wd_at (j := 39) (by decide)]
  show (if 0 = 0 then (if i < 0 ∨ 2460 ≤ i.toNatClampNeg then none else some (va_up (wd A f a xi xa lr wk mm o own ad lf la h0) (A + 39) _)) else none) = _
  rw [if_pos rfl, wd_up (j := 39) (by decide) (e := .inr (0, 2460, .inl (upd (a 19) i.toNatClampNeg x))) (f' := f) (a' := va_up a 19 (upd (a 19) i.toNatClampNeg x)) (xi' := xi) (xa' := xa) (lr' := lr) (wk' := wk) (mm' := mm) (o' := o) (fun i9 hi => by
    match i9, hi with
    | 0, _ => rfl
    | 1, _ => rfl
    | 2, _ => rfl
    | 3, _ => rfl
    | 4, _ => rfl
    | 5, _ => rfl
    | 6, _ => rfl
    | 7, _ => rfl
    | 8, _ => rfl
    | 9, _ => rfl
    | 10, _ => rfl
    | 11, _ => rfl
    | 12, _ => rfl
    | 13, _ => rfl
    | 14, _ => rfl
    | 15, _ => rfl
    | 16, _ => rfl
    | 17, _ => rfl
    | 18, _ => rfl
    | 19, _ => rfl
    | 20, _ => rfl
    | 21, _ => rfl
    | 22, _ => rfl
    | 23, _ => rfl
    | 24, _ => rfl
    | 25, _ => rfl
    | 26, _ => rfl
    | 27, _ => rfl
    | 28, _ => rfl
    | 29, _ => rfl
    | 30, _ => rfl
    | 31, _ => rfl
    | 32, _ => rfl
    | 33, _ => rfl
    | 34, _ => rfl
    | 35, _ => rfl
    | 36, _ => rfl
    | 37, _ => rfl
    | 38, _ => rfl
    | 39, _ => rfl
    | 40, _ => rfl
    | 41, _ => rfl
    | 42, _ => rfl
    | 43, _ => rfl
    | 44, _ => rfl
    | 45, _ => rfl
    | 46, _ => rfl
    | n + 47, hi => exact absurd hi (by omega))]
theorem wr_40 (i : Int32) : tk_aI (wd A f a xi xa lr wk mm o own ad lf la h0) 0 (A + 40) i = if i < 0 ∨ 820 ≤ i.toNatClampNeg then none else some (a 20 i.toNatClampNeg) := by unfold tk_aI; rw [wd_at (j := 40) (by decide)]; rfl
theorem ww_40 (i x : Int32) : tk_sI (wd A f a xi xa lr wk mm o own ad lf la h0) 0 (A + 40) i x = if i < 0 ∨ 820 ≤ i.toNatClampNeg then none else some (wd A f (va_up a 20 (upd (a 20) i.toNatClampNeg x)) xi xa lr wk mm o own ad lf la h0) := by
  unfold tk_sI
  rw [wd_at (j := 40) (by decide)]
  show (if 0 = 0 then (if i < 0 ∨ 820 ≤ i.toNatClampNeg then none else some (va_up (wd A f a xi xa lr wk mm o own ad lf la h0) (A + 40) _)) else none) = _
  rw [if_pos rfl, wd_up (j := 40) (by decide) (e := .inr (0, 820, .inl (upd (a 20) i.toNatClampNeg x))) (f' := f) (a' := va_up a 20 (upd (a 20) i.toNatClampNeg x)) (xi' := xi) (xa' := xa) (lr' := lr) (wk' := wk) (mm' := mm) (o' := o) (fun i9 hi => by
    match i9, hi with
    | 0, _ => rfl
    | 1, _ => rfl
    | 2, _ => rfl
    | 3, _ => rfl
    | 4, _ => rfl
    | 5, _ => rfl
    | 6, _ => rfl
    | 7, _ => rfl
    | 8, _ => rfl
    | 9, _ => rfl
    | 10, _ => rfl
    | 11, _ => rfl
    | 12, _ => rfl
    | 13, _ => rfl
    | 14, _ => rfl
    | 15, _ => rfl
    | 16, _ => rfl
    | 17, _ => rfl
    | 18, _ => rfl
    | 19, _ => rfl
    | 20, _ => rfl
    | 21, _ => rfl
    | 22, _ => rfl
    | 23, _ => rfl
    | 24, _ => rfl
    | 25, _ => rfl
    | 26, _ => rfl
    | 27, _ => rfl
    | 28, _ => rfl
    | 29, _ => rfl
    | 30, _ => rfl
    | 31, _ => rfl
    | 32, _ => rfl
    | 33, _ => rfl
    | 34, _ => rfl
    | 35, _ => rfl
    | 36, _ => rfl
    | 37, _ => rfl
    | 38, _ => rfl
    | 39, _ => rfl
    | 40, _ => rfl
    | 41, _ => rfl
    | 42, _ => rfl
    | 43, _ => rfl
    | 44, _ => rfl
    | 45, _ => rfl
    | 46, _ => rfl
    | n + 47, hi => exact absurd hi (by omega))]
theorem wr_41 (i : Int32) : tk_aI (wd A f a xi xa lr wk mm o own ad lf la h0) 0 (A + 41) i = if i < 0 ∨ 820 ≤ i.toNatClampNeg then none else some (a 21 i.toNatClampNeg) := by unfold tk_aI; rw [wd_at (j := 41) (by decide)]; rfl
theorem ww_41 (i x : Int32) : tk_sI (wd A f a xi xa lr wk mm o own ad lf la h0) 0 (A + 41) i x = if i < 0 ∨ 820 ≤ i.toNatClampNeg then none else some (wd A f (va_up a 21 (upd (a 21) i.toNatClampNeg x)) xi xa lr wk mm o own ad lf la h0) := by
  unfold tk_sI
  rw [wd_at (j := 41) (by decide)]
  show (if 0 = 0 then (if i < 0 ∨ 820 ≤ i.toNatClampNeg then none else some (va_up (wd A f a xi xa lr wk mm o own ad lf la h0) (A + 41) _)) else none) = _
  rw [if_pos rfl, wd_up (j := 41) (by decide) (e := .inr (0, 820, .inl (upd (a 21) i.toNatClampNeg x))) (f' := f) (a' := va_up a 21 (upd (a 21) i.toNatClampNeg x)) (xi' := xi) (xa' := xa) (lr' := lr) (wk' := wk) (mm' := mm) (o' := o) (fun i9 hi => by
    match i9, hi with
    | 0, _ => rfl
    | 1, _ => rfl
    | 2, _ => rfl
    | 3, _ => rfl
    | 4, _ => rfl
    | 5, _ => rfl
    | 6, _ => rfl
    | 7, _ => rfl
    | 8, _ => rfl
    | 9, _ => rfl
    | 10, _ => rfl
    | 11, _ => rfl
    | 12, _ => rfl
    | 13, _ => rfl
    | 14, _ => rfl
    | 15, _ => rfl
    | 16, _ => rfl
    | 17, _ => rfl
    | 18, _ => rfl
    | 19, _ => rfl
    | 20, _ => rfl
    | 21, _ => rfl
    | 22, _ => rfl
    | 23, _ => rfl
    | 24, _ => rfl
    | 25, _ => rfl
    | 26, _ => rfl
    | 27, _ => rfl
    | 28, _ => rfl
    | 29, _ => rfl
    | 30, _ => rfl
    | 31, _ => rfl
    | 32, _ => rfl
    | 33, _ => rfl
    | 34, _ => rfl
    | 35, _ => rfl
    | 36, _ => rfl
    | 37, _ => rfl
    | 38, _ => rfl
    | 39, _ => rfl
    | 40, _ => rfl
    | 41, _ => rfl
    | 42, _ => rfl
    | 43, _ => rfl
    | 44, _ => rfl
    | 45, _ => rfl
    | 46, _ => rfl
    | n + 47, hi => exact absurd hi (by omega))]
theorem wr_42 (i : Int32) : tk_aI (wd A f a xi xa lr wk mm o own ad lf la h0) 0 (A + 42) i = if i < 0 ∨ 15 ≤ i.toNatClampNeg then none else some (a 22 i.toNatClampNeg) := by unfold tk_aI; rw [wd_at (j := 42) (by decide)]; rfl
theorem ww_42 (i x : Int32) : tk_sI (wd A f a xi xa lr wk mm o own ad lf la h0) 0 (A + 42) i x = if i < 0 ∨ 15 ≤ i.toNatClampNeg then none else some (wd A f (va_up a 22 (upd (a 22) i.toNatClampNeg x)) xi xa lr wk mm o own ad lf la h0) := by
  unfold tk_sI
  rw [wd_at (j := 42) (by decide)]
  show (if 0 = 0 then (if i < 0 ∨ 15 ≤ i.toNatClampNeg then none else some (va_up (wd A f a xi xa lr wk mm o own ad lf la h0) (A + 42) _)) else none) = _
  rw [if_pos rfl, wd_up (j := 42) (by decide) (e := .inr (0, 15, .inl (upd (a 22) i.toNatClampNeg x))) (f' := f) (a' := va_up a 22 (upd (a 22) i.toNatClampNeg x)) (xi' := xi) (xa' := xa) (lr' := lr) (wk' := wk) (mm' := mm) (o' := o) (fun i9 hi => by
    match i9, hi with
    | 0, _ => rfl
    | 1, _ => rfl
    | 2, _ => rfl
    | 3, _ => rfl
    | 4, _ => rfl
    | 5, _ => rfl
    | 6, _ => rfl
    | 7, _ => rfl
    | 8, _ => rfl
    | 9, _ => rfl
    | 10, _ => rfl
    | 11, _ => rfl
    | 12, _ => rfl
    | 13, _ => rfl
    | 14, _ => rfl
    | 15, _ => rfl
    | 16, _ => rfl
    | 17, _ => rfl
    | 18, _ => rfl
    | 19, _ => rfl
    | 20, _ => rfl
    | 21, _ => rfl
    | 22, _ => rfl
    | 23, _ => rfl
    | 24, _ => rfl
    | 25, _ => rfl
    | 26, _ => rfl
    | 27, _ => rfl
    | 28, _ => rfl
    | 29, _ => rfl
    | 30, _ => rfl
    | 31, _ => rfl
    | 32, _ => rfl
    | 33, _ => rfl
    | 34, _ => rfl
    | 35, _ => rfl
    | 36, _ => rfl
    | 37, _ => rfl
    | 38, _ => rfl
    | 39, _ => rfl
    | 40, _ => rfl
    | 41, _ => rfl
    | 42, _ => rfl
    | 43, _ => rfl
    | 44, _ => rfl
    | 45, _ => rfl
    | 46, _ => rfl
    | n + 47, hi => exact absurd hi (by omega))]
theorem wr_43 (i : Int32) : tk_aI (wd A f a xi xa lr wk mm o own ad lf la h0) 0 (A + 43) i = if i < 0 ∨ 16384 ≤ i.toNatClampNeg then none else some (a 23 i.toNatClampNeg) := by unfold tk_aI; rw [wd_at (j := 43) (by decide)]; rfl
theorem ww_43 (i x : Int32) : tk_sI (wd A f a xi xa lr wk mm o own ad lf la h0) 0 (A + 43) i x = if i < 0 ∨ 16384 ≤ i.toNatClampNeg then none else some (wd A f (va_up a 23 (upd (a 23) i.toNatClampNeg x)) xi xa lr wk mm o own ad lf la h0) := by
  unfold tk_sI
  rw [wd_at (j := 43) (by decide)]
  show (if 0 = 0 then (if i < 0 ∨ 16384 ≤ i.toNatClampNeg then none else some (va_up (wd A f a xi xa lr wk mm o own ad lf la h0) (A + 43) _)) else none) = _
  rw [if_pos rfl, wd_up (j := 43) (by decide) (e := .inr (0, 16384, .inl (upd (a 23) i.toNatClampNeg x))) (f' := f) (a' := va_up a 23 (upd (a 23) i.toNatClampNeg x)) (xi' := xi) (xa' := xa) (lr' := lr) (wk' := wk) (mm' := mm) (o' := o) (fun i9 hi => by
    match i9, hi with
    | 0, _ => rfl
    | 1, _ => rfl
    | 2, _ => rfl
    | 3, _ => rfl
    | 4, _ => rfl
    | 5, _ => rfl
    | 6, _ => rfl
    | 7, _ => rfl
    | 8, _ => rfl
    | 9, _ => rfl
    | 10, _ => rfl
    | 11, _ => rfl
    | 12, _ => rfl
    | 13, _ => rfl
    | 14, _ => rfl
    | 15, _ => rfl
    | 16, _ => rfl
    | 17, _ => rfl
    | 18, _ => rfl
    | 19, _ => rfl
    | 20, _ => rfl
    | 21, _ => rfl
    | 22, _ => rfl
    | 23, _ => rfl
    | 24, _ => rfl
    | 25, _ => rfl
    | 26, _ => rfl
    | 27, _ => rfl
    | 28, _ => rfl
    | 29, _ => rfl
    | 30, _ => rfl
    | 31, _ => rfl
    | 32, _ => rfl
    | 33, _ => rfl
    | 34, _ => rfl
    | 35, _ => rfl
    | 36, _ => rfl
    | 37, _ => rfl
    | 38, _ => rfl
    | 39, _ => rfl
    | 40, _ => rfl
    | 41, _ => rfl
    | 42, _ => rfl
    | 43, _ => rfl
    | 44, _ => rfl
    | 45, _ => rfl
    | 46, _ => rfl
    | n + 47, hi => exact absurd hi (by omega))]
theorem wr_44 (i : Int32) : tk_aI (wd A f a xi xa lr wk mm o own ad lf la h0) 0 (A + 44) i = if i < 0 ∨ 16384 ≤ i.toNatClampNeg then none else some (a 24 i.toNatClampNeg) := by unfold tk_aI; rw [wd_at (j := 44) (by decide)]; rfl
theorem ww_44 (i x : Int32) : tk_sI (wd A f a xi xa lr wk mm o own ad lf la h0) 0 (A + 44) i x = if i < 0 ∨ 16384 ≤ i.toNatClampNeg then none else some (wd A f (va_up a 24 (upd (a 24) i.toNatClampNeg x)) xi xa lr wk mm o own ad lf la h0) := by
  unfold tk_sI
  rw [wd_at (j := 44) (by decide)]
  show (if 0 = 0 then (if i < 0 ∨ 16384 ≤ i.toNatClampNeg then none else some (va_up (wd A f a xi xa lr wk mm o own ad lf la h0) (A + 44) _)) else none) = _
  rw [if_pos rfl, wd_up (j := 44) (by decide) (e := .inr (0, 16384, .inl (upd (a 24) i.toNatClampNeg x))) (f' := f) (a' := va_up a 24 (upd (a 24) i.toNatClampNeg x)) (xi' := xi) (xa' := xa) (lr' := lr) (wk' := wk) (mm' := mm) (o' := o) (fun i9 hi => by
    match i9, hi with
    | 0, _ => rfl
    | 1, _ => rfl
    | 2, _ => rfl
    | 3, _ => rfl
    | 4, _ => rfl
    | 5, _ => rfl
    | 6, _ => rfl
    | 7, _ => rfl
    | 8, _ => rfl
    | 9, _ => rfl
    | 10, _ => rfl
    | 11, _ => rfl
    | 12, _ => rfl
    | 13, _ => rfl
    | 14, _ => rfl
    | 15, _ => rfl
    | 16, _ => rfl
    | 17, _ => rfl
    | 18, _ => rfl
    | 19, _ => rfl
    | 20, _ => rfl
    | 21, _ => rfl
    | 22, _ => rfl
    | 23, _ => rfl
    | 24, _ => rfl
    | 25, _ => rfl
    | 26, _ => rfl
    | 27, _ => rfl
    | 28, _ => rfl
    | 29, _ => rfl
    | 30, _ => rfl
    | 31, _ => rfl
    | 32, _ => rfl
    | 33, _ => rfl
    | 34, _ => rfl
    | 35, _ => rfl
    | 36, _ => rfl
    | 37, _ => rfl
    | 38, _ => rfl
    | 39, _ => rfl
    | 40, _ => rfl
    | 41, _ => rfl
    | 42, _ => rfl
    | 43, _ => rfl
    | 44, _ => rfl
    | 45, _ => rfl
    | 46, _ => rfl
    | n + 47, hi => exact absurd hi (by omega))]
theorem wr_45 (i : Int32) : tk_aI (wd A f a xi xa lr wk mm o own ad lf la h0) 0 (A + 45) i = if i < 0 ∨ 1681 ≤ i.toNatClampNeg then none else some (a 25 i.toNatClampNeg) := by unfold tk_aI; rw [wd_at (j := 45) (by decide)]; rfl
theorem ww_45 (i x : Int32) : tk_sI (wd A f a xi xa lr wk mm o own ad lf la h0) 0 (A + 45) i x = if i < 0 ∨ 1681 ≤ i.toNatClampNeg then none else some (wd A f (va_up a 25 (upd (a 25) i.toNatClampNeg x)) xi xa lr wk mm o own ad lf la h0) := by
  unfold tk_sI
  rw [wd_at (j := 45) (by decide)]
  show (if 0 = 0 then (if i < 0 ∨ 1681 ≤ i.toNatClampNeg then none else some (va_up (wd A f a xi xa lr wk mm o own ad lf la h0) (A + 45) _)) else none) = _
  rw [if_pos rfl, wd_up (j := 45) (by decide) (e := .inr (0, 1681, .inl (upd (a 25) i.toNatClampNeg x))) (f' := f) (a' := va_up a 25 (upd (a 25) i.toNatClampNeg x)) (xi' := xi) (xa' := xa) (lr' := lr) (wk' := wk) (mm' := mm) (o' := o) (fun i9 hi => by
    match i9, hi with
    | 0, _ => rfl
    | 1, _ => rfl
    | 2, _ => rfl
    | 3, _ => rfl
    | 4, _ => rfl
    | 5, _ => rfl
    | 6, _ => rfl
    | 7, _ => rfl
    | 8, _ => rfl
    | 9, _ => rfl
    | 10, _ => rfl
    | 11, _ => rfl
    | 12, _ => rfl
    | 13, _ => rfl
    | 14, _ => rfl
    | 15, _ => rfl
    | 16, _ => rfl
    | 17, _ => rfl
    | 18, _ => rfl
    | 19, _ => rfl
    | 20, _ => rfl
    | 21, _ => rfl
    | 22, _ => rfl
    | 23, _ => rfl
    | 24, _ => rfl
    | 25, _ => rfl
    | 26, _ => rfl
    | 27, _ => rfl
    | 28, _ => rfl
    | 29, _ => rfl
    | 30, _ => rfl
    | 31, _ => rfl
    | 32, _ => rfl
    | 33, _ => rfl
    | 34, _ => rfl
    | 35, _ => rfl
    | 36, _ => rfl
    | 37, _ => rfl
    | 38, _ => rfl
    | 39, _ => rfl
    | 40, _ => rfl
    | 41, _ => rfl
    | 42, _ => rfl
    | 43, _ => rfl
    | 44, _ => rfl
    | 45, _ => rfl
    | 46, _ => rfl
    | n + 47, hi => exact absurd hi (by omega))]
theorem wr_1 (i : Int32) : tk_aQ (wd A f a xi xa lr wk mm o own ad lf la h0) 3 (A + 1) i = if i < 0 ∨ 14 ≤ i.toNatClampNeg then none else some (lr i.toNatClampNeg) := by unfold tk_aQ; rw [wd_at (j := 1) (by decide)]; rfl
theorem ww_1 (i : Int32) (x : Nat) : tk_sQ (wd A f a xi xa lr wk mm o own ad lf la h0) 3 (A + 1) i x = if i < 0 ∨ 14 ≤ i.toNatClampNeg then none else some (wd A f a xi xa (va_up lr i.toNatClampNeg (some x)) wk mm o own ad lf la h0) := by
  unfold tk_sQ
  rw [wd_at (j := 1) (by decide)]
  show (if 3 = 3 then (if i < 0 ∨ 14 ≤ i.toNatClampNeg then none else some (va_up (wd A f a xi xa lr wk mm o own ad lf la h0) (A + 1) _)) else none) = _
  rw [if_pos rfl, wd_up (j := 1) (by decide) (e := .inr (3, 14, .inr (.inr (va_up lr i.toNatClampNeg (some x))))) (f' := f) (a' := a) (xi' := xi) (xa' := xa) (lr' := va_up lr i.toNatClampNeg (some x)) (wk' := wk) (mm' := mm) (o' := o) (fun i9 hi => by
    match i9, hi with
    | 0, _ => rfl
    | 1, _ => rfl
    | 2, _ => rfl
    | 3, _ => rfl
    | 4, _ => rfl
    | 5, _ => rfl
    | 6, _ => rfl
    | 7, _ => rfl
    | 8, _ => rfl
    | 9, _ => rfl
    | 10, _ => rfl
    | 11, _ => rfl
    | 12, _ => rfl
    | 13, _ => rfl
    | 14, _ => rfl
    | 15, _ => rfl
    | 16, _ => rfl
    | 17, _ => rfl
    | 18, _ => rfl
    | 19, _ => rfl
    | 20, _ => rfl
    | 21, _ => rfl
    | 22, _ => rfl
    | 23, _ => rfl
    | 24, _ => rfl
    | 25, _ => rfl
    | 26, _ => rfl
    | 27, _ => rfl
    | 28, _ => rfl
    | 29, _ => rfl
    | 30, _ => rfl
    | 31, _ => rfl
    | 32, _ => rfl
    | 33, _ => rfl
    | 34, _ => rfl
    | 35, _ => rfl
    | 36, _ => rfl
    | 37, _ => rfl
    | 38, _ => rfl
    | 39, _ => rfl
    | 40, _ => rfl
    | 41, _ => rfl
    | 42, _ => rfl
    | 43, _ => rfl
    | 44, _ => rfl
    | 45, _ => rfl
    | 46, _ => rfl
    | n + 47, hi => exact absurd hi (by omega))]
theorem wr_46 (i : Int32) : tk_aJ (wd A f a xi xa lr wk mm o own ad lf la h0) 2 (A + 46) i = if i < 0 ∨ 1 ≤ i.toNatClampNeg then none else some (o i.toNatClampNeg) := by unfold tk_aJ; rw [wd_at (j := 46) (by decide)]; rfl
theorem ww_46 (i : Int32) (x : Int64) : tk_sJ (wd A f a xi xa lr wk mm o own ad lf la h0) 2 (A + 46) i x = if i < 0 ∨ 1 ≤ i.toNatClampNeg then none else some (wd A f a xi xa lr wk mm (vp_updL o i.toNatClampNeg x) own ad lf la h0) := by
  unfold tk_sJ
  rw [wd_at (j := 46) (by decide)]
  show (if 2 = 2 then (if i < 0 ∨ 1 ≤ i.toNatClampNeg then none else some (va_up (wd A f a xi xa lr wk mm o own ad lf la h0) (A + 46) _)) else none) = _
  rw [if_pos rfl, wd_up (j := 46) (by decide) (e := .inr (2, 1, .inr (.inl (vp_updL o i.toNatClampNeg x)))) (f' := f) (a' := a) (xi' := xi) (xa' := xa) (lr' := lr) (wk' := wk) (mm' := mm) (o' := vp_updL o i.toNatClampNeg x) (fun i9 hi => by
    match i9, hi with
    | 0, _ => rfl
    | 1, _ => rfl
    | 2, _ => rfl
    | 3, _ => rfl
    | 4, _ => rfl
    | 5, _ => rfl
    | 6, _ => rfl
    | 7, _ => rfl
    | 8, _ => rfl
    | 9, _ => rfl
    | 10, _ => rfl
    | 11, _ => rfl
    | 12, _ => rfl
    | 13, _ => rfl
    | 14, _ => rfl
    | 15, _ => rfl
    | 16, _ => rfl
    | 17, _ => rfl
    | 18, _ => rfl
    | 19, _ => rfl
    | 20, _ => rfl
    | 21, _ => rfl
    | 22, _ => rfl
    | 23, _ => rfl
    | 24, _ => rfl
    | 25, _ => rfl
    | 26, _ => rfl
    | 27, _ => rfl
    | 28, _ => rfl
    | 29, _ => rfl
    | 30, _ => rfl
    | 31, _ => rfl
    | 32, _ => rfl
    | 33, _ => rfl
    | 34, _ => rfl
    | 35, _ => rfl
    | 36, _ => rfl
    | 37, _ => rfl
    | 38, _ => rfl
    | 39, _ => rfl
    | 40, _ => rfl
    | 41, _ => rfl
    | 42, _ => rfl
    | 43, _ => rfl
    | 44, _ => rfl
    | 45, _ => rfl
    | 46, _ => rfl
    | n + 47, hi => exact absurd hi (by omega))]
theorem lg_0_0 {n l : Nat} (hO : wd_ok A n own ad) (hl : l < n) : tk_gR (wd A f a xi xa lr wk mm o own ad lf la h0) 0 0 (ad l) = some (ad l + 1) := by unfold tk_gR; rw [wd_l0 hO hl]; rfl
theorem lg_0_1 {n l : Nat} (hO : wd_ok A n own ad) (hl : l < n) : tk_gR (wd A f a xi xa lr wk mm o own ad lf la h0) 0 1 (ad l) = some (ad l + 2) := by unfold tk_gR; rw [wd_l0 hO hl]; rfl
theorem lg_0_2 {n l : Nat} (hO : wd_ok A n own ad) (hl : l < n) : tk_gR (wd A f a xi xa lr wk mm o own ad lf la h0) 0 2 (ad l) = some (ad l + 3) := by unfold tk_gR; rw [wd_l0 hO hl]; rfl
theorem lg_0_3 {n l : Nat} (hO : wd_ok A n own ad) (hl : l < n) : tk_gR (wd A f a xi xa lr wk mm o own ad lf la h0) 0 3 (ad l) = some (ad l + 4) := by unfold tk_gR; rw [wd_l0 hO hl]; rfl
theorem lg_0_4 {n l : Nat} (hO : wd_ok A n own ad) (hl : l < n) : tk_gR (wd A f a xi xa lr wk mm o own ad lf la h0) 0 4 (ad l) = some (ad l + 5) := by unfold tk_gR; rw [wd_l0 hO hl]; rfl
theorem lg_0_5 {n l : Nat} (hO : wd_ok A n own ad) (hl : l < n) : tk_gR (wd A f a xi xa lr wk mm o own ad lf la h0) 0 5 (ad l) = some (ad l + 6) := by unfold tk_gR; rw [wd_l0 hO hl]; rfl
theorem lg_0_6 {n l : Nat} (hO : wd_ok A n own ad) (hl : l < n) : tk_gR (wd A f a xi xa lr wk mm o own ad lf la h0) 0 6 (ad l) = some (ad l + 7) := by unfold tk_gR; rw [wd_l0 hO hl]; rfl
theorem lg_0_7 {n l : Nat} (hO : wd_ok A n own ad) (hl : l < n) : tk_gR (wd A f a xi xa lr wk mm o own ad lf la h0) 0 7 (ad l) = some (ad l + 8) := by unfold tk_gR; rw [wd_l0 hO hl]; rfl
theorem lg_0_8 {n l : Nat} (hO : wd_ok A n own ad) (hl : l < n) : tk_gI (wd A f a xi xa lr wk mm o own ad lf la h0) 0 8 (ad l) = some (lf l 8) := by unfold tk_gI; rw [wd_l0 hO hl]; rfl
theorem lp_0_8 {n l : Nat} (hO : wd_ok A n own ad) (hl : l < n) (v : Int32) : tk_pF (wd A f a xi xa lr wk mm o own ad lf la h0) 0 8 (ad l) (.int v) = some (wd A f a xi xa lr wk mm o own ad (va_up lf l (upd (lf l) 8 v)) (va_up la l (la l)) h0) := by
  unfold tk_pF
  rw [wd_l0 hO hl]
  exact congrArg some (wd_lup (j := 0) hO hl (by decide) (fun i hi => by
    match i, hi with
    | 0, _ => rfl
    | 1, _ => rfl
    | 2, _ => rfl
    | 3, _ => rfl
    | 4, _ => rfl
    | 5, _ => rfl
    | 6, _ => rfl
    | 7, _ => rfl
    | 8, _ => rfl
    | n + 9, hi => exact absurd hi (by omega)))
theorem lg_0_9 {n l : Nat} (hO : wd_ok A n own ad) (hl : l < n) : tk_gI (wd A f a xi xa lr wk mm o own ad lf la h0) 0 9 (ad l) = some (lf l 9) := by unfold tk_gI; rw [wd_l0 hO hl]; rfl
theorem lp_0_9 {n l : Nat} (hO : wd_ok A n own ad) (hl : l < n) (v : Int32) : tk_pF (wd A f a xi xa lr wk mm o own ad lf la h0) 0 9 (ad l) (.int v) = some (wd A f a xi xa lr wk mm o own ad (va_up lf l (upd (lf l) 9 v)) (va_up la l (la l)) h0) := by
  unfold tk_pF
  rw [wd_l0 hO hl]
  exact congrArg some (wd_lup (j := 0) hO hl (by decide) (fun i hi => by
    match i, hi with
    | 0, _ => rfl
    | 1, _ => rfl
    | 2, _ => rfl
    | 3, _ => rfl
    | 4, _ => rfl
    | 5, _ => rfl
    | 6, _ => rfl
    | 7, _ => rfl
    | 8, _ => rfl
    | n + 9, hi => exact absurd hi (by omega)))
theorem lg_0_10 {n l : Nat} (hO : wd_ok A n own ad) (hl : l < n) : tk_gI (wd A f a xi xa lr wk mm o own ad lf la h0) 0 10 (ad l) = some (lf l 10) := by unfold tk_gI; rw [wd_l0 hO hl]; rfl
theorem lp_0_10 {n l : Nat} (hO : wd_ok A n own ad) (hl : l < n) (v : Int32) : tk_pF (wd A f a xi xa lr wk mm o own ad lf la h0) 0 10 (ad l) (.int v) = some (wd A f a xi xa lr wk mm o own ad (va_up lf l (upd (lf l) 10 v)) (va_up la l (la l)) h0) := by
  unfold tk_pF
  rw [wd_l0 hO hl]
  exact congrArg some (wd_lup (j := 0) hO hl (by decide) (fun i hi => by
    match i, hi with
    | 0, _ => rfl
    | 1, _ => rfl
    | 2, _ => rfl
    | 3, _ => rfl
    | 4, _ => rfl
    | 5, _ => rfl
    | 6, _ => rfl
    | 7, _ => rfl
    | 8, _ => rfl
    | n + 9, hi => exact absurd hi (by omega)))
theorem lg_0_11 {n l : Nat} (hO : wd_ok A n own ad) (hl : l < n) : tk_gI (wd A f a xi xa lr wk mm o own ad lf la h0) 0 11 (ad l) = some (lf l 11) := by unfold tk_gI; rw [wd_l0 hO hl]; rfl
theorem lp_0_11 {n l : Nat} (hO : wd_ok A n own ad) (hl : l < n) (v : Int32) : tk_pF (wd A f a xi xa lr wk mm o own ad lf la h0) 0 11 (ad l) (.int v) = some (wd A f a xi xa lr wk mm o own ad (va_up lf l (upd (lf l) 11 v)) (va_up la l (la l)) h0) := by
  unfold tk_pF
  rw [wd_l0 hO hl]
  exact congrArg some (wd_lup (j := 0) hO hl (by decide) (fun i hi => by
    match i, hi with
    | 0, _ => rfl
    | 1, _ => rfl
    | 2, _ => rfl
    | 3, _ => rfl
    | 4, _ => rfl
    | 5, _ => rfl
    | 6, _ => rfl
    | 7, _ => rfl
    | 8, _ => rfl
    | n + 9, hi => exact absurd hi (by omega)))
theorem lg_0_12 {n l : Nat} (hO : wd_ok A n own ad) (hl : l < n) : tk_gI (wd A f a xi xa lr wk mm o own ad lf la h0) 0 12 (ad l) = some (lf l 12) := by unfold tk_gI; rw [wd_l0 hO hl]; rfl
theorem lp_0_12 {n l : Nat} (hO : wd_ok A n own ad) (hl : l < n) (v : Int32) : tk_pF (wd A f a xi xa lr wk mm o own ad lf la h0) 0 12 (ad l) (.int v) = some (wd A f a xi xa lr wk mm o own ad (va_up lf l (upd (lf l) 12 v)) (va_up la l (la l)) h0) := by
  unfold tk_pF
  rw [wd_l0 hO hl]
  exact congrArg some (wd_lup (j := 0) hO hl (by decide) (fun i hi => by
    match i, hi with
    | 0, _ => rfl
    | 1, _ => rfl
    | 2, _ => rfl
    | 3, _ => rfl
    | 4, _ => rfl
    | 5, _ => rfl
    | 6, _ => rfl
    | 7, _ => rfl
    | 8, _ => rfl
    | n + 9, hi => exact absurd hi (by omega)))
theorem lg_0_13 {n l : Nat} (hO : wd_ok A n own ad) (hl : l < n) : tk_gI (wd A f a xi xa lr wk mm o own ad lf la h0) 0 13 (ad l) = some (lf l 13) := by unfold tk_gI; rw [wd_l0 hO hl]; rfl
theorem lp_0_13 {n l : Nat} (hO : wd_ok A n own ad) (hl : l < n) (v : Int32) : tk_pF (wd A f a xi xa lr wk mm o own ad lf la h0) 0 13 (ad l) (.int v) = some (wd A f a xi xa lr wk mm o own ad (va_up lf l (upd (lf l) 13 v)) (va_up la l (la l)) h0) := by
  unfold tk_pF
  rw [wd_l0 hO hl]
  exact congrArg some (wd_lup (j := 0) hO hl (by decide) (fun i hi => by
    match i, hi with
    | 0, _ => rfl
    | 1, _ => rfl
    | 2, _ => rfl
    | 3, _ => rfl
    | 4, _ => rfl
    | 5, _ => rfl
    | 6, _ => rfl
    | 7, _ => rfl
    | 8, _ => rfl
    | n + 9, hi => exact absurd hi (by omega)))
theorem lg_0_14 {n l : Nat} (hO : wd_ok A n own ad) (hl : l < n) : tk_gI (wd A f a xi xa lr wk mm o own ad lf la h0) 0 14 (ad l) = some (lf l 14) := by unfold tk_gI; rw [wd_l0 hO hl]; rfl
theorem lp_0_14 {n l : Nat} (hO : wd_ok A n own ad) (hl : l < n) (v : Int32) : tk_pF (wd A f a xi xa lr wk mm o own ad lf la h0) 0 14 (ad l) (.int v) = some (wd A f a xi xa lr wk mm o own ad (va_up lf l (upd (lf l) 14 v)) (va_up la l (la l)) h0) := by
  unfold tk_pF
  rw [wd_l0 hO hl]
  exact congrArg some (wd_lup (j := 0) hO hl (by decide) (fun i hi => by
    match i, hi with
    | 0, _ => rfl
    | 1, _ => rfl
    | 2, _ => rfl
    | 3, _ => rfl
    | 4, _ => rfl
    | 5, _ => rfl
    | 6, _ => rfl
    | 7, _ => rfl
    | 8, _ => rfl
    | n + 9, hi => exact absurd hi (by omega)))
theorem lo_0 {n l : Nat} (hO : wd_ok A n own ad) (hl : l < n) : tk_ok (wd A f a xi xa lr wk mm o own ad lf la h0) 0 (ad l) = some () := by unfold tk_ok tk_ob; rw [wd_l0 hO hl]; rfl
theorem lr_0 {n l : Nat} (hO : wd_ok A n own ad) (hl : l < n) (i : Int32) : tk_aI (wd A f a xi xa lr wk mm o own ad lf la h0) 0 (ad l + 1) i = if i < 0 ∨ 8 ≤ i.toNatClampNeg then none else some (la l 0 i.toNatClampNeg) := by unfold tk_aI; rw [wd_la hO hl (j := 1) (by decide)]; rfl
theorem lw_a0 {n l : Nat} (hO : wd_ok A n own ad) (hl : l < n) (i x : Int32) : tk_sI (wd A f a xi xa lr wk mm o own ad lf la h0) 0 (ad l + 1) i x = if i < 0 ∨ 8 ≤ i.toNatClampNeg then none else some (wd A f a xi xa lr wk mm o own ad (va_up lf l (lf l)) (va_up la l (va_up (la l) 0 (upd (la l 0) i.toNatClampNeg x))) h0) := by
  unfold tk_sI
  rw [wd_la hO hl (j := 1) (by decide)]
  show (if 0 = 0 then (if i < 0 ∨ 8 ≤ i.toNatClampNeg then none else some (va_up (wd A f a xi xa lr wk mm o own ad lf la h0) (ad l + 1) _)) else none) = _
  rw [if_pos rfl, wd_lup (j := 1) hO hl (by decide) (e := .inr (0, 8, .inl (upd (la l 0) i.toNatClampNeg x))) (F := lf l) (L := va_up (la l) 0 (upd (la l 0) i.toNatClampNeg x)) (fun i9 hi => by
    match i9, hi with
    | 0, _ => rfl
    | 1, _ => rfl
    | 2, _ => rfl
    | 3, _ => rfl
    | 4, _ => rfl
    | 5, _ => rfl
    | 6, _ => rfl
    | 7, _ => rfl
    | 8, _ => rfl
    | n + 9, hi => exact absurd hi (by omega))]
theorem lr_1 {n l : Nat} (hO : wd_ok A n own ad) (hl : l < n) (i : Int32) : tk_aI (wd A f a xi xa lr wk mm o own ad lf la h0) 0 (ad l + 2) i = if i < 0 ∨ 8 ≤ i.toNatClampNeg then none else some (la l 1 i.toNatClampNeg) := by unfold tk_aI; rw [wd_la hO hl (j := 2) (by decide)]; rfl
theorem lw_a1 {n l : Nat} (hO : wd_ok A n own ad) (hl : l < n) (i x : Int32) : tk_sI (wd A f a xi xa lr wk mm o own ad lf la h0) 0 (ad l + 2) i x = if i < 0 ∨ 8 ≤ i.toNatClampNeg then none else some (wd A f a xi xa lr wk mm o own ad (va_up lf l (lf l)) (va_up la l (va_up (la l) 1 (upd (la l 1) i.toNatClampNeg x))) h0) := by
  unfold tk_sI
  rw [wd_la hO hl (j := 2) (by decide)]
  show (if 0 = 0 then (if i < 0 ∨ 8 ≤ i.toNatClampNeg then none else some (va_up (wd A f a xi xa lr wk mm o own ad lf la h0) (ad l + 2) _)) else none) = _
  rw [if_pos rfl, wd_lup (j := 2) hO hl (by decide) (e := .inr (0, 8, .inl (upd (la l 1) i.toNatClampNeg x))) (F := lf l) (L := va_up (la l) 1 (upd (la l 1) i.toNatClampNeg x)) (fun i9 hi => by
    match i9, hi with
    | 0, _ => rfl
    | 1, _ => rfl
    | 2, _ => rfl
    | 3, _ => rfl
    | 4, _ => rfl
    | 5, _ => rfl
    | 6, _ => rfl
    | 7, _ => rfl
    | 8, _ => rfl
    | n + 9, hi => exact absurd hi (by omega))]
theorem lr_2 {n l : Nat} (hO : wd_ok A n own ad) (hl : l < n) (i : Int32) : tk_aI (wd A f a xi xa lr wk mm o own ad lf la h0) 0 (ad l + 3) i = if i < 0 ∨ 8 ≤ i.toNatClampNeg then none else some (la l 2 i.toNatClampNeg) := by unfold tk_aI; rw [wd_la hO hl (j := 3) (by decide)]; rfl
theorem lw_a2 {n l : Nat} (hO : wd_ok A n own ad) (hl : l < n) (i x : Int32) : tk_sI (wd A f a xi xa lr wk mm o own ad lf la h0) 0 (ad l + 3) i x = if i < 0 ∨ 8 ≤ i.toNatClampNeg then none else some (wd A f a xi xa lr wk mm o own ad (va_up lf l (lf l)) (va_up la l (va_up (la l) 2 (upd (la l 2) i.toNatClampNeg x))) h0) := by
  unfold tk_sI
  rw [wd_la hO hl (j := 3) (by decide)]
  show (if 0 = 0 then (if i < 0 ∨ 8 ≤ i.toNatClampNeg then none else some (va_up (wd A f a xi xa lr wk mm o own ad lf la h0) (ad l + 3) _)) else none) = _
  rw [if_pos rfl, wd_lup (j := 3) hO hl (by decide) (e := .inr (0, 8, .inl (upd (la l 2) i.toNatClampNeg x))) (F := lf l) (L := va_up (la l) 2 (upd (la l 2) i.toNatClampNeg x)) (fun i9 hi => by
    match i9, hi with
    | 0, _ => rfl
    | 1, _ => rfl
    | 2, _ => rfl
    | 3, _ => rfl
    | 4, _ => rfl
    | 5, _ => rfl
    | 6, _ => rfl
    | 7, _ => rfl
    | 8, _ => rfl
    | n + 9, hi => exact absurd hi (by omega))]
theorem lr_3 {n l : Nat} (hO : wd_ok A n own ad) (hl : l < n) (i : Int32) : tk_aI (wd A f a xi xa lr wk mm o own ad lf la h0) 0 (ad l + 4) i = if i < 0 ∨ 8 ≤ i.toNatClampNeg then none else some (la l 3 i.toNatClampNeg) := by unfold tk_aI; rw [wd_la hO hl (j := 4) (by decide)]; rfl
theorem lw_a3 {n l : Nat} (hO : wd_ok A n own ad) (hl : l < n) (i x : Int32) : tk_sI (wd A f a xi xa lr wk mm o own ad lf la h0) 0 (ad l + 4) i x = if i < 0 ∨ 8 ≤ i.toNatClampNeg then none else some (wd A f a xi xa lr wk mm o own ad (va_up lf l (lf l)) (va_up la l (va_up (la l) 3 (upd (la l 3) i.toNatClampNeg x))) h0) := by
  unfold tk_sI
  rw [wd_la hO hl (j := 4) (by decide)]
  show (if 0 = 0 then (if i < 0 ∨ 8 ≤ i.toNatClampNeg then none else some (va_up (wd A f a xi xa lr wk mm o own ad lf la h0) (ad l + 4) _)) else none) = _
  rw [if_pos rfl, wd_lup (j := 4) hO hl (by decide) (e := .inr (0, 8, .inl (upd (la l 3) i.toNatClampNeg x))) (F := lf l) (L := va_up (la l) 3 (upd (la l 3) i.toNatClampNeg x)) (fun i9 hi => by
    match i9, hi with
    | 0, _ => rfl
    | 1, _ => rfl
    | 2, _ => rfl
    | 3, _ => rfl
    | 4, _ => rfl
    | 5, _ => rfl
    | 6, _ => rfl
    | 7, _ => rfl
    | 8, _ => rfl
    | n + 9, hi => exact absurd hi (by omega))]
theorem lr_4 {n l : Nat} (hO : wd_ok A n own ad) (hl : l < n) (i : Int32) : tk_aI (wd A f a xi xa lr wk mm o own ad lf la h0) 0 (ad l + 5) i = if i < 0 ∨ 8 ≤ i.toNatClampNeg then none else some (la l 4 i.toNatClampNeg) := by unfold tk_aI; rw [wd_la hO hl (j := 5) (by decide)]; rfl
theorem lw_a4 {n l : Nat} (hO : wd_ok A n own ad) (hl : l < n) (i x : Int32) : tk_sI (wd A f a xi xa lr wk mm o own ad lf la h0) 0 (ad l + 5) i x = if i < 0 ∨ 8 ≤ i.toNatClampNeg then none else some (wd A f a xi xa lr wk mm o own ad (va_up lf l (lf l)) (va_up la l (va_up (la l) 4 (upd (la l 4) i.toNatClampNeg x))) h0) := by
  unfold tk_sI
  rw [wd_la hO hl (j := 5) (by decide)]
  show (if 0 = 0 then (if i < 0 ∨ 8 ≤ i.toNatClampNeg then none else some (va_up (wd A f a xi xa lr wk mm o own ad lf la h0) (ad l + 5) _)) else none) = _
  rw [if_pos rfl, wd_lup (j := 5) hO hl (by decide) (e := .inr (0, 8, .inl (upd (la l 4) i.toNatClampNeg x))) (F := lf l) (L := va_up (la l) 4 (upd (la l 4) i.toNatClampNeg x)) (fun i9 hi => by
    match i9, hi with
    | 0, _ => rfl
    | 1, _ => rfl
    | 2, _ => rfl
    | 3, _ => rfl
    | 4, _ => rfl
    | 5, _ => rfl
    | 6, _ => rfl
    | 7, _ => rfl
    | 8, _ => rfl
    | n + 9, hi => exact absurd hi (by omega))]
theorem lr_5 {n l : Nat} (hO : wd_ok A n own ad) (hl : l < n) (i : Int32) : tk_aI (wd A f a xi xa lr wk mm o own ad lf la h0) 0 (ad l + 6) i = if i < 0 ∨ 2 ≤ i.toNatClampNeg then none else some (la l 5 i.toNatClampNeg) := by unfold tk_aI; rw [wd_la hO hl (j := 6) (by decide)]; rfl
theorem lw_a5 {n l : Nat} (hO : wd_ok A n own ad) (hl : l < n) (i x : Int32) : tk_sI (wd A f a xi xa lr wk mm o own ad lf la h0) 0 (ad l + 6) i x = if i < 0 ∨ 2 ≤ i.toNatClampNeg then none else some (wd A f a xi xa lr wk mm o own ad (va_up lf l (lf l)) (va_up la l (va_up (la l) 5 (upd (la l 5) i.toNatClampNeg x))) h0) := by
  unfold tk_sI
  rw [wd_la hO hl (j := 6) (by decide)]
  show (if 0 = 0 then (if i < 0 ∨ 2 ≤ i.toNatClampNeg then none else some (va_up (wd A f a xi xa lr wk mm o own ad lf la h0) (ad l + 6) _)) else none) = _
  rw [if_pos rfl, wd_lup (j := 6) hO hl (by decide) (e := .inr (0, 2, .inl (upd (la l 5) i.toNatClampNeg x))) (F := lf l) (L := va_up (la l) 5 (upd (la l 5) i.toNatClampNeg x)) (fun i9 hi => by
    match i9, hi with
    | 0, _ => rfl
    | 1, _ => rfl
    | 2, _ => rfl
    | 3, _ => rfl
    | 4, _ => rfl
    | 5, _ => rfl
    | 6, _ => rfl
    | 7, _ => rfl
    | 8, _ => rfl
    | n + 9, hi => exact absurd hi (by omega))]
theorem lr_6 {n l : Nat} (hO : wd_ok A n own ad) (hl : l < n) (i : Int32) : tk_aI (wd A f a xi xa lr wk mm o own ad lf la h0) 0 (ad l + 7) i = if i < 0 ∨ 40 ≤ i.toNatClampNeg then none else some (la l 6 i.toNatClampNeg) := by unfold tk_aI; rw [wd_la hO hl (j := 7) (by decide)]; rfl
theorem lw_a6 {n l : Nat} (hO : wd_ok A n own ad) (hl : l < n) (i x : Int32) : tk_sI (wd A f a xi xa lr wk mm o own ad lf la h0) 0 (ad l + 7) i x = if i < 0 ∨ 40 ≤ i.toNatClampNeg then none else some (wd A f a xi xa lr wk mm o own ad (va_up lf l (lf l)) (va_up la l (va_up (la l) 6 (upd (la l 6) i.toNatClampNeg x))) h0) := by
  unfold tk_sI
  rw [wd_la hO hl (j := 7) (by decide)]
  show (if 0 = 0 then (if i < 0 ∨ 40 ≤ i.toNatClampNeg then none else some (va_up (wd A f a xi xa lr wk mm o own ad lf la h0) (ad l + 7) _)) else none) = _
  rw [if_pos rfl, wd_lup (j := 7) hO hl (by decide) (e := .inr (0, 40, .inl (upd (la l 6) i.toNatClampNeg x))) (F := lf l) (L := va_up (la l) 6 (upd (la l 6) i.toNatClampNeg x)) (fun i9 hi => by
    match i9, hi with
    | 0, _ => rfl
    | 1, _ => rfl
    | 2, _ => rfl
    | 3, _ => rfl
    | 4, _ => rfl
    | 5, _ => rfl
    | 6, _ => rfl
    | 7, _ => rfl
    | 8, _ => rfl
    | n + 9, hi => exact absurd hi (by omega))]
theorem lr_7 {n l : Nat} (hO : wd_ok A n own ad) (hl : l < n) (i : Int32) : tk_aI (wd A f a xi xa lr wk mm o own ad lf la h0) 0 (ad l + 8) i = if i < 0 ∨ 40 ≤ i.toNatClampNeg then none else some (la l 7 i.toNatClampNeg) := by unfold tk_aI; rw [wd_la hO hl (j := 8) (by decide)]; rfl
theorem lw_a7 {n l : Nat} (hO : wd_ok A n own ad) (hl : l < n) (i x : Int32) : tk_sI (wd A f a xi xa lr wk mm o own ad lf la h0) 0 (ad l + 8) i x = if i < 0 ∨ 40 ≤ i.toNatClampNeg then none else some (wd A f a xi xa lr wk mm o own ad (va_up lf l (lf l)) (va_up la l (va_up (la l) 7 (upd (la l 7) i.toNatClampNeg x))) h0) := by
  unfold tk_sI
  rw [wd_la hO hl (j := 8) (by decide)]
  show (if 0 = 0 then (if i < 0 ∨ 40 ≤ i.toNatClampNeg then none else some (va_up (wd A f a xi xa lr wk mm o own ad lf la h0) (ad l + 8) _)) else none) = _
  rw [if_pos rfl, wd_lup (j := 8) hO hl (by decide) (e := .inr (0, 40, .inl (upd (la l 7) i.toNatClampNeg x))) (F := lf l) (L := va_up (la l) 7 (upd (la l 7) i.toNatClampNeg x)) (fun i9 hi => by
    match i9, hi with
    | 0, _ => rfl
    | 1, _ => rfl
    | 2, _ => rfl
    | 3, _ => rfl
    | 4, _ => rfl
    | 5, _ => rfl
    | 6, _ => rfl
    | 7, _ => rfl
    | 8, _ => rfl
    | n + 9, hi => exact absurd hi (by omega))]
theorem va_up_id {α : Type} (g : Nat → α) (k : Nat) : va_up g k (g k) = g := by
  funext j
  unfold va_up
  split
  · rename_i h; rw [h]
  · rfl
end WD
