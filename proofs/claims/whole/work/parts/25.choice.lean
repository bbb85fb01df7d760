/-! THE WEEK'S CHOICE, in numbers alone. A ring is (first, second, third or none). -/
def r_mem (r : Nat × Nat × Option Nat) : Nat := 2 ^ r.1 ||| 2 ^ r.2.1 ||| (match r.2.2 with | none => 0 | some c => 2 ^ c)
def r_three (r : Nat × Nat × Option Nat) : Nat := match r.2.2 with | none => 0 | some _ => 1
def r_wt (w : Nat → Nat) (r : Nat × Nat × Option Nat) : Nat := w r.1 + w r.2.1 + (match r.2.2 with | none => 0 | some c => w c)
def r_val (w : Nat → Nat) (r : Nat × Nat × Option Nat) : Nat := 8 * r_wt w r - r_three r
/-- a ring among k learners, its first the least -/
def r_ok (k : Nat) (r : Nat × Nat × Option Nat) : Prop := r.1 < r.2.1 ∧ r.2.1 < k ∧ ∀ c, r.2.2 = some c → r.1 < c ∧ c < k ∧ c ≠ r.2.1
def bsum (w : Nat → Nat) : Nat → Nat → Nat
  | 0, _ => 0
  | k + 1, s => bsum w k s + if s.testBit k = true then w k else 0
def dp_sub (m s : Nat) : Bool := decide (tk_wo m s = 0)
theorem sub_iff {m s : Nat} : dp_sub m s = true ↔ ∀ i, m.testBit i = true → s.testBit i = true := by
  unfold dp_sub
  rw [decide_eq_true_iff]
  constructor
  · intro h i hi
    have h1 := wo_bit m s i
    rw [h, Nat.zero_testBit, hi] at h1
    cases hs : s.testBit i
    · rw [hs] at h1; cases h1
    · rfl
  · intro h
    apply Nat.eq_of_testBit_eq
    intro i
    rw [wo_bit, Nat.zero_testBit]
    cases hm : m.testBit i
    · rfl
    · rw [h i hm]; rfl
theorem bsum_wo {w : Nat → Nat} {m s : Nat} (h : dp_sub m s = true) : ∀ k, bsum w k (tk_wo s m) + bsum w k m = bsum w k s := by
  rw [sub_iff] at h
  intro k
  induction k with
  | zero => rfl
  | succ k ih =>
    unfold bsum
    rw [← ih, wo_bit]
    have := h k
    cases hm : m.testBit k <;> cases hs : s.testBit k
    · simp
    · simp; omega
    · rw [hs] at this; exact absurd (this hm) (by decide)
    · simp; omega
theorem bsum_or {w : Nat → Nat} {x y : Nat} (h : ∀ i, x.testBit i = true → y.testBit i = false) : ∀ k, bsum w k (x ||| y) = bsum w k x + bsum w k y := by
  intro k
  induction k with
  | zero => rfl
  | succ k ih =>
    unfold bsum
    rw [ih, Nat.testBit_or]
    have := h k
    cases hx : x.testBit k <;> cases hy : y.testBit k <;> simp
    · omega
    · omega
    · rw [hy] at this; exact absurd (this hx) (by decide)
theorem pow_bit (i j : Nat) : (2 ^ i).testBit j = decide (i = j) := Nat.testBit_two_pow
theorem bsum_pow {w : Nat → Nat} {i : Nat} : ∀ k, bsum w k (2 ^ i) = if i < k then w i else 0 := by
  intro k
  induction k with
  | zero => rfl
  | succ k ih =>
    unfold bsum
    rw [ih, pow_bit]
    by_cases h1 : i < k
    · rw [if_pos h1, if_pos (by omega : i < k + 1), if_neg (by simp; omega)]; rfl
    · by_cases h2 : i = k
      · subst h2; simp
      · rw [if_neg h1, if_neg (by omega : ¬ i < k + 1), if_neg (by simp; omega)]
theorem bsum_zero {w : Nat → Nat} : ∀ k, bsum w k 0 = 0 := by
  intro k
  induction k with
  | zero => rfl
  | succ k ih => unfold bsum; rw [ih, Nat.zero_testBit]; rfl
theorem bsum_mem {w : Nat → Nat} {k : Nat} {r : Nat × Nat × Option Nat} (h : r_ok k r) : bsum w k (r_mem r) = r_wt w r := by
  obtain ⟨a, b, c⟩ := r
  obtain ⟨h1, h2, h3⟩ := h
  simp only at h1 h2 h3
  unfold r_mem r_wt
  have hab : ∀ i, (2 ^ a).testBit i = true → (2 ^ b).testBit i = false := by
    intro i hi; rw [pow_bit] at hi ⊢; simp at hi ⊢; omega
  cases c with
  | none => simp only [Nat.or_zero, Nat.add_zero]; rw [bsum_or hab, bsum_pow, bsum_pow, if_pos (by omega), if_pos (by omega)]
  | some c =>
    obtain ⟨h4, h5, h6⟩ := h3 c rfl
    simp only
    rw [bsum_or (by intro i hi; rw [Nat.testBit_or, pow_bit, pow_bit] at hi; rw [pow_bit]; simp at hi ⊢; omega), bsum_or hab, bsum_pow, bsum_pow, bsum_pow, if_pos (by omega), if_pos (by omega), if_pos h5]
/-- the least bit -/
def dp_low (s : Nat) : Nat := (tk_first (fun i => s.testBit i) 24 0).getD 0
theorem bits0 {s k : Nat} (hs : s < 2 ^ k) (h : ∀ i, i < k → s.testBit i = false) : s = 0 := by
  apply Nat.eq_of_testBit_eq
  intro i
  rw [Nat.zero_testBit]
  by_cases hi : i < k
  · exact h i hi
  · exact Nat.testBit_lt_two_pow (Nat.lt_of_lt_of_le hs (Nat.pow_le_pow_right (by decide) (by omega)))
theorem low_is {s k : Nat} (hk : k ≤ 24) (hs : s < 2 ^ k) (h0 : s ≠ 0) : s.testBit (dp_low s) = true ∧ dp_low s < k ∧ ∀ j, j < dp_low s → s.testBit j = false := by
  unfold dp_low
  cases e : tk_first (fun i => s.testBit i) 24 0 with
  | none => exact absurd (bits0 hs (fun i hi => first_none e i (by omega) (by omega))) h0
  | some h =>
    obtain ⟨e1, e2, e3, e4⟩ := first_some e
    simp only [Option.getD_some]
    refine ⟨e1, ?_, fun j hj => e4 j (by omega) hj⟩
    apply Nat.lt_of_not_le
    intro hkh
    rw [Nat.testBit_lt_two_pow (Nat.lt_of_lt_of_le hs (Nat.pow_le_pow_right (by decide) hkh))] at e1
    cases e1
theorem wo_less {s m i : Nat} (hm : m.testBit i = true) (hs : s.testBit i = true) : tk_wo s m < s := by
  have h2 : tk_wo s m ≤ s := by
    have e : tk_wo s m = s - (s &&& m) ∨ True := Or.inr trivial
    apply Nat.le_of_testBit
    intro j hj
    rw [wo_bit] at hj
    cases hsj : s.testBit j
    · rw [hsj] at hj; cases hj
    · rfl
  have h3 : tk_wo s m ≠ s := by
    intro e
    have h := wo_bit s m i
    rw [e, hm, hs] at h
    cases h
  omega
theorem mem_a (r : Nat × Nat × Option Nat) : (r_mem r).testBit r.1 = true := by
  unfold r_mem; rw [Nat.testBit_or, Nat.testBit_or, pow_bit]; simp
theorem wo_mem_less {s : Nat} {r : Nat × Nat × Option Nat} (h : dp_sub (r_mem r) s = true) : tk_wo s (r_mem r) < s := wo_less (mem_a r) (sub_iff.mp h r.1 (mem_a r))
theorem wo_low_less {s k : Nat} (hk : k ≤ 24) (hs : s < 2 ^ k) (h0 : s ≠ 0) : tk_wo s (2 ^ dp_low s) < s := wo_less (i := dp_low s) (by rw [pow_bit]; simp) (low_is hk hs h0).1
theorem low_sub {s k : Nat} (hk : k ≤ 24) (hs : s < 2 ^ k) (h0 : s ≠ 0) : dp_sub (2 ^ dp_low s) s = true := by
  rw [sub_iff]; intro i hi; rw [pow_bit] at hi; simp at hi; subst hi; exact (low_is hk hs h0).1
/-! the worth of a set -/
def dp_fold (w : Nat → Nat) (V : Nat → Nat) (s : Nat) (l : List (Nat × Nat × Option Nat)) (v : Nat) : Nat :=
  l.foldl (fun v r => if dp_sub (r_mem r) s = true then max v (r_val w r + V (tk_wo s (r_mem r))) else v) v
def dp_rec (M : Nat → List (Nat × Nat × Option Nat)) (w : Nat → Nat) (V : Nat → Nat) (s : Nat) : Nat := dp_fold w V s (M (dp_low s)) (V (tk_wo s (2 ^ dp_low s)))
def dp_T (M : Nat → List (Nat × Nat × Option Nat)) (w : Nat → Nat) : Nat → Nat → Nat
  | 0 => fun _ => 0
  | k + 1 => fun s => if s = k + 1 then dp_rec M w (dp_T M w k) (k + 1) else dp_T M w k s
def dp_V (M : Nat → List (Nat × Nat × Option Nat)) (w : Nat → Nat) (s : Nat) : Nat := dp_T M w s s
theorem T_V (M : Nat → List (Nat × Nat × Option Nat)) (w : Nat → Nat) : ∀ k s, s ≤ k → dp_T M w k s = dp_V M w s := by
  intro k
  induction k with
  | zero => intro s hs; have : s = 0 := by omega
            subst this; rfl
  | succ k ih =>
    intro s hs
    by_cases e : s = k + 1
    · subst e; rfl
    · rw [← ih s (by omega)]; show (if s = k + 1 then _ else _) = _; rw [if_neg e]
theorem fold_congr {w V V' : Nat → Nat} {s : Nat} (h : ∀ t, t < s → V t = V' t) : ∀ l v, dp_fold w V s l v = dp_fold w V' s l v := by
  intro l
  induction l with
  | nil => intro v; rfl
  | cons r l ih =>
    intro v
    unfold dp_fold at ih ⊢
    rw [List.foldl_cons, List.foldl_cons]
    by_cases e : dp_sub (r_mem r) s = true
    · rw [if_pos e, if_pos e, h _ (wo_mem_less e)]; exact ih _
    · rw [if_neg e, if_neg e]; exact ih _
theorem V_eq (M : Nat → List (Nat × Nat × Option Nat)) (w : Nat → Nat) {s k : Nat} (hk : k ≤ 24) (hs : s < 2 ^ k) (h0 : s ≠ 0) : dp_V M w s = dp_rec M w (dp_V M w) s := by
  obtain ⟨t, rfl⟩ : ∃ t, s = t + 1 := ⟨s - 1, by omega⟩
  have e : dp_V M w (t + 1) = dp_rec M w (dp_T M w t) (t + 1) := by
    unfold dp_V; show (if _ then _ else _) = _; rw [if_pos rfl]
  rw [e]
  unfold dp_rec
  rw [T_V M w t _ (by have := wo_low_less hk hs h0; omega)]
  exact fold_congr (fun u hu => T_V M w t u (by omega)) _ _
theorem fold_ge {w V : Nat → Nat} {s : Nat} : ∀ l v, v ≤ dp_fold w V s l v ∧ ∀ r, r ∈ l → dp_sub (r_mem r) s = true → r_val w r + V (tk_wo s (r_mem r)) ≤ dp_fold w V s l v := by
  intro l
  induction l with
  | nil => intro v; exact ⟨Nat.le_refl _, fun r hr => by cases hr⟩
  | cons r l ih =>
    intro v
    unfold dp_fold at ih ⊢
    rw [List.foldl_cons]
    by_cases e : dp_sub (r_mem r) s = true
    · rw [if_pos e]
      obtain ⟨i1, i2⟩ := ih (max v (r_val w r + V (tk_wo s (r_mem r))))
      refine ⟨by omega, fun q hq hs => ?_⟩
      rcases List.mem_cons.mp hq with rfl | hq
      · omega
      · exact i2 q hq hs
    · rw [if_neg e]
      obtain ⟨i1, i2⟩ := ih v
      refine ⟨i1, fun q hq hs => ?_⟩
      rcases List.mem_cons.mp hq with rfl | hq
      · exact absurd hs e
      · exact i2 q hq hs
theorem fold_is {w V : Nat → Nat} {s : Nat} : ∀ l v, dp_fold w V s l v = v ∨ ∃ r, r ∈ l ∧ dp_sub (r_mem r) s = true ∧ dp_fold w V s l v = r_val w r + V (tk_wo s (r_mem r)) := by
  intro l
  induction l with
  | nil => intro v; exact Or.inl rfl
  | cons r l ih =>
    intro v
    unfold dp_fold at ih ⊢
    rw [List.foldl_cons]
    by_cases e : dp_sub (r_mem r) s = true
    · rw [if_pos e]
      rcases ih (max v (r_val w r + V (tk_wo s (r_mem r)))) with h | ⟨q, h1, h2, h3⟩
      · rw [h]
        rcases Nat.le_total v (r_val w r + V (tk_wo s (r_mem r))) with h4 | h4
        · exact Or.inr ⟨r, List.mem_cons_self, e, Nat.max_eq_right h4⟩
        · exact Or.inl (Nat.max_eq_left h4)
      · exact Or.inr ⟨q, List.mem_cons_of_mem _ h1, h2, h3⟩
    · rw [if_neg e]
      rcases ih v with h | ⟨q, h1, h2, h3⟩
      · exact Or.inl h
      · exact Or.inr ⟨q, List.mem_cons_of_mem _ h1, h2, h3⟩
def pc (k s : Nat) : Nat := bsum (fun _ => 1) k s
theorem bsum_le {w : Nat → Nat} : ∀ k s, bsum w k s ≤ bsum w k s := fun _ _ => Nat.le_refl _
theorem pc_le : ∀ k s, pc k s ≤ k := by
  intro k s
  unfold pc
  induction k with
  | zero => exact Nat.le_refl _
  | succ k ih => unfold bsum; split <;> omega
theorem wt_three {r : Nat × Nat × Option Nat} : r_wt (fun _ => 1) r = 2 + r_three r := by
  obtain ⟨a, b, c⟩ := r
  unfold r_wt r_three
  cases c <;> rfl
theorem pc_mem {k : Nat} {r : Nat × Nat × Option Nat} (h : r_ok k r) : pc k (r_mem r) = 2 + r_three r := by
  unfold pc; rw [bsum_mem h, wt_three]
theorem three_le (r : Nat × Nat × Option Nat) : r_three r ≤ 1 := by
  unfold r_three; split <;> omega
/-- nothing beats the whole weight, and an odd number costs one -/
theorem V_most {M : Nat → List (Nat × Nat × Option Nat)} {w : Nat → Nat} {k : Nat} (hk : k ≤ 24) (hw : ∀ i, 1 ≤ w i) (hM : ∀ a r, r ∈ M a → r_ok k r) : ∀ s, s < 2 ^ k → dp_V M w s + pc k s % 2 ≤ 8 * bsum w k s := by
  intro s
  induction s using Nat.strongRecOn with
  | ind s ih =>
    intro hs
    by_cases h0 : s = 0
    · subst h0; unfold pc; rw [bsum_zero, bsum_zero]; exact Nat.le_refl _
    · rw [V_eq M w hk hs h0]
      unfold dp_rec
      rcases fold_is (w := w) (V := dp_V M w) (s := s) (M (dp_low s)) (dp_V M w (tk_wo s (2 ^ dp_low s))) with h | ⟨r, h1, h2, h3⟩
      · rw [h]
        have i1 := ih _ (wo_low_less hk hs h0) (wo_lt hs)
        have i2 := bsum_wo (w := w) (low_sub hk hs h0) k
        rw [bsum_pow, if_pos (low_is hk hs h0).2.1] at i2
        have := hw (dp_low s)
        omega
      · rw [h3]
        have i1 := ih _ (wo_mem_less h2) (wo_lt hs)
        have i2 := bsum_wo (w := w) h2 k
        have i3 := bsum_wo (w := fun _ => 1) h2 k
        have i4 := bsum_mem (w := w) (hM _ r h1)
        have i5 := pc_mem (hM _ r h1)
        unfold pc at i1 i5 ⊢
        unfold r_val
        have := three_le r
        have : 1 ≤ r_wt w r := by
          unfold r_wt; have := hw r.1; omega
        omega
/-- what the planner needs of the worth -/
theorem V_none {M : Nat → List (Nat × Nat × Option Nat)} {w : Nat → Nat} {s k : Nat} (hk : k ≤ 24) (hs : s < 2 ^ k) (h0 : s ≠ 0) : dp_V M w (tk_wo s (2 ^ dp_low s)) ≤ dp_V M w s := by
  rw [V_eq M w hk hs h0]; exact (fold_ge _ _).1
theorem V_ring {M : Nat → List (Nat × Nat × Option Nat)} {w : Nat → Nat} {s k : Nat} (hk : k ≤ 24) (hs : s < 2 ^ k) (h0 : s ≠ 0) {r : Nat × Nat × Option Nat} (hr : r ∈ M (dp_low s)) (h : dp_sub (r_mem r) s = true) : r_val w r + dp_V M w (tk_wo s (r_mem r)) ≤ dp_V M w s := by
  rw [V_eq M w hk hs h0]; exact (fold_ge _ _).2 r hr h
theorem V_is {M : Nat → List (Nat × Nat × Option Nat)} {w : Nat → Nat} {s k : Nat} (hk : k ≤ 24) (hs : s < 2 ^ k) (h0 : s ≠ 0) : dp_V M w s = dp_V M w (tk_wo s (2 ^ dp_low s)) ∨ ∃ r, r ∈ M (dp_low s) ∧ dp_sub (r_mem r) s = true ∧ dp_V M w s = r_val w r + dp_V M w (tk_wo s (r_mem r)) := by
  rw [V_eq M w hk hs h0]; exact fold_is _ _
/-- which rings are best for a set, and the first of them -/
def dp_best (M : Nat → List (Nat × Nat × Option Nat)) (w : Nat → Nat) (s : Nat) (r : Nat × Nat × Option Nat) : Bool := dp_sub (r_mem r) s && decide (r_val w r + dp_V M w (tk_wo s (r_mem r)) = dp_V M w s)
def dp_pick (M : Nat → List (Nat × Nat × Option Nat)) (w : Nat → Nat) (s : Nat) : Option (Nat × Nat × Option Nat) := (M (dp_low s)).find? (dp_best M w s)
def dp_next (s : Nat) (r : Option (Nat × Nat × Option Nat)) : Nat := match r with | none => tk_wo s (2 ^ dp_low s) | some r => tk_wo s (r_mem r)
def dp_chain (M : Nat → List (Nat × Nat × Option Nat)) (w : Nat → Nat) : Nat → Nat → List (Nat × Nat × Option Nat)
  | 0, _ => []
  | d + 1, s => if s = 0 then [] else (dp_pick M w s).toList ++ dp_chain M w d (dp_next s (dp_pick M w s))

/-! the rings in their order; `ok` says which triples are rings -/
def dp_c (ok : Nat × Nat × Option Nat → Bool) (a b : Nat) : Nat → Nat → List (Nat × Nat × Option Nat)
  | 0, _ => []
  | d + 1, c => (if ok (a, b, some c) = true then [(a, b, some c)] else []) ++ dp_c ok a b d (c + 1)
def dp_b (ok : Nat × Nat × Option Nat → Bool) (a n : Nat) : Nat → Nat → List (Nat × Nat × Option Nat)
  | 0, _ => []
  | d + 1, b => (if ok (a, b, none) = true then [(a, b, none)] else []) ++ (dp_c ok a b (n - (a + 1)) (a + 1) ++ dp_b ok a n d (b + 1))
def dp_M (ok : Nat × Nat × Option Nat → Bool) (n a : Nat) : List (Nat × Nat × Option Nat) := dp_b ok a n (n - (a + 1)) (a + 1)
theorem mem_ite {α : Type} {p : Bool} {x r : α} : r ∈ (if p = true then [x] else []) ↔ p = true ∧ r = x := by
  split
  · rename_i h; simp [h]
  · rename_i h; simp [h]
theorem mem_c {ok : Nat × Nat × Option Nat → Bool} {a b : Nat} {r : Nat × Nat × Option Nat} : ∀ d c, r ∈ dp_c ok a b d c ↔ ∃ j, c ≤ j ∧ j < c + d ∧ r = (a, b, some j) ∧ ok r = true := by
  intro d
  induction d with
  | zero => intro c; constructor
            · intro h; cases h
            · rintro ⟨j, h1, h2, -⟩; omega
  | succ d ih =>
    intro c
    unfold dp_c
    rw [List.mem_append, mem_ite, ih]
    constructor
    · rintro (⟨h1, h2⟩ | ⟨j, h1, h2, h3, h4⟩)
      · exact ⟨c, Nat.le_refl _, by omega, h2, by rw [h2]; exact h1⟩
      · exact ⟨j, by omega, by omega, h3, h4⟩
    · rintro ⟨j, h1, h2, h3, h4⟩
      by_cases e : j = c
      · subst e; rw [h3] at h4; exact Or.inl ⟨h4, h3⟩
      · exact Or.inr ⟨j, by omega, by omega, h3, h4⟩
theorem mem_b {ok : Nat × Nat × Option Nat → Bool} {a n : Nat} {r : Nat × Nat × Option Nat} : ∀ d b, r ∈ dp_b ok a n d b ↔ (r.1 = a ∧ b ≤ r.2.1 ∧ r.2.1 < b + d ∧ (∀ c, r.2.2 = some c → a < c ∧ c < n) ∧ ok r = true) := by
  intro d
  induction d with
  | zero => intro b; constructor
            · intro h; cases h
            · rintro ⟨h1, h2, h3, -⟩; omega
  | succ d ih =>
    intro b
    unfold dp_b
    rw [List.mem_append, List.mem_append, mem_ite, ih, mem_c]
    obtain ⟨r1, r2, r3⟩ := r
    simp only
    constructor
    · rintro (⟨h1, h2⟩ | ⟨j, h1, h2, h3, h4⟩ | ⟨h1, h2, h3, h4, h5⟩)
      · cases h2; exact ⟨rfl, by omega, by omega, (fun c hc => by cases hc), h1⟩
      · cases h3; exact ⟨rfl, by omega, by omega, fun c hc => by cases hc; omega, h4⟩
      · exact ⟨h1, by omega, by omega, h4, h5⟩
    · rintro ⟨h1, h2, h3, h4, h5⟩
      subst h1
      by_cases e : r2 = b
      · subst e
        cases r3 with
        | none => exact Or.inl ⟨h5, rfl⟩
        | some c =>
          have := h4 c rfl
          exact Or.inr (Or.inl ⟨c, by omega, by omega, rfl, h5⟩)
      · exact Or.inr (Or.inr ⟨rfl, by omega, by omega, h4, h5⟩)
theorem mem_M {ok : Nat × Nat × Option Nat → Bool} {n a : Nat} {r : Nat × Nat × Option Nat} : r ∈ dp_M ok n a ↔ (r.1 = a ∧ a < r.2.1 ∧ r.2.1 < n ∧ (∀ c, r.2.2 = some c → a < c ∧ c < n) ∧ ok r = true) := by
  unfold dp_M
  rw [mem_b]
  constructor
  · rintro ⟨h1, h2, h3, h4, h5⟩; exact ⟨h1, by omega, by omega, h4, h5⟩
  · rintro ⟨h1, h2, h3, h4, h5⟩; exact ⟨h1, by omega, by omega, h4, h5⟩
/-- the order of a row -/
def r_lt (r q : Nat × Nat × Option Nat) : Prop := r.2.1 < q.2.1 ∨ (r.2.1 = q.2.1 ∧ match r.2.2, q.2.2 with | _, none => False | none, some _ => True | some c, some d => c < d)
theorem sort_c {ok : Nat × Nat × Option Nat → Bool} {a b : Nat} : ∀ d c, (dp_c ok a b d c).Pairwise r_lt := by
  intro d
  induction d with
  | zero => intro c; exact List.Pairwise.nil
  | succ d ih =>
    intro c
    unfold dp_c
    rw [List.pairwise_append]
    refine ⟨by split <;> simp, ih _, fun x hx y hy => ?_⟩
    rw [mem_ite] at hx
    obtain ⟨-, rfl⟩ := hx
    obtain ⟨j, h1, h2, rfl, -⟩ := (mem_c _ _).mp hy
    exact Or.inr ⟨rfl, (by omega : c < j)⟩
theorem sort_b {ok : Nat × Nat × Option Nat → Bool} {a n : Nat} : ∀ d b, (dp_b ok a n d b).Pairwise r_lt := by
  intro d
  induction d with
  | zero => intro b; exact List.Pairwise.nil
  | succ d ih =>
    intro b
    unfold dp_b
    rw [List.pairwise_append, List.pairwise_append]
    refine ⟨by split <;> simp, ⟨sort_c _ _, ih _, fun x hx y hy => ?_⟩, fun x hx y hy => ?_⟩
    · obtain ⟨j, h1, h2, rfl, -⟩ := (mem_c _ _).mp hx
      obtain ⟨h3, h4, -⟩ := (mem_b _ _).mp hy
      exact Or.inl (by omega : b < y.2.1)
    · rw [mem_ite] at hx
      obtain ⟨-, rfl⟩ := hx
      rcases List.mem_append.mp hy with hy | hy
      · obtain ⟨j, h1, h2, rfl, -⟩ := (mem_c _ _).mp hy
        exact Or.inr ⟨rfl, trivial⟩
      · obtain ⟨h3, h4, -⟩ := (mem_b _ _).mp hy
        exact Or.inl (by omega : b < y.2.1)
/-- the rings that the class keeps: of two rows of one triple the first -/
def r_flip (r : Nat × Nat × Option Nat) : Nat × Nat × Option Nat := match r.2.2 with | none => r | some c => (r.1, c, some r.2.1)
def r_keep (ok : Nat × Nat × Option Nat → Bool) (r : Nat × Nat × Option Nat) : Bool := match r.2.2 with | none => true | some c => !(decide (c < r.2.1) && ok (r.1, c, some r.2.1))
def dp_ok (ok : Nat × Nat × Option Nat → Bool) (r : Nat × Nat × Option Nat) : Bool := ok r && r_keep ok r
theorem filt_ite {α : Type} {p q : Bool} {f : α → Bool} {x : α} (h : q = (p && f x)) : (if q = true then [x] else []) = (if p = true then [x] else []).filter f := by
  subst h
  cases p <;> cases hf : f x <;> simp [hf]
theorem filt_c {ok : Nat × Nat × Option Nat → Bool} {a b : Nat} : ∀ d c, dp_c (dp_ok ok) a b d c = (dp_c ok a b d c).filter (r_keep ok) := by
  intro d
  induction d with
  | zero => intro c; rfl
  | succ d ih =>
    intro c
    unfold dp_c
    rw [List.filter_append, ih, ← filt_ite rfl]; rfl
theorem filt_b {ok : Nat × Nat × Option Nat → Bool} {a n : Nat} : ∀ d b, dp_b (dp_ok ok) a n d b = (dp_b ok a n d b).filter (r_keep ok) := by
  intro d
  induction d with
  | zero => intro c; rfl
  | succ d ih =>
    intro b
    unfold dp_b
    rw [List.filter_append, List.filter_append, ih, filt_c, ← filt_ite rfl]; rfl
theorem mem_flip (r : Nat × Nat × Option Nat) : r_mem (r_flip r) = r_mem r := by
  obtain ⟨a, b, c⟩ := r
  cases c with
  | none => rfl
  | some c => unfold r_mem r_flip; simp only; rw [Nat.or_assoc, Nat.or_assoc, Nat.or_comm (2 ^ c)]
theorem val_flip (w : Nat → Nat) (r : Nat × Nat × Option Nat) : r_val w (r_flip r) = r_val w r := by
  obtain ⟨a, b, c⟩ := r
  cases c with
  | none => rfl
  | some c => unfold r_val r_wt r_flip r_three; simp only; omega
theorem flip_in {ok : Nat × Nat × Option Nat → Bool} {n a : Nat} {r : Nat × Nat × Option Nat} (hr : r ∈ dp_M ok n a) (hk : r_keep ok r = false) : r_flip r ∈ dp_M ok n a ∧ r_keep ok (r_flip r) = true ∧ r_lt (r_flip r) r := by
  obtain ⟨r1, r2, r3⟩ := r
  rw [mem_M] at hr
  obtain ⟨h1, h2, h3, h4, h5⟩ := hr
  simp only at h1 h2 h3 h4
  subst h1
  cases r3 with
  | none => cases hk
  | some c =>
    unfold r_keep at hk
    simp only [Bool.not_eq_false', Bool.and_eq_true, decide_eq_true_iff] at hk
    have h6 := h4 c rfl
    unfold r_flip
    refine ⟨mem_M.mpr ⟨rfl, h6.1, h6.2, fun d hd => by cases hd; exact ⟨h2, h3⟩, hk.2⟩, ?_, Or.inl hk.1⟩
    unfold r_keep
    simp only [Bool.not_eq_true', Bool.and_eq_false_iff, decide_eq_false_iff_not]
    exact Or.inl (by omega)
theorem find_keep {α : Type} {lt : α → α → Prop} {P K : α → Bool} {l : List α} (hs : l.Pairwise lt) (hirr : ∀ x y, lt x y → lt y x → False) (hd : ∀ x, x ∈ l → K x = false → ∃ y, y ∈ l ∧ lt y x ∧ P y = P x) : (l.filter K).find? P = l.find? P := by
  cases e : l.find? P with
  | none =>
    rw [List.find?_eq_none] at e ⊢
    intro x hx
    exact e x (List.mem_filter.mp hx).1
  | some r =>
    rw [List.find?_eq_some_iff_append] at e
    obtain ⟨hp, as, bs, rfl, ha⟩ := e
    cases hk : K r with
    | true =>
      rw [List.find?_eq_some_iff_append]
      refine ⟨hp, as.filter K, bs.filter K, ?_, fun x hx => ha x (List.mem_filter.mp hx).1⟩
      rw [List.filter_append, List.filter_cons_of_pos hk]
    | false =>
      obtain ⟨y, h1, h2, h3⟩ := hd r (by simp) hk
      rw [hp] at h3
      rw [List.pairwise_append] at hs
      obtain ⟨-, s2, -⟩ := hs
      rcases List.mem_append.mp h1 with h4 | h4
      · have := ha y h4; rw [h3] at this; cases this
      · rcases List.mem_cons.mp h4 with rfl | h4
        · exact (hirr _ _ h2 h2).elim
        · exact (hirr _ _ h2 ((List.pairwise_cons.mp s2).1 y h4)).elim
theorem lt_irr (x y : Nat × Nat × Option Nat) : r_lt x y → r_lt y x → False := by
  obtain ⟨x1, x2, x3⟩ := x
  obtain ⟨y1, y2, y3⟩ := y
  unfold r_lt
  cases x3 <;> cases y3 <;> simp <;> omega
/-- the class finds what the reference finds -/
theorem pick_keep {ok : Nat × Nat × Option Nat → Bool} {n s : Nat} {w : Nat → Nat} : (dp_M (dp_ok ok) n (dp_low s)).find? (dp_best (dp_M ok n) w s) = dp_pick (dp_M ok n) w s := by
  unfold dp_pick
  have e : dp_M (dp_ok ok) n (dp_low s) = (dp_M ok n (dp_low s)).filter (r_keep ok) := filt_b _ _
  rw [e]
  refine find_keep (lt := r_lt) (sort_b _ _) lt_irr (fun x hx hk => ?_)
  obtain ⟨h1, h2, h3⟩ := flip_in hx hk
  refine ⟨_, h1, h3, ?_⟩
  unfold dp_best
  rw [mem_flip, val_flip]
theorem V_is_keep {ok : Nat × Nat × Option Nat → Bool} {w : Nat → Nat} {s k n : Nat} (hk : k ≤ 24) (hs : s < 2 ^ k) (h0 : s ≠ 0) : dp_V (dp_M ok n) w s = dp_V (dp_M ok n) w (tk_wo s (2 ^ dp_low s)) ∨ ∃ r, r ∈ dp_M (dp_ok ok) n (dp_low s) ∧ dp_sub (r_mem r) s = true ∧ dp_V (dp_M ok n) w s = r_val w r + dp_V (dp_M ok n) w (tk_wo s (r_mem r)) := by
  have e : dp_M (dp_ok ok) n (dp_low s) = (dp_M ok n (dp_low s)).filter (r_keep ok) := filt_b _ _
  rcases V_is (M := dp_M ok n) (w := w) hk hs h0 with h | ⟨r, h1, h2, h3⟩
  · exact Or.inl h
  · refine Or.inr ?_
    cases hkp : r_keep ok r with
    | true => exact ⟨r, by rw [e]; exact List.mem_filter.mpr ⟨h1, hkp⟩, h2, h3⟩
    | false =>
      obtain ⟨f1, f2, f3⟩ := flip_in h1 hkp
      refine ⟨r_flip r, by rw [e]; exact List.mem_filter.mpr ⟨f1, f2⟩, ?_, ?_⟩
      · rw [mem_flip]; exact h2
      · rw [mem_flip, val_flip]; exact h3
/-! how many rings are kept -/
def nsum (g : Nat → Nat) : Nat → Nat → Nat
  | 0, _ => 0
  | d + 1, c => g c + nsum g d (c + 1)
theorem nsum_add (g g' : Nat → Nat) : ∀ d c, nsum (fun i => g i + g' i) d c = nsum g d c + nsum g' d c := by
  intro d
  induction d with
  | zero => intro c; rfl
  | succ d ih => intro c; unfold nsum; rw [ih]; omega
theorem nsum_le {g : Nat → Nat} {K : Nat} : ∀ d c, (∀ i, c ≤ i → i < c + d → g i ≤ K) → nsum g d c ≤ d * K := by
  intro d
  induction d with
  | zero => intro c _; exact Nat.zero_le _
  | succ d ih =>
    intro c h
    unfold nsum
    have h1 := h c (by omega) (by omega)
    have h2 := ih (c + 1) (fun i hi hj => h i (by omega) (by omega))
    rw [Nat.succ_mul]; omega
theorem nsum_congr {g g' : Nat → Nat} : ∀ d c, (∀ i, c ≤ i → i < c + d → g i = g' i) → nsum g d c = nsum g' d c := by
  intro d
  induction d with
  | zero => intro c _; rfl
  | succ d ih =>
    intro c h
    unfold nsum
    rw [h c (by omega) (by omega), ih (c + 1) (fun i hi hj => h i (by omega) (by omega))]
theorem square {x : Nat → Nat → Nat} (h0 : ∀ i, x i i = 0) (h1 : ∀ i j, i ≠ j → x i j + x j i ≤ 1) : ∀ m lo, 2 * nsum (fun i => nsum (fun j => x i j) m lo) m lo ≤ m * (m - 1) := by
  intro m
  induction m with
  | zero => intro lo; exact Nat.le_refl _
  | succ m ih =>
    intro lo
    have e : nsum (fun i => nsum (fun j => x i j) (m + 1) lo) (m + 1) lo = nsum (fun i => x lo i + x i lo) m (lo + 1) + nsum (fun i => nsum (fun j => x i j) m (lo + 1)) m (lo + 1) := by
      rw [nsum_add]
      show (x lo lo + nsum (fun j => x lo j) m (lo + 1)) + nsum (fun i => x i lo + nsum (fun j => x i j) m (lo + 1)) m (lo + 1) = _
      rw [nsum_add, h0, Nat.zero_add]
      have e0 : (fun j => x lo j) = x lo := rfl
      rw [e0]; omega
    rw [e]
    have i1 := ih (lo + 1)
    have i2 : nsum (fun i => x lo i + x i lo) m (lo + 1) ≤ m * 1 := nsum_le m (lo + 1) (fun i hi hj => h1 lo i (by omega))
    have e2 : (m + 1) * (m + 1 - 1) = m * (m - 1) + 2 * m := by
      cases m with
      | zero => rfl
      | succ q => simp only [Nat.add_sub_cancel]; rw [Nat.succ_mul, Nat.mul_succ]; omega
    rw [e2]
    omega
theorem len_ite {α : Type} {p : Bool} {x : α} : (if p = true then [x] else []).length = if p = true then 1 else 0 := by split <;> rfl
theorem len_c {ok : Nat × Nat × Option Nat → Bool} {a b : Nat} : ∀ d c, (dp_c ok a b d c).length = nsum (fun c => if ok (a, b, some c) = true then 1 else 0) d c := by
  intro d
  induction d with
  | zero => intro c; rfl
  | succ d ih => intro c; unfold dp_c nsum; rw [List.length_append, ih, len_ite]
theorem len_b {ok : Nat × Nat × Option Nat → Bool} {a n : Nat} : ∀ d b, (dp_b ok a n d b).length ≤ d + nsum (fun b => nsum (fun c => if ok (a, b, some c) = true then 1 else 0) (n - (a + 1)) (a + 1)) d b := by
  intro d
  induction d with
  | zero => intro c; exact Nat.le_refl _
  | succ d ih =>
    intro b
    unfold dp_b nsum
    rw [List.length_append, List.length_append, len_c, len_ite]
    have := ih (b + 1)
    split <;> omega
theorem len_M {ok : Nat × Nat × Option Nat → Bool} {n a : Nat} (h0 : ∀ i, ok (a, i, some i) = false) : 2 * (dp_M (dp_ok ok) n a).length ≤ (n - (a + 1)) * (n - (a + 1) + 1) := by
  have h := len_b (ok := dp_ok ok) (a := a) (n := n) (n - (a + 1)) (a + 1)
  have h2 := square (x := fun b c => if dp_ok ok (a, b, some c) = true then 1 else 0) (fun i => by unfold dp_ok; rw [h0]; rfl) (fun i j hij => by
    have e : ∀ b c, dp_ok ok (a, b, some c) = (ok (a, b, some c) && !(decide (c < b) && ok (a, c, some b))) := fun _ _ => rfl
    simp only [e]
    rcases Nat.lt_or_gt_of_ne hij with h | h
    · have h' : ¬ j < i := by omega
      cases ok (a, i, some j) <;> cases ok (a, j, some i) <;> simp [h, h']
    · have h' : ¬ i < j := by omega
      cases ok (a, i, some j) <;> cases ok (a, j, some i) <;> simp [h, h']) (n - (a + 1)) (a + 1)
  unfold dp_M
  have e : (n - (a + 1)) * (n - (a + 1) + 1) = (n - (a + 1)) * (n - (a + 1) - 1) + 2 * (n - (a + 1)) := by
    cases n - (a + 1) with
    | zero => rfl
    | succ q => simp only [Nat.add_sub_cancel]; rw [Nat.mul_succ (q + 1) (q + 1), Nat.mul_succ (q + 1) q]; omega
  rw [e]
  omega
/-- all the rows, one first learner after the other -/
def dp_all (ok : Nat × Nat × Option Nat → Bool) (n : Nat) : Nat → Nat → List (Nat × Nat × Option Nat)
  | 0, _ => []
  | d + 1, a => dp_M ok n a ++ dp_all ok n d (a + 1)
def tetra : Nat → Nat
  | 0 => 0
  | d + 1 => d * (d + 1) + tetra d
theorem len_all {ok : Nat × Nat × Option Nat → Bool} {n : Nat} (h0 : ∀ a i, ok (a, i, some i) = false) : ∀ d a, a + d = n → 2 * (dp_all (dp_ok ok) n d a).length ≤ tetra d := by
  intro d
  induction d with
  | zero => intro a _; exact Nat.le_refl _
  | succ d ih =>
    intro a ha
    unfold dp_all tetra
    rw [List.length_append]
    have h1 := len_M (ok := ok) (n := n) (a := a) (fun i => h0 a i)
    have h2 := ih (a + 1) (by omega)
    rw [show n - (a + 1) = d by omega] at h1
    omega
theorem tetra_le {d : Nat} (h : d ≤ 14) : tetra d ≤ 910 := by
  have : ∀ d, d < 15 → tetra d ≤ 910 := by decide
  exact this d (by omega)
theorem all_455 {ok : Nat × Nat × Option Nat → Bool} {n : Nat} (hn : n ≤ 14) (h0 : ∀ a i, ok (a, i, some i) = false) : (dp_all (dp_ok ok) n n 0).length ≤ 455 := by
  have h1 := len_all (n := n) h0 n 0 (by omega)
  have h2 := tetra_le hn
  omega

/-! bits of an int -/
def ibit (x : Int32) (i : Nat) : Bool := x.toBitVec.getLsbD i
theorem ib_get {x : Int32} {i : Nat} (hi : i < 32) : (x >>> (Int32.ofNat i &&& 31)) &&& 1 = if ibit x i = true then 1 else 0 := by
  rw [← Int32.toBitVec_inj]
  have e : ((x >>> (Int32.ofNat i &&& 31)) &&& 1).toBitVec = (x.toBitVec.sshiftRight i) &&& 1#32 := by
    rw [Int32.toBitVec_and, Int32.toBitVec_shiftRight, tb_i hi]
    have : (BitVec.ofNat 32 i).toNat = i := by rw [BitVec.toNat_ofNat]; exact Nat.mod_eq_of_lt (by omega)
    show (x.toBitVec.sshiftRight' (BitVec.ofNat 32 i)) &&& 1#32 = _
    unfold BitVec.sshiftRight'
    rw [this]
  rw [e]
  apply BitVec.eq_of_getLsbD_eq
  intro j hj
  rw [BitVec.getLsbD_and, BitVec.getLsbD_sshiftRight]
  unfold ibit
  cases j with
  | zero =>
    have h1 : ¬ (32 ≤ 0) := by decide
    simp only [h1, decide_false, Bool.not_false, Bool.true_and, Nat.add_zero]
    rw [if_pos hi]
    cases x.toBitVec.getLsbD i <;> decide
  | succ j =>
    have h1 : (1#32).getLsbD (j + 1) = false := by
      rw [BitVec.getLsbD_one]; simp
    rw [h1, Bool.and_false]
    split
    · exact h1.symm
    · exact (BitVec.getLsbD_zero).symm
theorem ib_pow {i j : Nat} (hi : i < 32) (hj : j < 32) : ((1 : Int32) <<< (Int32.ofNat i &&& 31)).toBitVec.getLsbD j = decide (i = j) := by
  have h : ∀ i, i < 32 → ∀ j, j < 32 → ((1 : Int32) <<< (Int32.ofNat i &&& 31)).toBitVec.getLsbD j = decide (i = j) := by decide +kernel
  exact h i hi j hj
theorem ib_set {x : Int32} {i j : Nat} (hi : i < 32) (hj : j < 32) : ibit (x ||| (1 <<< (Int32.ofNat i &&& 31))) j = (ibit x j || decide (i = j)) := by
  unfold ibit
  rw [Int32.toBitVec_or, BitVec.getLsbD_or, ib_pow hi hj]
theorem ib_clr {x : Int32} {i j : Nat} (hi : i < 32) (hj : j < 32) : ibit (x &&& ((1 <<< (Int32.ofNat i &&& 31)) ^^^ (-1))) j = (ibit x j && !decide (i = j)) := by
  unfold ibit
  rw [Int32.toBitVec_and, BitVec.getLsbD_and, Int32.toBitVec_xor, BitVec.getLsbD_xor, ib_pow hi hj]
  have : (Int32.toBitVec (-1)).getLsbD j = true := by
    have h : ∀ j, j < 32 → (Int32.toBitVec (-1)).getLsbD j = true := by decide
    exact h j hj
  rw [this, Bool.xor_true]
theorem ib_nat {v i : Nat} (hi : i < 32) : ibit (Int32.ofNat v) i = v.testBit i := by
  unfold ibit
  rw [tb_of, BitVec.getLsbD_ofNat]
  simp [hi]
/-- without the least bit -/
theorem b_low {s h : Nat} (hs : s < 2147483648) (hb : s.testBit h = true) (hl : ∀ j, j < h → s.testBit j = false) : Int32.ofNat s &&& (Int32.ofNat s - 1) = Int32.ofNat (tk_wo s (2 ^ h)) := by
  have h0 : s ≠ 0 := by rintro rfl; rw [Nat.zero_testBit] at hb; cases hb
  have e1 : Int32.ofNat s - 1 = Int32.ofNat (s - 1) := (Int32.ofNat_sub s 1 (by omega)).symm
  rw [e1, tb_and]
  congr 1
  have em : s % 2 ^ (h + 1) = 2 ^ h := by
    apply Nat.eq_of_testBit_eq
    intro j
    rw [Nat.testBit_mod_two_pow, Nat.testBit_two_pow]
    by_cases h1 : j < h
    · rw [hl j h1, Bool.and_false]; exact (decide_eq_false (by omega)).symm
    · by_cases h2 : j = h
      · subst h2; rw [hb]; simp
      · rw [decide_eq_false (by omega : ¬ j < h + 1), Bool.false_and]; exact (decide_eq_false (by omega)).symm
  have ed := Nat.div_add_mod s (2 ^ (h + 1))
  rw [em] at ed
  have hp : 0 < 2 ^ h := Nat.two_pow_pos h
  have hlt : 2 ^ h < 2 ^ (h + 1) := Nat.pow_lt_pow_right (by decide) (by omega)
  have e2 : s - 1 = 2 ^ (h + 1) * (s / 2 ^ (h + 1)) + (2 ^ h - 1) := by omega
  apply Nat.eq_of_testBit_eq
  intro j
  rw [Nat.testBit_and, wo_bit, Nat.testBit_two_pow, e2, Nat.testBit_two_pow_mul_add _ (by omega), Nat.testBit_two_pow_sub_one]
  by_cases h1 : j < h
  · rw [hl j h1]; rfl
  · by_cases h2 : j = h
    · subst h2; simp
    · rw [if_neg (by omega), Nat.testBit_div_two_pow, Nat.sub_add_cancel (by omega), decide_eq_false (by omega : ¬ h = j), Bool.and_self]; simp
/-- three hours in one number -/
theorem pk_or {x y z : Nat} (hx : x < 32) (hy : y < 32) (hz : z < 32) : (Int32.ofNat x ||| (Int32.ofNat y <<< (5 &&& 31))) ||| (Int32.ofNat z <<< (10 &&& 31)) = Int32.ofNat (x + 32 * y + 1024 * z) := by
  have e1 : Int32.ofNat y <<< (5 &&& 31) = Int32.ofNat (32 * y) := by
    have h : ∀ y, y < 32 → Int32.ofNat y <<< (5 &&& 31) = Int32.ofNat (32 * y) := by decide +kernel
    exact h y hy
  have e2 : Int32.ofNat z <<< (10 &&& 31) = Int32.ofNat (1024 * z) := by
    have h : ∀ z, z < 32 → Int32.ofNat z <<< (10 &&& 31) = Int32.ofNat (1024 * z) := by decide +kernel
    exact h z hz
  rw [e1, e2, tb_or, tb_or]
  congr 1
  have a1 : x ||| 32 * y = 32 * y + x := by rw [Nat.or_comm, show 32 * y = 2 ^ 5 * y from rfl]; exact (Nat.two_pow_add_eq_or_of_lt (i := 5) hx y).symm
  rw [a1]
  have a2 : 32 * y + x ||| 1024 * z = 1024 * z + (32 * y + x) := by rw [Nat.or_comm, show 1024 * z = 2 ^ 10 * z from rfl]; exact (Nat.two_pow_add_eq_or_of_lt (i := 10) (by omega) z).symm
  rw [a2]; omega
theorem pk_at {p i : Nat} (hp : p < 2147483648) (hi : i < 32) : (Int32.ofNat p >>> (Int32.ofNat i &&& 31)) &&& 31 = Int32.ofNat (p / 2 ^ i % 32) := by
  rw [tb_shr hp hi, show (31 : Int32) = Int32.ofNat 31 from rfl, tb_and]
  congr 1
  exact Nat.and_two_pow_sub_one_eq_mod _ 5
/-- how many bits -/
def bcv (s : Nat) : Bool := match fJ6_bitCount_0f7a4 0 (Int32.ofNat s) (fun _ => none) 0 with | some p => p.1 == Int32.ofNat (pc 14 s) | none => false
def allb (f : Nat → Bool) : Nat → Nat → Bool
  | 0, _ => true
  | d + 1, c => f c && allb f d (c + 1)
theorem allb_of {f : Nat → Bool} : ∀ d c, allb f d c = true → ∀ i, c ≤ i → i < c + d → f i = true := by
  intro d
  induction d with
  | zero => intro c _ i h1 h2; omega
  | succ d ih =>
    intro c h i h1 h2
    unfold allb at h
    rw [Bool.and_eq_true] at h
    by_cases e : i = c
    · subst e; exact h.1
    · exact ih (c + 1) h.2 i (by omega) (by omega)
theorem bcv_all : allb (fun i => allb bcv 128 (128 * i)) 128 0 = true := by decide +kernel
theorem j_bits {s sz N : Nat} {h : tk_AH} (hs : s < 16384) : fJ6_bitCount_0f7a4 N (Int32.ofNat s) h sz = some (Int32.ofNat (pc 14 s), h, sz) := by
  have h1 := allb_of _ _ bcv_all (s / 128) (by omega) (by omega)
  have h2 := allb_of _ _ h1 s (by omega) (by omega)
  unfold bcv fJ6_bitCount_0f7a4 at h2
  simp only [beq_iff_eq] at h2
  unfold fJ6_bitCount_0f7a4
  rw [h2]
