/-! THE PLANNER'S BEST WORTH -/
theorem sh32 : ((32 : Int32).toInt64 &&& 63) = 32 := by decide
theorem find_idx {α : Type} {P : α → Bool} {x : α} : ∀ (l : List α) (i : Nat), l[i]? = some x → P x = true → (∀ j y, j < i → l[j]? = some y → P y = false) → l.find? P = some x := by
  intro l
  induction l with
  | nil => intro i h; cases h
  | cons y l ih =>
    intro i h hp hb
    cases i with
    | zero =>
      cases h
      rw [List.find?_cons_of_pos hp]
    | succ i =>
      have := hb 0 y (by omega) rfl
      rw [List.find?_cons_of_neg (by rw [this]; decide)]
      exact ih i h hp (fun j z hj hz => hb (j + 1) z (by omega) hz)
theorem bsum_21 {w : Nat → Nat} (hw : ∀ i, w i ≤ 21) (s : Nat) : ∀ k, bsum w k s ≤ 21 * k := by
  intro k
  induction k with
  | zero => exact Nat.le_refl _
  | succ k ih => unfold bsum; have := hw k; split <;> omega
theorem M_ok {a : Nat → Nat → Int32} {n l : Nat} {r : Nat × Nat × Option Nat} (h : r ∈ dp_M (tk_isr a) n l) : r_ok n r := by
  obtain ⟨x, y, z⟩ := r
  rw [mem_M] at h
  obtain ⟨h1, h2, h3, h4, h5⟩ := h
  simp only at h1 h2 h3 h4
  subst h1
  refine ⟨h2, h3, fun c hc => ?_⟩
  simp only at hc
  subst hc
  exact ⟨(h4 c rfl).1, (h4 c rfl).2, fun e => isr_ok h5 e.symm⟩
theorem keep_in {ok : Nat × Nat × Option Nat → Bool} {n l : Nat} {r : Nat × Nat × Option Nat} (h : r ∈ dp_M (dp_ok ok) n l) : r ∈ dp_M ok n l := by
  have e : dp_M (dp_ok ok) n l = (dp_M ok n l).filter (r_keep ok) := filt_b _ _
  rw [e] at h
  exact (List.mem_filter.mp h).1
def bw_val (w V : Nat → Nat) (s : Nat) (r : Nat × Nat × Option Nat) : Nat := r_val w r + V (tk_wo s (r_mem r))
def Cu (w V : Nat → Nat) (s : Nat) (seg : List (Nat × Nat × Option Nat)) (i : Nat) (cur : Option (Nat × Nat)) : Prop := match cur with
  | none => ∀ j r, j < i → seg[j]? = some r → dp_sub (r_mem r) s = false
  | some p => p.2 < i ∧ ∃ r, seg[p.2]? = some r ∧ dp_sub (r_mem r) s = true ∧ bw_val w V s r = p.1 ∧ (∀ j r', j < i → seg[j]? = some r' → dp_sub (r_mem r') s = true → bw_val w V s r' ≤ p.1) ∧ (∀ j r', j < p.2 → seg[j]? = some r' → dp_sub (r_mem r') s = true → bw_val w V s r' < p.1)
def Kn (W s : Nat) (seg : List (Nat × Nat × Option Nat)) (g : Nat → Int64) (cur : Option (Nat × Nat)) : Prop := match cur with
  | none => True
  | some p => ∀ r, seg[p.2]? = some r → tk_wo s (r_mem r) = 0 ∨ g (tk_wo s (r_mem r)) >>> 32 = Int64.ofNat W
def cu_b (cur : Option (Nat × Nat)) : Int32 := match cur with
  | none => -1
  | some p => Int32.ofNat p.1
def cu_c (st : Nat) (cur : Option (Nat × Nat)) : Int32 := match cur with
  | none => -1
  | some p => Int32.ofNat (st + p.2)
/-- the memo's notes of the week W are right -/
def Mi (M : Nat → List (Nat × Nat × Option Nat)) (w : Nat → Nat) (X : List (Nat × Nat × Option Nat)) (n len W : Nat) (g : Nat → Int64) : Prop := (∀ i, i < len → ∃ w', w' ≤ W ∧ g i >>> 32 = Int64.ofNat w') ∧ ∀ s, s < 2 ^ n → s ≠ 0 → g s >>> 32 = Int64.ofNat W → ∃ q, g s = en W q (dp_V M w s) ∧ q ≤ 455 ∧ ((q = 0 ∧ dp_pick M w s = none) ∨ ∃ r, 1 ≤ q ∧ X[q - 1]? = some r ∧ dp_pick M w s = some r) ∧ (dp_next s (dp_pick M w s) = 0 ∨ g (dp_next s (dp_pick M w s)) >>> 32 = Int64.ofNat W)
def Ex (n W : Nat) (g g' : Nat → Int64) : Prop := ∀ s, s < 2 ^ n → g s >>> 32 = Int64.ofNat W → g' s = g s
theorem Ex_refl {n W : Nat} (g : Nat → Int64) : Ex n W g g := fun _ _ _ => rfl
theorem Ex_trans {n W : Nat} {g g' g'' : Nat → Int64} (h : Ex n W g g') (h' : Ex n W g' g'') : Ex n W g g'' := fun s hs hk => by
  rw [h' s hs (by rw [h s hs hk]; exact hk), h s hs hk]
/-- what stands in the planner when it chooses -/
def Pl (n : Nat) (w : Nat → Nat) (a : Nat → Nat → Int32) (xi : Nat → Int32) (xa : Nat → Nat → Int32) (X : List (Nat × Nat × Option Nat)) (st : Nat → Nat) : Prop := n ≤ 14 ∧ En w X xa ∧ xi 5 = Int32.ofNat X.length ∧ X.length ≤ 455 ∧ Sg (dp_ok (tk_isr a)) n X st n ∧ (∀ i, i ≤ n → xa 6 i = Int32.ofNat (st i)) ∧ (∀ i, i < n → xa 7 i = Int32.ofNat (w i)) ∧ xi 6 = Int32.ofNat n ∧ ∀ i, 1 ≤ w i ∧ w i ≤ 21
theorem Sg_le {ok : Nat × Nat × Option Nat → Bool} {n : Nat} {X : List (Nat × Nat × Option Nat)} {st : Nat → Nat} (h : Sg ok n X st n) : ∀ i, i ≤ n → st i ≤ X.length := by
  intro i hi
  have : ∀ d i, i + d = n → st i ≤ X.length := by
    intro d
    induction d with
    | zero => intro i hi; have : i = n := by omega
              subst this; exact h.1
    | succ d ih =>
      intro i hi
      have := ih (i + 1) (by omega)
      have := (h.2 i (by omega)).1
      omega
  exact this (n - i) i (by omega)
section BEST
variable {A : Nat} {f : Nat → Int32} {a : Nat → Nat → Int32} {xi : Nat → Int32} {xa : Nat → Nat → Int32} {lr : Nat → Option Nat} {wk : Int64} {mm : Nat} {o : Nat → Int64} {own : Nat → Option (Nat × Nat)} {ad : Nat → Nat} {lf : Nat → Nat → Int32} {la : Nat → Nat → Nat → Int32} {h0 : tk_AH} {N sz n c len : Nat} {β : Type} {w : Nat → Nat} {X : List (Nat × Nat × Option Nat)} {st : Nat → Nat}
theorem x_weight {s : Nat} (hn : n ≤ 14) (hs : s < 16384) (h6 : xi 6 = Int32.ofNat n) (hw : ∀ i, i < n → xa 7 i = Int32.ofNat (w i)) (hw2 : ∀ i, w i ≤ 21) : ∀ d i F, i + d = n → d < F → fX1_weightOf_4 N F (A + 5) (Int32.ofNat s) (Int32.ofNat (bsum w i s)) (Int32.ofNat i) (wd A f a xi xa lr wk mm o own ad lf la h0) sz = some (Int32.ofNat (bsum w n s), wd A f a xi xa lr wk mm o own ad lf la h0, sz) := by
  intro d
  induction d with
  | zero =>
    intro i F hi hF
    obtain ⟨G, rfl⟩ : ∃ G, F = G + 1 := ⟨F - 1, by omega⟩
    have : i = n := by omega
    subst this
    rw [fX1_weightOf_4]
    simp (disch := omega) only [↓bwg_4_0, ↓bwg_4_1, ↓bwg_4_2, ↓bwg_4_3, ↓bwg_4_4, ↓bwg_4_5, ↓bwp_4_5, ↓bwg_4_6, ↓bwp_4_6, ↓bwg_4_7, ↓bwp_4_7, ↓bwg_4_8, ↓bwp_4_8, ↓bwg_4_9, ↓bwp_4_9, ↓bwo_4, ↓bwg_3_0, ↓bwg_3_1, ↓bwo_3, ↓bwg_1_0, ↓bwg_1_1, ↓bwg_1_2, ↓bwg_1_3, ↓bwg_1_4, ↓bwg_1_5, ↓bwg_1_6, ↓bwg_1_7, ↓bwg_1_8, ↓bwp_1_8, ↓bwg_1_9, ↓bwp_1_9, ↓bwo_1, ↓bwg_2_0, ↓bwg_2_1, ↓bwg_2_2, ↓bwg_2_3, ↓bwg_2_4, ↓bwp_2_4, ↓bwg_2_5, ↓bwp_2_5, ↓bwg_2_6, ↓bwp_2_6, ↓bwg_2_7, ↓bwp_2_7, ↓bwo_2, ↓bwg_5_0, ↓bwp_5_0, ↓bwg_5_1, ↓bwp_5_1, ↓bwg_5_2, ↓bwp_5_2, ↓bwg_5_3, ↓bwp_5_3, ↓bwg_5_4, ↓bwp_5_4, ↓bwg_5_5, ↓bwg_5_6, ↓bwg_5_7, ↓bwg_5_8, ↓bwg_5_9, ↓bwg_5_10, ↓bwg_5_11, ↓bwg_5_12, ↓bwg_5_13, ↓bwg_5_14, ↓bwg_5_15, ↓bwp_5_15, ↓bwg_5_16, ↓bwg_5_17, ↓bwg_5_18, ↓bwg_5_19, ↓bwg_5_20, ↓bwg_5_21, ↓bwg_5_22, ↓bwg_5_23, ↓bwp_5_23, ↓bwg_5_24, ↓bwp_5_24, ↓bwg_5_25, ↓bwg_5_26, ↓bwg_5_27, ↓bwp_5_27, ↓bwg_5_28, ↓bwg_5_29, ↓bwg_5_30, ↓bwg_5_31, ↓bwg_5_32, ↓bwg_5_33, ↓bwg_5_34, ↓bwo_5, ↓bwp_1_6, ↓bwp_1_7, ↓bwr_3, ↓bww_3, ↓bwr_4, ↓bww_4, ↓bwr_6, ↓bww_6, ↓bwr_7, ↓bww_7, ↓bwr_8, ↓bww_8, ↓bwr_9, ↓bww_9, ↓bwr_10, ↓bww_10, ↓bwr_11, ↓bww_11, ↓bwr_14, ↓bww_14, ↓bwr_15, ↓bww_15, ↓bwr_15_0, ↓bww_15_0, ↓bwr_16, ↓bww_16, ↓bwr_17, ↓bww_17, ↓bwr_18, ↓bww_18, ↓bwr_20, ↓bww_20, ↓bwr_21, ↓bww_21, ↓bwr_22, ↓bww_22, ↓bwr_23, ↓bww_23, ↓bwr_24, ↓bww_24, ↓bwr_25, ↓bww_25, ↓bwr_26, ↓bww_26, ↓bwr_27, ↓bww_27, ↓bwr_28, ↓bww_28, ↓bwr_29, ↓bww_29, ↓bwr_30, ↓bww_30, ↓bwr_31, ↓bww_31, ↓bwr_32, ↓bww_32, ↓bwr_33, ↓bww_33, ↓bwr_34, ↓bww_34, ↓bwr_35, ↓bww_35, ↓bwr_36, ↓bww_36, ↓bwr_37, ↓bww_37, ↓bwr_38, ↓bww_38, ↓bwr_38_0, ↓bww_38_0, ↓bwr_38_1, ↓bww_38_1, ↓bwr_38_2, ↓bww_38_2, ↓bwr_39, ↓bww_39, ↓bwr_40, ↓bww_40, ↓bwr_41, ↓bww_41, ↓bwr_42, ↓bww_42, ↓bwr_43, ↓bww_43, ↓bwr_43_0, ↓bww_43_0, ↓bwr_44, ↓bww_44, ↓bwr_44_0, ↓bww_44_0, ↓bwr_45, ↓bww_45, ↓bwr_45_0, ↓bww_45_0, ↓bwr_1, ↓bww_1, ↓bwr_46, ↓bww_46, Int32.lt_iff_toInt_lt, Int32.le_iff_toInt_le, tI_i, tI_e, tI_a, tT_m1, tE_m1, tT_0, tE_0, tP_0, tM_0, tN_0, tS_0, tT_1, tE_1, tP_1, tM_1, tN_1, tS_1, tT_2, tE_2, tP_2, tM_2, tN_2, tS_2, tT_3, tE_3, tP_3, tM_3, tN_3, tS_3, tT_4, tE_4, tP_4, tM_4, tN_4, tS_4, tT_5, tE_5, tP_5, tM_5, tN_5, tS_5, tT_6, tE_6, tP_6, tM_6, tN_6, tS_6, tT_7, tE_7, tP_7, tM_7, tN_7, tS_7, tT_8, tE_8, tP_8, tM_8, tN_8, tS_8, tT_10, tE_10, tP_10, tM_10, tN_10, tS_10, tT_14, tE_14, tP_14, tM_14, tN_14, tS_14, tT_16, tE_16, tP_16, tM_16, tN_16, tS_16, tT_20, tE_20, tP_20, tM_20, tN_20, tS_20, tT_24, tE_24, tP_24, tM_24, tN_24, tS_24, tT_40, tE_40, tP_40, tM_40, tN_40, tS_40, tT_41, tE_41, tP_41, tM_41, tN_41, tS_41, tT_80, tE_80, tP_80, tM_80, tN_80, tS_80, tT_455, tE_455, tP_455, tM_455, tN_455, tS_455, tT_1000, tE_1000, tP_1000, tM_1000, tN_1000, tS_1000, tT_1000000, tE_1000000, tP_1000000, tM_1000000, tN_1000000, tS_1000000, dIlT, dIlF, dIeT, dIeF, dNlT, dNlF, dNeT, dNeF, dNqF, dIqF, Option.bind_some, upd_upd, upd_self, upd_ne, vu_self, vu_ne, vu_vu, ↓reduceIte, ↓Sum.elim_inl, ↓Sum.elim_inr, one_ne, tk_bz0, tk_bz1, Bool.false_eq_true, h6]
  | succ d ih =>
    intro i F hi hF
    obtain ⟨G, rfl⟩ : ∃ G, F = G + 1 := ⟨F - 1, by omega⟩
    have i1 := ih (i + 1) G (by omega) (by omega)
    have hb := bsum_21 hw2 s i
    have h7 := hw i (by omega)
    rw [fX1_weightOf_4, tb_bit (by omega) (by omega)]
    rw [show bsum w (i + 1) s = bsum w i s + if s.testBit i = true then w i else 0 from rfl] at i1
    cases e : s.testBit i with
    | false =>
      rw [e] at i1
      simp only [Bool.false_eq_true, if_false, Nat.add_zero] at i1
      simp (disch := omega) only [↓bwg_4_0, ↓bwg_4_1, ↓bwg_4_2, ↓bwg_4_3, ↓bwg_4_4, ↓bwg_4_5, ↓bwp_4_5, ↓bwg_4_6, ↓bwp_4_6, ↓bwg_4_7, ↓bwp_4_7, ↓bwg_4_8, ↓bwp_4_8, ↓bwg_4_9, ↓bwp_4_9, ↓bwo_4, ↓bwg_3_0, ↓bwg_3_1, ↓bwo_3, ↓bwg_1_0, ↓bwg_1_1, ↓bwg_1_2, ↓bwg_1_3, ↓bwg_1_4, ↓bwg_1_5, ↓bwg_1_6, ↓bwg_1_7, ↓bwg_1_8, ↓bwp_1_8, ↓bwg_1_9, ↓bwp_1_9, ↓bwo_1, ↓bwg_2_0, ↓bwg_2_1, ↓bwg_2_2, ↓bwg_2_3, ↓bwg_2_4, ↓bwp_2_4, ↓bwg_2_5, ↓bwp_2_5, ↓bwg_2_6, ↓bwp_2_6, ↓bwg_2_7, ↓bwp_2_7, ↓bwo_2, ↓bwg_5_0, ↓bwp_5_0, ↓bwg_5_1, ↓bwp_5_1, ↓bwg_5_2, ↓bwp_5_2, ↓bwg_5_3, ↓bwp_5_3, ↓bwg_5_4, ↓bwp_5_4, ↓bwg_5_5, ↓bwg_5_6, ↓bwg_5_7, ↓bwg_5_8, ↓bwg_5_9, ↓bwg_5_10, ↓bwg_5_11, ↓bwg_5_12, ↓bwg_5_13, ↓bwg_5_14, ↓bwg_5_15, ↓bwp_5_15, ↓bwg_5_16, ↓bwg_5_17, ↓bwg_5_18, ↓bwg_5_19, ↓bwg_5_20, ↓bwg_5_21, ↓bwg_5_22, ↓bwg_5_23, ↓bwp_5_23, ↓bwg_5_24, ↓bwp_5_24, ↓bwg_5_25, ↓bwg_5_26, ↓bwg_5_27, ↓bwp_5_27, ↓bwg_5_28, ↓bwg_5_29, ↓bwg_5_30, ↓bwg_5_31, ↓bwg_5_32, ↓bwg_5_33, ↓bwg_5_34, ↓bwo_5, ↓bwp_1_6, ↓bwp_1_7, ↓bwr_3, ↓bww_3, ↓bwr_4, ↓bww_4, ↓bwr_6, ↓bww_6, ↓bwr_7, ↓bww_7, ↓bwr_8, ↓bww_8, ↓bwr_9, ↓bww_9, ↓bwr_10, ↓bww_10, ↓bwr_11, ↓bww_11, ↓bwr_14, ↓bww_14, ↓bwr_15, ↓bww_15, ↓bwr_15_0, ↓bww_15_0, ↓bwr_16, ↓bww_16, ↓bwr_17, ↓bww_17, ↓bwr_18, ↓bww_18, ↓bwr_20, ↓bww_20, ↓bwr_21, ↓bww_21, ↓bwr_22, ↓bww_22, ↓bwr_23, ↓bww_23, ↓bwr_24, ↓bww_24, ↓bwr_25, ↓bww_25, ↓bwr_26, ↓bww_26, ↓bwr_27, ↓bww_27, ↓bwr_28, ↓bww_28, ↓bwr_29, ↓bww_29, ↓bwr_30, ↓bww_30, ↓bwr_31, ↓bww_31, ↓bwr_32, ↓bww_32, ↓bwr_33, ↓bww_33, ↓bwr_34, ↓bww_34, ↓bwr_35, ↓bww_35, ↓bwr_36, ↓bww_36, ↓bwr_37, ↓bww_37, ↓bwr_38, ↓bww_38, ↓bwr_38_0, ↓bww_38_0, ↓bwr_38_1, ↓bww_38_1, ↓bwr_38_2, ↓bww_38_2, ↓bwr_39, ↓bww_39, ↓bwr_40, ↓bww_40, ↓bwr_41, ↓bww_41, ↓bwr_42, ↓bww_42, ↓bwr_43, ↓bww_43, ↓bwr_43_0, ↓bww_43_0, ↓bwr_44, ↓bww_44, ↓bwr_44_0, ↓bww_44_0, ↓bwr_45, ↓bww_45, ↓bwr_45_0, ↓bww_45_0, ↓bwr_1, ↓bww_1, ↓bwr_46, ↓bww_46, Int32.lt_iff_toInt_lt, Int32.le_iff_toInt_le, tI_i, tI_e, tI_a, tT_m1, tE_m1, tT_0, tE_0, tP_0, tM_0, tN_0, tS_0, tT_1, tE_1, tP_1, tM_1, tN_1, tS_1, tT_2, tE_2, tP_2, tM_2, tN_2, tS_2, tT_3, tE_3, tP_3, tM_3, tN_3, tS_3, tT_4, tE_4, tP_4, tM_4, tN_4, tS_4, tT_5, tE_5, tP_5, tM_5, tN_5, tS_5, tT_6, tE_6, tP_6, tM_6, tN_6, tS_6, tT_7, tE_7, tP_7, tM_7, tN_7, tS_7, tT_8, tE_8, tP_8, tM_8, tN_8, tS_8, tT_10, tE_10, tP_10, tM_10, tN_10, tS_10, tT_14, tE_14, tP_14, tM_14, tN_14, tS_14, tT_16, tE_16, tP_16, tM_16, tN_16, tS_16, tT_20, tE_20, tP_20, tM_20, tN_20, tS_20, tT_24, tE_24, tP_24, tM_24, tN_24, tS_24, tT_40, tE_40, tP_40, tM_40, tN_40, tS_40, tT_41, tE_41, tP_41, tM_41, tN_41, tS_41, tT_80, tE_80, tP_80, tM_80, tN_80, tS_80, tT_455, tE_455, tP_455, tM_455, tN_455, tS_455, tT_1000, tE_1000, tP_1000, tM_1000, tN_1000, tS_1000, tT_1000000, tE_1000000, tP_1000000, tM_1000000, tN_1000000, tS_1000000, dIlT, dIlF, dIeT, dIeF, dNlT, dNlF, dNeT, dNeF, dNqF, dIqF, Option.bind_some, upd_upd, upd_self, upd_ne, vu_self, vu_ne, vu_vu, ↓reduceIte, ↓Sum.elim_inl, ↓Sum.elim_inr, one_ne, tk_bz0, tk_bz1, Bool.false_eq_true, h6, fX1_weightOf_29]
      exact i1
    | true =>
      rw [e] at i1
      simp only [if_true] at i1
      simp (disch := omega) only [↓bwg_4_0, ↓bwg_4_1, ↓bwg_4_2, ↓bwg_4_3, ↓bwg_4_4, ↓bwg_4_5, ↓bwp_4_5, ↓bwg_4_6, ↓bwp_4_6, ↓bwg_4_7, ↓bwp_4_7, ↓bwg_4_8, ↓bwp_4_8, ↓bwg_4_9, ↓bwp_4_9, ↓bwo_4, ↓bwg_3_0, ↓bwg_3_1, ↓bwo_3, ↓bwg_1_0, ↓bwg_1_1, ↓bwg_1_2, ↓bwg_1_3, ↓bwg_1_4, ↓bwg_1_5, ↓bwg_1_6, ↓bwg_1_7, ↓bwg_1_8, ↓bwp_1_8, ↓bwg_1_9, ↓bwp_1_9, ↓bwo_1, ↓bwg_2_0, ↓bwg_2_1, ↓bwg_2_2, ↓bwg_2_3, ↓bwg_2_4, ↓bwp_2_4, ↓bwg_2_5, ↓bwp_2_5, ↓bwg_2_6, ↓bwp_2_6, ↓bwg_2_7, ↓bwp_2_7, ↓bwo_2, ↓bwg_5_0, ↓bwp_5_0, ↓bwg_5_1, ↓bwp_5_1, ↓bwg_5_2, ↓bwp_5_2, ↓bwg_5_3, ↓bwp_5_3, ↓bwg_5_4, ↓bwp_5_4, ↓bwg_5_5, ↓bwg_5_6, ↓bwg_5_7, ↓bwg_5_8, ↓bwg_5_9, ↓bwg_5_10, ↓bwg_5_11, ↓bwg_5_12, ↓bwg_5_13, ↓bwg_5_14, ↓bwg_5_15, ↓bwp_5_15, ↓bwg_5_16, ↓bwg_5_17, ↓bwg_5_18, ↓bwg_5_19, ↓bwg_5_20, ↓bwg_5_21, ↓bwg_5_22, ↓bwg_5_23, ↓bwp_5_23, ↓bwg_5_24, ↓bwp_5_24, ↓bwg_5_25, ↓bwg_5_26, ↓bwg_5_27, ↓bwp_5_27, ↓bwg_5_28, ↓bwg_5_29, ↓bwg_5_30, ↓bwg_5_31, ↓bwg_5_32, ↓bwg_5_33, ↓bwg_5_34, ↓bwo_5, ↓bwp_1_6, ↓bwp_1_7, ↓bwr_3, ↓bww_3, ↓bwr_4, ↓bww_4, ↓bwr_6, ↓bww_6, ↓bwr_7, ↓bww_7, ↓bwr_8, ↓bww_8, ↓bwr_9, ↓bww_9, ↓bwr_10, ↓bww_10, ↓bwr_11, ↓bww_11, ↓bwr_14, ↓bww_14, ↓bwr_15, ↓bww_15, ↓bwr_15_0, ↓bww_15_0, ↓bwr_16, ↓bww_16, ↓bwr_17, ↓bww_17, ↓bwr_18, ↓bww_18, ↓bwr_20, ↓bww_20, ↓bwr_21, ↓bww_21, ↓bwr_22, ↓bww_22, ↓bwr_23, ↓bww_23, ↓bwr_24, ↓bww_24, ↓bwr_25, ↓bww_25, ↓bwr_26, ↓bww_26, ↓bwr_27, ↓bww_27, ↓bwr_28, ↓bww_28, ↓bwr_29, ↓bww_29, ↓bwr_30, ↓bww_30, ↓bwr_31, ↓bww_31, ↓bwr_32, ↓bww_32, ↓bwr_33, ↓bww_33, ↓bwr_34, ↓bww_34, ↓bwr_35, ↓bww_35, ↓bwr_36, ↓bww_36, ↓bwr_37, ↓bww_37, ↓bwr_38, ↓bww_38, ↓bwr_38_0, ↓bww_38_0, ↓bwr_38_1, ↓bww_38_1, ↓bwr_38_2, ↓bww_38_2, ↓bwr_39, ↓bww_39, ↓bwr_40, ↓bww_40, ↓bwr_41, ↓bww_41, ↓bwr_42, ↓bww_42, ↓bwr_43, ↓bww_43, ↓bwr_43_0, ↓bww_43_0, ↓bwr_44, ↓bww_44, ↓bwr_44_0, ↓bww_44_0, ↓bwr_45, ↓bww_45, ↓bwr_45_0, ↓bww_45_0, ↓bwr_1, ↓bww_1, ↓bwr_46, ↓bww_46, Int32.lt_iff_toInt_lt, Int32.le_iff_toInt_le, tI_i, tI_e, tI_a, tT_m1, tE_m1, tT_0, tE_0, tP_0, tM_0, tN_0, tS_0, tT_1, tE_1, tP_1, tM_1, tN_1, tS_1, tT_2, tE_2, tP_2, tM_2, tN_2, tS_2, tT_3, tE_3, tP_3, tM_3, tN_3, tS_3, tT_4, tE_4, tP_4, tM_4, tN_4, tS_4, tT_5, tE_5, tP_5, tM_5, tN_5, tS_5, tT_6, tE_6, tP_6, tM_6, tN_6, tS_6, tT_7, tE_7, tP_7, tM_7, tN_7, tS_7, tT_8, tE_8, tP_8, tM_8, tN_8, tS_8, tT_10, tE_10, tP_10, tM_10, tN_10, tS_10, tT_14, tE_14, tP_14, tM_14, tN_14, tS_14, tT_16, tE_16, tP_16, tM_16, tN_16, tS_16, tT_20, tE_20, tP_20, tM_20, tN_20, tS_20, tT_24, tE_24, tP_24, tM_24, tN_24, tS_24, tT_40, tE_40, tP_40, tM_40, tN_40, tS_40, tT_41, tE_41, tP_41, tM_41, tN_41, tS_41, tT_80, tE_80, tP_80, tM_80, tN_80, tS_80, tT_455, tE_455, tP_455, tM_455, tN_455, tS_455, tT_1000, tE_1000, tP_1000, tM_1000, tN_1000, tS_1000, tT_1000000, tE_1000000, tP_1000000, tM_1000000, tN_1000000, tS_1000000, dIlT, dIlF, dIeT, dIeF, dNlT, dNlF, dNeT, dNeF, dNqF, dIqF, Option.bind_some, upd_upd, upd_self, upd_ne, vu_self, vu_ne, vu_vu, ↓reduceIte, ↓Sum.elim_inl, ↓Sum.elim_inr, one_ne, tk_bz0, tk_bz1, Bool.false_eq_true, h6, fX1_weightOf_29, h7, tI_a]
      exact i1
theorem x_known {g : Nat → Int64} {s W : Nat} (hM : Mo A mm len own h0 g) (hl : len ≤ 16384) (hs : s < len) (k : _ → Option β) : (fX1_isKnown N (A + 5) (Int32.ofNat s) (wd A f a xi xa lr (Int64.ofNat W) mm o own ad lf la h0) sz).bind k = k (if g s >>> 32 = Int64.ofNat W then 1 else 0, wd A f a xi xa lr (Int64.ofNat W) mm o own ad lf la h0, sz) := by
  by_cases h : g s >>> 32 = Int64.ofNat W
  · simp (disch := omega) only [↓bwg_4_0, ↓bwg_4_1, ↓bwg_4_2, ↓bwg_4_3, ↓bwg_4_4, ↓bwg_4_5, ↓bwp_4_5, ↓bwg_4_6, ↓bwp_4_6, ↓bwg_4_7, ↓bwp_4_7, ↓bwg_4_8, ↓bwp_4_8, ↓bwg_4_9, ↓bwp_4_9, ↓bwo_4, ↓bwg_3_0, ↓bwg_3_1, ↓bwo_3, ↓bwg_1_0, ↓bwg_1_1, ↓bwg_1_2, ↓bwg_1_3, ↓bwg_1_4, ↓bwg_1_5, ↓bwg_1_6, ↓bwg_1_7, ↓bwg_1_8, ↓bwp_1_8, ↓bwg_1_9, ↓bwp_1_9, ↓bwo_1, ↓bwg_2_0, ↓bwg_2_1, ↓bwg_2_2, ↓bwg_2_3, ↓bwg_2_4, ↓bwp_2_4, ↓bwg_2_5, ↓bwp_2_5, ↓bwg_2_6, ↓bwp_2_6, ↓bwg_2_7, ↓bwp_2_7, ↓bwo_2, ↓bwg_5_0, ↓bwp_5_0, ↓bwg_5_1, ↓bwp_5_1, ↓bwg_5_2, ↓bwp_5_2, ↓bwg_5_3, ↓bwp_5_3, ↓bwg_5_4, ↓bwp_5_4, ↓bwg_5_5, ↓bwg_5_6, ↓bwg_5_7, ↓bwg_5_8, ↓bwg_5_9, ↓bwg_5_10, ↓bwg_5_11, ↓bwg_5_12, ↓bwg_5_13, ↓bwg_5_14, ↓bwg_5_15, ↓bwp_5_15, ↓bwg_5_16, ↓bwg_5_17, ↓bwg_5_18, ↓bwg_5_19, ↓bwg_5_20, ↓bwg_5_21, ↓bwg_5_22, ↓bwg_5_23, ↓bwp_5_23, ↓bwg_5_24, ↓bwp_5_24, ↓bwg_5_25, ↓bwg_5_26, ↓bwg_5_27, ↓bwp_5_27, ↓bwg_5_28, ↓bwg_5_29, ↓bwg_5_30, ↓bwg_5_31, ↓bwg_5_32, ↓bwg_5_33, ↓bwg_5_34, ↓bwo_5, ↓bwp_1_6, ↓bwp_1_7, ↓bwr_3, ↓bww_3, ↓bwr_4, ↓bww_4, ↓bwr_6, ↓bww_6, ↓bwr_7, ↓bww_7, ↓bwr_8, ↓bww_8, ↓bwr_9, ↓bww_9, ↓bwr_10, ↓bww_10, ↓bwr_11, ↓bww_11, ↓bwr_14, ↓bww_14, ↓bwr_15, ↓bww_15, ↓bwr_15_0, ↓bww_15_0, ↓bwr_16, ↓bww_16, ↓bwr_17, ↓bww_17, ↓bwr_18, ↓bww_18, ↓bwr_20, ↓bww_20, ↓bwr_21, ↓bww_21, ↓bwr_22, ↓bww_22, ↓bwr_23, ↓bww_23, ↓bwr_24, ↓bww_24, ↓bwr_25, ↓bww_25, ↓bwr_26, ↓bww_26, ↓bwr_27, ↓bww_27, ↓bwr_28, ↓bww_28, ↓bwr_29, ↓bww_29, ↓bwr_30, ↓bww_30, ↓bwr_31, ↓bww_31, ↓bwr_32, ↓bww_32, ↓bwr_33, ↓bww_33, ↓bwr_34, ↓bww_34, ↓bwr_35, ↓bww_35, ↓bwr_36, ↓bww_36, ↓bwr_37, ↓bww_37, ↓bwr_38, ↓bww_38, ↓bwr_38_0, ↓bww_38_0, ↓bwr_38_1, ↓bww_38_1, ↓bwr_38_2, ↓bww_38_2, ↓bwr_39, ↓bww_39, ↓bwr_40, ↓bww_40, ↓bwr_41, ↓bww_41, ↓bwr_42, ↓bww_42, ↓bwr_43, ↓bww_43, ↓bwr_43_0, ↓bww_43_0, ↓bwr_44, ↓bww_44, ↓bwr_44_0, ↓bww_44_0, ↓bwr_45, ↓bww_45, ↓bwr_45_0, ↓bww_45_0, ↓bwr_1, ↓bww_1, ↓bwr_46, ↓bww_46, Int32.lt_iff_toInt_lt, Int32.le_iff_toInt_le, tI_i, tI_e, tI_a, tT_m1, tE_m1, tT_0, tE_0, tP_0, tM_0, tN_0, tS_0, tT_1, tE_1, tP_1, tM_1, tN_1, tS_1, tT_2, tE_2, tP_2, tM_2, tN_2, tS_2, tT_3, tE_3, tP_3, tM_3, tN_3, tS_3, tT_4, tE_4, tP_4, tM_4, tN_4, tS_4, tT_5, tE_5, tP_5, tM_5, tN_5, tS_5, tT_6, tE_6, tP_6, tM_6, tN_6, tS_6, tT_7, tE_7, tP_7, tM_7, tN_7, tS_7, tT_8, tE_8, tP_8, tM_8, tN_8, tS_8, tT_10, tE_10, tP_10, tM_10, tN_10, tS_10, tT_14, tE_14, tP_14, tM_14, tN_14, tS_14, tT_16, tE_16, tP_16, tM_16, tN_16, tS_16, tT_20, tE_20, tP_20, tM_20, tN_20, tS_20, tT_24, tE_24, tP_24, tM_24, tN_24, tS_24, tT_40, tE_40, tP_40, tM_40, tN_40, tS_40, tT_41, tE_41, tP_41, tM_41, tN_41, tS_41, tT_80, tE_80, tP_80, tM_80, tN_80, tS_80, tT_455, tE_455, tP_455, tM_455, tN_455, tS_455, tT_1000, tE_1000, tP_1000, tM_1000, tN_1000, tS_1000, tT_1000000, tE_1000000, tP_1000000, tM_1000000, tN_1000000, tS_1000000, dIlT, dIlF, dIeT, dIeF, dNlT, dNlF, dNeT, dNeF, dNqF, dIqF, Option.bind_some, upd_upd, upd_self, upd_ne, vu_self, vu_ne, vu_vu, ↓reduceIte, ↓Sum.elim_inl, ↓Sum.elim_inr, one_ne, tk_bz0, tk_bz1, Bool.false_eq_true, ↓fX1_isKnown_35, ↓fX1_isKnown_34, ↓fX1_isKnown, ↓b_mn hM, ↓b_mr hM hl hs, sh32, cmp0, h]
  · simp (disch := omega) only [↓bwg_4_0, ↓bwg_4_1, ↓bwg_4_2, ↓bwg_4_3, ↓bwg_4_4, ↓bwg_4_5, ↓bwp_4_5, ↓bwg_4_6, ↓bwp_4_6, ↓bwg_4_7, ↓bwp_4_7, ↓bwg_4_8, ↓bwp_4_8, ↓bwg_4_9, ↓bwp_4_9, ↓bwo_4, ↓bwg_3_0, ↓bwg_3_1, ↓bwo_3, ↓bwg_1_0, ↓bwg_1_1, ↓bwg_1_2, ↓bwg_1_3, ↓bwg_1_4, ↓bwg_1_5, ↓bwg_1_6, ↓bwg_1_7, ↓bwg_1_8, ↓bwp_1_8, ↓bwg_1_9, ↓bwp_1_9, ↓bwo_1, ↓bwg_2_0, ↓bwg_2_1, ↓bwg_2_2, ↓bwg_2_3, ↓bwg_2_4, ↓bwp_2_4, ↓bwg_2_5, ↓bwp_2_5, ↓bwg_2_6, ↓bwp_2_6, ↓bwg_2_7, ↓bwp_2_7, ↓bwo_2, ↓bwg_5_0, ↓bwp_5_0, ↓bwg_5_1, ↓bwp_5_1, ↓bwg_5_2, ↓bwp_5_2, ↓bwg_5_3, ↓bwp_5_3, ↓bwg_5_4, ↓bwp_5_4, ↓bwg_5_5, ↓bwg_5_6, ↓bwg_5_7, ↓bwg_5_8, ↓bwg_5_9, ↓bwg_5_10, ↓bwg_5_11, ↓bwg_5_12, ↓bwg_5_13, ↓bwg_5_14, ↓bwg_5_15, ↓bwp_5_15, ↓bwg_5_16, ↓bwg_5_17, ↓bwg_5_18, ↓bwg_5_19, ↓bwg_5_20, ↓bwg_5_21, ↓bwg_5_22, ↓bwg_5_23, ↓bwp_5_23, ↓bwg_5_24, ↓bwp_5_24, ↓bwg_5_25, ↓bwg_5_26, ↓bwg_5_27, ↓bwp_5_27, ↓bwg_5_28, ↓bwg_5_29, ↓bwg_5_30, ↓bwg_5_31, ↓bwg_5_32, ↓bwg_5_33, ↓bwg_5_34, ↓bwo_5, ↓bwp_1_6, ↓bwp_1_7, ↓bwr_3, ↓bww_3, ↓bwr_4, ↓bww_4, ↓bwr_6, ↓bww_6, ↓bwr_7, ↓bww_7, ↓bwr_8, ↓bww_8, ↓bwr_9, ↓bww_9, ↓bwr_10, ↓bww_10, ↓bwr_11, ↓bww_11, ↓bwr_14, ↓bww_14, ↓bwr_15, ↓bww_15, ↓bwr_15_0, ↓bww_15_0, ↓bwr_16, ↓bww_16, ↓bwr_17, ↓bww_17, ↓bwr_18, ↓bww_18, ↓bwr_20, ↓bww_20, ↓bwr_21, ↓bww_21, ↓bwr_22, ↓bww_22, ↓bwr_23, ↓bww_23, ↓bwr_24, ↓bww_24, ↓bwr_25, ↓bww_25, ↓bwr_26, ↓bww_26, ↓bwr_27, ↓bww_27, ↓bwr_28, ↓bww_28, ↓bwr_29, ↓bww_29, ↓bwr_30, ↓bww_30, ↓bwr_31, ↓bww_31, ↓bwr_32, ↓bww_32, ↓bwr_33, ↓bww_33, ↓bwr_34, ↓bww_34, ↓bwr_35, ↓bww_35, ↓bwr_36, ↓bww_36, ↓bwr_37, ↓bww_37, ↓bwr_38, ↓bww_38, ↓bwr_38_0, ↓bww_38_0, ↓bwr_38_1, ↓bww_38_1, ↓bwr_38_2, ↓bww_38_2, ↓bwr_39, ↓bww_39, ↓bwr_40, ↓bww_40, ↓bwr_41, ↓bww_41, ↓bwr_42, ↓bww_42, ↓bwr_43, ↓bww_43, ↓bwr_43_0, ↓bww_43_0, ↓bwr_44, ↓bww_44, ↓bwr_44_0, ↓bww_44_0, ↓bwr_45, ↓bww_45, ↓bwr_45_0, ↓bww_45_0, ↓bwr_1, ↓bww_1, ↓bwr_46, ↓bww_46, Int32.lt_iff_toInt_lt, Int32.le_iff_toInt_le, tI_i, tI_e, tI_a, tT_m1, tE_m1, tT_0, tE_0, tP_0, tM_0, tN_0, tS_0, tT_1, tE_1, tP_1, tM_1, tN_1, tS_1, tT_2, tE_2, tP_2, tM_2, tN_2, tS_2, tT_3, tE_3, tP_3, tM_3, tN_3, tS_3, tT_4, tE_4, tP_4, tM_4, tN_4, tS_4, tT_5, tE_5, tP_5, tM_5, tN_5, tS_5, tT_6, tE_6, tP_6, tM_6, tN_6, tS_6, tT_7, tE_7, tP_7, tM_7, tN_7, tS_7, tT_8, tE_8, tP_8, tM_8, tN_8, tS_8, tT_10, tE_10, tP_10, tM_10, tN_10, tS_10, tT_14, tE_14, tP_14, tM_14, tN_14, tS_14, tT_16, tE_16, tP_16, tM_16, tN_16, tS_16, tT_20, tE_20, tP_20, tM_20, tN_20, tS_20, tT_24, tE_24, tP_24, tM_24, tN_24, tS_24, tT_40, tE_40, tP_40, tM_40, tN_40, tS_40, tT_41, tE_41, tP_41, tM_41, tN_41, tS_41, tT_80, tE_80, tP_80, tM_80, tN_80, tS_80, tT_455, tE_455, tP_455, tM_455, tN_455, tS_455, tT_1000, tE_1000, tP_1000, tM_1000, tN_1000, tS_1000, tT_1000000, tE_1000000, tP_1000000, tM_1000000, tN_1000000, tS_1000000, dIlT, dIlF, dIeT, dIeF, dNlT, dNlF, dNeT, dNeF, dNqF, dIqF, Option.bind_some, upd_upd, upd_self, upd_ne, vu_self, vu_ne, vu_vu, ↓reduceIte, ↓Sum.elim_inl, ↓Sum.elim_inr, one_ne, tk_bz0, tk_bz1, Bool.false_eq_true, ↓fX1_isKnown_35, ↓fX1_isKnown_34, ↓fX1_isKnown, ↓b_mn hM, ↓b_mr hM hl hs, sh32, cmp0, h]
theorem x_bw90 {s l W D dep most Wt : Nat} {rc : Nat → Int32 → Int32 → tk_AH → Nat → Option (Int32 × tk_AH × Nat)} {K : Nat → Int32 → Int32 → Int32 → Int32 → Int32 → Int32 → tk_AH → Nat → Option (Int32 × tk_AH × Nat)} {g0 : Nat → Int64} (hP : Pl n w a xi xa X st) (hMo : Mo A mm len own h0 g0) (hlen : len ≤ 16384) (hl2 : 2 ^ n ≤ len) (hs : s < 2 ^ n) (hs0 : s ≠ 0) (hl : dp_low s = l) (hdep : pc n s + dep ≤ 14) (hD : pc n s ≤ D) (hmost : most ≤ 100000) (hrc : ∀ s' dep' g, s' < 2 ^ n → pc n s' < D → pc n s' + dep' ≤ 14 → Mi (dp_M (tk_isr a) n) w X n len W g → ∃ g', Mi (dp_M (tk_isr a) n) w X n len W g' ∧ Ex n W g g' ∧ (s' ≠ 0 → g' s' >>> 32 = Int64.ofNat W) ∧ rc (A + 5) (Int32.ofNat s') (Int32.ofNat dep') (wd A f a xi xa lr (Int64.ofNat W) mm o own ad lf la (va_up h0 mm (some (.inr (2, len, .inr (.inl g)))))) sz = some (Int32.ofNat (dp_V (dp_M (tk_isr a) n) w s'), wd A f a xi xa lr (Int64.ofNat W) mm o own ad lf la (va_up h0 mm (some (.inr (2, len, .inr (.inl g'))))), sz)) : ∀ d i F g cur, i + d = (dp_M (dp_ok (tk_isr a)) n l).length → d < F → Mi (dp_M (tk_isr a) n) w X n len W g → Cu w (dp_V (dp_M (tk_isr a) n) w) s (dp_M (dp_ok (tk_isr a)) n l) i cur → Kn W s (dp_M (dp_ok (tk_isr a)) n l) g cur → ∃ i' g' cur', i' ≤ (dp_M (dp_ok (tk_isr a)) n l).length ∧ Mi (dp_M (tk_isr a) n) w X n len W g' ∧ Ex n W g g' ∧ Cu w (dp_V (dp_M (tk_isr a) n) w) s (dp_M (dp_ok (tk_isr a)) n l) i' cur' ∧ Kn W s (dp_M (dp_ok (tk_isr a)) n l) g' cur' ∧ (i' = (dp_M (dp_ok (tk_isr a)) n l).length ∨ ∃ p, cur' = some p ∧ most ≤ p.1) ∧ fX1_bestWorth_90 N rc K F (A + 5) (Int32.ofNat s) (Int32.ofNat dep) (Int32.ofNat l) (Int32.ofNat Wt) (Int32.ofNat most) (cu_b cur) (cu_c (st l) cur) (Int32.ofNat (st l + i)) (wd A f a xi xa lr (Int64.ofNat W) mm o own ad lf la (va_up h0 mm (some (.inr (2, len, .inr (.inl g)))))) sz = K (A + 5) (Int32.ofNat s) (Int32.ofNat dep) (Int32.ofNat l) (Int32.ofNat Wt) (cu_b cur') (cu_c (st l) cur') (wd A f a xi xa lr (Int64.ofNat W) mm o own ad lf la (va_up h0 mm (some (.inr (2, len, .inr (.inl g')))))) sz := by
  obtain ⟨p1, p2, p3, p4, p5, p6, p7, p8, p9⟩ := hP
  have hlow := low_is (k := n) (by omega) hs hs0
  rw [hl] at hlow
  obtain ⟨s1, s2⟩ := p5.2 l hlow.2.1
  have sle := Sg_le p5 (l + 1) (by omega)
  have e6 := p6 (l + 1) (by omega)
  have hp14 : 2 ^ n ≤ 16384 := Nat.pow_le_pow_right (n := 2) (by decide) p1
  intro d
  induction d with
  | zero =>
    intro i F g cur hi hF hMi hCu hKn
    obtain ⟨G, rfl⟩ : ∃ G, F = G + 1 := ⟨F - 1, by omega⟩
    refine ⟨i, g, cur, by omega, hMi, Ex_refl g, hCu, hKn, Or.inl (by omega), ?_⟩
    rw [fX1_bestWorth_90]
    simp (disch := omega) only [↓bwg_4_0, ↓bwg_4_1, ↓bwg_4_2, ↓bwg_4_3, ↓bwg_4_4, ↓bwg_4_5, ↓bwp_4_5, ↓bwg_4_6, ↓bwp_4_6, ↓bwg_4_7, ↓bwp_4_7, ↓bwg_4_8, ↓bwp_4_8, ↓bwg_4_9, ↓bwp_4_9, ↓bwo_4, ↓bwg_3_0, ↓bwg_3_1, ↓bwo_3, ↓bwg_1_0, ↓bwg_1_1, ↓bwg_1_2, ↓bwg_1_3, ↓bwg_1_4, ↓bwg_1_5, ↓bwg_1_6, ↓bwg_1_7, ↓bwg_1_8, ↓bwp_1_8, ↓bwg_1_9, ↓bwp_1_9, ↓bwo_1, ↓bwg_2_0, ↓bwg_2_1, ↓bwg_2_2, ↓bwg_2_3, ↓bwg_2_4, ↓bwp_2_4, ↓bwg_2_5, ↓bwp_2_5, ↓bwg_2_6, ↓bwp_2_6, ↓bwg_2_7, ↓bwp_2_7, ↓bwo_2, ↓bwg_5_0, ↓bwp_5_0, ↓bwg_5_1, ↓bwp_5_1, ↓bwg_5_2, ↓bwp_5_2, ↓bwg_5_3, ↓bwp_5_3, ↓bwg_5_4, ↓bwp_5_4, ↓bwg_5_5, ↓bwg_5_6, ↓bwg_5_7, ↓bwg_5_8, ↓bwg_5_9, ↓bwg_5_10, ↓bwg_5_11, ↓bwg_5_12, ↓bwg_5_13, ↓bwg_5_14, ↓bwg_5_15, ↓bwp_5_15, ↓bwg_5_16, ↓bwg_5_17, ↓bwg_5_18, ↓bwg_5_19, ↓bwg_5_20, ↓bwg_5_21, ↓bwg_5_22, ↓bwg_5_23, ↓bwp_5_23, ↓bwg_5_24, ↓bwp_5_24, ↓bwg_5_25, ↓bwg_5_26, ↓bwg_5_27, ↓bwp_5_27, ↓bwg_5_28, ↓bwg_5_29, ↓bwg_5_30, ↓bwg_5_31, ↓bwg_5_32, ↓bwg_5_33, ↓bwg_5_34, ↓bwo_5, ↓bwp_1_6, ↓bwp_1_7, ↓bwr_3, ↓bww_3, ↓bwr_4, ↓bww_4, ↓bwr_6, ↓bww_6, ↓bwr_7, ↓bww_7, ↓bwr_8, ↓bww_8, ↓bwr_9, ↓bww_9, ↓bwr_10, ↓bww_10, ↓bwr_11, ↓bww_11, ↓bwr_14, ↓bww_14, ↓bwr_15, ↓bww_15, ↓bwr_15_0, ↓bww_15_0, ↓bwr_16, ↓bww_16, ↓bwr_17, ↓bww_17, ↓bwr_18, ↓bww_18, ↓bwr_20, ↓bww_20, ↓bwr_21, ↓bww_21, ↓bwr_22, ↓bww_22, ↓bwr_23, ↓bww_23, ↓bwr_24, ↓bww_24, ↓bwr_25, ↓bww_25, ↓bwr_26, ↓bww_26, ↓bwr_27, ↓bww_27, ↓bwr_28, ↓bww_28, ↓bwr_29, ↓bww_29, ↓bwr_30, ↓bww_30, ↓bwr_31, ↓bww_31, ↓bwr_32, ↓bww_32, ↓bwr_33, ↓bww_33, ↓bwr_34, ↓bww_34, ↓bwr_35, ↓bww_35, ↓bwr_36, ↓bww_36, ↓bwr_37, ↓bww_37, ↓bwr_38, ↓bww_38, ↓bwr_38_0, ↓bww_38_0, ↓bwr_38_1, ↓bww_38_1, ↓bwr_38_2, ↓bww_38_2, ↓bwr_39, ↓bww_39, ↓bwr_40, ↓bww_40, ↓bwr_41, ↓bww_41, ↓bwr_42, ↓bww_42, ↓bwr_43, ↓bww_43, ↓bwr_43_0, ↓bww_43_0, ↓bwr_44, ↓bww_44, ↓bwr_44_0, ↓bww_44_0, ↓bwr_45, ↓bww_45, ↓bwr_45_0, ↓bww_45_0, ↓bwr_1, ↓bww_1, ↓bwr_46, ↓bww_46, Int32.lt_iff_toInt_lt, Int32.le_iff_toInt_le, tI_i, tI_e, tI_a, tT_m1, tE_m1, tT_0, tE_0, tP_0, tM_0, tN_0, tS_0, tT_1, tE_1, tP_1, tM_1, tN_1, tS_1, tT_2, tE_2, tP_2, tM_2, tN_2, tS_2, tT_3, tE_3, tP_3, tM_3, tN_3, tS_3, tT_4, tE_4, tP_4, tM_4, tN_4, tS_4, tT_5, tE_5, tP_5, tM_5, tN_5, tS_5, tT_6, tE_6, tP_6, tM_6, tN_6, tS_6, tT_7, tE_7, tP_7, tM_7, tN_7, tS_7, tT_8, tE_8, tP_8, tM_8, tN_8, tS_8, tT_10, tE_10, tP_10, tM_10, tN_10, tS_10, tT_14, tE_14, tP_14, tM_14, tN_14, tS_14, tT_16, tE_16, tP_16, tM_16, tN_16, tS_16, tT_20, tE_20, tP_20, tM_20, tN_20, tS_20, tT_24, tE_24, tP_24, tM_24, tN_24, tS_24, tT_40, tE_40, tP_40, tM_40, tN_40, tS_40, tT_41, tE_41, tP_41, tM_41, tN_41, tS_41, tT_80, tE_80, tP_80, tM_80, tN_80, tS_80, tT_455, tE_455, tP_455, tM_455, tN_455, tS_455, tT_1000, tE_1000, tP_1000, tM_1000, tN_1000, tS_1000, tT_1000000, tE_1000000, tP_1000000, tM_1000000, tN_1000000, tS_1000000, dIlT, dIlF, dIeT, dIeF, dNlT, dNlF, dNeT, dNeF, dNqF, dIqF, Option.bind_some, upd_upd, upd_self, upd_ne, vu_self, vu_ne, vu_vu, ↓reduceIte, ↓Sum.elim_inl, ↓Sum.elim_inr, one_ne, tk_bz0, tk_bz1, Bool.false_eq_true, e6]
  | succ d ih =>
    intro i F g cur hi hF hMi hCu hKn
    obtain ⟨G, rfl⟩ : ∃ G, F = G + 1 := ⟨F - 1, by omega⟩
    by_cases hmo : ∃ p, cur = some p ∧ most ≤ p.1
    · obtain ⟨p, rfl, hp⟩ := hmo
      have hv : p.1 < 1000000 := by
        obtain ⟨-, r, r1, r2, r3, -⟩ := hCu
        have hin := List.mem_of_getElem? r1
        have h1 := V_ring (M := dp_M (tk_isr a) n) (w := w) (by omega) hs hs0 (by rw [hl]; exact keep_in hin) r2
        have h2 := V_most (M := dp_M (tk_isr a) n) (w := w) (k := n) (by omega) (fun i => (p9 i).1) (fun l r h => M_ok h) s hs
        have h3 := bsum_21 (fun i => (p9 i).2) s n
        unfold bw_val at r3
        omega
      refine ⟨i, g, some p, by omega, hMi, Ex_refl g, hCu, hKn, Or.inr ⟨p, rfl, hp⟩, ?_⟩
      rw [fX1_bestWorth_90]
      simp (disch := omega) only [↓bwg_4_0, ↓bwg_4_1, ↓bwg_4_2, ↓bwg_4_3, ↓bwg_4_4, ↓bwg_4_5, ↓bwp_4_5, ↓bwg_4_6, ↓bwp_4_6, ↓bwg_4_7, ↓bwp_4_7, ↓bwg_4_8, ↓bwp_4_8, ↓bwg_4_9, ↓bwp_4_9, ↓bwo_4, ↓bwg_3_0, ↓bwg_3_1, ↓bwo_3, ↓bwg_1_0, ↓bwg_1_1, ↓bwg_1_2, ↓bwg_1_3, ↓bwg_1_4, ↓bwg_1_5, ↓bwg_1_6, ↓bwg_1_7, ↓bwg_1_8, ↓bwp_1_8, ↓bwg_1_9, ↓bwp_1_9, ↓bwo_1, ↓bwg_2_0, ↓bwg_2_1, ↓bwg_2_2, ↓bwg_2_3, ↓bwg_2_4, ↓bwp_2_4, ↓bwg_2_5, ↓bwp_2_5, ↓bwg_2_6, ↓bwp_2_6, ↓bwg_2_7, ↓bwp_2_7, ↓bwo_2, ↓bwg_5_0, ↓bwp_5_0, ↓bwg_5_1, ↓bwp_5_1, ↓bwg_5_2, ↓bwp_5_2, ↓bwg_5_3, ↓bwp_5_3, ↓bwg_5_4, ↓bwp_5_4, ↓bwg_5_5, ↓bwg_5_6, ↓bwg_5_7, ↓bwg_5_8, ↓bwg_5_9, ↓bwg_5_10, ↓bwg_5_11, ↓bwg_5_12, ↓bwg_5_13, ↓bwg_5_14, ↓bwg_5_15, ↓bwp_5_15, ↓bwg_5_16, ↓bwg_5_17, ↓bwg_5_18, ↓bwg_5_19, ↓bwg_5_20, ↓bwg_5_21, ↓bwg_5_22, ↓bwg_5_23, ↓bwp_5_23, ↓bwg_5_24, ↓bwp_5_24, ↓bwg_5_25, ↓bwg_5_26, ↓bwg_5_27, ↓bwp_5_27, ↓bwg_5_28, ↓bwg_5_29, ↓bwg_5_30, ↓bwg_5_31, ↓bwg_5_32, ↓bwg_5_33, ↓bwg_5_34, ↓bwo_5, ↓bwp_1_6, ↓bwp_1_7, ↓bwr_3, ↓bww_3, ↓bwr_4, ↓bww_4, ↓bwr_6, ↓bww_6, ↓bwr_7, ↓bww_7, ↓bwr_8, ↓bww_8, ↓bwr_9, ↓bww_9, ↓bwr_10, ↓bww_10, ↓bwr_11, ↓bww_11, ↓bwr_14, ↓bww_14, ↓bwr_15, ↓bww_15, ↓bwr_15_0, ↓bww_15_0, ↓bwr_16, ↓bww_16, ↓bwr_17, ↓bww_17, ↓bwr_18, ↓bww_18, ↓bwr_20, ↓bww_20, ↓bwr_21, ↓bww_21, ↓bwr_22, ↓bww_22, ↓bwr_23, ↓bww_23, ↓bwr_24, ↓bww_24, ↓bwr_25, ↓bww_25, ↓bwr_26, ↓bww_26, ↓bwr_27, ↓bww_27, ↓bwr_28, ↓bww_28, ↓bwr_29, ↓bww_29, ↓bwr_30, ↓bww_30, ↓bwr_31, ↓bww_31, ↓bwr_32, ↓bww_32, ↓bwr_33, ↓bww_33, ↓bwr_34, ↓bww_34, ↓bwr_35, ↓bww_35, ↓bwr_36, ↓bww_36, ↓bwr_37, ↓bww_37, ↓bwr_38, ↓bww_38, ↓bwr_38_0, ↓bww_38_0, ↓bwr_38_1, ↓bww_38_1, ↓bwr_38_2, ↓bww_38_2, ↓bwr_39, ↓bww_39, ↓bwr_40, ↓bww_40, ↓bwr_41, ↓bww_41, ↓bwr_42, ↓bww_42, ↓bwr_43, ↓bww_43, ↓bwr_43_0, ↓bww_43_0, ↓bwr_44, ↓bww_44, ↓bwr_44_0, ↓bww_44_0, ↓bwr_45, ↓bww_45, ↓bwr_45_0, ↓bww_45_0, ↓bwr_1, ↓bww_1, ↓bwr_46, ↓bww_46, Int32.lt_iff_toInt_lt, Int32.le_iff_toInt_le, tI_i, tI_e, tI_a, tT_m1, tE_m1, tT_0, tE_0, tP_0, tM_0, tN_0, tS_0, tT_1, tE_1, tP_1, tM_1, tN_1, tS_1, tT_2, tE_2, tP_2, tM_2, tN_2, tS_2, tT_3, tE_3, tP_3, tM_3, tN_3, tS_3, tT_4, tE_4, tP_4, tM_4, tN_4, tS_4, tT_5, tE_5, tP_5, tM_5, tN_5, tS_5, tT_6, tE_6, tP_6, tM_6, tN_6, tS_6, tT_7, tE_7, tP_7, tM_7, tN_7, tS_7, tT_8, tE_8, tP_8, tM_8, tN_8, tS_8, tT_10, tE_10, tP_10, tM_10, tN_10, tS_10, tT_14, tE_14, tP_14, tM_14, tN_14, tS_14, tT_16, tE_16, tP_16, tM_16, tN_16, tS_16, tT_20, tE_20, tP_20, tM_20, tN_20, tS_20, tT_24, tE_24, tP_24, tM_24, tN_24, tS_24, tT_40, tE_40, tP_40, tM_40, tN_40, tS_40, tT_41, tE_41, tP_41, tM_41, tN_41, tS_41, tT_80, tE_80, tP_80, tM_80, tN_80, tS_80, tT_455, tE_455, tP_455, tM_455, tN_455, tS_455, tT_1000, tE_1000, tP_1000, tM_1000, tN_1000, tS_1000, tT_1000000, tE_1000000, tP_1000000, tM_1000000, tN_1000000, tS_1000000, dIlT, dIlF, dIeT, dIeF, dNlT, dNlF, dNeT, dNeF, dNqF, dIqF, Option.bind_some, upd_upd, upd_self, upd_ne, vu_self, vu_ne, vu_vu, ↓reduceIte, ↓Sum.elim_inl, ↓Sum.elim_inr, one_ne, tk_bz0, tk_bz1, Bool.false_eq_true, e6, cu_b]
    · obtain ⟨r, hr⟩ : ∃ r, (dp_M (dp_ok (tk_isr a)) n l)[i]? = some r := ⟨_, List.getElem?_eq_getElem (by omega)⟩
      have hXr : X[st l + i]? = some r := by rw [s2 i (by omega)]; exact hr
      obtain ⟨x2, x3, x4, x5⟩ := p2 _ r hXr
      have hin := List.mem_of_getElem? hr
      have hrok := M_ok (keep_in hin)
      have hcmp : (Int32.ofNat most ≤ cu_b cur) = False := by
        apply eq_false
        rw [Int32.le_iff_toInt_le, tI_i (by omega)]
        cases cur with
        | none => show ¬ ((most : Int) ≤ -1); omega
        | some p =>
          intro h
          apply hmo
          refine ⟨p, rfl, ?_⟩
          have hv : p.1 < 1000000 := by
            obtain ⟨-, r, r1, r2, r3, -⟩ := hCu
            have hin := List.mem_of_getElem? r1
            have h1 := V_ring (M := dp_M (tk_isr a) n) (w := w) (by omega) hs hs0 (by rw [hl]; exact keep_in hin) r2
            have h2 := V_most (M := dp_M (tk_isr a) n) (w := w) (k := n) (by omega) (fun i => (p9 i).1) (fun l r h => M_ok h) s hs
            have h3 := bsum_21 (fun i => (p9 i).2) s n
            unfold bw_val at r3
            omega
          unfold cu_b at h
          simp only at h
          rw [tI_i (by omega)] at h
          omega
      cases hsub : dp_sub (r_mem r) s with
      | false =>
        have hw0 : ¬ tk_wo (r_mem r) s = 0 := by unfold dp_sub at hsub; exact of_decide_eq_false hsub
        have hwl : tk_wo (r_mem r) s < 2147483648 := by
          have : r_mem r < 2 ^ 24 := by
            apply Nat.lt_pow_two_of_testBit
            intro j hj
            obtain ⟨r1, r2, r3⟩ := r
            obtain ⟨k1, k2, k3⟩ := hrok
            simp only at k1 k2 k3
            unfold r_mem
            simp only
            rw [Nat.testBit_or, Nat.testBit_or, pow_bit, pow_bit, decide_eq_false (by omega), decide_eq_false (by omega)]
            cases r3 with
            | none => simp
            | some c => have := (k3 c rfl).2.1; simp only; rw [pow_bit, decide_eq_false (by omega)]; rfl
          have := wo_lt (w := s) this
          omega
        obtain ⟨i', g', cur', j1, j2, j3, j4, j5, j6, j7⟩ := ih (i + 1) G g cur (by omega) (by omega) hMi (by
          cases cur with
          | none =>
            intro j r' hj hr'
            by_cases e : j = i
            · subst e; rw [hr] at hr'; cases hr'; exact hsub
            · exact hCu j r' (by omega) hr'
          | some p =>
            obtain ⟨c1, r', c2, c3, c4, c5, c6⟩ := hCu
            refine ⟨by omega, r', c2, c3, c4, fun j r'' hj hr'' hs'' => ?_, c6⟩
            by_cases e : j = i
            · subst e; rw [hr] at hr''; cases hr''; rw [hsub] at hs''; cases hs''
            · exact c5 j r'' (by omega) hr'' hs'') hKn
        refine ⟨i', g', cur', j1, j2, j3, j4, j5, j6, ?_⟩
        rw [← j7, fX1_bestWorth_90]
        simp (disch := omega) only [↓bwg_4_0, ↓bwg_4_1, ↓bwg_4_2, ↓bwg_4_3, ↓bwg_4_4, ↓bwg_4_5, ↓bwp_4_5, ↓bwg_4_6, ↓bwp_4_6, ↓bwg_4_7, ↓bwp_4_7, ↓bwg_4_8, ↓bwp_4_8, ↓bwg_4_9, ↓bwp_4_9, ↓bwo_4, ↓bwg_3_0, ↓bwg_3_1, ↓bwo_3, ↓bwg_1_0, ↓bwg_1_1, ↓bwg_1_2, ↓bwg_1_3, ↓bwg_1_4, ↓bwg_1_5, ↓bwg_1_6, ↓bwg_1_7, ↓bwg_1_8, ↓bwp_1_8, ↓bwg_1_9, ↓bwp_1_9, ↓bwo_1, ↓bwg_2_0, ↓bwg_2_1, ↓bwg_2_2, ↓bwg_2_3, ↓bwg_2_4, ↓bwp_2_4, ↓bwg_2_5, ↓bwp_2_5, ↓bwg_2_6, ↓bwp_2_6, ↓bwg_2_7, ↓bwp_2_7, ↓bwo_2, ↓bwg_5_0, ↓bwp_5_0, ↓bwg_5_1, ↓bwp_5_1, ↓bwg_5_2, ↓bwp_5_2, ↓bwg_5_3, ↓bwp_5_3, ↓bwg_5_4, ↓bwp_5_4, ↓bwg_5_5, ↓bwg_5_6, ↓bwg_5_7, ↓bwg_5_8, ↓bwg_5_9, ↓bwg_5_10, ↓bwg_5_11, ↓bwg_5_12, ↓bwg_5_13, ↓bwg_5_14, ↓bwg_5_15, ↓bwp_5_15, ↓bwg_5_16, ↓bwg_5_17, ↓bwg_5_18, ↓bwg_5_19, ↓bwg_5_20, ↓bwg_5_21, ↓bwg_5_22, ↓bwg_5_23, ↓bwp_5_23, ↓bwg_5_24, ↓bwp_5_24, ↓bwg_5_25, ↓bwg_5_26, ↓bwg_5_27, ↓bwp_5_27, ↓bwg_5_28, ↓bwg_5_29, ↓bwg_5_30, ↓bwg_5_31, ↓bwg_5_32, ↓bwg_5_33, ↓bwg_5_34, ↓bwo_5, ↓bwp_1_6, ↓bwp_1_7, ↓bwr_3, ↓bww_3, ↓bwr_4, ↓bww_4, ↓bwr_6, ↓bww_6, ↓bwr_7, ↓bww_7, ↓bwr_8, ↓bww_8, ↓bwr_9, ↓bww_9, ↓bwr_10, ↓bww_10, ↓bwr_11, ↓bww_11, ↓bwr_14, ↓bww_14, ↓bwr_15, ↓bww_15, ↓bwr_15_0, ↓bww_15_0, ↓bwr_16, ↓bww_16, ↓bwr_17, ↓bww_17, ↓bwr_18, ↓bww_18, ↓bwr_20, ↓bww_20, ↓bwr_21, ↓bww_21, ↓bwr_22, ↓bww_22, ↓bwr_23, ↓bww_23, ↓bwr_24, ↓bww_24, ↓bwr_25, ↓bww_25, ↓bwr_26, ↓bww_26, ↓bwr_27, ↓bww_27, ↓bwr_28, ↓bww_28, ↓bwr_29, ↓bww_29, ↓bwr_30, ↓bww_30, ↓bwr_31, ↓bww_31, ↓bwr_32, ↓bww_32, ↓bwr_33, ↓bww_33, ↓bwr_34, ↓bww_34, ↓bwr_35, ↓bww_35, ↓bwr_36, ↓bww_36, ↓bwr_37, ↓bww_37, ↓bwr_38, ↓bww_38, ↓bwr_38_0, ↓bww_38_0, ↓bwr_38_1, ↓bww_38_1, ↓bwr_38_2, ↓bww_38_2, ↓bwr_39, ↓bww_39, ↓bwr_40, ↓bww_40, ↓bwr_41, ↓bww_41, ↓bwr_42, ↓bww_42, ↓bwr_43, ↓bww_43, ↓bwr_43_0, ↓bww_43_0, ↓bwr_44, ↓bww_44, ↓bwr_44_0, ↓bww_44_0, ↓bwr_45, ↓bww_45, ↓bwr_45_0, ↓bww_45_0, ↓bwr_1, ↓bww_1, ↓bwr_46, ↓bww_46, Int32.lt_iff_toInt_lt, Int32.le_iff_toInt_le, tI_i, tI_e, tI_a, tT_m1, tE_m1, tT_0, tE_0, tP_0, tM_0, tN_0, tS_0, tT_1, tE_1, tP_1, tM_1, tN_1, tS_1, tT_2, tE_2, tP_2, tM_2, tN_2, tS_2, tT_3, tE_3, tP_3, tM_3, tN_3, tS_3, tT_4, tE_4, tP_4, tM_4, tN_4, tS_4, tT_5, tE_5, tP_5, tM_5, tN_5, tS_5, tT_6, tE_6, tP_6, tM_6, tN_6, tS_6, tT_7, tE_7, tP_7, tM_7, tN_7, tS_7, tT_8, tE_8, tP_8, tM_8, tN_8, tS_8, tT_10, tE_10, tP_10, tM_10, tN_10, tS_10, tT_14, tE_14, tP_14, tM_14, tN_14, tS_14, tT_16, tE_16, tP_16, tM_16, tN_16, tS_16, tT_20, tE_20, tP_20, tM_20, tN_20, tS_20, tT_24, tE_24, tP_24, tM_24, tN_24, tS_24, tT_40, tE_40, tP_40, tM_40, tN_40, tS_40, tT_41, tE_41, tP_41, tM_41, tN_41, tS_41, tT_80, tE_80, tP_80, tM_80, tN_80, tS_80, tT_455, tE_455, tP_455, tM_455, tN_455, tS_455, tT_1000, tE_1000, tP_1000, tM_1000, tN_1000, tS_1000, tT_1000000, tE_1000000, tP_1000000, tM_1000000, tN_1000000, tS_1000000, dIlT, dIlF, dIeT, dIeF, dNlT, dNlF, dNeT, dNeF, dNqF, dIqF, Option.bind_some, upd_upd, upd_self, upd_ne, vu_self, vu_ne, vu_vu, ↓reduceIte, ↓Sum.elim_inl, ↓Sum.elim_inr, one_ne, tk_bz0, tk_bz1, Bool.false_eq_true, e6, hcmp, x2, tb_wo, tE_0 hwl, hw0, fX1_bestWorth_167]
        rfl
      | true =>
        have hw0 : tk_wo (r_mem r) s = 0 := by unfold dp_sub at hsub; exact of_decide_eq_true hsub
        have hpc := bsum_wo (w := fun _ => 1) hsub n
        have hpm := pc_mem hrok
        have hrest : tk_wo s (r_mem r) < 2 ^ n := wo_lt hs
        unfold pc at hpm hdep hD
        obtain ⟨g1, q1, q2, q3, q4⟩ := hrc (tk_wo s (r_mem r)) (dep + 1) g hrest (by unfold pc; omega) (by unfold pc; omega) hMi
        have hval := V_ring (M := dp_M (tk_isr a) n) (w := w) (by omega) hs hs0 (by rw [hl]; exact keep_in hin) hsub
        have hmx := V_most (M := dp_M (tk_isr a) n) (w := w) (k := n) (by omega) (fun i => (p9 i).1) (fun l r h => M_ok h) s hs
        have h21 := bsum_21 (fun i => (p9 i).2) s n
        have hKr : tk_wo s (r_mem r) = 0 ∨ g1 (tk_wo s (r_mem r)) >>> 32 = Int64.ofNat W := by
          by_cases e : tk_wo s (r_mem r) = 0
          · exact Or.inl e
          · exact Or.inr (q3 e)
        have hKn1 : Kn W s (dp_M (dp_ok (tk_isr a)) n l) g1 cur := by
          cases cur with
          | none => trivial
          | some p =>
            intro r' hr'
            rcases hKn r' hr' with h | h
            · exact Or.inl h
            · right
              rw [q2 _ (wo_lt hs) h]; exact h
        by_cases hle : ∃ p, cur = some p ∧ bw_val w (dp_V (dp_M (tk_isr a) n) w) s r ≤ p.1
        · obtain ⟨p, rfl, hp⟩ := hle
          obtain ⟨i', g', cur', j1, j2, j3, j4, j5, j6, j7⟩ := ih (i + 1) G g1 (some p) (by omega) (by omega) q1 (by
            obtain ⟨c1, r', c2, c3, c4, c5, c6⟩ := hCu
            refine ⟨by omega, r', c2, c3, c4, fun j r'' hj hr'' hs'' => ?_, c6⟩
            by_cases e : j = i
            · subst e; rw [hr] at hr''; cases hr''; exact hp
            · exact c5 j r'' (by omega) hr'' hs'') hKn1
          refine ⟨i', g', cur', j1, j2, Ex_trans q2 j3, j4, j5, j6, ?_⟩
          have hv : p.1 < 1000000 := by
            obtain ⟨-, r, r1, r2, r3, -⟩ := hCu
            have hin := List.mem_of_getElem? r1
            have h1 := V_ring (M := dp_M (tk_isr a) n) (w := w) (by omega) hs hs0 (by rw [hl]; exact keep_in hin) r2
            unfold bw_val at r3
            omega
          unfold bw_val at hp
          have hmp : p.1 < most := Nat.lt_of_not_le (fun h => hmo ⟨p, rfl, h⟩)
          rw [← j7, fX1_bestWorth_90]
          simp (disch := omega) only [↓bwg_4_0, ↓bwg_4_1, ↓bwg_4_2, ↓bwg_4_3, ↓bwg_4_4, ↓bwg_4_5, ↓bwp_4_5, ↓bwg_4_6, ↓bwp_4_6, ↓bwg_4_7, ↓bwp_4_7, ↓bwg_4_8, ↓bwp_4_8, ↓bwg_4_9, ↓bwp_4_9, ↓bwo_4, ↓bwg_3_0, ↓bwg_3_1, ↓bwo_3, ↓bwg_1_0, ↓bwg_1_1, ↓bwg_1_2, ↓bwg_1_3, ↓bwg_1_4, ↓bwg_1_5, ↓bwg_1_6, ↓bwg_1_7, ↓bwg_1_8, ↓bwp_1_8, ↓bwg_1_9, ↓bwp_1_9, ↓bwo_1, ↓bwg_2_0, ↓bwg_2_1, ↓bwg_2_2, ↓bwg_2_3, ↓bwg_2_4, ↓bwp_2_4, ↓bwg_2_5, ↓bwp_2_5, ↓bwg_2_6, ↓bwp_2_6, ↓bwg_2_7, ↓bwp_2_7, ↓bwo_2, ↓bwg_5_0, ↓bwp_5_0, ↓bwg_5_1, ↓bwp_5_1, ↓bwg_5_2, ↓bwp_5_2, ↓bwg_5_3, ↓bwp_5_3, ↓bwg_5_4, ↓bwp_5_4, ↓bwg_5_5, ↓bwg_5_6, ↓bwg_5_7, ↓bwg_5_8, ↓bwg_5_9, ↓bwg_5_10, ↓bwg_5_11, ↓bwg_5_12, ↓bwg_5_13, ↓bwg_5_14, ↓bwg_5_15, ↓bwp_5_15, ↓bwg_5_16, ↓bwg_5_17, ↓bwg_5_18, ↓bwg_5_19, ↓bwg_5_20, ↓bwg_5_21, ↓bwg_5_22, ↓bwg_5_23, ↓bwp_5_23, ↓bwg_5_24, ↓bwp_5_24, ↓bwg_5_25, ↓bwg_5_26, ↓bwg_5_27, ↓bwp_5_27, ↓bwg_5_28, ↓bwg_5_29, ↓bwg_5_30, ↓bwg_5_31, ↓bwg_5_32, ↓bwg_5_33, ↓bwg_5_34, ↓bwo_5, ↓bwp_1_6, ↓bwp_1_7, ↓bwr_3, ↓bww_3, ↓bwr_4, ↓bww_4, ↓bwr_6, ↓bww_6, ↓bwr_7, ↓bww_7, ↓bwr_8, ↓bww_8, ↓bwr_9, ↓bww_9, ↓bwr_10, ↓bww_10, ↓bwr_11, ↓bww_11, ↓bwr_14, ↓bww_14, ↓bwr_15, ↓bww_15, ↓bwr_15_0, ↓bww_15_0, ↓bwr_16, ↓bww_16, ↓bwr_17, ↓bww_17, ↓bwr_18, ↓bww_18, ↓bwr_20, ↓bww_20, ↓bwr_21, ↓bww_21, ↓bwr_22, ↓bww_22, ↓bwr_23, ↓bww_23, ↓bwr_24, ↓bww_24, ↓bwr_25, ↓bww_25, ↓bwr_26, ↓bww_26, ↓bwr_27, ↓bww_27, ↓bwr_28, ↓bww_28, ↓bwr_29, ↓bww_29, ↓bwr_30, ↓bww_30, ↓bwr_31, ↓bww_31, ↓bwr_32, ↓bww_32, ↓bwr_33, ↓bww_33, ↓bwr_34, ↓bww_34, ↓bwr_35, ↓bww_35, ↓bwr_36, ↓bww_36, ↓bwr_37, ↓bww_37, ↓bwr_38, ↓bww_38, ↓bwr_38_0, ↓bww_38_0, ↓bwr_38_1, ↓bww_38_1, ↓bwr_38_2, ↓bww_38_2, ↓bwr_39, ↓bww_39, ↓bwr_40, ↓bww_40, ↓bwr_41, ↓bww_41, ↓bwr_42, ↓bww_42, ↓bwr_43, ↓bww_43, ↓bwr_43_0, ↓bww_43_0, ↓bwr_44, ↓bww_44, ↓bwr_44_0, ↓bww_44_0, ↓bwr_45, ↓bww_45, ↓bwr_45_0, ↓bww_45_0, ↓bwr_1, ↓bww_1, ↓bwr_46, ↓bww_46, Int32.lt_iff_toInt_lt, Int32.le_iff_toInt_le, tI_i, tI_e, tI_a, tT_m1, tE_m1, tT_0, tE_0, tP_0, tM_0, tN_0, tS_0, tT_1, tE_1, tP_1, tM_1, tN_1, tS_1, tT_2, tE_2, tP_2, tM_2, tN_2, tS_2, tT_3, tE_3, tP_3, tM_3, tN_3, tS_3, tT_4, tE_4, tP_4, tM_4, tN_4, tS_4, tT_5, tE_5, tP_5, tM_5, tN_5, tS_5, tT_6, tE_6, tP_6, tM_6, tN_6, tS_6, tT_7, tE_7, tP_7, tM_7, tN_7, tS_7, tT_8, tE_8, tP_8, tM_8, tN_8, tS_8, tT_10, tE_10, tP_10, tM_10, tN_10, tS_10, tT_14, tE_14, tP_14, tM_14, tN_14, tS_14, tT_16, tE_16, tP_16, tM_16, tN_16, tS_16, tT_20, tE_20, tP_20, tM_20, tN_20, tS_20, tT_24, tE_24, tP_24, tM_24, tN_24, tS_24, tT_40, tE_40, tP_40, tM_40, tN_40, tS_40, tT_41, tE_41, tP_41, tM_41, tN_41, tS_41, tT_80, tE_80, tP_80, tM_80, tN_80, tS_80, tT_455, tE_455, tP_455, tM_455, tN_455, tS_455, tT_1000, tE_1000, tP_1000, tM_1000, tN_1000, tS_1000, tT_1000000, tE_1000000, tP_1000000, tM_1000000, tN_1000000, tS_1000000, dIlT, dIlF, dIeT, dIeF, dNlT, dNlF, dNeT, dNeF, dNqF, dIqF, Option.bind_some, upd_upd, upd_self, upd_ne, vu_self, vu_ne, vu_vu, ↓reduceIte, ↓Sum.elim_inl, ↓Sum.elim_inr, one_ne, tk_bz0, tk_bz1, Bool.false_eq_true, e6, hcmp, x2, x5, tb_wo, hw0, q4, tI_a, cu_b, fX1_bestWorth_167]
          rfl
        · obtain ⟨i', g', cur', j1, j2, j3, j4, j5, j6, j7⟩ := ih (i + 1) G g1 (some (bw_val w (dp_V (dp_M (tk_isr a) n) w) s r, i)) (by omega) (by omega) q1 (by
            refine ⟨Nat.lt_succ_self i, r, hr, hsub, rfl, fun j r'' hj hr'' hs'' => ?_, fun j r'' hj hr'' hs'' => ?_⟩
            · by_cases e : j = i
              · subst e; rw [hr] at hr''; cases hr''; exact Nat.le_refl _
              · cases cur with
                | none => rw [hCu j r'' (by omega) hr''] at hs''; cases hs''
                | some p =>
                  obtain ⟨c1, r', c2, c3, c4, c5, c6⟩ := hCu
                  have h1 := c5 j r'' (by omega) hr'' hs''
                  have h2 : ¬ bw_val w (dp_V (dp_M (tk_isr a) n) w) s r ≤ p.1 := fun h => hle ⟨p, rfl, h⟩
                  simp only
                  omega
            · cases cur with
              | none => rw [hCu j r'' hj hr''] at hs''; cases hs''
              | some p =>
                obtain ⟨c1, r', c2, c3, c4, c5, c6⟩ := hCu
                have h1 := c5 j r'' hj hr'' hs''
                have h2 : ¬ bw_val w (dp_V (dp_M (tk_isr a) n) w) s r ≤ p.1 := fun h => hle ⟨p, rfl, h⟩
                simp only
                omega) (by intro r' hr'; rw [hr] at hr'; cases hr'; exact hKr)
          refine ⟨i', g', cur', j1, j2, Ex_trans q2 j3, j4, j5, j6, ?_⟩
          have hcmp2 : ((Int32.ofNat (r_val w r + dp_V (dp_M (tk_isr a) n) w (tk_wo s (r_mem r)))).toInt ≤ (cu_b cur).toInt) = False := by
            apply eq_false
            rw [tI_i (by omega)]
            cases cur with
            | none => show ¬ (_ ≤ (-1 : Int)); omega
            | some p =>
              intro h
              apply hle
              refine ⟨p, rfl, ?_⟩
              have hv : p.1 < 1000000 := by
                obtain ⟨-, r, r1, r2, r3, -⟩ := hCu
                have hin := List.mem_of_getElem? r1
                have h1 := V_ring (M := dp_M (tk_isr a) n) (w := w) (by omega) hs hs0 (by rw [hl]; exact keep_in hin) r2
                unfold bw_val at r3
                omega
              unfold cu_b at h
              simp only at h
              rw [tI_i (by omega)] at h
              unfold bw_val
              omega
          rw [show cu_b (some (bw_val w (dp_V (dp_M (tk_isr a) n) w) s r, i)) = Int32.ofNat (r_val w r + dp_V (dp_M (tk_isr a) n) w (tk_wo s (r_mem r))) from rfl, show cu_c (st l) (some (bw_val w (dp_V (dp_M (tk_isr a) n) w) s r, i)) = Int32.ofNat (st l + i) from rfl] at j7
          rw [← j7, fX1_bestWorth_90]
          simp (disch := omega) only [↓bwg_4_0, ↓bwg_4_1, ↓bwg_4_2, ↓bwg_4_3, ↓bwg_4_4, ↓bwg_4_5, ↓bwp_4_5, ↓bwg_4_6, ↓bwp_4_6, ↓bwg_4_7, ↓bwp_4_7, ↓bwg_4_8, ↓bwp_4_8, ↓bwg_4_9, ↓bwp_4_9, ↓bwo_4, ↓bwg_3_0, ↓bwg_3_1, ↓bwo_3, ↓bwg_1_0, ↓bwg_1_1, ↓bwg_1_2, ↓bwg_1_3, ↓bwg_1_4, ↓bwg_1_5, ↓bwg_1_6, ↓bwg_1_7, ↓bwg_1_8, ↓bwp_1_8, ↓bwg_1_9, ↓bwp_1_9, ↓bwo_1, ↓bwg_2_0, ↓bwg_2_1, ↓bwg_2_2, ↓bwg_2_3, ↓bwg_2_4, ↓bwp_2_4, ↓bwg_2_5, ↓bwp_2_5, ↓bwg_2_6, ↓bwp_2_6, ↓bwg_2_7, ↓bwp_2_7, ↓bwo_2, ↓bwg_5_0, ↓bwp_5_0, ↓bwg_5_1, ↓bwp_5_1, ↓bwg_5_2, ↓bwp_5_2, ↓bwg_5_3, ↓bwp_5_3, ↓bwg_5_4, ↓bwp_5_4, ↓bwg_5_5, ↓bwg_5_6, ↓bwg_5_7, ↓bwg_5_8, ↓bwg_5_9, ↓bwg_5_10, ↓bwg_5_11, ↓bwg_5_12, ↓bwg_5_13, ↓bwg_5_14, ↓bwg_5_15, ↓bwp_5_15, ↓bwg_5_16, ↓bwg_5_17, ↓bwg_5_18, ↓bwg_5_19, ↓bwg_5_20, ↓bwg_5_21, ↓bwg_5_22, ↓bwg_5_23, ↓bwp_5_23, ↓bwg_5_24, ↓bwp_5_24, ↓bwg_5_25, ↓bwg_5_26, ↓bwg_5_27, ↓bwp_5_27, ↓bwg_5_28, ↓bwg_5_29, ↓bwg_5_30, ↓bwg_5_31, ↓bwg_5_32, ↓bwg_5_33, ↓bwg_5_34, ↓bwo_5, ↓bwp_1_6, ↓bwp_1_7, ↓bwr_3, ↓bww_3, ↓bwr_4, ↓bww_4, ↓bwr_6, ↓bww_6, ↓bwr_7, ↓bww_7, ↓bwr_8, ↓bww_8, ↓bwr_9, ↓bww_9, ↓bwr_10, ↓bww_10, ↓bwr_11, ↓bww_11, ↓bwr_14, ↓bww_14, ↓bwr_15, ↓bww_15, ↓bwr_15_0, ↓bww_15_0, ↓bwr_16, ↓bww_16, ↓bwr_17, ↓bww_17, ↓bwr_18, ↓bww_18, ↓bwr_20, ↓bww_20, ↓bwr_21, ↓bww_21, ↓bwr_22, ↓bww_22, ↓bwr_23, ↓bww_23, ↓bwr_24, ↓bww_24, ↓bwr_25, ↓bww_25, ↓bwr_26, ↓bww_26, ↓bwr_27, ↓bww_27, ↓bwr_28, ↓bww_28, ↓bwr_29, ↓bww_29, ↓bwr_30, ↓bww_30, ↓bwr_31, ↓bww_31, ↓bwr_32, ↓bww_32, ↓bwr_33, ↓bww_33, ↓bwr_34, ↓bww_34, ↓bwr_35, ↓bww_35, ↓bwr_36, ↓bww_36, ↓bwr_37, ↓bww_37, ↓bwr_38, ↓bww_38, ↓bwr_38_0, ↓bww_38_0, ↓bwr_38_1, ↓bww_38_1, ↓bwr_38_2, ↓bww_38_2, ↓bwr_39, ↓bww_39, ↓bwr_40, ↓bww_40, ↓bwr_41, ↓bww_41, ↓bwr_42, ↓bww_42, ↓bwr_43, ↓bww_43, ↓bwr_43_0, ↓bww_43_0, ↓bwr_44, ↓bww_44, ↓bwr_44_0, ↓bww_44_0, ↓bwr_45, ↓bww_45, ↓bwr_45_0, ↓bww_45_0, ↓bwr_1, ↓bww_1, ↓bwr_46, ↓bww_46, Int32.lt_iff_toInt_lt, Int32.le_iff_toInt_le, tI_i, tI_e, tI_a, tT_m1, tE_m1, tT_0, tE_0, tP_0, tM_0, tN_0, tS_0, tT_1, tE_1, tP_1, tM_1, tN_1, tS_1, tT_2, tE_2, tP_2, tM_2, tN_2, tS_2, tT_3, tE_3, tP_3, tM_3, tN_3, tS_3, tT_4, tE_4, tP_4, tM_4, tN_4, tS_4, tT_5, tE_5, tP_5, tM_5, tN_5, tS_5, tT_6, tE_6, tP_6, tM_6, tN_6, tS_6, tT_7, tE_7, tP_7, tM_7, tN_7, tS_7, tT_8, tE_8, tP_8, tM_8, tN_8, tS_8, tT_10, tE_10, tP_10, tM_10, tN_10, tS_10, tT_14, tE_14, tP_14, tM_14, tN_14, tS_14, tT_16, tE_16, tP_16, tM_16, tN_16, tS_16, tT_20, tE_20, tP_20, tM_20, tN_20, tS_20, tT_24, tE_24, tP_24, tM_24, tN_24, tS_24, tT_40, tE_40, tP_40, tM_40, tN_40, tS_40, tT_41, tE_41, tP_41, tM_41, tN_41, tS_41, tT_80, tE_80, tP_80, tM_80, tN_80, tS_80, tT_455, tE_455, tP_455, tM_455, tN_455, tS_455, tT_1000, tE_1000, tP_1000, tM_1000, tN_1000, tS_1000, tT_1000000, tE_1000000, tP_1000000, tM_1000000, tN_1000000, tS_1000000, dIlT, dIlF, dIeT, dIeF, dNlT, dNlF, dNeT, dNeF, dNqF, dIqF, Option.bind_some, upd_upd, upd_self, upd_ne, vu_self, vu_ne, vu_vu, ↓reduceIte, ↓Sum.elim_inl, ↓Sum.elim_inr, one_ne, tk_bz0, tk_bz1, Bool.false_eq_true, e6, hcmp, x2, x5, tb_wo, hw0, q4, tI_a, fX1_bestWorth_167]
          rw [tI_i (by omega)] at hcmp2
          simp (disch := omega) only [↓bwg_4_0, ↓bwg_4_1, ↓bwg_4_2, ↓bwg_4_3, ↓bwg_4_4, ↓bwg_4_5, ↓bwp_4_5, ↓bwg_4_6, ↓bwp_4_6, ↓bwg_4_7, ↓bwp_4_7, ↓bwg_4_8, ↓bwp_4_8, ↓bwg_4_9, ↓bwp_4_9, ↓bwo_4, ↓bwg_3_0, ↓bwg_3_1, ↓bwo_3, ↓bwg_1_0, ↓bwg_1_1, ↓bwg_1_2, ↓bwg_1_3, ↓bwg_1_4, ↓bwg_1_5, ↓bwg_1_6, ↓bwg_1_7, ↓bwg_1_8, ↓bwp_1_8, ↓bwg_1_9, ↓bwp_1_9, ↓bwo_1, ↓bwg_2_0, ↓bwg_2_1, ↓bwg_2_2, ↓bwg_2_3, ↓bwg_2_4, ↓bwp_2_4, ↓bwg_2_5, ↓bwp_2_5, ↓bwg_2_6, ↓bwp_2_6, ↓bwg_2_7, ↓bwp_2_7, ↓bwo_2, ↓bwg_5_0, ↓bwp_5_0, ↓bwg_5_1, ↓bwp_5_1, ↓bwg_5_2, ↓bwp_5_2, ↓bwg_5_3, ↓bwp_5_3, ↓bwg_5_4, ↓bwp_5_4, ↓bwg_5_5, ↓bwg_5_6, ↓bwg_5_7, ↓bwg_5_8, ↓bwg_5_9, ↓bwg_5_10, ↓bwg_5_11, ↓bwg_5_12, ↓bwg_5_13, ↓bwg_5_14, ↓bwg_5_15, ↓bwp_5_15, ↓bwg_5_16, ↓bwg_5_17, ↓bwg_5_18, ↓bwg_5_19, ↓bwg_5_20, ↓bwg_5_21, ↓bwg_5_22, ↓bwg_5_23, ↓bwp_5_23, ↓bwg_5_24, ↓bwp_5_24, ↓bwg_5_25, ↓bwg_5_26, ↓bwg_5_27, ↓bwp_5_27, ↓bwg_5_28, ↓bwg_5_29, ↓bwg_5_30, ↓bwg_5_31, ↓bwg_5_32, ↓bwg_5_33, ↓bwg_5_34, ↓bwo_5, ↓bwp_1_6, ↓bwp_1_7, ↓bwr_3, ↓bww_3, ↓bwr_4, ↓bww_4, ↓bwr_6, ↓bww_6, ↓bwr_7, ↓bww_7, ↓bwr_8, ↓bww_8, ↓bwr_9, ↓bww_9, ↓bwr_10, ↓bww_10, ↓bwr_11, ↓bww_11, ↓bwr_14, ↓bww_14, ↓bwr_15, ↓bww_15, ↓bwr_15_0, ↓bww_15_0, ↓bwr_16, ↓bww_16, ↓bwr_17, ↓bww_17, ↓bwr_18, ↓bww_18, ↓bwr_20, ↓bww_20, ↓bwr_21, ↓bww_21, ↓bwr_22, ↓bww_22, ↓bwr_23, ↓bww_23, ↓bwr_24, ↓bww_24, ↓bwr_25, ↓bww_25, ↓bwr_26, ↓bww_26, ↓bwr_27, ↓bww_27, ↓bwr_28, ↓bww_28, ↓bwr_29, ↓bww_29, ↓bwr_30, ↓bww_30, ↓bwr_31, ↓bww_31, ↓bwr_32, ↓bww_32, ↓bwr_33, ↓bww_33, ↓bwr_34, ↓bww_34, ↓bwr_35, ↓bww_35, ↓bwr_36, ↓bww_36, ↓bwr_37, ↓bww_37, ↓bwr_38, ↓bww_38, ↓bwr_38_0, ↓bww_38_0, ↓bwr_38_1, ↓bww_38_1, ↓bwr_38_2, ↓bww_38_2, ↓bwr_39, ↓bww_39, ↓bwr_40, ↓bww_40, ↓bwr_41, ↓bww_41, ↓bwr_42, ↓bww_42, ↓bwr_43, ↓bww_43, ↓bwr_43_0, ↓bww_43_0, ↓bwr_44, ↓bww_44, ↓bwr_44_0, ↓bww_44_0, ↓bwr_45, ↓bww_45, ↓bwr_45_0, ↓bww_45_0, ↓bwr_1, ↓bww_1, ↓bwr_46, ↓bww_46, Int32.lt_iff_toInt_lt, Int32.le_iff_toInt_le, tI_i, tI_e, tI_a, tT_m1, tE_m1, tT_0, tE_0, tP_0, tM_0, tN_0, tS_0, tT_1, tE_1, tP_1, tM_1, tN_1, tS_1, tT_2, tE_2, tP_2, tM_2, tN_2, tS_2, tT_3, tE_3, tP_3, tM_3, tN_3, tS_3, tT_4, tE_4, tP_4, tM_4, tN_4, tS_4, tT_5, tE_5, tP_5, tM_5, tN_5, tS_5, tT_6, tE_6, tP_6, tM_6, tN_6, tS_6, tT_7, tE_7, tP_7, tM_7, tN_7, tS_7, tT_8, tE_8, tP_8, tM_8, tN_8, tS_8, tT_10, tE_10, tP_10, tM_10, tN_10, tS_10, tT_14, tE_14, tP_14, tM_14, tN_14, tS_14, tT_16, tE_16, tP_16, tM_16, tN_16, tS_16, tT_20, tE_20, tP_20, tM_20, tN_20, tS_20, tT_24, tE_24, tP_24, tM_24, tN_24, tS_24, tT_40, tE_40, tP_40, tM_40, tN_40, tS_40, tT_41, tE_41, tP_41, tM_41, tN_41, tS_41, tT_80, tE_80, tP_80, tM_80, tN_80, tS_80, tT_455, tE_455, tP_455, tM_455, tN_455, tS_455, tT_1000, tE_1000, tP_1000, tM_1000, tN_1000, tS_1000, tT_1000000, tE_1000000, tP_1000000, tM_1000000, tN_1000000, tS_1000000, dIlT, dIlF, dIeT, dIeF, dNlT, dNlF, dNeT, dNeF, dNqF, dIqF, Option.bind_some, upd_upd, upd_self, upd_ne, vu_self, vu_ne, vu_vu, ↓reduceIte, ↓Sum.elim_inl, ↓Sum.elim_inr, one_ne, tk_bz0, tk_bz1, Bool.false_eq_true, hcmp2, fX1_bestWorth_167]
          rfl
end BEST

theorem bsum_ext {w : Nat → Nat} {s n : Nat} (hs : s < 2 ^ n) : ∀ d, bsum w (n + d) s = bsum w n s := by
  intro d
  induction d with
  | zero => rfl
  | succ d ih =>
    show bsum w (n + d) s + (if s.testBit (n + d) = true then w (n + d) else 0) = _
    rw [ih, Nat.testBit_lt_two_pow (Nat.lt_of_lt_of_le hs (Nat.pow_le_pow_right (by decide) (by omega)))]
    rfl
theorem pc_14 {s n : Nat} (hn : n ≤ 14) (hs : s < 2 ^ n) : pc 14 s = pc n s := by
  have := bsum_ext (w := fun _ => 1) hs (14 - n)
  rw [show n + (14 - n) = 14 by omega] at this
  exact this
section PICK
variable {a : Nat → Nat → Int32} {n : Nat} {w : Nat → Nat} {s l : Nat} {i : Nat} {cur : Option (Nat × Nat)}
theorem cur_le (hn : n ≤ 14) (hs : s < 2 ^ n) (hs0 : s ≠ 0) (hl : dp_low s = l) {p : Nat × Nat} (hC : Cu w (dp_V (dp_M (tk_isr a) n) w) s (dp_M (dp_ok (tk_isr a)) n l) i (some p)) : p.1 ≤ dp_V (dp_M (tk_isr a) n) w s := by
  obtain ⟨-, r, r1, r2, r3, -⟩ := hC
  have h1 := V_ring (M := dp_M (tk_isr a) n) (w := w) (k := n) (by omega) hs hs0 (by rw [hl]; exact keep_in (List.mem_of_getElem? r1)) r2
  unfold bw_val at r3
  omega
theorem pick_some (hn : n ≤ 14) (hs : s < 2 ^ n) (hs0 : s ≠ 0) (hl : dp_low s = l) {p : Nat × Nat} {most : Nat} (hmost : dp_V (dp_M (tk_isr a) n) w s ≤ most) (hC : Cu w (dp_V (dp_M (tk_isr a) n) w) s (dp_M (dp_ok (tk_isr a)) n l) i (some p)) (he : i = (dp_M (dp_ok (tk_isr a)) n l).length ∨ most ≤ p.1) (hnone : dp_V (dp_M (tk_isr a) n) w (tk_wo s (2 ^ l)) ≤ p.1) : dp_V (dp_M (tk_isr a) n) w s = p.1 ∧ ∃ r, (dp_M (dp_ok (tk_isr a)) n l)[p.2]? = some r ∧ dp_pick (dp_M (tk_isr a) n) w s = some r := by
  have h1 := cur_le hn hs hs0 hl hC
  obtain ⟨c1, r, r1, r2, r3, r4, r5⟩ := hC
  have hV : dp_V (dp_M (tk_isr a) n) w s = p.1 := by
    rcases he with he | he
    · rcases V_is_keep (ok := tk_isr a) (w := w) (n := n) (k := n) (by omega) hs hs0 with h | ⟨q, q1, q2, q3⟩
      · rw [hl] at h; omega
      · rw [hl] at q1
        obtain ⟨j, hj⟩ := List.getElem?_of_mem q1
        have hjl : j < (dp_M (dp_ok (tk_isr a)) n l).length := (List.getElem?_eq_some_iff.mp hj).1
        have := r4 j q (by omega) hj q2
        unfold bw_val at this
        omega
    · omega
  refine ⟨hV, r, r1, ?_⟩
  rw [← pick_keep, hl]
  refine find_idx _ p.2 r1 ?_ (fun j y hj hy => ?_)
  · unfold dp_best
    rw [r2, Bool.true_and, decide_eq_true_iff]
    unfold bw_val at r3
    omega
  · unfold dp_best
    cases hsy : dp_sub (r_mem y) s with
    | false => rfl
    | true =>
      rw [Bool.true_and, decide_eq_false_iff_not]
      have := r5 j y hj hy hsy
      unfold bw_val at this
      omega
theorem pick_none (hn : n ≤ 14) (hs : s < 2 ^ n) (hs0 : s ≠ 0) (hl : dp_low s = l) {most : Nat} (hmost : dp_V (dp_M (tk_isr a) n) w s ≤ most) (hC : Cu w (dp_V (dp_M (tk_isr a) n) w) s (dp_M (dp_ok (tk_isr a)) n l) i cur) (he : i = (dp_M (dp_ok (tk_isr a)) n l).length ∨ ∃ p, cur = some p ∧ most ≤ p.1) (hnone : ∀ p, cur = some p → p.1 < dp_V (dp_M (tk_isr a) n) w (tk_wo s (2 ^ l))) : dp_V (dp_M (tk_isr a) n) w s = dp_V (dp_M (tk_isr a) n) w (tk_wo s (2 ^ l)) ∧ dp_pick (dp_M (tk_isr a) n) w s = none := by
  have hn0 := V_none (M := dp_M (tk_isr a) n) (w := w) (k := n) (by omega) hs hs0
  rw [hl] at hn0
  have he : i = (dp_M (dp_ok (tk_isr a)) n l).length := by
    rcases he with he | ⟨p, p1, p2⟩
    · exact he
    · have := hnone p p1; omega
  have hall : ∀ q, q ∈ dp_M (dp_ok (tk_isr a)) n l → dp_sub (r_mem q) s = true → bw_val w (dp_V (dp_M (tk_isr a) n) w) s q < dp_V (dp_M (tk_isr a) n) w (tk_wo s (2 ^ l)) := by
    intro q q1 q2
    obtain ⟨j, hj⟩ := List.getElem?_of_mem q1
    have hjl : j < (dp_M (dp_ok (tk_isr a)) n l).length := (List.getElem?_eq_some_iff.mp hj).1
    cases cur with
    | none => rw [hC j q (by omega) hj] at q2; cases q2
    | some p =>
      obtain ⟨c1, r, r1, r2, r3, r4, r5⟩ := hC
      have h1 := r4 j q (by omega) hj q2
      have h2 := hnone p rfl
      omega
  have hV : dp_V (dp_M (tk_isr a) n) w s = dp_V (dp_M (tk_isr a) n) w (tk_wo s (2 ^ l)) := by
    rcases V_is_keep (ok := tk_isr a) (w := w) (n := n) (k := n) (by omega) hs hs0 with h | ⟨q, q1, q2, q3⟩
    · rw [hl] at h; exact h
    · rw [hl] at q1
      have := hall q q1 q2
      unfold bw_val at this
      omega
  refine ⟨hV, ?_⟩
  rw [← pick_keep, hl, List.find?_eq_none]
  intro q hq
  unfold dp_best
  cases hsy : dp_sub (r_mem q) s with
  | false => simp
  | true =>
    have := hall q hq hsy
    unfold bw_val at this
    simp
    omega
end PICK
theorem updL_self (f : Nat → Int64) (k : Nat) (x : Int64) : vp_updL f k x k = x := if_pos rfl
theorem updL_ne (f : Nat → Int64) {k j : Nat} (x : Int64) (h : j ≠ k) : vp_updL f k x j = f j := if_neg h
theorem bw_note {M : Nat → List (Nat × Nat × Option Nat)} {w : Nat → Nat} {X : List (Nat × Nat × Option Nat)} {n len W s q : Nat} {g : Nat → Int64} (hMi : Mi M w X n len W g) (hs : s < 2 ^ n) (hV : dp_V M w s < 65536) (hq : q ≤ 455) (hW : W < 1000000) (hpick : (q = 0 ∧ dp_pick M w s = none) ∨ ∃ r, 1 ≤ q ∧ X[q - 1]? = some r ∧ dp_pick M w s = some r) (hnext : dp_next s (dp_pick M w s) = 0 ∨ g (dp_next s (dp_pick M w s)) >>> 32 = Int64.ofNat W) : Mi M w X n len W (vp_updL g s (en W q (dp_V M w s))) ∧ vp_updL g s (en W q (dp_V M w s)) s >>> 32 = Int64.ofNat W := by
  have hk : vp_updL g s (en W q (dp_V M w s)) s >>> 32 = Int64.ofNat W := by
    rw [updL_self, ← sh32]; exact en_w (by omega) (by omega) hV
  have hkn : ∀ t, g t >>> 32 = Int64.ofNat W → vp_updL g s (en W q (dp_V M w s)) t >>> 32 = Int64.ofNat W := by
    intro t ht
    by_cases e : t = s
    · rw [e]; exact hk
    · rw [updL_ne _ _ e]; exact ht
  refine ⟨⟨fun i hi => ?_, fun t ht ht0 hkt => ?_⟩, hk⟩
  · by_cases e : i = s
    · rw [e]; exact ⟨W, Nat.le_refl _, hk⟩
    · rw [updL_ne _ _ e]; exact hMi.1 i hi
  · by_cases e : t = s
    · subst e
      refine ⟨q, updL_self _ _ _, hq, hpick, ?_⟩
      rcases hnext with h | h
      · exact Or.inl h
      · exact Or.inr (hkn _ h)
    · rw [updL_ne _ _ e] at hkt ⊢
      obtain ⟨q', a1, a2, a3, a4⟩ := hMi.2 t ht ht0 hkt
      refine ⟨q', a1, a2, a3, ?_⟩
      rcases a4 with h | h
      · exact Or.inl h
      · exact Or.inr (hkn _ h)
section BEST
variable {A : Nat} {f : Nat → Int32} {a : Nat → Nat → Int32} {xi : Nat → Int32} {xa : Nat → Nat → Int32} {lr : Nat → Option Nat} {wk : Int64} {mm : Nat} {o : Nat → Int64} {own : Nat → Option (Nat × Nat)} {ad : Nat → Nat} {lf : Nat → Nat → Int32} {la : Nat → Nat → Nat → Int32} {h0 : tk_AH} {N sz n c len : Nat} {β : Type} {w : Nat → Nat} {X : List (Nat × Nat × Option Nat)} {st : Nat → Nat}
theorem x_best {W : Nat} {g0 : Nat → Int64} (hN : 20000 ≤ N) (hP : Pl n w a xi xa X st) (hMo : Mo A mm len own h0 g0) (hlen : len ≤ 16384) (hl2 : 2 ^ n ≤ len) (hW : W < 1000000) : ∀ D s dep g, s < 2 ^ n → pc n s < D → pc n s + dep ≤ 14 → Mi (dp_M (tk_isr a) n) w X n len W g → ∃ g', Mi (dp_M (tk_isr a) n) w X n len W g' ∧ Ex n W g g' ∧ (s ≠ 0 → g' s >>> 32 = Int64.ofNat W) ∧ fX1_bestWorth N D (A + 5) (Int32.ofNat s) (Int32.ofNat dep) (wd A f a xi xa lr (Int64.ofNat W) mm o own ad lf la (va_up h0 mm (some (.inr (2, len, .inr (.inl g)))))) sz = some (Int32.ofNat (dp_V (dp_M (tk_isr a) n) w s), wd A f a xi xa lr (Int64.ofNat W) mm o own ad lf la (va_up h0 mm (some (.inr (2, len, .inr (.inl g'))))), sz) := by
  obtain ⟨p1, p2, p3, p4, p5, p6, p7, p8, p9⟩ := id hP
  have hp14 : 2 ^ n ≤ 16384 := Nat.pow_le_pow_right (n := 2) (by decide) p1
  intro D
  induction D with
  | zero => intro s dep g _ h; omega
  | succ D ih =>
    intro s dep g hs hD hdep hMi
    have hMg : Mo A mm len own (va_up h0 mm (some (.inr (2, len, .inr (.inl g))))) g := mo_set hMo
    have hV2 := V_most (M := dp_M (tk_isr a) n) (w := w) (k := n) (by omega) (fun i => (p9 i).1) (fun l r h => M_ok h) s hs
    have hV3 := bsum_21 (fun i => (p9 i).2) s n
    by_cases hs0 : s = 0
    · subst hs0
      refine ⟨g, hMi, Ex_refl g, fun h => absurd rfl h, ?_⟩
      rw [fX1_bestWorth]
      simp (disch := omega) only [↓bwg_4_0, ↓bwg_4_1, ↓bwg_4_2, ↓bwg_4_3, ↓bwg_4_4, ↓bwg_4_5, ↓bwp_4_5, ↓bwg_4_6, ↓bwp_4_6, ↓bwg_4_7, ↓bwp_4_7, ↓bwg_4_8, ↓bwp_4_8, ↓bwg_4_9, ↓bwp_4_9, ↓bwo_4, ↓bwg_3_0, ↓bwg_3_1, ↓bwo_3, ↓bwg_1_0, ↓bwg_1_1, ↓bwg_1_2, ↓bwg_1_3, ↓bwg_1_4, ↓bwg_1_5, ↓bwg_1_6, ↓bwg_1_7, ↓bwg_1_8, ↓bwp_1_8, ↓bwg_1_9, ↓bwp_1_9, ↓bwo_1, ↓bwg_2_0, ↓bwg_2_1, ↓bwg_2_2, ↓bwg_2_3, ↓bwg_2_4, ↓bwp_2_4, ↓bwg_2_5, ↓bwp_2_5, ↓bwg_2_6, ↓bwp_2_6, ↓bwg_2_7, ↓bwp_2_7, ↓bwo_2, ↓bwg_5_0, ↓bwp_5_0, ↓bwg_5_1, ↓bwp_5_1, ↓bwg_5_2, ↓bwp_5_2, ↓bwg_5_3, ↓bwp_5_3, ↓bwg_5_4, ↓bwp_5_4, ↓bwg_5_5, ↓bwg_5_6, ↓bwg_5_7, ↓bwg_5_8, ↓bwg_5_9, ↓bwg_5_10, ↓bwg_5_11, ↓bwg_5_12, ↓bwg_5_13, ↓bwg_5_14, ↓bwg_5_15, ↓bwp_5_15, ↓bwg_5_16, ↓bwg_5_17, ↓bwg_5_18, ↓bwg_5_19, ↓bwg_5_20, ↓bwg_5_21, ↓bwg_5_22, ↓bwg_5_23, ↓bwp_5_23, ↓bwg_5_24, ↓bwp_5_24, ↓bwg_5_25, ↓bwg_5_26, ↓bwg_5_27, ↓bwp_5_27, ↓bwg_5_28, ↓bwg_5_29, ↓bwg_5_30, ↓bwg_5_31, ↓bwg_5_32, ↓bwg_5_33, ↓bwg_5_34, ↓bwo_5, ↓bwp_1_6, ↓bwp_1_7, ↓bwr_3, ↓bww_3, ↓bwr_4, ↓bww_4, ↓bwr_6, ↓bww_6, ↓bwr_7, ↓bww_7, ↓bwr_8, ↓bww_8, ↓bwr_9, ↓bww_9, ↓bwr_10, ↓bww_10, ↓bwr_11, ↓bww_11, ↓bwr_14, ↓bww_14, ↓bwr_15, ↓bww_15, ↓bwr_15_0, ↓bww_15_0, ↓bwr_16, ↓bww_16, ↓bwr_17, ↓bww_17, ↓bwr_18, ↓bww_18, ↓bwr_20, ↓bww_20, ↓bwr_21, ↓bww_21, ↓bwr_22, ↓bww_22, ↓bwr_23, ↓bww_23, ↓bwr_24, ↓bww_24, ↓bwr_25, ↓bww_25, ↓bwr_26, ↓bww_26, ↓bwr_27, ↓bww_27, ↓bwr_28, ↓bww_28, ↓bwr_29, ↓bww_29, ↓bwr_30, ↓bww_30, ↓bwr_31, ↓bww_31, ↓bwr_32, ↓bww_32, ↓bwr_33, ↓bww_33, ↓bwr_34, ↓bww_34, ↓bwr_35, ↓bww_35, ↓bwr_36, ↓bww_36, ↓bwr_37, ↓bww_37, ↓bwr_38, ↓bww_38, ↓bwr_38_0, ↓bww_38_0, ↓bwr_38_1, ↓bww_38_1, ↓bwr_38_2, ↓bww_38_2, ↓bwr_39, ↓bww_39, ↓bwr_40, ↓bww_40, ↓bwr_41, ↓bww_41, ↓bwr_42, ↓bww_42, ↓bwr_43, ↓bww_43, ↓bwr_43_0, ↓bww_43_0, ↓bwr_44, ↓bww_44, ↓bwr_44_0, ↓bww_44_0, ↓bwr_45, ↓bww_45, ↓bwr_45_0, ↓bww_45_0, ↓bwr_1, ↓bww_1, ↓bwr_46, ↓bww_46, Int32.lt_iff_toInt_lt, Int32.le_iff_toInt_le, tI_i, tI_e, tI_a, tT_m1, tE_m1, tT_0, tE_0, tP_0, tM_0, tN_0, tS_0, tT_1, tE_1, tP_1, tM_1, tN_1, tS_1, tT_2, tE_2, tP_2, tM_2, tN_2, tS_2, tT_3, tE_3, tP_3, tM_3, tN_3, tS_3, tT_4, tE_4, tP_4, tM_4, tN_4, tS_4, tT_5, tE_5, tP_5, tM_5, tN_5, tS_5, tT_6, tE_6, tP_6, tM_6, tN_6, tS_6, tT_7, tE_7, tP_7, tM_7, tN_7, tS_7, tT_8, tE_8, tP_8, tM_8, tN_8, tS_8, tT_10, tE_10, tP_10, tM_10, tN_10, tS_10, tT_14, tE_14, tP_14, tM_14, tN_14, tS_14, tT_16, tE_16, tP_16, tM_16, tN_16, tS_16, tT_20, tE_20, tP_20, tM_20, tN_20, tS_20, tT_24, tE_24, tP_24, tM_24, tN_24, tS_24, tT_40, tE_40, tP_40, tM_40, tN_40, tS_40, tT_41, tE_41, tP_41, tM_41, tN_41, tS_41, tT_80, tE_80, tP_80, tM_80, tN_80, tS_80, tT_455, tE_455, tP_455, tM_455, tN_455, tS_455, tT_1000, tE_1000, tP_1000, tM_1000, tN_1000, tS_1000, tT_1000000, tE_1000000, tP_1000000, tM_1000000, tN_1000000, tS_1000000, dIlT, dIlF, dIeT, dIeF, dNlT, dNlF, dNeT, dNeF, dNqF, dIqF, Option.bind_some, upd_upd, upd_self, upd_ne, vu_self, vu_ne, vu_vu, ↓reduceIte, ↓Sum.elim_inl, ↓Sum.elim_inr, one_ne, tk_bz0, tk_bz1, Bool.false_eq_true, fX1_bestWorth_19]
      rfl
    · have hlow := low_is (k := n) (by omega) hs hs0
      have hpc1 : 1 ≤ pc n s := by
        have h1 := bsum_wo (w := fun _ => 1) (low_sub (k := n) (by omega) hs hs0) n
        rw [bsum_pow, if_pos hlow.2.1] at h1
        unfold pc; omega
      by_cases hk : g s >>> 32 = Int64.ofNat W
      · obtain ⟨q, a1, a2, a3, a4⟩ := hMi.2 s hs hs0 hk
        refine ⟨g, hMi, Ex_refl g, fun _ => hk, ?_⟩
        rw [fX1_bestWorth]
        have hk2 := hk
        rw [a1] at hk2
        simp (disch := omega) only [↓bwg_4_0, ↓bwg_4_1, ↓bwg_4_2, ↓bwg_4_3, ↓bwg_4_4, ↓bwg_4_5, ↓bwp_4_5, ↓bwg_4_6, ↓bwp_4_6, ↓bwg_4_7, ↓bwp_4_7, ↓bwg_4_8, ↓bwp_4_8, ↓bwg_4_9, ↓bwp_4_9, ↓bwo_4, ↓bwg_3_0, ↓bwg_3_1, ↓bwo_3, ↓bwg_1_0, ↓bwg_1_1, ↓bwg_1_2, ↓bwg_1_3, ↓bwg_1_4, ↓bwg_1_5, ↓bwg_1_6, ↓bwg_1_7, ↓bwg_1_8, ↓bwp_1_8, ↓bwg_1_9, ↓bwp_1_9, ↓bwo_1, ↓bwg_2_0, ↓bwg_2_1, ↓bwg_2_2, ↓bwg_2_3, ↓bwg_2_4, ↓bwp_2_4, ↓bwg_2_5, ↓bwp_2_5, ↓bwg_2_6, ↓bwp_2_6, ↓bwg_2_7, ↓bwp_2_7, ↓bwo_2, ↓bwg_5_0, ↓bwp_5_0, ↓bwg_5_1, ↓bwp_5_1, ↓bwg_5_2, ↓bwp_5_2, ↓bwg_5_3, ↓bwp_5_3, ↓bwg_5_4, ↓bwp_5_4, ↓bwg_5_5, ↓bwg_5_6, ↓bwg_5_7, ↓bwg_5_8, ↓bwg_5_9, ↓bwg_5_10, ↓bwg_5_11, ↓bwg_5_12, ↓bwg_5_13, ↓bwg_5_14, ↓bwg_5_15, ↓bwp_5_15, ↓bwg_5_16, ↓bwg_5_17, ↓bwg_5_18, ↓bwg_5_19, ↓bwg_5_20, ↓bwg_5_21, ↓bwg_5_22, ↓bwg_5_23, ↓bwp_5_23, ↓bwg_5_24, ↓bwp_5_24, ↓bwg_5_25, ↓bwg_5_26, ↓bwg_5_27, ↓bwp_5_27, ↓bwg_5_28, ↓bwg_5_29, ↓bwg_5_30, ↓bwg_5_31, ↓bwg_5_32, ↓bwg_5_33, ↓bwg_5_34, ↓bwo_5, ↓bwp_1_6, ↓bwp_1_7, ↓bwr_3, ↓bww_3, ↓bwr_4, ↓bww_4, ↓bwr_6, ↓bww_6, ↓bwr_7, ↓bww_7, ↓bwr_8, ↓bww_8, ↓bwr_9, ↓bww_9, ↓bwr_10, ↓bww_10, ↓bwr_11, ↓bww_11, ↓bwr_14, ↓bww_14, ↓bwr_15, ↓bww_15, ↓bwr_15_0, ↓bww_15_0, ↓bwr_16, ↓bww_16, ↓bwr_17, ↓bww_17, ↓bwr_18, ↓bww_18, ↓bwr_20, ↓bww_20, ↓bwr_21, ↓bww_21, ↓bwr_22, ↓bww_22, ↓bwr_23, ↓bww_23, ↓bwr_24, ↓bww_24, ↓bwr_25, ↓bww_25, ↓bwr_26, ↓bww_26, ↓bwr_27, ↓bww_27, ↓bwr_28, ↓bww_28, ↓bwr_29, ↓bww_29, ↓bwr_30, ↓bww_30, ↓bwr_31, ↓bww_31, ↓bwr_32, ↓bww_32, ↓bwr_33, ↓bww_33, ↓bwr_34, ↓bww_34, ↓bwr_35, ↓bww_35, ↓bwr_36, ↓bww_36, ↓bwr_37, ↓bww_37, ↓bwr_38, ↓bww_38, ↓bwr_38_0, ↓bww_38_0, ↓bwr_38_1, ↓bww_38_1, ↓bwr_38_2, ↓bww_38_2, ↓bwr_39, ↓bww_39, ↓bwr_40, ↓bww_40, ↓bwr_41, ↓bww_41, ↓bwr_42, ↓bww_42, ↓bwr_43, ↓bww_43, ↓bwr_43_0, ↓bww_43_0, ↓bwr_44, ↓bww_44, ↓bwr_44_0, ↓bww_44_0, ↓bwr_45, ↓bww_45, ↓bwr_45_0, ↓bww_45_0, ↓bwr_1, ↓bww_1, ↓bwr_46, ↓bww_46, Int32.lt_iff_toInt_lt, Int32.le_iff_toInt_le, tI_i, tI_e, tI_a, tT_m1, tE_m1, tT_0, tE_0, tP_0, tM_0, tN_0, tS_0, tT_1, tE_1, tP_1, tM_1, tN_1, tS_1, tT_2, tE_2, tP_2, tM_2, tN_2, tS_2, tT_3, tE_3, tP_3, tM_3, tN_3, tS_3, tT_4, tE_4, tP_4, tM_4, tN_4, tS_4, tT_5, tE_5, tP_5, tM_5, tN_5, tS_5, tT_6, tE_6, tP_6, tM_6, tN_6, tS_6, tT_7, tE_7, tP_7, tM_7, tN_7, tS_7, tT_8, tE_8, tP_8, tM_8, tN_8, tS_8, tT_10, tE_10, tP_10, tM_10, tN_10, tS_10, tT_14, tE_14, tP_14, tM_14, tN_14, tS_14, tT_16, tE_16, tP_16, tM_16, tN_16, tS_16, tT_20, tE_20, tP_20, tM_20, tN_20, tS_20, tT_24, tE_24, tP_24, tM_24, tN_24, tS_24, tT_40, tE_40, tP_40, tM_40, tN_40, tS_40, tT_41, tE_41, tP_41, tM_41, tN_41, tS_41, tT_80, tE_80, tP_80, tM_80, tN_80, tS_80, tT_455, tE_455, tP_455, tM_455, tN_455, tS_455, tT_1000, tE_1000, tP_1000, tM_1000, tN_1000, tS_1000, tT_1000000, tE_1000000, tP_1000000, tM_1000000, tN_1000000, tS_1000000, dIlT, dIlF, dIeT, dIeF, dNlT, dNlF, dNeT, dNeF, dNqF, dIqF, Option.bind_some, upd_upd, upd_self, upd_ne, vu_self, vu_ne, vu_vu, ↓reduceIte, ↓Sum.elim_inl, ↓Sum.elim_inr, one_ne, tk_bz0, tk_bz1, Bool.false_eq_true, ↓b_mn hMg, ↓x_known hMg hlen (by omega : s < len), hk2, ↓b_mr hMg hlen (by omega : s < len), a1, en_v (by omega : dp_V (dp_M (tk_isr a) n) w s < 65536)]
      · have hbW : w (dp_low s) ≤ bsum w n s := by
          have h1 := bsum_wo (w := w) (low_sub (k := n) (by omega) hs hs0) n
          rw [bsum_pow, if_pos hlow.2.1] at h1
          omega
        have hw1 := (p9 (dp_low s)).1
        have eW := x_weight (N := N) (sz := sz) (A := A) (f := f) (a := a) (xi := xi) (xa := xa) (lr := lr) (wk := Int64.ofNat W) (mm := mm) (o := o) (own := own) (ad := ad) (lf := lf) (la := la) (h0 := va_up h0 mm (some (.inr (2, len, .inr (.inl g))))) p1 (by omega : s < 16384) p8 p7 (fun i => (p9 i).2) n 0 N (by omega) (by omega)
        have eW : fX1_weightOf N (A + 5) (Int32.ofNat s) (wd A f a xi xa lr (Int64.ofNat W) mm o own ad lf la (va_up h0 mm (some (.inr (2, len, .inr (.inl g)))))) sz = _ := eW
        have e1 : Int32.ofNat (pc 14 s) &&& 1 = Int32.ofNat (pc n s % 2) := by
          rw [pc_14 p1 hs, show (1 : Int32) = Int32.ofNat 1 from rfl, tb_and, Nat.and_one_is_mod]
        have e6 := p6 (dp_low s) (by omega)
        obtain ⟨i', g1, cur, j1, j2, j3, j4, j5, j6, j7⟩ := x_bw90 (N := N) (sz := sz) (A := A) (f := f) (a := a) (xi := xi) (xa := xa) (lr := lr) (mm := mm) (o := o) (own := own) (ad := ad) (lf := lf) (la := la) (h0 := h0) (W := W) (D := D) (dep := dep) (most := bsum w n s * 8 - pc n s % 2) (Wt := bsum w n s) (rc := fX1_bestWorth N D) (K := fX1_bestWorth_173 N (fX1_bestWorth N D)) hP hMo hlen hl2 hs hs0 rfl hdep (by omega) (by omega) ih (dp_M (dp_ok (tk_isr a)) n (dp_low s)).length 0 N g none (Nat.zero_add _) (by
            have := Sg_le p5 (dp_low s + 1) (by omega)
            have := (p5.2 (dp_low s) hlow.2.1).1
            omega) hMi (fun j r hj => by omega) trivial
        rw [show cu_b none = (-1 : Int32) from rfl, show cu_c (st (dp_low s)) none = (-1 : Int32) from rfl, Nat.add_zero] at j7
        have ebody : fX1_bestWorth N (D + 1) (A + 5) (Int32.ofNat s) (Int32.ofNat dep) (wd A f a xi xa lr (Int64.ofNat W) mm o own ad lf la (va_up h0 mm (some (.inr (2, len, .inr (.inl g)))))) sz = fX1_bestWorth_173 N (fX1_bestWorth N D) (A + 5) (Int32.ofNat s) (Int32.ofNat dep) (Int32.ofNat (dp_low s)) (Int32.ofNat (bsum w n s)) (cu_b cur) (cu_c (st (dp_low s)) cur) (wd A f a xi xa lr (Int64.ofNat W) mm o own ad lf la (va_up h0 mm (some (.inr (2, len, .inr (.inl g1)))))) sz := by
          rw [← j7, fX1_bestWorth]
          simp (disch := omega) only [↓bwg_4_0, ↓bwg_4_1, ↓bwg_4_2, ↓bwg_4_3, ↓bwg_4_4, ↓bwg_4_5, ↓bwp_4_5, ↓bwg_4_6, ↓bwp_4_6, ↓bwg_4_7, ↓bwp_4_7, ↓bwg_4_8, ↓bwp_4_8, ↓bwg_4_9, ↓bwp_4_9, ↓bwo_4, ↓bwg_3_0, ↓bwg_3_1, ↓bwo_3, ↓bwg_1_0, ↓bwg_1_1, ↓bwg_1_2, ↓bwg_1_3, ↓bwg_1_4, ↓bwg_1_5, ↓bwg_1_6, ↓bwg_1_7, ↓bwg_1_8, ↓bwp_1_8, ↓bwg_1_9, ↓bwp_1_9, ↓bwo_1, ↓bwg_2_0, ↓bwg_2_1, ↓bwg_2_2, ↓bwg_2_3, ↓bwg_2_4, ↓bwp_2_4, ↓bwg_2_5, ↓bwp_2_5, ↓bwg_2_6, ↓bwp_2_6, ↓bwg_2_7, ↓bwp_2_7, ↓bwo_2, ↓bwg_5_0, ↓bwp_5_0, ↓bwg_5_1, ↓bwp_5_1, ↓bwg_5_2, ↓bwp_5_2, ↓bwg_5_3, ↓bwp_5_3, ↓bwg_5_4, ↓bwp_5_4, ↓bwg_5_5, ↓bwg_5_6, ↓bwg_5_7, ↓bwg_5_8, ↓bwg_5_9, ↓bwg_5_10, ↓bwg_5_11, ↓bwg_5_12, ↓bwg_5_13, ↓bwg_5_14, ↓bwg_5_15, ↓bwp_5_15, ↓bwg_5_16, ↓bwg_5_17, ↓bwg_5_18, ↓bwg_5_19, ↓bwg_5_20, ↓bwg_5_21, ↓bwg_5_22, ↓bwg_5_23, ↓bwp_5_23, ↓bwg_5_24, ↓bwp_5_24, ↓bwg_5_25, ↓bwg_5_26, ↓bwg_5_27, ↓bwp_5_27, ↓bwg_5_28, ↓bwg_5_29, ↓bwg_5_30, ↓bwg_5_31, ↓bwg_5_32, ↓bwg_5_33, ↓bwg_5_34, ↓bwo_5, ↓bwp_1_6, ↓bwp_1_7, ↓bwr_3, ↓bww_3, ↓bwr_4, ↓bww_4, ↓bwr_6, ↓bww_6, ↓bwr_7, ↓bww_7, ↓bwr_8, ↓bww_8, ↓bwr_9, ↓bww_9, ↓bwr_10, ↓bww_10, ↓bwr_11, ↓bww_11, ↓bwr_14, ↓bww_14, ↓bwr_15, ↓bww_15, ↓bwr_15_0, ↓bww_15_0, ↓bwr_16, ↓bww_16, ↓bwr_17, ↓bww_17, ↓bwr_18, ↓bww_18, ↓bwr_20, ↓bww_20, ↓bwr_21, ↓bww_21, ↓bwr_22, ↓bww_22, ↓bwr_23, ↓bww_23, ↓bwr_24, ↓bww_24, ↓bwr_25, ↓bww_25, ↓bwr_26, ↓bww_26, ↓bwr_27, ↓bww_27, ↓bwr_28, ↓bww_28, ↓bwr_29, ↓bww_29, ↓bwr_30, ↓bww_30, ↓bwr_31, ↓bww_31, ↓bwr_32, ↓bww_32, ↓bwr_33, ↓bww_33, ↓bwr_34, ↓bww_34, ↓bwr_35, ↓bww_35, ↓bwr_36, ↓bww_36, ↓bwr_37, ↓bww_37, ↓bwr_38, ↓bww_38, ↓bwr_38_0, ↓bww_38_0, ↓bwr_38_1, ↓bww_38_1, ↓bwr_38_2, ↓bww_38_2, ↓bwr_39, ↓bww_39, ↓bwr_40, ↓bww_40, ↓bwr_41, ↓bww_41, ↓bwr_42, ↓bww_42, ↓bwr_43, ↓bww_43, ↓bwr_43_0, ↓bww_43_0, ↓bwr_44, ↓bww_44, ↓bwr_44_0, ↓bww_44_0, ↓bwr_45, ↓bww_45, ↓bwr_45_0, ↓bww_45_0, ↓bwr_1, ↓bww_1, ↓bwr_46, ↓bww_46, Int32.lt_iff_toInt_lt, Int32.le_iff_toInt_le, tI_i, tI_e, tI_a, tT_m1, tE_m1, tT_0, tE_0, tP_0, tM_0, tN_0, tS_0, tT_1, tE_1, tP_1, tM_1, tN_1, tS_1, tT_2, tE_2, tP_2, tM_2, tN_2, tS_2, tT_3, tE_3, tP_3, tM_3, tN_3, tS_3, tT_4, tE_4, tP_4, tM_4, tN_4, tS_4, tT_5, tE_5, tP_5, tM_5, tN_5, tS_5, tT_6, tE_6, tP_6, tM_6, tN_6, tS_6, tT_7, tE_7, tP_7, tM_7, tN_7, tS_7, tT_8, tE_8, tP_8, tM_8, tN_8, tS_8, tT_10, tE_10, tP_10, tM_10, tN_10, tS_10, tT_14, tE_14, tP_14, tM_14, tN_14, tS_14, tT_16, tE_16, tP_16, tM_16, tN_16, tS_16, tT_20, tE_20, tP_20, tM_20, tN_20, tS_20, tT_24, tE_24, tP_24, tM_24, tN_24, tS_24, tT_40, tE_40, tP_40, tM_40, tN_40, tS_40, tT_41, tE_41, tP_41, tM_41, tN_41, tS_41, tT_80, tE_80, tP_80, tM_80, tN_80, tS_80, tT_455, tE_455, tP_455, tM_455, tN_455, tS_455, tT_1000, tE_1000, tP_1000, tM_1000, tN_1000, tS_1000, tT_1000000, tE_1000000, tP_1000000, tM_1000000, tN_1000000, tS_1000000, dIlT, dIlF, dIeT, dIeF, dNlT, dNlF, dNeT, dNeF, dNqF, dIqF, Option.bind_some, upd_upd, upd_self, upd_ne, vu_self, vu_ne, vu_vu, ↓reduceIte, ↓Sum.elim_inl, ↓Sum.elim_inr, one_ne, tk_bz0, tk_bz1, Bool.false_eq_true, ↓b_mn hMg, ↓x_known hMg hlen (by omega : s < len), hk, j_ntz (by omega : s < 2147483648) hlow.1 hlow.2.2, p8, eW, j_bits (by omega : s < 16384), e1, e6]
          rw [tI_s (by omega)]
          rfl
        have hMg1 : Mo A mm len own (va_up h0 mm (some (.inr (2, len, .inr (.inl g1))))) g1 := mo_set hMo
        have hwl := p7 (dp_low s) hlow.2.1
        have hmost : dp_V (dp_M (tk_isr a) n) w s ≤ bsum w n s * 8 - pc n s % 2 := by omega
        have hnone1 : dp_V (dp_M (tk_isr a) n) w (tk_wo s (2 ^ dp_low s)) ≤ (bsum w n s - w (dp_low s)) * 8 := by
          have h1 := V_most (M := dp_M (tk_isr a) n) (w := w) (k := n) (by omega) (fun i => (p9 i).1) (fun l r h => M_ok h) (tk_wo s (2 ^ dp_low s)) (wo_lt hs)
          have h2 := bsum_wo (w := w) (low_sub (k := n) (by omega) hs hs0) n
          rw [bsum_pow, if_pos hlow.2.1] at h2
          omega
        have hsk : ¬ g s >>> 32 = Int64.ofNat W := hk
        have fin : ∀ (q : Nat) (g2 : Nat → Int64), q ≤ 455 → Mi (dp_M (tk_isr a) n) w X n len W g2 → Ex n W g1 g2 → ((q = 0 ∧ dp_pick (dp_M (tk_isr a) n) w s = none) ∨ ∃ r, 1 ≤ q ∧ X[q - 1]? = some r ∧ dp_pick (dp_M (tk_isr a) n) w s = some r) → (dp_next s (dp_pick (dp_M (tk_isr a) n) w s) = 0 ∨ g2 (dp_next s (dp_pick (dp_M (tk_isr a) n) w s)) >>> 32 = Int64.ofNat W) → ∀ x7 : Int32, x7 + 1 = Int32.ofNat q → ∃ g', Mi (dp_M (tk_isr a) n) w X n len W g' ∧ Ex n W g g' ∧ (s ≠ 0 → g' s >>> 32 = Int64.ofNat W) ∧ fX1_bestWorth_218 N (fX1_bestWorth N D) (A + 5) (Int32.ofNat s) (Int32.ofNat (dp_V (dp_M (tk_isr a) n) w s)) x7 (wd A f a xi xa lr (Int64.ofNat W) mm o own ad lf la (va_up h0 mm (some (.inr (2, len, .inr (.inl g2)))))) sz = some (Int32.ofNat (dp_V (dp_M (tk_isr a) n) w s), wd A f a xi xa lr (Int64.ofNat W) mm o own ad lf la (va_up h0 mm (some (.inr (2, len, .inr (.inl g'))))), sz) := by
          intro q g2 hq hMi2 hEx2 hpick hnext x7 hx7
          obtain ⟨n1, n2⟩ := bw_note hMi2 hs (by omega : dp_V (dp_M (tk_isr a) n) w s < 65536) hq hW hpick hnext
          have hMg2 : Mo A mm len own (va_up h0 mm (some (.inr (2, len, .inr (.inl g2))))) g2 := mo_set hMo
          refine ⟨_, n1, fun t ht hkt => ?_, fun _ => n2, ?_⟩
          · have : t ≠ s := by rintro rfl; exact hsk hkt
            rw [updL_ne _ _ this]
            exact Ex_trans j3 hEx2 t ht hkt
          · have em := en_mk (w := W) (q := q) (v := dp_V (dp_M (tk_isr a) n) w s) (by omega) (by omega) (by omega)
            rw [← hx7] at em
            simp (disch := omega) only [↓bwg_4_0, ↓bwg_4_1, ↓bwg_4_2, ↓bwg_4_3, ↓bwg_4_4, ↓bwg_4_5, ↓bwp_4_5, ↓bwg_4_6, ↓bwp_4_6, ↓bwg_4_7, ↓bwp_4_7, ↓bwg_4_8, ↓bwp_4_8, ↓bwg_4_9, ↓bwp_4_9, ↓bwo_4, ↓bwg_3_0, ↓bwg_3_1, ↓bwo_3, ↓bwg_1_0, ↓bwg_1_1, ↓bwg_1_2, ↓bwg_1_3, ↓bwg_1_4, ↓bwg_1_5, ↓bwg_1_6, ↓bwg_1_7, ↓bwg_1_8, ↓bwp_1_8, ↓bwg_1_9, ↓bwp_1_9, ↓bwo_1, ↓bwg_2_0, ↓bwg_2_1, ↓bwg_2_2, ↓bwg_2_3, ↓bwg_2_4, ↓bwp_2_4, ↓bwg_2_5, ↓bwp_2_5, ↓bwg_2_6, ↓bwp_2_6, ↓bwg_2_7, ↓bwp_2_7, ↓bwo_2, ↓bwg_5_0, ↓bwp_5_0, ↓bwg_5_1, ↓bwp_5_1, ↓bwg_5_2, ↓bwp_5_2, ↓bwg_5_3, ↓bwp_5_3, ↓bwg_5_4, ↓bwp_5_4, ↓bwg_5_5, ↓bwg_5_6, ↓bwg_5_7, ↓bwg_5_8, ↓bwg_5_9, ↓bwg_5_10, ↓bwg_5_11, ↓bwg_5_12, ↓bwg_5_13, ↓bwg_5_14, ↓bwg_5_15, ↓bwp_5_15, ↓bwg_5_16, ↓bwg_5_17, ↓bwg_5_18, ↓bwg_5_19, ↓bwg_5_20, ↓bwg_5_21, ↓bwg_5_22, ↓bwg_5_23, ↓bwp_5_23, ↓bwg_5_24, ↓bwp_5_24, ↓bwg_5_25, ↓bwg_5_26, ↓bwg_5_27, ↓bwp_5_27, ↓bwg_5_28, ↓bwg_5_29, ↓bwg_5_30, ↓bwg_5_31, ↓bwg_5_32, ↓bwg_5_33, ↓bwg_5_34, ↓bwo_5, ↓bwp_1_6, ↓bwp_1_7, ↓bwr_3, ↓bww_3, ↓bwr_4, ↓bww_4, ↓bwr_6, ↓bww_6, ↓bwr_7, ↓bww_7, ↓bwr_8, ↓bww_8, ↓bwr_9, ↓bww_9, ↓bwr_10, ↓bww_10, ↓bwr_11, ↓bww_11, ↓bwr_14, ↓bww_14, ↓bwr_15, ↓bww_15, ↓bwr_15_0, ↓bww_15_0, ↓bwr_16, ↓bww_16, ↓bwr_17, ↓bww_17, ↓bwr_18, ↓bww_18, ↓bwr_20, ↓bww_20, ↓bwr_21, ↓bww_21, ↓bwr_22, ↓bww_22, ↓bwr_23, ↓bww_23, ↓bwr_24, ↓bww_24, ↓bwr_25, ↓bww_25, ↓bwr_26, ↓bww_26, ↓bwr_27, ↓bww_27, ↓bwr_28, ↓bww_28, ↓bwr_29, ↓bww_29, ↓bwr_30, ↓bww_30, ↓bwr_31, ↓bww_31, ↓bwr_32, ↓bww_32, ↓bwr_33, ↓bww_33, ↓bwr_34, ↓bww_34, ↓bwr_35, ↓bww_35, ↓bwr_36, ↓bww_36, ↓bwr_37, ↓bww_37, ↓bwr_38, ↓bww_38, ↓bwr_38_0, ↓bww_38_0, ↓bwr_38_1, ↓bww_38_1, ↓bwr_38_2, ↓bww_38_2, ↓bwr_39, ↓bww_39, ↓bwr_40, ↓bww_40, ↓bwr_41, ↓bww_41, ↓bwr_42, ↓bww_42, ↓bwr_43, ↓bww_43, ↓bwr_43_0, ↓bww_43_0, ↓bwr_44, ↓bww_44, ↓bwr_44_0, ↓bww_44_0, ↓bwr_45, ↓bww_45, ↓bwr_45_0, ↓bww_45_0, ↓bwr_1, ↓bww_1, ↓bwr_46, ↓bww_46, Int32.lt_iff_toInt_lt, Int32.le_iff_toInt_le, tI_i, tI_e, tI_a, tT_m1, tE_m1, tT_0, tE_0, tP_0, tM_0, tN_0, tS_0, tT_1, tE_1, tP_1, tM_1, tN_1, tS_1, tT_2, tE_2, tP_2, tM_2, tN_2, tS_2, tT_3, tE_3, tP_3, tM_3, tN_3, tS_3, tT_4, tE_4, tP_4, tM_4, tN_4, tS_4, tT_5, tE_5, tP_5, tM_5, tN_5, tS_5, tT_6, tE_6, tP_6, tM_6, tN_6, tS_6, tT_7, tE_7, tP_7, tM_7, tN_7, tS_7, tT_8, tE_8, tP_8, tM_8, tN_8, tS_8, tT_10, tE_10, tP_10, tM_10, tN_10, tS_10, tT_14, tE_14, tP_14, tM_14, tN_14, tS_14, tT_16, tE_16, tP_16, tM_16, tN_16, tS_16, tT_20, tE_20, tP_20, tM_20, tN_20, tS_20, tT_24, tE_24, tP_24, tM_24, tN_24, tS_24, tT_40, tE_40, tP_40, tM_40, tN_40, tS_40, tT_41, tE_41, tP_41, tM_41, tN_41, tS_41, tT_80, tE_80, tP_80, tM_80, tN_80, tS_80, tT_455, tE_455, tP_455, tM_455, tN_455, tS_455, tT_1000, tE_1000, tP_1000, tM_1000, tN_1000, tS_1000, tT_1000000, tE_1000000, tP_1000000, tM_1000000, tN_1000000, tS_1000000, dIlT, dIlF, dIeT, dIeF, dNlT, dNlF, dNeT, dNeF, dNqF, dIqF, Option.bind_some, upd_upd, upd_self, upd_ne, vu_self, vu_ne, vu_vu, ↓reduceIte, ↓Sum.elim_inl, ↓Sum.elim_inr, one_ne, tk_bz0, tk_bz1, Bool.false_eq_true, ↓fX1_bestWorth_218, ↓b_mw hMg2 hlen (by omega : s < len), em]
        have hx7 : ∀ p, cur = some p → cu_c (st (dp_low s)) cur + 1 = Int32.ofNat (st (dp_low s) + p.2 + 1) := by
          intro p hp; subst hp; exact tI_a _ 1
        have hXp : ∀ p r, (dp_M (dp_ok (tk_isr a)) n (dp_low s))[p]? = some r → X[st (dp_low s) + p + 1 - 1]? = some r ∧ st (dp_low s) + p + 1 ≤ 455 := by
          intro p r h
          have hl := (List.getElem?_eq_some_iff.mp h).1
          obtain ⟨s1, s2⟩ := p5.2 (dp_low s) hlow.2.1
          have := Sg_le p5 (dp_low s + 1) (by omega)
          rw [Nat.add_sub_cancel, s2 p hl]
          exact ⟨h, by omega⟩
        have keep : ∀ p, cur = some p → dp_V (dp_M (tk_isr a) n) w (tk_wo s (2 ^ dp_low s)) ≤ p.1 → ∀ g2, Mi (dp_M (tk_isr a) n) w X n len W g2 → Ex n W g1 g2 → ∃ g', Mi (dp_M (tk_isr a) n) w X n len W g' ∧ Ex n W g g' ∧ (s ≠ 0 → g' s >>> 32 = Int64.ofNat W) ∧ fX1_bestWorth_218 N (fX1_bestWorth N D) (A + 5) (Int32.ofNat s) (cu_b cur) (cu_c (st (dp_low s)) cur) (wd A f a xi xa lr (Int64.ofNat W) mm o own ad lf la (va_up h0 mm (some (.inr (2, len, .inr (.inl g2)))))) sz = some (Int32.ofNat (dp_V (dp_M (tk_isr a) n) w s), wd A f a xi xa lr (Int64.ofNat W) mm o own ad lf la (va_up h0 mm (some (.inr (2, len, .inr (.inl g'))))), sz) := by
          intro p hp hle g2 hM2 hE2
          subst hp
          obtain ⟨v1, r, v2, v3⟩ := pick_some p1 hs hs0 rfl hmost j4 (by
            rcases j6 with h | ⟨p', h1, h2⟩
            · exact Or.inl h
            · cases h1; exact Or.inr h2) hle
          obtain ⟨x1, x2⟩ := hXp p.2 r v2
          have := fin (st (dp_low s) + p.2 + 1) g2 x2 hM2 hE2 (Or.inr ⟨r, by omega, x1, v3⟩) (by
            rw [v3]
            rcases j5 r v2 with h | h
            · exact Or.inl h
            · right
              show g2 (tk_wo s (r_mem r)) >>> 32 = _
              rw [hE2 _ (wo_lt hs) h]; exact h) _ (hx7 p rfl)
          rw [show cu_b (some p) = Int32.ofNat (dp_V (dp_M (tk_isr a) n) w s) by rw [v1]; rfl]
          exact this
        rw [ebody]
        by_cases hprune : ∃ p, cur = some p ∧ (bsum w n s - w (dp_low s)) * 8 ≤ p.1
        · obtain ⟨p, hp, hle⟩ := hprune
          obtain ⟨g', r1, r2, r3, r4⟩ := keep p hp (by omega) g1 j2 (Ex_refl g1)
          refine ⟨g', r1, r2, r3, ?_⟩
          have hpl := cur_le p1 hs hs0 rfl (hp ▸ j4)
          have hc : (Int32.ofNat ((bsum w n s - w (dp_low s)) * 8) ≤ cu_b cur) = True := by
            apply eq_true
            rw [hp, Int32.le_iff_toInt_le, tI_i (by omega)]
            show _ ≤ (Int32.ofNat p.1).toInt
            rw [tI_i (by omega)]; omega
          rw [← r4, fX1_bestWorth_173, bwg_1_5, bwr_11 (by omega), hwl, tI_s (by omega), show (8 : Int32) = Int32.ofNat 8 from rfl, ← Int32.ofNat_mul, if_pos (by rw [hc]; trivial)]
        · have hc : (Int32.ofNat ((bsum w n s - w (dp_low s)) * 8) ≤ cu_b cur) = False := by
            apply eq_false
            rw [Int32.le_iff_toInt_le, tI_i (by omega)]
            cases hcu : cur with
            | none => show ¬ (_ ≤ (-1 : Int)); omega
            | some p =>
              have hpl := cur_le p1 hs hs0 rfl (hcu ▸ j4)
              show ¬ (_ ≤ (Int32.ofNat p.1).toInt)
              rw [tI_i (by omega)]
              intro h
              exact hprune ⟨p, hcu, by omega⟩
          have hpcw := bsum_wo (w := fun _ => 1) (low_sub (k := n) (by omega) hs hs0) n
          rw [bsum_pow, if_pos hlow.2.1] at hpcw
          obtain ⟨g2, q1, q2, q3, q4⟩ := ih (tk_wo s (2 ^ dp_low s)) (dep + 1) g1 (wo_lt hs) (by unfold pc at hD ⊢; omega) (by unfold pc at hdep ⊢; omega) j2
          have hVn := V_none (M := dp_M (tk_isr a) n) (w := w) (k := n) (by omega) hs hs0
          have e173 : fX1_bestWorth_173 N (fX1_bestWorth N D) (A + 5) (Int32.ofNat s) (Int32.ofNat dep) (Int32.ofNat (dp_low s)) (Int32.ofNat (bsum w n s)) (cu_b cur) (cu_c (st (dp_low s)) cur) (wd A f a xi xa lr (Int64.ofNat W) mm o own ad lf la (va_up h0 mm (some (.inr (2, len, .inr (.inl g1)))))) sz = if Int32.ofNat (dp_V (dp_M (tk_isr a) n) w (tk_wo s (2 ^ dp_low s))) ≤ cu_b cur then fX1_bestWorth_218 N (fX1_bestWorth N D) (A + 5) (Int32.ofNat s) (cu_b cur) (cu_c (st (dp_low s)) cur) (wd A f a xi xa lr (Int64.ofNat W) mm o own ad lf la (va_up h0 mm (some (.inr (2, len, .inr (.inl g2)))))) sz else fX1_bestWorth_218 N (fX1_bestWorth N D) (A + 5) (Int32.ofNat s) (Int32.ofNat (dp_V (dp_M (tk_isr a) n) w (tk_wo s (2 ^ dp_low s)))) (-1) (wd A f a xi xa lr (Int64.ofNat W) mm o own ad lf la (va_up h0 mm (some (.inr (2, len, .inr (.inl g2)))))) sz := by
            rw [fX1_bestWorth_173, bwg_1_5, bwr_11 (by omega), hwl, tI_s (by omega), show (8 : Int32) = Int32.ofNat 8 from rfl, ← Int32.ofNat_mul, if_neg (by rw [hc]; exact fun h => h), bwo_1, b_low (by omega) hlow.1 hlow.2.2, show (1 : Int32) = Int32.ofNat 1 from rfl, tI_a, q4]
            rfl
          rw [e173]
          by_cases hle : ∃ p, cur = some p ∧ dp_V (dp_M (tk_isr a) n) w (tk_wo s (2 ^ dp_low s)) ≤ p.1
          · obtain ⟨p, hp, hle⟩ := hle
            have hpl := cur_le p1 hs hs0 rfl (hp ▸ j4)
            obtain ⟨g', r1, r2, r3, r4⟩ := keep p hp hle g2 q1 q2
            refine ⟨g', r1, r2, r3, ?_⟩
            rw [if_pos, r4]
            rw [hp, Int32.le_iff_toInt_le, tI_i (by omega)]
            show _ ≤ (Int32.ofNat p.1).toInt
            rw [tI_i (by omega)]; omega
          · have hlt : ∀ p, cur = some p → p.1 < dp_V (dp_M (tk_isr a) n) w (tk_wo s (2 ^ dp_low s)) := fun p hp => Nat.lt_of_not_le (fun h => hle ⟨p, hp, h⟩)
            obtain ⟨v1, v2⟩ := pick_none p1 hs hs0 rfl hmost j4 j6 hlt
            rw [if_neg]
            · have := fin 0 g2 (by omega) q1 q2 (Or.inl ⟨rfl, v2⟩) (by
                rw [v2]
                by_cases e : tk_wo s (2 ^ dp_low s) = 0
                · exact Or.inl e
                · exact Or.inr (q3 e)) (-1) rfl
              rw [v1] at this ⊢
              exact this
            · rw [Int32.le_iff_toInt_le, tI_i (by omega)]
              cases hcu : cur with
              | none => show ¬ (_ ≤ (-1 : Int)); omega
              | some p =>
                have hpl := cur_le p1 hs hs0 rfl (hcu ▸ j4)
                have := hlt p hcu
                show ¬ (_ ≤ (Int32.ofNat p.1).toInt)
                rw [tI_i (by omega)]; omega
end BEST
