/-! THE ABSTRACT HEAP: by address, an object (its class's number, its fields) or an array (its kind: 0 int, 1 boolean, 2 long, 3 Learner; its length; what it holds) -/
abbrev tk_AE : Type := (Nat × List Value) ⊕ (Nat × Nat × ((Nat → Int32) ⊕ (Nat → Int64) ⊕ (Nat → Option Nat)))
abbrev tk_AH : Type := Nat → Option tk_AE
abbrev tk_AG : Type := Nat × va_G × (Nat → ClassId)
def tk_ra (G : tk_AG) (a : Nat) (e : tk_AE) (H : Heap) : Prop := match e with
  | .inl o => va_at G.2.1 vwCl (a, .inr o) H
  | .inr (t, n, .inl f) => H[a]? = some (arrV (G.2.2 t) n (fun j => .int (f j)))
  | .inr (t, n, .inr (.inl f)) => H[a]? = some (arrV (G.2.2 t) n (fun j => .long (f j)))
  | .inr (t, n, .inr (.inr f)) => H[a]? = some (arrV (G.2.2 t) n (fun j => va_rf (f j)))
theorem tk_ra_kept {G : tk_AG} {a : Nat} {e : tk_AE} {H H1 : Heap} (h : tk_ra G a e H) (hq : H1[a]? = H[a]?) : tk_ra G a e H1 := by
  match e, h with
  | .inl o, h => exact va_at.kept (q := (a, .inr o)) h hq
  | .inr (t, n, .inl f), h => exact hq.trans h
  | .inr (t, n, .inr (.inl f)), h => exact hq.trans h
  | .inr (t, n, .inr (.inr f)), h => exact hq.trans h
theorem tk_ra_lt {G : tk_AG} {a : Nat} {e : tk_AE} {H : Heap} (h : tk_ra G a e H) : a < H.size := by
  match e, h with
  | .inl o, h => exact va_at.lt (q := (a, .inr o)) h
  | .inr (t, n, .inl f), h => exact (Array.getElem?_eq_some_iff.mp h).1
  | .inr (t, n, .inr (.inl f)), h => exact (Array.getElem?_eq_some_iff.mp h).1
  | .inr (t, n, .inr (.inr f)), h => exact (Array.getElem?_eq_some_iff.mp h).1
def tk_rp (G : tk_AG) (h : tk_AH) (H : Heap) : Prop := ∀ (a : Nat) (e : tk_AE), h a = some e → G.1 ≤ a ∧ tk_ra G a e H
def tk_ag (G : tk_AG) : Nat → Prop := fun q => G.1 ≤ q
/-- where a walk stands: the heap holds h, its size is sz, nothing old has changed -/
def tk_sw (G : tk_AG) (s : State) (h : tk_AH) (sz : Nat) (H : Heap) (locs : List Loc) : Prop := tk_rp G h H ∧ H.size = sz ∧ G.1 ≤ s.heap.size ∧ va_S (tk_ag G) s.heap H locs
theorem tk_rp_put {G : tk_AG} {h : tk_AH} {H H1 : Heap} {a : Nat} {e : tk_AE} (hr : tk_rp G h H) (ha : G.1 ≤ a) (he : tk_ra G a e H1) (ho : ∀ q, q ≠ a → H1[q]? = H[q]?) : tk_rp G (va_up h a (some e)) H1 := by
  intro b eb hb
  by_cases hq : b = a
  · subst hq
    rw [va_up_self] at hb
    cases hb
    exact ⟨ha, he⟩
  · rw [va_up_ne _ _ hq] at hb
    obtain ⟨h1, h2⟩ := hr b eb hb
    exact ⟨h1, tk_ra_kept h2 (ho b hq)⟩
theorem tk_sw_put {G : tk_AG} {s : State} {h : tk_AH} {sz : Nat} {H H1 : Heap} {locs : List Loc} {a k : Nat} {e e0 : tk_AE} (hs : tk_sw G s h sz H locs) (h0 : h a = some e0) (he : tk_ra G a e H1) (hz : H1.size = H.size) (ho : ∀ q, q ≠ a → H1[q]? = H[q]?) : tk_sw G s (va_up h a (some e)) sz H1 (locs ++ [⟨a, k⟩]) := by
  obtain ⟨h1, h2, h3, h4⟩ := hs
  have ha := (h1 a e0 h0).1
  exact ⟨tk_rp_put h1 ha he ho, hz.trans h2, h3, h4.put hz ho ha⟩
theorem tk_sw_new {G : tk_AG} {s : State} {h : tk_AH} {sz : Nat} {H H1 : Heap} {locs : List Loc} {e : tk_AE} (hs : tk_sw G s h sz H locs) (he : tk_ra G sz e H1) (hz : H1.size = sz + 1) (ho : ∀ q, q < sz → H1[q]? = H[q]?) : tk_sw G s (va_up h sz (some e)) (sz + 1) H1 locs := by
  obtain ⟨h1, h2, h3, h4⟩ := hs
  have hle := h4.1
  refine ⟨?_, hz, h3, ⟨by omega, fun x q1 q2 => (ho x (by omega)).trans (h4.2.1 x q1 q2), h4.2.2⟩⟩
  intro b eb hb
  by_cases hq : b = sz
  · subst hq
    rw [va_up_self] at hb
    cases hb
    exact ⟨by omega, he⟩
  · rw [va_up_ne _ _ hq] at hb
    obtain ⟨g1, g2⟩ := h1 b eb hb
    have := tk_ra_lt g2
    exact ⟨g1, tk_ra_kept g2 (ho b (by omega))⟩
/-! READS AND WRITES of the abstract heap -/
def tk_gI (h : tk_AH) (ci k a : Nat) : Option Int32 := match h a with
  | some (.inl (c, fs)) => if c = ci then (match fs[k]? with | some (.int v) => some v | _ => none) else none
  | _ => none
def tk_gL (h : tk_AH) (ci k a : Nat) : Option Int64 := match h a with
  | some (.inl (c, fs)) => if c = ci then (match fs[k]? with | some (.long v) => some v | _ => none) else none
  | _ => none
def tk_gR (h : tk_AH) (ci k a : Nat) : Option Nat := match h a with
  | some (.inl (c, fs)) => if c = ci then (match fs[k]? with | some (.ref v) => some v | _ => none) else none
  | _ => none
def tk_pF (h : tk_AH) (ci k a : Nat) (v : Value) : Option tk_AH := match h a with
  | some (.inl (c, fs)) => if c = ci ∧ k < fs.length then some (va_up h a (some (.inl (ci, fs.set k v)))) else none
  | _ => none
/-- an object of the class ci -/
def tk_ob (h : tk_AH) (ci a : Nat) : Bool := match h a with
  | some (.inl (c, _)) => c == ci
  | _ => false
def tk_aI (h : tk_AH) (t a : Nat) (i : Int32) : Option Int32 := match h a with
  | some (.inr (t', n, .inl f)) => if t' = t then (if i < 0 ∨ n ≤ i.toNatClampNeg then none else some (f i.toNatClampNeg)) else none
  | _ => none
def tk_aJ (h : tk_AH) (t a : Nat) (i : Int32) : Option Int64 := match h a with
  | some (.inr (t', n, .inr (.inl f))) => if t' = t then (if i < 0 ∨ n ≤ i.toNatClampNeg then none else some (f i.toNatClampNeg)) else none
  | _ => none
def tk_aQ (h : tk_AH) (t a : Nat) (i : Int32) : Option (Option Nat) := match h a with
  | some (.inr (t', n, .inr (.inr f))) => if t' = t then (if i < 0 ∨ n ≤ i.toNatClampNeg then none else some (f i.toNatClampNeg)) else none
  | _ => none
def tk_sI (h : tk_AH) (t a : Nat) (i x : Int32) : Option tk_AH := match h a with
  | some (.inr (t', n, .inl f)) => if t' = t then (if i < 0 ∨ n ≤ i.toNatClampNeg then none else some (va_up h a (some (.inr (t, n, .inl (upd f i.toNatClampNeg x)))))) else none
  | _ => none
def tk_sJ (h : tk_AH) (t a : Nat) (i : Int32) (x : Int64) : Option tk_AH := match h a with
  | some (.inr (t', n, .inr (.inl f))) => if t' = t then (if i < 0 ∨ n ≤ i.toNatClampNeg then none else some (va_up h a (some (.inr (t, n, .inr (.inl (vp_updL f i.toNatClampNeg x))))))) else none
  | _ => none
def tk_sQ (h : tk_AH) (t a : Nat) (i : Int32) (x : Nat) : Option tk_AH := match h a with
  | some (.inr (t', n, .inr (.inr f))) => if t' = t then (if i < 0 ∨ n ≤ i.toNatClampNeg then none else some (va_up h a (some (.inr (t, n, .inr (.inr (va_up f i.toNatClampNeg (some x)))))))) else none
  | _ => none
def tk_aN (h : tk_AH) (t a : Nat) : Option Int32 := match h a with
  | some (.inr (t', n, _)) => if t' = t then some (Int32.ofNat n) else none
  | _ => none
theorem tk_gI_ok {h : tk_AH} {ci k a : Nat} {v : Int32} (hg : tk_gI h ci k a = some v) : ∃ fs, h a = some (.inl (ci, fs)) ∧ fs[k]? = some (.int v) := by
  unfold tk_gI at hg
  split at hg
  · rename_i c fs hq
    split at hg
    · rename_i hc
      subst hc
      split at hg
      · rename_i w hw
        cases hg
        exact ⟨fs, hq, hw⟩
      · cases hg
    · cases hg
  · cases hg
theorem tk_gL_ok {h : tk_AH} {ci k a : Nat} {v : Int64} (hg : tk_gL h ci k a = some v) : ∃ fs, h a = some (.inl (ci, fs)) ∧ fs[k]? = some (.long v) := by
  unfold tk_gL at hg
  split at hg
  · rename_i c fs hq
    split at hg
    · rename_i hc
      subst hc
      split at hg
      · rename_i w hw
        cases hg
        exact ⟨fs, hq, hw⟩
      · cases hg
    · cases hg
  · cases hg
theorem tk_gR_ok {h : tk_AH} {ci k a v : Nat} (hg : tk_gR h ci k a = some v) : ∃ fs, h a = some (.inl (ci, fs)) ∧ fs[k]? = some (.ref v) := by
  unfold tk_gR at hg
  split at hg
  · rename_i c fs hq
    split at hg
    · rename_i hc
      subst hc
      split at hg
      · rename_i w hw
        cases hg
        exact ⟨fs, hq, hw⟩
      · cases hg
    · cases hg
  · cases hg
theorem tk_pF_ok {h h' : tk_AH} {ci k a : Nat} {v : Value} (hg : tk_pF h ci k a v = some h') : ∃ fs, h a = some (.inl (ci, fs)) ∧ k < fs.length ∧ h' = va_up h a (some (.inl (ci, fs.set k v))) := by
  unfold tk_pF at hg
  split at hg
  · rename_i c fs hq
    split at hg
    · rename_i hc
      obtain ⟨hc, hk⟩ := hc
      subst hc
      cases hg
      exact ⟨fs, hq, hk, rfl⟩
    · cases hg
  · cases hg
theorem tk_ob_ok {h : tk_AH} {ci a : Nat} (hg : tk_ob h ci a = true) : ∃ fs, h a = some (.inl (ci, fs)) := by
  unfold tk_ob at hg
  split at hg
  · rename_i c fs hq
    rw [beq_iff_eq] at hg
    subst hg
    exact ⟨fs, hq⟩
  · cases hg
theorem tk_aI_ok {h : tk_AH} {t a : Nat} {i v : Int32} (hg : tk_aI h t a i = some v) : ∃ n f, h a = some (.inr (t, n, .inl f)) ∧ vp_in i n ∧ v = f i.toNatClampNeg := by
  unfold tk_aI at hg
  split at hg
  · rename_i c n f hq
    split at hg
    · rename_i hc
      subst hc
      split at hg
      · cases hg
      · rename_i hi
        cases hg
        exact ⟨n, f, hq, hi, rfl⟩
    · cases hg
  · cases hg
theorem tk_aJ_ok {h : tk_AH} {t a : Nat} {i : Int32} {v : Int64} (hg : tk_aJ h t a i = some v) : ∃ n f, h a = some (.inr (t, n, .inr (.inl f))) ∧ vp_in i n ∧ v = f i.toNatClampNeg := by
  unfold tk_aJ at hg
  split at hg
  · rename_i c n f hq
    split at hg
    · rename_i hc
      subst hc
      split at hg
      · cases hg
      · rename_i hi
        cases hg
        exact ⟨n, f, hq, hi, rfl⟩
    · cases hg
  · cases hg
theorem tk_aQ_ok {h : tk_AH} {t a : Nat} {i : Int32} {v : Option Nat} (hg : tk_aQ h t a i = some v) : ∃ n f, h a = some (.inr (t, n, .inr (.inr f))) ∧ vp_in i n ∧ v = f i.toNatClampNeg := by
  unfold tk_aQ at hg
  split at hg
  · rename_i c n f hq
    split at hg
    · rename_i hc
      subst hc
      split at hg
      · cases hg
      · rename_i hi
        cases hg
        exact ⟨n, f, hq, hi, rfl⟩
    · cases hg
  · cases hg
theorem tk_sI_ok {h h' : tk_AH} {t a : Nat} {i x : Int32} (hg : tk_sI h t a i x = some h') : ∃ n f, h a = some (.inr (t, n, .inl f)) ∧ vp_in i n ∧ h' = va_up h a (some (.inr (t, n, .inl (upd f i.toNatClampNeg x)))) := by
  unfold tk_sI at hg
  split at hg
  · rename_i c n f hq
    split at hg
    · rename_i hc
      subst hc
      split at hg
      · cases hg
      · rename_i hi
        cases hg
        exact ⟨n, f, hq, hi, rfl⟩
    · cases hg
  · cases hg
theorem tk_sJ_ok {h h' : tk_AH} {t a : Nat} {i : Int32} {x : Int64} (hg : tk_sJ h t a i x = some h') : ∃ n f, h a = some (.inr (t, n, .inr (.inl f))) ∧ vp_in i n ∧ h' = va_up h a (some (.inr (t, n, .inr (.inl (vp_updL f i.toNatClampNeg x))))) := by
  unfold tk_sJ at hg
  split at hg
  · rename_i c n f hq
    split at hg
    · rename_i hc
      subst hc
      split at hg
      · cases hg
      · rename_i hi
        cases hg
        exact ⟨n, f, hq, hi, rfl⟩
    · cases hg
  · cases hg
theorem tk_sQ_ok {h h' : tk_AH} {t a : Nat} {i : Int32} {x : Nat} (hg : tk_sQ h t a i x = some h') : ∃ n f, h a = some (.inr (t, n, .inr (.inr f))) ∧ vp_in i n ∧ h' = va_up h a (some (.inr (t, n, .inr (.inr (va_up f i.toNatClampNeg (some x)))))) := by
  unfold tk_sQ at hg
  split at hg
  · rename_i c n f hq
    split at hg
    · rename_i hc
      subst hc
      split at hg
      · cases hg
      · rename_i hi
        cases hg
        exact ⟨n, f, hq, hi, rfl⟩
    · cases hg
  · cases hg
theorem tk_aN_ok {h : tk_AH} {t a : Nat} {v : Int32} (hg : tk_aN h t a = some v) : ∃ n d, h a = some (.inr (t, n, d)) ∧ v = Int32.ofNat n := by
  unfold tk_aN at hg
  split at hg
  · rename_i c n d hq
    split at hg
    · rename_i hc
      subst hc
      cases hg
      exact ⟨n, d, hq, rfl⟩
    · cases hg
  · cases hg
/-- a step of a mirror -/
theorem tk_bi {α β : Type} {x : Option α} {f : α → Option β} {y : β} (h : x.bind f = some y) : ∃ v, x = some v ∧ f v = some y := by
  cases x with
  | none => cases h
  | some v => exact ⟨v, rfl, h⟩
