/-! THE LAW'S OWN STEPS -/
def tk_sc (L : Nat) (xs : Nat → Int32) (i : Int32) : Option Int32 := if i < 0 ∨ L ≤ i.toNatClampNeg then none else some (xs i.toNatClampNeg)
theorem tk_sc_ok {L : Nat} {xs : Nat → Int32} {i v : Int32} (e : tk_sc L xs i = some v) : vp_in i L ∧ v = xs i.toNatClampNeg := by
  unfold tk_sc at e
  split at e
  · cases e
  · rename_i h
    cases e
    exact ⟨h, rfl⟩
def tk_bd (a b : Nat) : Option Unit := if a ≤ 601024 ∧ b ≤ 7293034 then some () else none
theorem tk_bd_ok {a b : Nat} {u : Unit} (e : tk_bd a b = some u) : a ≤ 601024 ∧ b ≤ 7293034 := by
  unfold tk_bd at e
  split at e
  · assumption
  · cases e
theorem tk_sld {p : Program} {l : Launch} {e : Env} {R : Room} {s : State} {m : MethodId} {args : Array Value} {below : List Frame} {meth : Method} {c : Code} {H : Heap} {locs : List Loc} {cells slots : Nat} {Q : State → Prop} {cc : ByteArray} {pc : Nat} {ls : Array Slot} {rest : List Value} {G : tk_AG} {h : tk_AH} {sz : Nat}
    (hexec : p.tables.exec = Jvm.exec) (hb : c.code = cc) {b L : Nat} {xs : Nat → Int32} (hX : va_X b L xs s s.heap) (hbl : b < s.heap.size) (hbA : ¬ tk_ag G b) (hs : tk_sw G s h sz H locs) {i v : Int32} (hv : tk_sc L xs i = some v) (hdg : decode cc pc = .ok (.iaload, 1))
    (kk : W p l e R s m args below meth c H locs cells slots Q (F0 m (pc + 1) ls (.int v :: rest))) : W p l e R s m args below meth c H locs cells slots Q (F0 m pc ls (.int i :: .ref b :: rest)) := by
  obtain ⟨h1, rfl⟩ := tk_sc_ok hv
  exact va_sld hexec hb hX hbl hbA hs.2.2.2 h1 hdg kk
def R_law : String := "TongueSwapLaw"
def lw_P (b : Addr) (xs : List Int32) (args : Array Value) (s : State) : Prop := args = #[.ref b] ∧ s.IntsAt b xs ∧ xs.length ≤ 3072 ∧ (Jvm.Cond.and given_1 narrow_1).before args s = true
def lw_Q (_ : Array Value) (s : State) (o : Outcome) (t : State) : Prop := o = .returned (some (.int 1)) ∧ Framed s o t [] 601024 7293034
def lw_Z (below : List Frame) (a : Array Value) (s : State) : State → Prop := fun t => ∃ o, t.status = .running ∧ Ended t below o ∧ lw_Q a s o t
/-- the law's own end, with 1 on the stack, nothing written that was there before, its room as the claim has it -/
theorem lw_ret {p : Program} {l : Launch} {e : Env} {s : State} {m : MethodId} {below : List Frame} {meth : Method} {c : Code} {b : Nat} (hx : p.tables.exec = Jvm.exec) (hb : c.code = code) (hr : meth.sig.returnType = ret) (hlocks : meth.locks = false) {pc : Nat} {H : Heap} {ls : Array Slot} (hdg : decode code pc = .ok (.ireturn, 1)) : W p l e room_1 s m #[Value.ref b] below meth c H [] 601024 7293034 (lw_Z below #[Value.ref b] s) (F0 m pc ls [.int 1]) := by
  intro T hT X
  obtain ⟨fs, hret, hrun, hended, hW, hframe⟩ := X.leave (v := some (.int 1)) (hlocks := hlocks) (fun h => by rw [hr] at h; cases h)
  have hmeth' : T.vm.method? m = some meth := X.method'
  refine ⟨T.setFrames fs, ?_, .returned (some (.int 1)), hrun, hended, rfl, ⟨_, rfl⟩, hW, hframe⟩
  jvm_step X.here [X.here.top, hx, hb, hdg, hmeth', hr, ret, narrow_b1]
  (try refine ⟨rfl, ?_⟩); (try refine ⟨rfl, ?_⟩)
  first | (intro acts; rw [hret _ acts rfl rfl rfl]) | rw [hret _ _ rfl rfl rfl]
  exact Steps.refl _
/-- what holds all along the law's walk -/
def tk_lc (p : Program) (l : Launch) (s : State) (m : MethodId) (meth : Method) (c : Code) (G : tk_AG) (b L : Nat) (xs : Nat → Int32) : Prop :=
  p.tables.exec = Jvm.exec ∧ c.code = code ∧ meth.sig.returnType = ret ∧ c.maxLocals = 7 ∧ s.vm.findClass RL = some m.cls ∧ (∀ w ∈ tk_W, w.before #[Value.ref b] s = true) ∧ va_X b L xs s s.heap ∧ b < s.heap.size ∧ meth.locks = false ∧ tk_ev G s ∧ G.1 = s.heap.size ∧ ¬ tk_ag G b ∧ l.stackTraces = false
def fL_law_1856 (N : Nat) (mf : tk_AH → Nat) (L : Nat) (xs : Nat → Int32) (k23 : Nat → Nat → Nat → Int32 → tk_AH → Nat → Nat → Nat → Option (Unit)) (x1 : Nat) (x2 : Nat) (x3 : Nat) (x4 : Int32) (h : tk_AH) (sz : Nat) (kc ks : Nat) : Option Unit :=
  k23 x1 x2 x3 (x4 + 6) h sz kc ks
def fL_law_1853 (N : Nat) (mf : tk_AH → Nat) (L : Nat) (xs : Nat → Int32) (k23 : Nat → Nat → Nat → Int32 → tk_AH → Nat → Nat → Nat → Option (Unit)) (x1 : Nat) (x2 : Nat) (x3 : Nat) (x4 : Int32) (h : tk_AH) (sz : Nat) (kc ks : Nat) : Option Unit :=
  fL_law_1856 N mf L xs k23 x1 x2 x3 x4 h sz kc ks
def fL_law_1797 (N : Nat) (mf : tk_AH → Nat) (L : Nat) (xs : Nat → Int32) (k23 : Nat → Nat → Nat → Int32 → tk_AH → Nat → Nat → Nat → Option (Unit)) (x1 : Nat) (x2 : Nat) (x3 : Nat) (x4 : Int32) (h : tk_AH) (sz : Nat) (kc ks : Nat) : Option Unit :=
  fL_law_1856 N mf L xs k23 x1 x2 x3 x4 h sz kc ks
def fL_law_1741 (N : Nat) (mf : tk_AH → Nat) (L : Nat) (xs : Nat → Int32) (k23 : Nat → Nat → Nat → Int32 → tk_AH → Nat → Nat → Nat → Option (Unit)) (x1 : Nat) (x2 : Nat) (x3 : Nat) (x4 : Int32) (h : tk_AH) (sz : Nat) (kc ks : Nat) : Option Unit :=
  fL_law_1856 N mf L xs k23 x1 x2 x3 x4 h sz kc ks
def fL_law_1685 (N : Nat) (mf : tk_AH → Nat) (L : Nat) (xs : Nat → Int32) (k23 : Nat → Nat → Nat → Int32 → tk_AH → Nat → Nat → Nat → Option (Unit)) (x1 : Nat) (x2 : Nat) (x3 : Nat) (x4 : Int32) (h : tk_AH) (sz : Nat) (kc ks : Nat) : Option Unit :=
  fL_law_1856 N mf L xs k23 x1 x2 x3 x4 h sz kc ks
def fL_law_1544 (N : Nat) (mf : tk_AH → Nat) (L : Nat) (xs : Nat → Int32) (k23 : Nat → Nat → Nat → Int32 → tk_AH → Nat → Nat → Nat → Option (Unit)) (x1 : Nat) (x2 : Nat) (x3 : Nat) (x4 : Int32) (h : tk_AH) (sz : Nat) (kc ks : Nat) : Option Unit :=
  fL_law_1856 N mf L xs k23 x1 x2 x3 x4 h sz kc ks
def fL_law_1488 (N : Nat) (mf : tk_AH → Nat) (L : Nat) (xs : Nat → Int32) (k23 : Nat → Nat → Nat → Int32 → tk_AH → Nat → Nat → Nat → Option (Unit)) (x1 : Nat) (x2 : Nat) (x3 : Nat) (x4 : Int32) (h : tk_AH) (sz : Nat) (kc ks : Nat) : Option Unit :=
  fL_law_1856 N mf L xs k23 x1 x2 x3 x4 h sz kc ks
def fL_law_1408 (N : Nat) (mf : tk_AH → Nat) (L : Nat) (xs : Nat → Int32) (k23 : Nat → Nat → Nat → Int32 → tk_AH → Nat → Nat → Nat → Option (Unit)) (x1 : Nat) (x2 : Nat) (x3 : Nat) (x4 : Int32) (h : tk_AH) (sz : Nat) (kc ks : Nat) : Option Unit :=
  fL_law_1856 N mf L xs k23 x1 x2 x3 x4 h sz kc ks
def fL_law_1402 (N : Nat) (mf : tk_AH → Nat) (L : Nat) (xs : Nat → Int32) (k23 : Nat → Nat → Nat → Int32 → tk_AH → Nat → Nat → Nat → Option (Unit)) (x1 : Nat) (x2 : Nat) (x3 : Nat) (x4 : Int32) (y0 : Int64) (y1 : Int64) (h : tk_AH) (sz : Nat) (kc ks : Nat) : Option Unit :=
  if (lg_cmp y1 y0) = 0 then (
  fL_law_1408 N mf L xs k23 x1 x2 x3 x4 h sz kc ks) else (
  none)
def fL_law_1368 (N : Nat) (mf : tk_AH → Nat) (L : Nat) (xs : Nat → Int32) (k23 : Nat → Nat → Nat → Int32 → tk_AH → Nat → Nat → Nat → Option (Unit)) (x1 : Nat) (x2 : Nat) (x3 : Nat) (x4 : Int32) (x5 : Int32) (y0 : Int32) (y1 : Int32) (y2 : Int32) (y3 : Nat) (h : tk_AH) (sz : Nat) (kc ks : Nat) : Option Unit :=
  (tk_ok h 5 y3).bind fun _ =>
  (tk_bd (kc + 0) (ks + 0)).bind fun _ =>
  (fX5_asked N y3 y2 y1 y0 h sz).bind fun o2 =>
  (tk_ok o2.2.1 5 x2).bind fun _ =>
  (tk_bd (kc + 0) (ks + 0)).bind fun _ =>
  (fX5_thrown N x2 o2.2.1 o2.2.2).bind fun o3 =>
  if o3.1 = x5 then (
  if x5 = 0 then (
  (tk_aJ o3.2.1 2 x3 0).bind fun v6 =>
  if o2.1 = 0 then (
  fL_law_1402 N mf L xs k23 x1 x2 x3 x4 0 v6 o3.2.1 o3.2.2 kc ks) else (
  fL_law_1402 N mf L xs k23 x1 x2 x3 x4 1 v6 o3.2.1 o3.2.2 kc ks)) else (
  fL_law_1408 N mf L xs k23 x1 x2 x3 x4 o3.2.1 o3.2.2 kc ks)) else (
  none)
def fL_law_1335 (N : Nat) (mf : tk_AH → Nat) (L : Nat) (xs : Nat → Int32) (k23 : Nat → Nat → Nat → Int32 → tk_AH → Nat → Nat → Nat → Option (Unit)) (x1 : Nat) (x2 : Nat) (x3 : Nat) (x4 : Int32) (y0 : Int32) (y1 : Int32) (y2 : Int32) (y3 : Nat) (h : tk_AH) (sz : Nat) (kc ks : Nat) : Option Unit :=
  (tk_bd (kc + 1) (ks + 6)).bind fun _ =>
  (fL_asked N y3 y2 y1 y0 x3 h sz).bind fun o8 =>
  (tk_sc L xs (x4 + 1)).bind fun v9 =>
  (tk_sc L xs (x4 + 2)).bind fun v10 =>
  (tk_sc L xs (x4 + 3)).bind fun v11 =>
  if v11 = 0 then (
  fL_law_1368 N mf L xs k23 x1 x2 x3 x4 o8.1 0 v10 v9 x2 o8.2.1 o8.2.2 (kc + 1) (ks + 6)) else (
  fL_law_1368 N mf L xs k23 x1 x2 x3 x4 o8.1 1 v10 v9 x2 o8.2.1 o8.2.2 (kc + 1) (ks + 6))
def fL_law_1305 (N : Nat) (mf : tk_AH → Nat) (L : Nat) (xs : Nat → Int32) (k23 : Nat → Nat → Nat → Int32 → tk_AH → Nat → Nat → Nat → Option (Unit)) (x1 : Nat) (x2 : Nat) (x3 : Nat) (x4 : Int32) (h : tk_AH) (sz : Nat) (kc ks : Nat) : Option Unit :=
  fL_law_1856 N mf L xs k23 x1 x2 x3 x4 h sz kc ks
def fL_law_1249 (N : Nat) (mf : tk_AH → Nat) (L : Nat) (xs : Nat → Int32) (k23 : Nat → Nat → Nat → Int32 → tk_AH → Nat → Nat → Nat → Option (Unit)) (x1 : Nat) (x2 : Nat) (x3 : Nat) (x4 : Int32) (h : tk_AH) (sz : Nat) (kc ks : Nat) : Option Unit :=
  fL_law_1856 N mf L xs k23 x1 x2 x3 x4 h sz kc ks
def fL_law_1193 (N : Nat) (mf : tk_AH → Nat) (L : Nat) (xs : Nat → Int32) (k23 : Nat → Nat → Nat → Int32 → tk_AH → Nat → Nat → Nat → Option (Unit)) (x1 : Nat) (x2 : Nat) (x3 : Nat) (x4 : Int32) (h : tk_AH) (sz : Nat) (kc ks : Nat) : Option Unit :=
  fL_law_1856 N mf L xs k23 x1 x2 x3 x4 h sz kc ks
def fL_law_1137 (N : Nat) (mf : tk_AH → Nat) (L : Nat) (xs : Nat → Int32) (k23 : Nat → Nat → Nat → Int32 → tk_AH → Nat → Nat → Nat → Option (Unit)) (x1 : Nat) (x2 : Nat) (x3 : Nat) (x4 : Int32) (h : tk_AH) (sz : Nat) (kc ks : Nat) : Option Unit :=
  fL_law_1856 N mf L xs k23 x1 x2 x3 x4 h sz kc ks
def fL_law_1131 (N : Nat) (mf : tk_AH → Nat) (L : Nat) (xs : Nat → Int32) (k23 : Nat → Nat → Nat → Int32 → tk_AH → Nat → Nat → Nat → Option (Unit)) (x1 : Nat) (x2 : Nat) (x3 : Nat) (x4 : Int32) (y0 : Int64) (y1 : Int64) (h : tk_AH) (sz : Nat) (kc ks : Nat) : Option Unit :=
  if (lg_cmp y1 y0) = 0 then (
  fL_law_1137 N mf L xs k23 x1 x2 x3 x4 h sz kc ks) else (
  none)
def fL_law_1074 (N : Nat) (mf : tk_AH → Nat) (L : Nat) (xs : Nat → Int32) (k23 : Nat → Nat → Nat → Int32 → tk_AH → Nat → Nat → Nat → Option (Unit)) (x1 : Nat) (x2 : Nat) (x3 : Nat) (x4 : Int32) (h : tk_AH) (sz : Nat) (kc ks : Nat) : Option Unit :=
  fL_law_1856 N mf L xs k23 x1 x2 x3 x4 h sz kc ks
def fL_law_980 (N : Nat) (mf : tk_AH → Nat) (L : Nat) (xs : Nat → Int32) (k23 : Nat → Nat → Nat → Int32 → tk_AH → Nat → Nat → Nat → Option (Unit)) (x1 : Nat) (x2 : Nat) (x3 : Nat) (x4 : Int32) (h : tk_AH) (sz : Nat) (kc ks : Nat) : Option Unit :=
  fL_law_1856 N mf L xs k23 x1 x2 x3 x4 h sz kc ks
def fL_law_888 (N : Nat) (mf : tk_AH → Nat) (L : Nat) (xs : Nat → Int32) (k23 : Nat → Nat → Nat → Int32 → tk_AH → Nat → Nat → Nat → Option (Unit)) (x1 : Nat) (x2 : Nat) (x3 : Nat) (x4 : Int32) (h : tk_AH) (sz : Nat) (kc ks : Nat) : Option Unit :=
  fL_law_1856 N mf L xs k23 x1 x2 x3 x4 h sz kc ks
def fL_law_820 (N : Nat) (mf : tk_AH → Nat) (L : Nat) (xs : Nat → Int32) (k23 : Nat → Nat → Nat → Int32 → tk_AH → Nat → Nat → Nat → Option (Unit)) (x1 : Nat) (x2 : Nat) (x3 : Nat) (x4 : Int32) (h : tk_AH) (sz : Nat) (kc ks : Nat) : Option Unit :=
  fL_law_1856 N mf L xs k23 x1 x2 x3 x4 h sz kc ks
def fL_law_752 (N : Nat) (mf : tk_AH → Nat) (L : Nat) (xs : Nat → Int32) (k23 : Nat → Nat → Nat → Int32 → tk_AH → Nat → Nat → Nat → Option (Unit)) (x1 : Nat) (x2 : Nat) (x3 : Nat) (x4 : Int32) (h : tk_AH) (sz : Nat) (kc ks : Nat) : Option Unit :=
  fL_law_1856 N mf L xs k23 x1 x2 x3 x4 h sz kc ks
def fL_law_672 (N : Nat) (mf : tk_AH → Nat) (L : Nat) (xs : Nat → Int32) (k23 : Nat → Nat → Nat → Int32 → tk_AH → Nat → Nat → Nat → Option (Unit)) (x1 : Nat) (x2 : Nat) (x3 : Nat) (x4 : Int32) (h : tk_AH) (sz : Nat) (kc ks : Nat) : Option Unit :=
  fL_law_1856 N mf L xs k23 x1 x2 x3 x4 h sz kc ks
def fL_law_666 (N : Nat) (mf : tk_AH → Nat) (L : Nat) (xs : Nat → Int32) (k23 : Nat → Nat → Nat → Int32 → tk_AH → Nat → Nat → Nat → Option (Unit)) (x1 : Nat) (x2 : Nat) (x3 : Nat) (x4 : Int32) (y0 : Int64) (y1 : Int64) (h : tk_AH) (sz : Nat) (kc ks : Nat) : Option Unit :=
  if (lg_cmp y1 y0) = 0 then (
  fL_law_672 N mf L xs k23 x1 x2 x3 x4 h sz kc ks) else (
  none)
def fL_law_632 (N : Nat) (mf : tk_AH → Nat) (L : Nat) (xs : Nat → Int32) (k23 : Nat → Nat → Nat → Int32 → tk_AH → Nat → Nat → Nat → Option (Unit)) (x1 : Nat) (x2 : Nat) (x3 : Nat) (x4 : Int32) (x5 : Int32) (y0 : Int32) (y1 : Int32) (y2 : Int32) (y3 : Int32) (y4 : Nat) (h : tk_AH) (sz : Nat) (kc ks : Nat) : Option Unit :=
  (tk_ok h 5 y4).bind fun _ =>
  (tk_bd (kc + 0) (ks + 0)).bind fun _ =>
  (fX5_test N y4 y3 y2 y1 y0 h sz).bind fun o15 =>
  (tk_ok o15.2.1 5 x2).bind fun _ =>
  (tk_bd (kc + 0) (ks + 0)).bind fun _ =>
  (fX5_thrown N x2 o15.2.1 o15.2.2).bind fun o16 =>
  if o16.1 = x5 then (
  if x5 = 0 then (
  (tk_aJ o16.2.1 2 x3 0).bind fun v19 =>
  if o15.1 = 0 then (
  fL_law_666 N mf L xs k23 x1 x2 x3 x4 0 v19 o16.2.1 o16.2.2 kc ks) else (
  fL_law_666 N mf L xs k23 x1 x2 x3 x4 1 v19 o16.2.1 o16.2.2 kc ks)) else (
  fL_law_672 N mf L xs k23 x1 x2 x3 x4 o16.2.1 o16.2.2 kc ks)) else (
  none)
def fL_law_593 (N : Nat) (mf : tk_AH → Nat) (L : Nat) (xs : Nat → Int32) (k23 : Nat → Nat → Nat → Int32 → tk_AH → Nat → Nat → Nat → Option (Unit)) (x1 : Nat) (x2 : Nat) (x3 : Nat) (x4 : Int32) (y0 : Int32) (y1 : Int32) (y2 : Int32) (y3 : Int32) (y4 : Nat) (h : tk_AH) (sz : Nat) (kc ks : Nat) : Option Unit :=
  (tk_bd (kc + 1) (ks + 6)).bind fun _ =>
  (fL_test N y4 y3 y2 y1 y0 x3 h sz).bind fun o21 =>
  (tk_sc L xs (x4 + 1)).bind fun v22 =>
  (tk_sc L xs (x4 + 2)).bind fun v23 =>
  (tk_sc L xs (x4 + 3)).bind fun v24 =>
  (tk_sc L xs (x4 + 4)).bind fun v25 =>
  if v25 = 0 then (
  fL_law_632 N mf L xs k23 x1 x2 x3 x4 o21.1 0 v24 v23 v22 x2 o21.2.1 o21.2.2 (kc + 1) (ks + 6)) else (
  fL_law_632 N mf L xs k23 x1 x2 x3 x4 o21.1 1 v24 v23 v22 x2 o21.2.1 o21.2.2 (kc + 1) (ks + 6))
def fL_law_557 (N : Nat) (mf : tk_AH → Nat) (L : Nat) (xs : Nat → Int32) (k23 : Nat → Nat → Nat → Int32 → tk_AH → Nat → Nat → Nat → Option (Unit)) (x1 : Nat) (x2 : Nat) (x3 : Nat) (x4 : Int32) (h : tk_AH) (sz : Nat) (kc ks : Nat) : Option Unit :=
  fL_law_1856 N mf L xs k23 x1 x2 x3 x4 h sz kc ks
def fL_law_551 (N : Nat) (mf : tk_AH → Nat) (L : Nat) (xs : Nat → Int32) (k23 : Nat → Nat → Nat → Int32 → tk_AH → Nat → Nat → Nat → Option (Unit)) (x1 : Nat) (x2 : Nat) (x3 : Nat) (x4 : Int32) (y0 : Int64) (y1 : Int64) (h : tk_AH) (sz : Nat) (kc ks : Nat) : Option Unit :=
  if (lg_cmp y1 y0) = 0 then (
  fL_law_557 N mf L xs k23 x1 x2 x3 x4 h sz kc ks) else (
  none)
def fL_law_517 (N : Nat) (mf : tk_AH → Nat) (L : Nat) (xs : Nat → Int32) (k23 : Nat → Nat → Nat → Int32 → tk_AH → Nat → Nat → Nat → Option (Unit)) (x1 : Nat) (x2 : Nat) (x3 : Nat) (x4 : Int32) (x5 : Int32) (y0 : Int32) (y1 : Int32) (y2 : Int32) (y3 : Nat) (h : tk_AH) (sz : Nat) (kc ks : Nat) : Option Unit :=
  (tk_ok h 5 y3).bind fun _ =>
  (tk_bd (kc + 0) (ks + 0)).bind fun _ =>
  (fX5_bar N y3 y2 y1 y0 h sz).bind fun o28 =>
  (tk_ok o28.2.1 5 x2).bind fun _ =>
  (tk_bd (kc + 0) (ks + 0)).bind fun _ =>
  (fX5_thrown N x2 o28.2.1 o28.2.2).bind fun o29 =>
  if o29.1 = x5 then (
  if x5 = 0 then (
  (tk_aJ o29.2.1 2 x3 0).bind fun v32 =>
  if o28.1 = 0 then (
  fL_law_551 N mf L xs k23 x1 x2 x3 x4 0 v32 o29.2.1 o29.2.2 kc ks) else (
  fL_law_551 N mf L xs k23 x1 x2 x3 x4 1 v32 o29.2.1 o29.2.2 kc ks)) else (
  fL_law_557 N mf L xs k23 x1 x2 x3 x4 o29.2.1 o29.2.2 kc ks)) else (
  none)
def fL_law_484 (N : Nat) (mf : tk_AH → Nat) (L : Nat) (xs : Nat → Int32) (k23 : Nat → Nat → Nat → Int32 → tk_AH → Nat → Nat → Nat → Option (Unit)) (x1 : Nat) (x2 : Nat) (x3 : Nat) (x4 : Int32) (y0 : Int32) (y1 : Int32) (y2 : Int32) (y3 : Nat) (h : tk_AH) (sz : Nat) (kc ks : Nat) : Option Unit :=
  (tk_bd (kc + 1) (ks + 6)).bind fun _ =>
  (fL_bar N y3 y2 y1 y0 x3 h sz).bind fun o34 =>
  (tk_sc L xs (x4 + 1)).bind fun v35 =>
  (tk_sc L xs (x4 + 2)).bind fun v36 =>
  (tk_sc L xs (x4 + 3)).bind fun v37 =>
  if v37 = 0 then (
  fL_law_517 N mf L xs k23 x1 x2 x3 x4 o34.1 0 v36 v35 x2 o34.2.1 o34.2.2 (kc + 1) (ks + 6)) else (
  fL_law_517 N mf L xs k23 x1 x2 x3 x4 o34.1 1 v36 v35 x2 o34.2.1 o34.2.2 (kc + 1) (ks + 6))
def fL_law_454 (N : Nat) (mf : tk_AH → Nat) (L : Nat) (xs : Nat → Int32) (k23 : Nat → Nat → Nat → Int32 → tk_AH → Nat → Nat → Nat → Option (Unit)) (x1 : Nat) (x2 : Nat) (x3 : Nat) (x4 : Int32) (h : tk_AH) (sz : Nat) (kc ks : Nat) : Option Unit :=
  fL_law_1856 N mf L xs k23 x1 x2 x3 x4 h sz kc ks
def fL_law_398 (N : Nat) (mf : tk_AH → Nat) (L : Nat) (xs : Nat → Int32) (k23 : Nat → Nat → Nat → Int32 → tk_AH → Nat → Nat → Nat → Option (Unit)) (x1 : Nat) (x2 : Nat) (x3 : Nat) (x4 : Int32) (h : tk_AH) (sz : Nat) (kc ks : Nat) : Option Unit :=
  fL_law_1856 N mf L xs k23 x1 x2 x3 x4 h sz kc ks
def fL_law_330 (N : Nat) (mf : tk_AH → Nat) (L : Nat) (xs : Nat → Int32) (k23 : Nat → Nat → Nat → Int32 → tk_AH → Nat → Nat → Nat → Option (Unit)) (x1 : Nat) (x2 : Nat) (x3 : Nat) (x4 : Int32) (h : tk_AH) (sz : Nat) (kc ks : Nat) : Option Unit :=
  fL_law_1856 N mf L xs k23 x1 x2 x3 x4 h sz kc ks
def fL_law_250 (N : Nat) (mf : tk_AH → Nat) (L : Nat) (xs : Nat → Int32) (k23 : Nat → Nat → Nat → Int32 → tk_AH → Nat → Nat → Nat → Option (Unit)) (x1 : Nat) (x2 : Nat) (x3 : Nat) (x4 : Int32) (h : tk_AH) (sz : Nat) (kc ks : Nat) : Option Unit :=
  fL_law_1856 N mf L xs k23 x1 x2 x3 x4 h sz kc ks
def fL_law_23 (N : Nat) (mf : tk_AH → Nat) (L : Nat) (xs : Nat → Int32) : Nat → Nat → Nat → Nat → Int32 → tk_AH → Nat → Nat → Nat → Option (Unit)
  | 0, _, _, _, _, _, _, _, _ => none
  | n + 1, x1, x2, x3, x4, h, sz, kc, ks =>
  if ((Int32.ofNat L) - 6) < x4 then (
  (tk_bd kc ks).bind fun _ =>
  some ()) else (
  (tk_sc L xs x4).bind fun v42 =>
  if (v42 &&& 31) = 0 then (
  (tk_sc L xs (x4 + 1)).bind fun v44 =>
  (tk_ok h 4 x1).bind fun _ =>
  (tk_bd (kc + 9) (ks + 137)).bind fun _ =>
  (fX4_learner N x1 v44 h sz).bind fun o45 =>
  (tk_sc L xs (x4 + 1)).bind fun v46 =>
  (tk_ok o45.2.1 5 x2).bind fun _ =>
  (tk_bd (kc + 9 + 0) (ks + 137 + 0)).bind fun _ =>
  (fX5_learner N x2 v46 o45.2.1 o45.2.2).bind fun o47 =>
  if o45.1 = o47.1 then (
  fL_law_1856 N mf L xs (fL_law_23 N mf L xs n) x1 x2 x3 x4 o47.2.1 o47.2.2 (kc + 9) (ks + 137)) else (
  none)) else if (v42 &&& 31) = 1 then (
  (tk_sc L xs (x4 + 1)).bind fun v50 =>
  (tk_sc L xs (x4 + 2)).bind fun v51 =>
  (tk_bd (kc + 1) (ks + 6)).bind fun _ =>
  (fL_hours N x1 v50 v51 x3 h sz).bind fun o52 =>
  (tk_sc L xs (x4 + 1)).bind fun v53 =>
  (tk_sc L xs (x4 + 2)).bind fun v54 =>
  (tk_ok o52.2.1 5 x2).bind fun _ =>
  (tk_bd (kc + 1 + 0) (ks + 6 + 0)).bind fun _ =>
  (fX5_hours N x2 v53 v54 o52.2.1 o52.2.2).bind fun o55 =>
  (tk_ok o55.2.1 5 x2).bind fun _ =>
  (tk_bd (kc + 1 + 0) (ks + 6 + 0)).bind fun _ =>
  (fX5_thrown N x2 o55.2.1 o55.2.2).bind fun o56 =>
  if o56.1 = o52.1 then (
  if o52.1 = 0 then (
  (tk_aJ o56.2.1 2 x3 0).bind fun v59 =>
  if (lg_cmp v59 o55.1.toInt64) = 0 then (
  fL_law_250 N mf L xs (fL_law_23 N mf L xs n) x1 x2 x3 x4 o56.2.1 o56.2.2 (kc + 1) (ks + 6)) else (
  none)) else (
  fL_law_250 N mf L xs (fL_law_23 N mf L xs n) x1 x2 x3 x4 o56.2.1 o56.2.2 (kc + 1) (ks + 6))) else (
  none)) else if (v42 &&& 31) = 2 then (
  (tk_sc L xs (x4 + 1)).bind fun v62 =>
  (tk_sc L xs (x4 + 2)).bind fun v63 =>
  (tk_sc L xs (x4 + 3)).bind fun v64 =>
  (tk_bd (kc + 1) (ks + 6)).bind fun _ =>
  (fL_claim N x1 v62 v63 v64 x3 h sz).bind fun o65 =>
  (tk_sc L xs (x4 + 1)).bind fun v66 =>
  (tk_sc L xs (x4 + 2)).bind fun v67 =>
  (tk_sc L xs (x4 + 3)).bind fun v68 =>
  (tk_ok o65.2.1 5 x2).bind fun _ =>
  (tk_bd (kc + 1 + 0) (ks + 6 + 0)).bind fun _ =>
  (fX5_claim N x2 v66 v67 v68 o65.2.1 o65.2.2).bind fun o69 =>
  (tk_ok o69.2.1 5 x2).bind fun _ =>
  (tk_bd (kc + 1 + 0) (ks + 6 + 0)).bind fun _ =>
  (fX5_thrown N x2 o69.2.1 o69.2.2).bind fun o70 =>
  if o70.1 = o65.1 then (
  if o65.1 = 0 then (
  (tk_aJ o70.2.1 2 x3 0).bind fun v73 =>
  if (lg_cmp v73 o69.1.toInt64) = 0 then (
  fL_law_330 N mf L xs (fL_law_23 N mf L xs n) x1 x2 x3 x4 o70.2.1 o70.2.2 (kc + 1) (ks + 6)) else (
  none)) else (
  fL_law_330 N mf L xs (fL_law_23 N mf L xs n) x1 x2 x3 x4 o70.2.1 o70.2.2 (kc + 1) (ks + 6))) else (
  none)) else if (v42 &&& 31) = 3 then (
  (tk_sc L xs (x4 + 1)).bind fun v76 =>
  (tk_sc L xs (x4 + 2)).bind fun v77 =>
  (tk_bd (kc + 1) (ks + 6)).bind fun _ =>
  (fL_want N x1 v76 v77 x3 h sz).bind fun o78 =>
  (tk_sc L xs (x4 + 1)).bind fun v79 =>
  (tk_sc L xs (x4 + 2)).bind fun v80 =>
  (tk_ok o78.2.1 5 x2).bind fun _ =>
  (tk_bd (kc + 1 + 0) (ks + 6 + 0)).bind fun _ =>
  (fX5_want N x2 v79 v80 o78.2.1 o78.2.2).bind fun o81 =>
  (tk_ok o81.2.1 5 x2).bind fun _ =>
  (tk_bd (kc + 1 + 0) (ks + 6 + 0)).bind fun _ =>
  (fX5_thrown N x2 o81.2.1 o81.2.2).bind fun o82 =>
  if o82.1 = o78.1 then (
  if o78.1 = 0 then (
  (tk_aJ o82.2.1 2 x3 0).bind fun v85 =>
  if (lg_cmp v85 o81.1.toInt64) = 0 then (
  fL_law_398 N mf L xs (fL_law_23 N mf L xs n) x1 x2 x3 x4 o82.2.1 o82.2.2 (kc + 1) (ks + 6)) else (
  none)) else (
  fL_law_398 N mf L xs (fL_law_23 N mf L xs n) x1 x2 x3 x4 o82.2.1 o82.2.2 (kc + 1) (ks + 6))) else (
  none)) else if (v42 &&& 31) = 4 then (
  (tk_sc L xs (x4 + 1)).bind fun v88 =>
  (tk_bd (kc + 1) (ks + 6)).bind fun _ =>
  (fL_unwant N x1 v88 x3 h sz).bind fun o89 =>
  (tk_sc L xs (x4 + 1)).bind fun v90 =>
  (tk_ok o89.2.1 5 x2).bind fun _ =>
  (tk_bd (kc + 1 + 0) (ks + 6 + 0)).bind fun _ =>
  (fX5_unwant N x2 v90 o89.2.1 o89.2.2).bind fun o91 =>
  (tk_ok o91.2.1 5 x2).bind fun _ =>
  (tk_bd (kc + 1 + 0) (ks + 6 + 0)).bind fun _ =>
  (fX5_thrown N x2 o91.2.1 o91.2.2).bind fun o92 =>
  if o92.1 = o89.1 then (
  if o89.1 = 0 then (
  (tk_aJ o92.2.1 2 x3 0).bind fun v95 =>
  if (lg_cmp v95 o91.1.toInt64) = 0 then (
  fL_law_454 N mf L xs (fL_law_23 N mf L xs n) x1 x2 x3 x4 o92.2.1 o92.2.2 (kc + 1) (ks + 6)) else (
  none)) else (
  fL_law_454 N mf L xs (fL_law_23 N mf L xs n) x1 x2 x3 x4 o92.2.1 o92.2.2 (kc + 1) (ks + 6))) else (
  none)) else if (v42 &&& 31) = 5 then (
  (tk_sc L xs (x4 + 1)).bind fun v98 =>
  (tk_sc L xs (x4 + 2)).bind fun v99 =>
  (tk_sc L xs (x4 + 3)).bind fun v100 =>
  if v100 = 0 then (
  fL_law_484 N mf L xs (fL_law_23 N mf L xs n) x1 x2 x3 x4 0 v99 v98 x1 h sz kc ks) else (
  fL_law_484 N mf L xs (fL_law_23 N mf L xs n) x1 x2 x3 x4 1 v99 v98 x1 h sz kc ks)) else if (v42 &&& 31) = 6 then (
  (tk_sc L xs (x4 + 1)).bind fun v103 =>
  (tk_sc L xs (x4 + 2)).bind fun v104 =>
  (tk_sc L xs (x4 + 3)).bind fun v105 =>
  (tk_sc L xs (x4 + 4)).bind fun v106 =>
  if v106 = 0 then (
  fL_law_593 N mf L xs (fL_law_23 N mf L xs n) x1 x2 x3 x4 0 v105 v104 v103 x1 h sz kc ks) else (
  fL_law_593 N mf L xs (fL_law_23 N mf L xs n) x1 x2 x3 x4 1 v105 v104 v103 x1 h sz kc ks)) else if (v42 &&& 31) = 7 then (
  (tk_sc L xs (x4 + 1)).bind fun v109 =>
  (tk_sc L xs (x4 + 2)).bind fun v110 =>
  (tk_sc L xs (x4 + 3)).bind fun v111 =>
  (tk_bd (kc + 1) (ks + 6)).bind fun _ =>
  (fL_level N x1 v109 v110 v111 x3 h sz).bind fun o112 =>
  (tk_sc L xs (x4 + 1)).bind fun v113 =>
  (tk_sc L xs (x4 + 2)).bind fun v114 =>
  (tk_sc L xs (x4 + 3)).bind fun v115 =>
  (tk_ok o112.2.1 5 x2).bind fun _ =>
  (tk_bd (kc + 1 + 0) (ks + 6 + 0)).bind fun _ =>
  (fX5_level N x2 v113 v114 v115 o112.2.1 o112.2.2).bind fun o116 =>
  (tk_ok o116.2.1 5 x2).bind fun _ =>
  (tk_bd (kc + 1 + 0) (ks + 6 + 0)).bind fun _ =>
  (fX5_thrown N x2 o116.2.1 o116.2.2).bind fun o117 =>
  if o117.1 = o112.1 then (
  if o112.1 = 0 then (
  (tk_aJ o117.2.1 2 x3 0).bind fun v120 =>
  if (lg_cmp v120 o116.1.toInt64) = 0 then (
  fL_law_752 N mf L xs (fL_law_23 N mf L xs n) x1 x2 x3 x4 o117.2.1 o117.2.2 (kc + 1) (ks + 6)) else (
  none)) else (
  fL_law_752 N mf L xs (fL_law_23 N mf L xs n) x1 x2 x3 x4 o117.2.1 o117.2.2 (kc + 1) (ks + 6))) else (
  none)) else if (v42 &&& 31) = 8 then (
  (tk_sc L xs (x4 + 1)).bind fun v123 =>
  (tk_sc L xs (x4 + 2)).bind fun v124 =>
  (tk_bd (kc + 1) (ks + 6)).bind fun _ =>
  (fL_gift N x1 v123 v124 x3 h sz).bind fun o125 =>
  (tk_sc L xs (x4 + 1)).bind fun v126 =>
  (tk_sc L xs (x4 + 2)).bind fun v127 =>
  (tk_ok o125.2.1 5 x2).bind fun _ =>
  (tk_bd (kc + 1 + 0) (ks + 6 + 0)).bind fun _ =>
  (fX5_gift N x2 v126 v127 o125.2.1 o125.2.2).bind fun o128 =>
  (tk_ok o128.2.1 5 x2).bind fun _ =>
  (tk_bd (kc + 1 + 0) (ks + 6 + 0)).bind fun _ =>
  (fX5_thrown N x2 o128.2.1 o128.2.2).bind fun o129 =>
  if o129.1 = o125.1 then (
  if o125.1 = 0 then (
  (tk_aJ o129.2.1 2 x3 0).bind fun v132 =>
  if (lg_cmp v132 o128.1.toInt64) = 0 then (
  fL_law_820 N mf L xs (fL_law_23 N mf L xs n) x1 x2 x3 x4 o129.2.1 o129.2.2 (kc + 1) (ks + 6)) else (
  none)) else (
  fL_law_820 N mf L xs (fL_law_23 N mf L xs n) x1 x2 x3 x4 o129.2.1 o129.2.2 (kc + 1) (ks + 6))) else (
  none)) else if (v42 &&& 31) = 9 then (
  (tk_sc L xs (x4 + 1)).bind fun v135 =>
  (tk_sc L xs (x4 + 2)).bind fun v136 =>
  (tk_bd (kc + 1) (ks + 6)).bind fun _ =>
  (fL_meet N x1 v135 v136 x3 h sz).bind fun o137 =>
  (tk_sc L xs (x4 + 1)).bind fun v138 =>
  (tk_sc L xs (x4 + 2)).bind fun v139 =>
  (tk_ok o137.2.1 5 x2).bind fun _ =>
  (tk_bd (kc + 1 + 0) (ks + 6 + 0)).bind fun _ =>
  (fX5_meet N x2 v138 v139 o137.2.1 o137.2.2).bind fun o140 =>
  (tk_ok o140.2.1 5 x2).bind fun _ =>
  (tk_bd (kc + 1 + 0) (ks + 6 + 0)).bind fun _ =>
  (fX5_thrown N x2 o140.2.1 o140.2.2).bind fun o141 =>
  if o141.1 = o137.1 then (
  if o137.1 = 0 then (
  (tk_aJ o141.2.1 2 x3 0).bind fun v144 =>
  if (lg_cmp v144 o140.1.toInt64) = 0 then (
  fL_law_888 N mf L xs (fL_law_23 N mf L xs n) x1 x2 x3 x4 o141.2.1 o141.2.2 (kc + 1) (ks + 6)) else (
  none)) else (
  fL_law_888 N mf L xs (fL_law_23 N mf L xs n) x1 x2 x3 x4 o141.2.1 o141.2.2 (kc + 1) (ks + 6))) else (
  none)) else if (v42 &&& 31) = 10 then (
  (tk_sc L xs (x4 + 1)).bind fun v147 =>
  (tk_sc L xs (x4 + 2)).bind fun v148 =>
  (tk_sc L xs (x4 + 3)).bind fun v149 =>
  (tk_sc L xs (x4 + 4)).bind fun v150 =>
  (tk_bd (kc + 1) (ks + 6)).bind fun _ =>
  (fL_ring N x1 v147 v148 v149 v150 x3 h sz).bind fun o151 =>
  (tk_sc L xs (x4 + 1)).bind fun v152 =>
  (tk_sc L xs (x4 + 2)).bind fun v153 =>
  (tk_sc L xs (x4 + 3)).bind fun v154 =>
  (tk_sc L xs (x4 + 4)).bind fun v155 =>
  (tk_ok o151.2.1 5 x2).bind fun _ =>
  (tk_bd (kc + 1 + 0) (ks + 6 + 0)).bind fun _ =>
  (fX5_ring N x2 v152 v153 v154 v155 o151.2.1 o151.2.2).bind fun o156 =>
  (tk_ok o156.2.1 5 x2).bind fun _ =>
  (tk_bd (kc + 1 + 0) (ks + 6 + 0)).bind fun _ =>
  (fX5_thrown N x2 o156.2.1 o156.2.2).bind fun o157 =>
  if o157.1 = o151.1 then (
  if o151.1 = 0 then (
  (tk_aJ o157.2.1 2 x3 0).bind fun v160 =>
  if (lg_cmp v160 o156.1.toInt64) = 0 then (
  fL_law_980 N mf L xs (fL_law_23 N mf L xs n) x1 x2 x3 x4 o157.2.1 o157.2.2 (kc + 1) (ks + 6)) else (
  none)) else (
  fL_law_980 N mf L xs (fL_law_23 N mf L xs n) x1 x2 x3 x4 o157.2.1 o157.2.2 (kc + 1) (ks + 6))) else (
  none)) else if (v42 &&& 31) = 11 then (
  (tk_ok h 4 x1).bind fun _ =>
  (tk_bd (kc + 1) (ks + (mf h))).bind fun _ =>
  (fX4_week N (mf h) x1 h sz).bind fun o163 =>
  Sum.elim (fun r163 =>
  (tk_ok o163.2.1 5 x2).bind fun _ =>
  (tk_bd (kc + 1 + 0) (ks + (mf h) + 0)).bind fun _ =>
  (fX5_week N x2 o163.2.1 o163.2.2).bind fun o164 =>
  if r163 = o164.1 then (
  fL_law_1856 N mf L xs (fL_law_23 N mf L xs n) x1 x2 x3 x4 o164.2.1 o164.2.2 (kc + 1) (ks + (mf h))) else (
  none)) (fun _ => none) o163.1) else if (v42 &&& 31) = 12 then (
  (tk_ok h 4 x1).bind fun _ =>
  (tk_bd (kc + 0) (ks + 0)).bind fun _ =>
  (fX4_rings N x1 h sz).bind fun o167 =>
  (tk_ok o167.2.1 5 x2).bind fun _ =>
  (tk_bd (kc + 0) (ks + 0)).bind fun _ =>
  (fX5_rings N x2 o167.2.1 o167.2.2).bind fun o168 =>
  if o167.1 = o168.1 then (
  fL_law_1856 N mf L xs (fL_law_23 N mf L xs n) x1 x2 x3 x4 o168.2.1 o168.2.2 kc ks) else (
  none)) else if (v42 &&& 31) = 13 then (
  (tk_sc L xs (x4 + 1)).bind fun v171 =>
  (tk_sc L xs (x4 + 2)).bind fun v172 =>
  (tk_bd (kc + 1) (ks + 6)).bind fun _ =>
  (fL_ringOf N x1 v171 v172 x3 h sz).bind fun o173 =>
  (tk_sc L xs (x4 + 1)).bind fun v174 =>
  (tk_sc L xs (x4 + 2)).bind fun v175 =>
  (tk_ok o173.2.1 5 x2).bind fun _ =>
  (tk_bd (kc + 1 + 0) (ks + 6 + 0)).bind fun _ =>
  (fX5_ringOf N x2 v174 v175 o173.2.1 o173.2.2).bind fun o176 =>
  (tk_ok o176.2.1 5 x2).bind fun _ =>
  (tk_bd (kc + 1 + 0) (ks + 6 + 0)).bind fun _ =>
  (fX5_thrown N x2 o176.2.1 o176.2.2).bind fun o177 =>
  if o177.1 = o173.1 then (
  if o173.1 = 0 then (
  (tk_aJ o177.2.1 2 x3 0).bind fun v180 =>
  if (lg_cmp v180 o176.1.toInt64) = 0 then (
  fL_law_1074 N mf L xs (fL_law_23 N mf L xs n) x1 x2 x3 x4 o177.2.1 o177.2.2 (kc + 1) (ks + 6)) else (
  none)) else (
  fL_law_1074 N mf L xs (fL_law_23 N mf L xs n) x1 x2 x3 x4 o177.2.1 o177.2.2 (kc + 1) (ks + 6))) else (
  none)) else if (v42 &&& 31) = 14 then (
  (tk_sc L xs (x4 + 1)).bind fun v183 =>
  (tk_bd (kc + 1) (ks + 6)).bind fun _ =>
  (fL_missed N x1 v183 x3 h sz).bind fun o184 =>
  (tk_sc L xs (x4 + 1)).bind fun v185 =>
  (tk_ok o184.2.1 5 x2).bind fun _ =>
  (tk_bd (kc + 1 + 0) (ks + 6 + 0)).bind fun _ =>
  (fX5_missed N x2 v185 o184.2.1 o184.2.2).bind fun o186 =>
  (tk_ok o186.2.1 5 x2).bind fun _ =>
  (tk_bd (kc + 1 + 0) (ks + 6 + 0)).bind fun _ =>
  (fX5_thrown N x2 o186.2.1 o186.2.2).bind fun o187 =>
  if o187.1 = o184.1 then (
  if o184.1 = 0 then (
  (tk_aJ o187.2.1 2 x3 0).bind fun v190 =>
  if o186.1 = 0 then (
  fL_law_1131 N mf L xs (fL_law_23 N mf L xs n) x1 x2 x3 x4 0 v190 o187.2.1 o187.2.2 (kc + 1) (ks + 6)) else (
  fL_law_1131 N mf L xs (fL_law_23 N mf L xs n) x1 x2 x3 x4 1 v190 o187.2.1 o187.2.2 (kc + 1) (ks + 6))) else (
  fL_law_1137 N mf L xs (fL_law_23 N mf L xs n) x1 x2 x3 x4 o187.2.1 o187.2.2 (kc + 1) (ks + 6))) else (
  none)) else if (v42 &&& 31) = 15 then (
  (tk_sc L xs (x4 + 1)).bind fun v193 =>
  (tk_bd (kc + 1) (ks + 6)).bind fun _ =>
  (fL_waited N x1 v193 x3 h sz).bind fun o194 =>
  (tk_sc L xs (x4 + 1)).bind fun v195 =>
  (tk_ok o194.2.1 5 x2).bind fun _ =>
  (tk_bd (kc + 1 + 0) (ks + 6 + 0)).bind fun _ =>
  (fX5_waited N x2 v195 o194.2.1 o194.2.2).bind fun o196 =>
  (tk_ok o196.2.1 5 x2).bind fun _ =>
  (tk_bd (kc + 1 + 0) (ks + 6 + 0)).bind fun _ =>
  (fX5_thrown N x2 o196.2.1 o196.2.2).bind fun o197 =>
  if o197.1 = o194.1 then (
  if o194.1 = 0 then (
  (tk_aJ o197.2.1 2 x3 0).bind fun v200 =>
  if (lg_cmp v200 o196.1.toInt64) = 0 then (
  fL_law_1193 N mf L xs (fL_law_23 N mf L xs n) x1 x2 x3 x4 o197.2.1 o197.2.2 (kc + 1) (ks + 6)) else (
  none)) else (
  fL_law_1193 N mf L xs (fL_law_23 N mf L xs n) x1 x2 x3 x4 o197.2.1 o197.2.2 (kc + 1) (ks + 6))) else (
  none)) else if (v42 &&& 31) = 16 then (
  (tk_sc L xs (x4 + 1)).bind fun v203 =>
  (tk_bd (kc + 1) (ks + 6)).bind fun _ =>
  (fL_days N x1 v203 x3 h sz).bind fun o204 =>
  (tk_sc L xs (x4 + 1)).bind fun v205 =>
  (tk_ok o204.2.1 5 x2).bind fun _ =>
  (tk_bd (kc + 1 + 0) (ks + 6 + 0)).bind fun _ =>
  (fX5_days N x2 v205 o204.2.1 o204.2.2).bind fun o206 =>
  (tk_ok o206.2.1 5 x2).bind fun _ =>
  (tk_bd (kc + 1 + 0) (ks + 6 + 0)).bind fun _ =>
  (fX5_thrown N x2 o206.2.1 o206.2.2).bind fun o207 =>
  if o207.1 = o204.1 then (
  if o204.1 = 0 then (
  (tk_aJ o207.2.1 2 x3 0).bind fun v210 =>
  if (lg_cmp v210 o206.1.toInt64) = 0 then (
  fL_law_1249 N mf L xs (fL_law_23 N mf L xs n) x1 x2 x3 x4 o207.2.1 o207.2.2 (kc + 1) (ks + 6)) else (
  none)) else (
  fL_law_1249 N mf L xs (fL_law_23 N mf L xs n) x1 x2 x3 x4 o207.2.1 o207.2.2 (kc + 1) (ks + 6))) else (
  none)) else if (v42 &&& 31) = 17 then (
  (tk_sc L xs (x4 + 1)).bind fun v213 =>
  (tk_bd (kc + 1) (ks + 6)).bind fun _ =>
  (fL_word N x1 v213 x3 h sz).bind fun o214 =>
  (tk_sc L xs (x4 + 1)).bind fun v215 =>
  (tk_ok o214.2.1 5 x2).bind fun _ =>
  (tk_bd (kc + 1 + 0) (ks + 6 + 0)).bind fun _ =>
  (fX5_word N x2 v215 o214.2.1 o214.2.2).bind fun o216 =>
  (tk_ok o216.2.1 5 x2).bind fun _ =>
  (tk_bd (kc + 1 + 0) (ks + 6 + 0)).bind fun _ =>
  (fX5_thrown N x2 o216.2.1 o216.2.2).bind fun o217 =>
  if o217.1 = o214.1 then (
  if o214.1 = 0 then (
  (tk_aJ o217.2.1 2 x3 0).bind fun v220 =>
  if (lg_cmp v220 o216.1.toInt64) = 0 then (
  fL_law_1305 N mf L xs (fL_law_23 N mf L xs n) x1 x2 x3 x4 o217.2.1 o217.2.2 (kc + 1) (ks + 6)) else (
  none)) else (
  fL_law_1305 N mf L xs (fL_law_23 N mf L xs n) x1 x2 x3 x4 o217.2.1 o217.2.2 (kc + 1) (ks + 6))) else (
  none)) else if (v42 &&& 31) = 18 then (
  (tk_sc L xs (x4 + 1)).bind fun v223 =>
  (tk_sc L xs (x4 + 2)).bind fun v224 =>
  (tk_sc L xs (x4 + 3)).bind fun v225 =>
  if v225 = 0 then (
  fL_law_1335 N mf L xs (fL_law_23 N mf L xs n) x1 x2 x3 x4 0 v224 v223 x1 h sz kc ks) else (
  fL_law_1335 N mf L xs (fL_law_23 N mf L xs n) x1 x2 x3 x4 1 v224 v223 x1 h sz kc ks)) else if (v42 &&& 31) = 19 then (
  (tk_sc L xs (x4 + 1)).bind fun v228 =>
  (tk_sc L xs (x4 + 2)).bind fun v229 =>
  (tk_sc L xs (x4 + 3)).bind fun v230 =>
  (tk_bd (kc + 1) (ks + 6)).bind fun _ =>
  (fL_wordOf N x1 v228 v229 v230 x3 h sz).bind fun o231 =>
  (tk_sc L xs (x4 + 1)).bind fun v232 =>
  (tk_sc L xs (x4 + 2)).bind fun v233 =>
  (tk_sc L xs (x4 + 3)).bind fun v234 =>
  (tk_ok o231.2.1 5 x2).bind fun _ =>
  (tk_bd (kc + 1 + 0) (ks + 6 + 0)).bind fun _ =>
  (fX5_wordOf N x2 v232 v233 v234 o231.2.1 o231.2.2).bind fun o235 =>
  (tk_ok o235.2.1 5 x2).bind fun _ =>
  (tk_bd (kc + 1 + 0) (ks + 6 + 0)).bind fun _ =>
  (fX5_thrown N x2 o235.2.1 o235.2.2).bind fun o236 =>
  if o236.1 = o231.1 then (
  if o231.1 = 0 then (
  (tk_aJ o236.2.1 2 x3 0).bind fun v239 =>
  if (lg_cmp v239 o235.1.toInt64) = 0 then (
  fL_law_1488 N mf L xs (fL_law_23 N mf L xs n) x1 x2 x3 x4 o236.2.1 o236.2.2 (kc + 1) (ks + 6)) else (
  none)) else (
  fL_law_1488 N mf L xs (fL_law_23 N mf L xs n) x1 x2 x3 x4 o236.2.1 o236.2.2 (kc + 1) (ks + 6))) else (
  none)) else if (v42 &&& 31) = 20 then (
  (tk_sc L xs (x4 + 1)).bind fun v242 =>
  (tk_bd (kc + 1) (ks + 6)).bind fun _ =>
  (fL_next N x1 v242 x3 h sz).bind fun o243 =>
  (tk_sc L xs (x4 + 1)).bind fun v244 =>
  (tk_ok o243.2.1 5 x2).bind fun _ =>
  (tk_bd (kc + 1 + 0) (ks + 6 + 0)).bind fun _ =>
  (fX5_next N x2 v244 o243.2.1 o243.2.2).bind fun o245 =>
  (tk_ok o245.2.1 5 x2).bind fun _ =>
  (tk_bd (kc + 1 + 0) (ks + 6 + 0)).bind fun _ =>
  (fX5_thrown N x2 o245.2.1 o245.2.2).bind fun o246 =>
  if o246.1 = o243.1 then (
  if o243.1 = 0 then (
  (tk_aJ o246.2.1 2 x3 0).bind fun v249 =>
  if (lg_cmp v249 o245.1.toInt64) = 0 then (
  fL_law_1544 N mf L xs (fL_law_23 N mf L xs n) x1 x2 x3 x4 o246.2.1 o246.2.2 (kc + 1) (ks + 6)) else (
  none)) else (
  fL_law_1544 N mf L xs (fL_law_23 N mf L xs n) x1 x2 x3 x4 o246.2.1 o246.2.2 (kc + 1) (ks + 6))) else (
  none)) else if (v42 &&& 31) = 21 then (
  (tk_sc L xs (x4 + 1)).bind fun v252 =>
  (tk_sc L xs (x4 + 2)).bind fun v253 =>
  (tk_sc L xs (x4 + 3)).bind fun v254 =>
  (tk_sc L xs (x4 + 4)).bind fun v255 =>
  (tk_sc L xs (x4 + 5)).bind fun v256 =>
  (tk_ok h 4 x1).bind fun _ =>
  (tk_bd (kc + 0) (ks + 0)).bind fun _ =>
  (fX4_feed N x1 v252 v253 v254 v255 v256 h sz).bind fun o257 =>
  (tk_sc L xs (x4 + 1)).bind fun v258 =>
  (tk_sc L xs (x4 + 2)).bind fun v259 =>
  (tk_sc L xs (x4 + 3)).bind fun v260 =>
  (tk_sc L xs (x4 + 4)).bind fun v261 =>
  (tk_sc L xs (x4 + 5)).bind fun v262 =>
  (tk_ok o257.2.1 5 x2).bind fun _ =>
  (tk_bd (kc + 0) (ks + 0)).bind fun _ =>
  (fX5_feed N x2 v258 v259 v260 v261 v262 o257.2.1 o257.2.2).bind fun o263 =>
  if o257.1 = o263.1 then (
  fL_law_1856 N mf L xs (fL_law_23 N mf L xs n) x1 x2 x3 x4 o263.2.1 o263.2.2 kc ks) else (
  none)) else if (v42 &&& 31) = 22 then (
  (tk_sc L xs (x4 + 1)).bind fun v266 =>
  (tk_sc L xs (x4 + 2)).bind fun v267 =>
  (tk_bd (kc + 1) (ks + 6)).bind fun _ =>
  (fL_correct N x1 v266 v267 x3 h sz).bind fun o268 =>
  (tk_sc L xs (x4 + 1)).bind fun v269 =>
  (tk_sc L xs (x4 + 2)).bind fun v270 =>
  (tk_ok o268.2.1 5 x2).bind fun _ =>
  (tk_bd (kc + 1 + 0) (ks + 6 + 0)).bind fun _ =>
  (fX5_correct N x2 v269 v270 o268.2.1 o268.2.2).bind fun o271 =>
  (tk_ok o271.2.1 5 x2).bind fun _ =>
  (tk_bd (kc + 1 + 0) (ks + 6 + 0)).bind fun _ =>
  (fX5_thrown N x2 o271.2.1 o271.2.2).bind fun o272 =>
  if o272.1 = o268.1 then (
  if o268.1 = 0 then (
  (tk_aJ o272.2.1 2 x3 0).bind fun v275 =>
  if (lg_cmp v275 o271.1.toInt64) = 0 then (
  fL_law_1685 N mf L xs (fL_law_23 N mf L xs n) x1 x2 x3 x4 o272.2.1 o272.2.2 (kc + 1) (ks + 6)) else (
  none)) else (
  fL_law_1685 N mf L xs (fL_law_23 N mf L xs n) x1 x2 x3 x4 o272.2.1 o272.2.2 (kc + 1) (ks + 6))) else (
  none)) else if (v42 &&& 31) = 23 then (
  (tk_sc L xs (x4 + 1)).bind fun v278 =>
  (tk_bd (kc + 1) (ks + 6)).bind fun _ =>
  (fL_mark N x1 v278 x3 h sz).bind fun o279 =>
  (tk_sc L xs (x4 + 1)).bind fun v280 =>
  (tk_ok o279.2.1 5 x2).bind fun _ =>
  (tk_bd (kc + 1 + 0) (ks + 6 + 0)).bind fun _ =>
  (fX5_mark N x2 v280 o279.2.1 o279.2.2).bind fun o281 =>
  (tk_ok o281.2.1 5 x2).bind fun _ =>
  (tk_bd (kc + 1 + 0) (ks + 6 + 0)).bind fun _ =>
  (fX5_thrown N x2 o281.2.1 o281.2.2).bind fun o282 =>
  if o282.1 = o279.1 then (
  if o279.1 = 0 then (
  (tk_aJ o282.2.1 2 x3 0).bind fun v285 =>
  if (lg_cmp v285 o281.1.toInt64) = 0 then (
  fL_law_1741 N mf L xs (fL_law_23 N mf L xs n) x1 x2 x3 x4 o282.2.1 o282.2.2 (kc + 1) (ks + 6)) else (
  none)) else (
  fL_law_1741 N mf L xs (fL_law_23 N mf L xs n) x1 x2 x3 x4 o282.2.1 o282.2.2 (kc + 1) (ks + 6))) else (
  none)) else if (v42 &&& 31) = 24 then (
  (tk_sc L xs (x4 + 1)).bind fun v288 =>
  (tk_bd (kc + 1) (ks + 6)).bind fun _ =>
  (fL_marks N x1 v288 x3 h sz).bind fun o289 =>
  (tk_sc L xs (x4 + 1)).bind fun v290 =>
  (tk_ok o289.2.1 5 x2).bind fun _ =>
  (tk_bd (kc + 1 + 0) (ks + 6 + 0)).bind fun _ =>
  (fX5_marks N x2 v290 o289.2.1 o289.2.2).bind fun o291 =>
  (tk_ok o291.2.1 5 x2).bind fun _ =>
  (tk_bd (kc + 1 + 0) (ks + 6 + 0)).bind fun _ =>
  (fX5_thrown N x2 o291.2.1 o291.2.2).bind fun o292 =>
  if o292.1 = o289.1 then (
  if o289.1 = 0 then (
  (tk_aJ o292.2.1 2 x3 0).bind fun v295 =>
  if (lg_cmp v295 o291.1.toInt64) = 0 then (
  fL_law_1797 N mf L xs (fL_law_23 N mf L xs n) x1 x2 x3 x4 o292.2.1 o292.2.2 (kc + 1) (ks + 6)) else (
  none)) else (
  fL_law_1797 N mf L xs (fL_law_23 N mf L xs n) x1 x2 x3 x4 o292.2.1 o292.2.2 (kc + 1) (ks + 6))) else (
  none)) else if (v42 &&& 31) = 25 then (
  (tk_sc L xs (x4 + 1)).bind fun v298 =>
  (tk_bd (kc + 1) (ks + 6)).bind fun _ =>
  (fL_count N x1 v298 x3 h sz).bind fun o299 =>
  (tk_sc L xs (x4 + 1)).bind fun v300 =>
  (tk_ok o299.2.1 5 x2).bind fun _ =>
  (tk_bd (kc + 1 + 0) (ks + 6 + 0)).bind fun _ =>
  (fX5_count N x2 v300 o299.2.1 o299.2.2).bind fun o301 =>
  (tk_ok o301.2.1 5 x2).bind fun _ =>
  (tk_bd (kc + 1 + 0) (ks + 6 + 0)).bind fun _ =>
  (fX5_thrown N x2 o301.2.1 o301.2.2).bind fun o302 =>
  if o302.1 = o299.1 then (
  if o299.1 = 0 then (
  (tk_aJ o302.2.1 2 x3 0).bind fun v305 =>
  if (lg_cmp v305 o301.1.toInt64) = 0 then (
  fL_law_1853 N mf L xs (fL_law_23 N mf L xs n) x1 x2 x3 x4 o302.2.1 o302.2.2 (kc + 1) (ks + 6)) else (
  none)) else (
  fL_law_1853 N mf L xs (fL_law_23 N mf L xs n) x1 x2 x3 x4 o302.2.1 o302.2.2 (kc + 1) (ks + 6))) else (
  none)) else (
  fL_law_1856 N mf L xs (fL_law_23 N mf L xs n) x1 x2 x3 x4 h sz kc ks))
def fL_law (N : Nat) (mf : tk_AH → Nat) (L : Nat) (xs : Nat → Int32) (h : tk_AH) (sz : Nat) : Option Unit :=
  (tk_bd (1 + 18) (10 + 3981)).bind fun _ =>
  (fX4_init N sz (tk_nO h sz 4 [.null, .null, .null, .null, .null, .int 0, .int 0, .int 0, .int 0, .int 0]) (sz + 1)).bind fun o307 =>
  (tk_bd (20 + 26) (4026 + 40561)).bind fun _ =>
  (fX5_init N o307.2 (tk_nO o307.1 o307.2 5 [.int 0, .int 0, .int 0, .int 0, .int 0, .null, .null, .null, .null, .null, .null, .null, .null, .null, .null, .int 0, .null, .null, .null, .null, .null, .null, .null, .int 0, .int 0, .null, .null, .int 0, .null, .null, .null, .null, .null, .null, .null]) (o307.2 + 1)).bind fun o308 =>
  fL_law_23 N mf L xs N sz o307.2 o308.2 0 (tk_nJ o308.1 o308.2 1) (o308.2 + 1) 47 44588
set_option maxHeartbeats 16000000 in
set_option maxRecDepth 100000 in
theorem tL_1856 {p : Program} {l : Launch} {e : Env} {s : State} {m : MethodId} {below : List Frame} {meth : Method} {c : Code} {G : tk_AG} {N : Nat} {mf : tk_AH → Nat} {b L : Nat} {xs : Nat → Int32} (K : tk_lc p l s m meth c G b L xs) : ∀ (k23 : Nat → Nat → Nat → Int32 → tk_AH → Nat → Nat → Nat → Option (Unit)), (∀ (x1 : Nat) (x2 : Nat) (x3 : Nat) (x4 : Int32) (h : tk_AH) (sz kc ks : Nat) (H : Heap) (locs : List Loc) (ls : Array Slot), k23 x1 x2 x3 x4 h sz kc ks = some () → tk_sw G s h sz H locs → lv_has ls 7 [(0, .ref b), (1, .ref x1), (2, .ref x2), (3, .ref x3), (4, .int x4)] → W p l e room_1 s m #[Value.ref b] below meth c H locs kc ks (lw_Z below #[Value.ref b] s) (F0 m 23 ls [])) → ∀ (x1 : Nat) (x2 : Nat) (x3 : Nat) (x4 : Int32) (h : tk_AH) (sz kc ks : Nat) (H : Heap) (locs : List Loc) (ls : Array Slot), fL_law_1856 N mf L xs k23 x1 x2 x3 x4 h sz kc ks = some () → tk_sw G s h sz H locs → lv_has ls 7 [(0, .ref b), (1, .ref x1), (2, .ref x2), (3, .ref x3), (4, .int x4)] → W p l e room_1 s m #[Value.ref b] below meth c H locs kc ks (lw_Z below #[Value.ref b] s) (F0 m 1856 ls []) := by
  obtain ⟨hx, hb, hr, hml, hown, ht, hX, hbl, hlocks, hE, hG, hbA, hl0⟩ := id K
  intro k23 hk23 x1 x2 x3 x4 h sz kc ks H locs ls hf hs hl
  unfold fL_law_1856 at hf
  refine lv_iinc (v := x4 + 6) (lv' := [(4, .int (x4 + 6)), (0, .ref b), (1, .ref x1), (2, .ref x2), (3, .ref x3)]) hx hb dL_law_1856 hl (k := 4) rfl rfl (by decide) rfl (fun ls hl => ?_)
  refine lv_goto (tgt := 23) hx hb dL_law_1859 (by decide) ?_
  exact hk23 x1 x2 x3 (x4 + 6) h sz kc ks _ _ _ hf hs (lv_sub hl [1, 2, 3, 4, 0] rfl)
set_option maxHeartbeats 16000000 in
set_option maxRecDepth 100000 in
theorem tL_1853 {p : Program} {l : Launch} {e : Env} {s : State} {m : MethodId} {below : List Frame} {meth : Method} {c : Code} {G : tk_AG} {N : Nat} {mf : tk_AH → Nat} {b L : Nat} {xs : Nat → Int32} (K : tk_lc p l s m meth c G b L xs) : ∀ (k23 : Nat → Nat → Nat → Int32 → tk_AH → Nat → Nat → Nat → Option (Unit)), (∀ (x1 : Nat) (x2 : Nat) (x3 : Nat) (x4 : Int32) (h : tk_AH) (sz kc ks : Nat) (H : Heap) (locs : List Loc) (ls : Array Slot), k23 x1 x2 x3 x4 h sz kc ks = some () → tk_sw G s h sz H locs → lv_has ls 7 [(0, .ref b), (1, .ref x1), (2, .ref x2), (3, .ref x3), (4, .int x4)] → W p l e room_1 s m #[Value.ref b] below meth c H locs kc ks (lw_Z below #[Value.ref b] s) (F0 m 23 ls [])) → ∀ (x1 : Nat) (x2 : Nat) (x3 : Nat) (x4 : Int32) (h : tk_AH) (sz kc ks : Nat) (H : Heap) (locs : List Loc) (ls : Array Slot), fL_law_1853 N mf L xs k23 x1 x2 x3 x4 h sz kc ks = some () → tk_sw G s h sz H locs → lv_has ls 7 [(0, .ref b), (1, .ref x1), (2, .ref x2), (3, .ref x3), (4, .int x4)] → W p l e room_1 s m #[Value.ref b] below meth c H locs kc ks (lw_Z below #[Value.ref b] s) (F0 m 1853 ls []) := by
  obtain ⟨hx, hb, hr, hml, hown, ht, hX, hbl, hlocks, hE, hG, hbA, hl0⟩ := id K
  intro k23 hk23 x1 x2 x3 x4 h sz kc ks H locs ls hf hs hl
  unfold fL_law_1853 at hf
  refine lv_goto (tgt := 1856) hx hb dL_law_1853 (by decide) ?_
  exact tL_1856 K k23 hk23 x1 x2 x3 x4 h sz kc ks _ _ _ hf hs (lv_sub hl [0, 1, 2, 3, 4] rfl)
set_option maxHeartbeats 16000000 in
set_option maxRecDepth 100000 in
theorem tL_1797 {p : Program} {l : Launch} {e : Env} {s : State} {m : MethodId} {below : List Frame} {meth : Method} {c : Code} {G : tk_AG} {N : Nat} {mf : tk_AH → Nat} {b L : Nat} {xs : Nat → Int32} (K : tk_lc p l s m meth c G b L xs) : ∀ (k23 : Nat → Nat → Nat → Int32 → tk_AH → Nat → Nat → Nat → Option (Unit)), (∀ (x1 : Nat) (x2 : Nat) (x3 : Nat) (x4 : Int32) (h : tk_AH) (sz kc ks : Nat) (H : Heap) (locs : List Loc) (ls : Array Slot), k23 x1 x2 x3 x4 h sz kc ks = some () → tk_sw G s h sz H locs → lv_has ls 7 [(0, .ref b), (1, .ref x1), (2, .ref x2), (3, .ref x3), (4, .int x4)] → W p l e room_1 s m #[Value.ref b] below meth c H locs kc ks (lw_Z below #[Value.ref b] s) (F0 m 23 ls [])) → ∀ (x1 : Nat) (x2 : Nat) (x3 : Nat) (x4 : Int32) (h : tk_AH) (sz kc ks : Nat) (H : Heap) (locs : List Loc) (ls : Array Slot), fL_law_1797 N mf L xs k23 x1 x2 x3 x4 h sz kc ks = some () → tk_sw G s h sz H locs → lv_has ls 7 [(0, .ref b), (1, .ref x1), (2, .ref x2), (3, .ref x3), (4, .int x4)] → W p l e room_1 s m #[Value.ref b] below meth c H locs kc ks (lw_Z below #[Value.ref b] s) (F0 m 1797 ls []) := by
  obtain ⟨hx, hb, hr, hml, hown, ht, hX, hbl, hlocks, hE, hG, hbA, hl0⟩ := id K
  intro k23 hk23 x1 x2 x3 x4 h sz kc ks H locs ls hf hs hl
  unfold fL_law_1797 at hf
  refine lv_goto (tgt := 1856) hx hb dL_law_1797 (by decide) ?_
  exact tL_1856 K k23 hk23 x1 x2 x3 x4 h sz kc ks _ _ _ hf hs (lv_sub hl [0, 1, 2, 3, 4] rfl)
set_option maxHeartbeats 16000000 in
set_option maxRecDepth 100000 in
theorem tL_1741 {p : Program} {l : Launch} {e : Env} {s : State} {m : MethodId} {below : List Frame} {meth : Method} {c : Code} {G : tk_AG} {N : Nat} {mf : tk_AH → Nat} {b L : Nat} {xs : Nat → Int32} (K : tk_lc p l s m meth c G b L xs) : ∀ (k23 : Nat → Nat → Nat → Int32 → tk_AH → Nat → Nat → Nat → Option (Unit)), (∀ (x1 : Nat) (x2 : Nat) (x3 : Nat) (x4 : Int32) (h : tk_AH) (sz kc ks : Nat) (H : Heap) (locs : List Loc) (ls : Array Slot), k23 x1 x2 x3 x4 h sz kc ks = some () → tk_sw G s h sz H locs → lv_has ls 7 [(0, .ref b), (1, .ref x1), (2, .ref x2), (3, .ref x3), (4, .int x4)] → W p l e room_1 s m #[Value.ref b] below meth c H locs kc ks (lw_Z below #[Value.ref b] s) (F0 m 23 ls [])) → ∀ (x1 : Nat) (x2 : Nat) (x3 : Nat) (x4 : Int32) (h : tk_AH) (sz kc ks : Nat) (H : Heap) (locs : List Loc) (ls : Array Slot), fL_law_1741 N mf L xs k23 x1 x2 x3 x4 h sz kc ks = some () → tk_sw G s h sz H locs → lv_has ls 7 [(0, .ref b), (1, .ref x1), (2, .ref x2), (3, .ref x3), (4, .int x4)] → W p l e room_1 s m #[Value.ref b] below meth c H locs kc ks (lw_Z below #[Value.ref b] s) (F0 m 1741 ls []) := by
  obtain ⟨hx, hb, hr, hml, hown, ht, hX, hbl, hlocks, hE, hG, hbA, hl0⟩ := id K
  intro k23 hk23 x1 x2 x3 x4 h sz kc ks H locs ls hf hs hl
  unfold fL_law_1741 at hf
  refine lv_goto (tgt := 1856) hx hb dL_law_1741 (by decide) ?_
  exact tL_1856 K k23 hk23 x1 x2 x3 x4 h sz kc ks _ _ _ hf hs (lv_sub hl [0, 1, 2, 3, 4] rfl)
set_option maxHeartbeats 16000000 in
set_option maxRecDepth 100000 in
theorem tL_1685 {p : Program} {l : Launch} {e : Env} {s : State} {m : MethodId} {below : List Frame} {meth : Method} {c : Code} {G : tk_AG} {N : Nat} {mf : tk_AH → Nat} {b L : Nat} {xs : Nat → Int32} (K : tk_lc p l s m meth c G b L xs) : ∀ (k23 : Nat → Nat → Nat → Int32 → tk_AH → Nat → Nat → Nat → Option (Unit)), (∀ (x1 : Nat) (x2 : Nat) (x3 : Nat) (x4 : Int32) (h : tk_AH) (sz kc ks : Nat) (H : Heap) (locs : List Loc) (ls : Array Slot), k23 x1 x2 x3 x4 h sz kc ks = some () → tk_sw G s h sz H locs → lv_has ls 7 [(0, .ref b), (1, .ref x1), (2, .ref x2), (3, .ref x3), (4, .int x4)] → W p l e room_1 s m #[Value.ref b] below meth c H locs kc ks (lw_Z below #[Value.ref b] s) (F0 m 23 ls [])) → ∀ (x1 : Nat) (x2 : Nat) (x3 : Nat) (x4 : Int32) (h : tk_AH) (sz kc ks : Nat) (H : Heap) (locs : List Loc) (ls : Array Slot), fL_law_1685 N mf L xs k23 x1 x2 x3 x4 h sz kc ks = some () → tk_sw G s h sz H locs → lv_has ls 7 [(0, .ref b), (1, .ref x1), (2, .ref x2), (3, .ref x3), (4, .int x4)] → W p l e room_1 s m #[Value.ref b] below meth c H locs kc ks (lw_Z below #[Value.ref b] s) (F0 m 1685 ls []) := by
  obtain ⟨hx, hb, hr, hml, hown, ht, hX, hbl, hlocks, hE, hG, hbA, hl0⟩ := id K
  intro k23 hk23 x1 x2 x3 x4 h sz kc ks H locs ls hf hs hl
  unfold fL_law_1685 at hf
  refine lv_goto (tgt := 1856) hx hb dL_law_1685 (by decide) ?_
  exact tL_1856 K k23 hk23 x1 x2 x3 x4 h sz kc ks _ _ _ hf hs (lv_sub hl [0, 1, 2, 3, 4] rfl)
set_option maxHeartbeats 16000000 in
set_option maxRecDepth 100000 in
theorem tL_1544 {p : Program} {l : Launch} {e : Env} {s : State} {m : MethodId} {below : List Frame} {meth : Method} {c : Code} {G : tk_AG} {N : Nat} {mf : tk_AH → Nat} {b L : Nat} {xs : Nat → Int32} (K : tk_lc p l s m meth c G b L xs) : ∀ (k23 : Nat → Nat → Nat → Int32 → tk_AH → Nat → Nat → Nat → Option (Unit)), (∀ (x1 : Nat) (x2 : Nat) (x3 : Nat) (x4 : Int32) (h : tk_AH) (sz kc ks : Nat) (H : Heap) (locs : List Loc) (ls : Array Slot), k23 x1 x2 x3 x4 h sz kc ks = some () → tk_sw G s h sz H locs → lv_has ls 7 [(0, .ref b), (1, .ref x1), (2, .ref x2), (3, .ref x3), (4, .int x4)] → W p l e room_1 s m #[Value.ref b] below meth c H locs kc ks (lw_Z below #[Value.ref b] s) (F0 m 23 ls [])) → ∀ (x1 : Nat) (x2 : Nat) (x3 : Nat) (x4 : Int32) (h : tk_AH) (sz kc ks : Nat) (H : Heap) (locs : List Loc) (ls : Array Slot), fL_law_1544 N mf L xs k23 x1 x2 x3 x4 h sz kc ks = some () → tk_sw G s h sz H locs → lv_has ls 7 [(0, .ref b), (1, .ref x1), (2, .ref x2), (3, .ref x3), (4, .int x4)] → W p l e room_1 s m #[Value.ref b] below meth c H locs kc ks (lw_Z below #[Value.ref b] s) (F0 m 1544 ls []) := by
  obtain ⟨hx, hb, hr, hml, hown, ht, hX, hbl, hlocks, hE, hG, hbA, hl0⟩ := id K
  intro k23 hk23 x1 x2 x3 x4 h sz kc ks H locs ls hf hs hl
  unfold fL_law_1544 at hf
  refine lv_goto (tgt := 1856) hx hb dL_law_1544 (by decide) ?_
  exact tL_1856 K k23 hk23 x1 x2 x3 x4 h sz kc ks _ _ _ hf hs (lv_sub hl [0, 1, 2, 3, 4] rfl)
set_option maxHeartbeats 16000000 in
set_option maxRecDepth 100000 in
theorem tL_1488 {p : Program} {l : Launch} {e : Env} {s : State} {m : MethodId} {below : List Frame} {meth : Method} {c : Code} {G : tk_AG} {N : Nat} {mf : tk_AH → Nat} {b L : Nat} {xs : Nat → Int32} (K : tk_lc p l s m meth c G b L xs) : ∀ (k23 : Nat → Nat → Nat → Int32 → tk_AH → Nat → Nat → Nat → Option (Unit)), (∀ (x1 : Nat) (x2 : Nat) (x3 : Nat) (x4 : Int32) (h : tk_AH) (sz kc ks : Nat) (H : Heap) (locs : List Loc) (ls : Array Slot), k23 x1 x2 x3 x4 h sz kc ks = some () → tk_sw G s h sz H locs → lv_has ls 7 [(0, .ref b), (1, .ref x1), (2, .ref x2), (3, .ref x3), (4, .int x4)] → W p l e room_1 s m #[Value.ref b] below meth c H locs kc ks (lw_Z below #[Value.ref b] s) (F0 m 23 ls [])) → ∀ (x1 : Nat) (x2 : Nat) (x3 : Nat) (x4 : Int32) (h : tk_AH) (sz kc ks : Nat) (H : Heap) (locs : List Loc) (ls : Array Slot), fL_law_1488 N mf L xs k23 x1 x2 x3 x4 h sz kc ks = some () → tk_sw G s h sz H locs → lv_has ls 7 [(0, .ref b), (1, .ref x1), (2, .ref x2), (3, .ref x3), (4, .int x4)] → W p l e room_1 s m #[Value.ref b] below meth c H locs kc ks (lw_Z below #[Value.ref b] s) (F0 m 1488 ls []) := by
  obtain ⟨hx, hb, hr, hml, hown, ht, hX, hbl, hlocks, hE, hG, hbA, hl0⟩ := id K
  intro k23 hk23 x1 x2 x3 x4 h sz kc ks H locs ls hf hs hl
  unfold fL_law_1488 at hf
  refine lv_goto (tgt := 1856) hx hb dL_law_1488 (by decide) ?_
  exact tL_1856 K k23 hk23 x1 x2 x3 x4 h sz kc ks _ _ _ hf hs (lv_sub hl [0, 1, 2, 3, 4] rfl)
set_option maxHeartbeats 16000000 in
set_option maxRecDepth 100000 in
theorem tL_1408 {p : Program} {l : Launch} {e : Env} {s : State} {m : MethodId} {below : List Frame} {meth : Method} {c : Code} {G : tk_AG} {N : Nat} {mf : tk_AH → Nat} {b L : Nat} {xs : Nat → Int32} (K : tk_lc p l s m meth c G b L xs) : ∀ (k23 : Nat → Nat → Nat → Int32 → tk_AH → Nat → Nat → Nat → Option (Unit)), (∀ (x1 : Nat) (x2 : Nat) (x3 : Nat) (x4 : Int32) (h : tk_AH) (sz kc ks : Nat) (H : Heap) (locs : List Loc) (ls : Array Slot), k23 x1 x2 x3 x4 h sz kc ks = some () → tk_sw G s h sz H locs → lv_has ls 7 [(0, .ref b), (1, .ref x1), (2, .ref x2), (3, .ref x3), (4, .int x4)] → W p l e room_1 s m #[Value.ref b] below meth c H locs kc ks (lw_Z below #[Value.ref b] s) (F0 m 23 ls [])) → ∀ (x1 : Nat) (x2 : Nat) (x3 : Nat) (x4 : Int32) (h : tk_AH) (sz kc ks : Nat) (H : Heap) (locs : List Loc) (ls : Array Slot), fL_law_1408 N mf L xs k23 x1 x2 x3 x4 h sz kc ks = some () → tk_sw G s h sz H locs → lv_has ls 7 [(0, .ref b), (1, .ref x1), (2, .ref x2), (3, .ref x3), (4, .int x4)] → W p l e room_1 s m #[Value.ref b] below meth c H locs kc ks (lw_Z below #[Value.ref b] s) (F0 m 1408 ls []) := by
  obtain ⟨hx, hb, hr, hml, hown, ht, hX, hbl, hlocks, hE, hG, hbA, hl0⟩ := id K
  intro k23 hk23 x1 x2 x3 x4 h sz kc ks H locs ls hf hs hl
  unfold fL_law_1408 at hf
  refine lv_goto (tgt := 1856) hx hb dL_law_1408 (by decide) ?_
  exact tL_1856 K k23 hk23 x1 x2 x3 x4 h sz kc ks _ _ _ hf hs (lv_sub hl [0, 1, 2, 3, 4] rfl)
set_option maxHeartbeats 16000000 in
set_option maxRecDepth 100000 in
theorem tL_1402 {p : Program} {l : Launch} {e : Env} {s : State} {m : MethodId} {below : List Frame} {meth : Method} {c : Code} {G : tk_AG} {N : Nat} {mf : tk_AH → Nat} {b L : Nat} {xs : Nat → Int32} (K : tk_lc p l s m meth c G b L xs) : ∀ (k23 : Nat → Nat → Nat → Int32 → tk_AH → Nat → Nat → Nat → Option (Unit)), (∀ (x1 : Nat) (x2 : Nat) (x3 : Nat) (x4 : Int32) (h : tk_AH) (sz kc ks : Nat) (H : Heap) (locs : List Loc) (ls : Array Slot), k23 x1 x2 x3 x4 h sz kc ks = some () → tk_sw G s h sz H locs → lv_has ls 7 [(0, .ref b), (1, .ref x1), (2, .ref x2), (3, .ref x3), (4, .int x4)] → W p l e room_1 s m #[Value.ref b] below meth c H locs kc ks (lw_Z below #[Value.ref b] s) (F0 m 23 ls [])) → ∀ (x1 : Nat) (x2 : Nat) (x3 : Nat) (x4 : Int32) (y0 : Int64) (y1 : Int64) (h : tk_AH) (sz kc ks : Nat) (H : Heap) (locs : List Loc) (ls : Array Slot), fL_law_1402 N mf L xs k23 x1 x2 x3 x4 y0 y1 h sz kc ks = some () → tk_sw G s h sz H locs → lv_has ls 7 [(0, .ref b), (1, .ref x1), (2, .ref x2), (3, .ref x3), (4, .int x4)] → W p l e room_1 s m #[Value.ref b] below meth c H locs kc ks (lw_Z below #[Value.ref b] s) (F0 m 1402 ls [.long y0, .long y1]) := by
  obtain ⟨hx, hb, hr, hml, hown, ht, hX, hbl, hlocks, hE, hG, hbA, hl0⟩ := id K
  intro k23 hk23 x1 x2 x3 x4 y0 y1 h sz kc ks H locs ls hf hs hl
  unfold fL_law_1402 at hf
  refine W.lcmp hx hb dL_law_1402 ?_
  refine lv_if_eq (tgt := 1408) hx hb dL_law_1403 (by decide) (fun c1 => ?_) (fun c1 => ?_)
  · rw [if_pos c1] at hf
    exact tL_1408 K k23 hk23 x1 x2 x3 x4 h sz kc ks _ _ _ hf hs (lv_sub hl [0, 1, 2, 3, 4] rfl)
  · rw [if_neg c1] at hf
    refine lv_iconst (v := 0) hx hb dL_law_1406 (by decide) ?_
    cases hf
set_option maxHeartbeats 16000000 in
set_option maxRecDepth 100000 in
theorem tL_1368 {p : Program} {l : Launch} {e : Env} {s : State} {m : MethodId} {below : List Frame} {meth : Method} {c : Code} {G : tk_AG} {N : Nat} {mf : tk_AH → Nat} {b L : Nat} {xs : Nat → Int32} (K : tk_lc p l s m meth c G b L xs) : ∀ (k23 : Nat → Nat → Nat → Int32 → tk_AH → Nat → Nat → Nat → Option (Unit)), (∀ (x1 : Nat) (x2 : Nat) (x3 : Nat) (x4 : Int32) (h : tk_AH) (sz kc ks : Nat) (H : Heap) (locs : List Loc) (ls : Array Slot), k23 x1 x2 x3 x4 h sz kc ks = some () → tk_sw G s h sz H locs → lv_has ls 7 [(0, .ref b), (1, .ref x1), (2, .ref x2), (3, .ref x3), (4, .int x4)] → W p l e room_1 s m #[Value.ref b] below meth c H locs kc ks (lw_Z below #[Value.ref b] s) (F0 m 23 ls [])) → ∀ (x1 : Nat) (x2 : Nat) (x3 : Nat) (x4 : Int32) (x5 : Int32) (y0 : Int32) (y1 : Int32) (y2 : Int32) (y3 : Nat) (h : tk_AH) (sz kc ks : Nat) (H : Heap) (locs : List Loc) (ls : Array Slot), fL_law_1368 N mf L xs k23 x1 x2 x3 x4 x5 y0 y1 y2 y3 h sz kc ks = some () → tk_sw G s h sz H locs → lv_has ls 7 [(0, .ref b), (1, .ref x1), (2, .ref x2), (3, .ref x3), (4, .int x4), (5, .int x5)] → W p l e room_1 s m #[Value.ref b] below meth c H locs kc ks (lw_Z below #[Value.ref b] s) (F0 m 1368 ls [.int y0, .int y1, .int y2, .ref y3]) := by
  obtain ⟨hx, hb, hr, hml, hown, ht, hX, hbl, hlocks, hE, hG, hbA, hl0⟩ := id K
  intro k23 hk23 x1 x2 x3 x4 x5 y0 y1 y2 y3 h sz kc ks H locs ls hf hs hl
  unfold fL_law_1368 at hf
  obtain ⟨_, p2, hf⟩ := tk_bi hf
  obtain ⟨_, b2, hf⟩ := tk_bi hf
  have b2 := tk_bd_ok b2
  obtain ⟨o2, e2, hf⟩ := tk_bi hf
  refine tk_call0 (v := some (.int o2.1)) hs (va_runV (As := [.int y2, .int y1, .int y0]) (rest := []) ⟨hx, hb, hml, hown, ht⟩ (cX5_asked_ok l hl0 G N y3 y2 y1 y0 h sz o2.1 o2.2.1 o2.2.2 e2) (kwX5_asked ht wmL_161 rfl rfl ⟨Nat.le_of_ble_eq_true rfl, Nat.le_of_ble_eq_true rfl⟩) (tk_preV hE hs (tk_ok_ok p2) rfl) rfl rfl hl.1 rfl (lv_room (Nat.le_of_ble_eq_true rfl)) dL_law_1368 ⟨b2.1, b2.2⟩) (fun H locs hs => ?_)
  refine W.eq (g2 := F0 m 1371 ls [.int o2.1]) rfl ?_
  refine lv_istore (lv' := [(6, .int o2.1), (0, .ref b), (1, .ref x1), (2, .ref x2), (3, .ref x3), (4, .int x4), (5, .int x5)]) hx hb dL_law_1371 hl (by decide) rfl (fun ls hl => ?_)
  refine lv_aload_n hx hb dL_law_1373 rfl (lv_at hl 3 rfl) ?_
  obtain ⟨_, p3, hf⟩ := tk_bi hf
  obtain ⟨_, b3, hf⟩ := tk_bi hf
  have b3 := tk_bd_ok b3
  obtain ⟨o3, e3, hf⟩ := tk_bi hf
  refine tk_call0 (v := some (.int o3.1)) hs (va_runV (As := []) (rest := []) ⟨hx, hb, hml, hown, ht⟩ (cX5_thrown_ok l hl0 G N x2 o2.2.1 o2.2.2 o3.1 o3.2.1 o3.2.2 e3) (kwX5_thrown ht wmL_100 rfl rfl ⟨Nat.le_of_ble_eq_true rfl, Nat.le_of_ble_eq_true rfl⟩) (tk_preV hE hs (tk_ok_ok p3) rfl) rfl rfl hl.1 rfl (lv_room (Nat.le_of_ble_eq_true rfl)) dL_law_1374 ⟨b3.1, b3.2⟩) (fun H locs hs => ?_)
  refine W.eq (g2 := F0 m 1377 ls [.int o3.1]) rfl ?_
  refine lv_iload hx hb dL_law_1377 (lv_at hl 6 rfl) ?_
  refine lv_icmp_eq (tgt := 1384) hx hb dL_law_1379 (by decide) (fun c4 => ?_) (fun c4 => ?_)
  · rw [if_pos c4] at hf
    refine lv_iload hx hb dL_law_1384 (lv_at hl 6 rfl) ?_
    refine lv_if_ne (tgt := 1408) hx hb dL_law_1386 (by decide) (fun c5 => ?_) (fun c5 => ?_)
    · rw [if_neg c5] at hf
      exact tL_1408 K k23 hk23 x1 x2 x3 x4 o3.2.1 o3.2.2 kc ks _ _ _ hf hs (lv_sub hl [1, 2, 3, 4, 5] rfl)
    · rw [if_pos c5] at hf
      refine lv_aload_n hx hb dL_law_1389 rfl (lv_at hl 4 rfl) ?_
      refine lv_iconst (v := 0) hx hb dL_law_1390 (by decide) ?_
      obtain ⟨v6, e6, hf⟩ := tk_bi hf
      refine tk_lald hx hb hE hs e6 dL_law_1391 ?_
      refine lv_iload hx hb dL_law_1392 (lv_at hl 0 rfl) ?_
      refine lv_if_eq (tgt := 1401) hx hb dL_law_1394 (by decide) (fun c7 => ?_) (fun c7 => ?_)
      · rw [if_pos c7] at hf
        refine lv_lconst (v := 0) hx hb dL_law_1401 (by decide) ?_
        exact tL_1402 K k23 hk23 x1 x2 x3 x4 0 v6 o3.2.1 o3.2.2 kc ks _ _ _ hf hs (lv_sub hl [1, 2, 3, 4, 5] rfl)
      · rw [if_neg c7] at hf
        refine lv_lconst (v := 1) hx hb dL_law_1397 (by decide) ?_
        refine lv_goto (tgt := 1402) hx hb dL_law_1398 (by decide) ?_
        exact tL_1402 K k23 hk23 x1 x2 x3 x4 1 v6 o3.2.1 o3.2.2 kc ks _ _ _ hf hs (lv_sub hl [1, 2, 3, 4, 5] rfl)
  · rw [if_neg c4] at hf
    refine lv_iconst (v := 0) hx hb dL_law_1382 (by decide) ?_
    cases hf
set_option maxHeartbeats 16000000 in
set_option maxRecDepth 100000 in
theorem tL_1335 {p : Program} {l : Launch} {e : Env} {s : State} {m : MethodId} {below : List Frame} {meth : Method} {c : Code} {G : tk_AG} {N : Nat} {mf : tk_AH → Nat} {b L : Nat} {xs : Nat → Int32} (K : tk_lc p l s m meth c G b L xs) : ∀ (k23 : Nat → Nat → Nat → Int32 → tk_AH → Nat → Nat → Nat → Option (Unit)), (∀ (x1 : Nat) (x2 : Nat) (x3 : Nat) (x4 : Int32) (h : tk_AH) (sz kc ks : Nat) (H : Heap) (locs : List Loc) (ls : Array Slot), k23 x1 x2 x3 x4 h sz kc ks = some () → tk_sw G s h sz H locs → lv_has ls 7 [(0, .ref b), (1, .ref x1), (2, .ref x2), (3, .ref x3), (4, .int x4)] → W p l e room_1 s m #[Value.ref b] below meth c H locs kc ks (lw_Z below #[Value.ref b] s) (F0 m 23 ls [])) → ∀ (x1 : Nat) (x2 : Nat) (x3 : Nat) (x4 : Int32) (y0 : Int32) (y1 : Int32) (y2 : Int32) (y3 : Nat) (h : tk_AH) (sz kc ks : Nat) (H : Heap) (locs : List Loc) (ls : Array Slot), fL_law_1335 N mf L xs k23 x1 x2 x3 x4 y0 y1 y2 y3 h sz kc ks = some () → tk_sw G s h sz H locs → lv_has ls 7 [(0, .ref b), (1, .ref x1), (2, .ref x2), (3, .ref x3), (4, .int x4)] → W p l e room_1 s m #[Value.ref b] below meth c H locs kc ks (lw_Z below #[Value.ref b] s) (F0 m 1335 ls [.int y0, .int y1, .int y2, .ref y3]) := by
  obtain ⟨hx, hb, hr, hml, hown, ht, hX, hbl, hlocks, hE, hG, hbA, hl0⟩ := id K
  intro k23 hk23 x1 x2 x3 x4 y0 y1 y2 y3 h sz kc ks H locs ls hf hs hl
  unfold fL_law_1335 at hf
  refine lv_aload_n hx hb dL_law_1335 rfl (lv_at hl 3 rfl) ?_
  obtain ⟨_, b8, hf⟩ := tk_bi hf
  have b8 := tk_bd_ok b8
  obtain ⟨o8, e8, hf⟩ := tk_bi hf
  refine tk_call (v := some (.int o8.1)) hs (vx_runSW (As := [.ref y3, .int y2, .int y1, .int y0, .ref x3]) (rest := []) ⟨hx, hb, hml, hown, ht⟩ (cL_asked_ok l hl0 G N y3 y2 y1 y0 x3 h sz o8.1 o8.2.1 o8.2.2 e8) (kwL_asked ht wmL_159 rfl rfl ⟨Nat.le_of_ble_eq_true rfl, Nat.le_of_ble_eq_true rfl⟩) (tk_preS hE hs) rfl rfl hl.1 rfl (lv_room (Nat.le_of_ble_eq_true rfl)) dL_law_1336 ⟨b8.1, b8.2⟩) (fun H locs hs => ?_)
  refine W.eq (g2 := F0 m 1339 ls [.int o8.1]) rfl ?_
  refine W.widen (k := kc + 1) (n := ks + 6) (Nat.le_refl _) (Nat.le_refl _) ?_
  refine lv_istore (lv' := [(5, .int o8.1), (0, .ref b), (1, .ref x1), (2, .ref x2), (3, .ref x3), (4, .int x4)]) hx hb dL_law_1339 hl (by decide) rfl (fun ls hl => ?_)
  refine lv_aload_n hx hb dL_law_1341 rfl (lv_at hl 3 rfl) ?_
  refine lv_aload_n hx hb dL_law_1342 rfl (lv_at hl 1 rfl) ?_
  refine lv_iload hx hb dL_law_1343 (lv_at hl 5 rfl) ?_
  refine lv_iconst (v := 1) hx hb dL_law_1345 (by decide) ?_
  refine lv_iadd hx hb dL_law_1346 ?_
  obtain ⟨v9, e9, hf⟩ := tk_bi hf
  refine tk_sld hx hb hX hbl hbA hs e9 dL_law_1347 ?_
  refine lv_aload_n hx hb dL_law_1348 rfl (lv_at hl 1 rfl) ?_
  refine lv_iload hx hb dL_law_1349 (lv_at hl 5 rfl) ?_
  refine lv_iconst (v := 2) hx hb dL_law_1351 (by decide) ?_
  refine lv_iadd hx hb dL_law_1352 ?_
  obtain ⟨v10, e10, hf⟩ := tk_bi hf
  refine tk_sld hx hb hX hbl hbA hs e10 dL_law_1353 ?_
  refine lv_aload_n hx hb dL_law_1354 rfl (lv_at hl 1 rfl) ?_
  refine lv_iload hx hb dL_law_1355 (lv_at hl 5 rfl) ?_
  refine lv_iconst (v := 3) hx hb dL_law_1357 (by decide) ?_
  refine lv_iadd hx hb dL_law_1358 ?_
  obtain ⟨v11, e11, hf⟩ := tk_bi hf
  refine tk_sld hx hb hX hbl hbA hs e11 dL_law_1359 ?_
  refine lv_if_eq (tgt := 1367) hx hb dL_law_1360 (by decide) (fun c12 => ?_) (fun c12 => ?_)
  · rw [if_pos c12] at hf
    refine lv_iconst (v := 0) hx hb dL_law_1367 (by decide) ?_
    exact tL_1368 K k23 hk23 x1 x2 x3 x4 o8.1 0 v10 v9 x2 o8.2.1 o8.2.2 (kc + 1) (ks + 6) _ _ _ hf hs (lv_sub hl [1, 2, 3, 4, 5, 0] rfl)
  · rw [if_neg c12] at hf
    refine lv_iconst (v := 1) hx hb dL_law_1363 (by decide) ?_
    refine lv_goto (tgt := 1368) hx hb dL_law_1364 (by decide) ?_
    exact tL_1368 K k23 hk23 x1 x2 x3 x4 o8.1 1 v10 v9 x2 o8.2.1 o8.2.2 (kc + 1) (ks + 6) _ _ _ hf hs (lv_sub hl [1, 2, 3, 4, 5, 0] rfl)
set_option maxHeartbeats 16000000 in
set_option maxRecDepth 100000 in
theorem tL_1305 {p : Program} {l : Launch} {e : Env} {s : State} {m : MethodId} {below : List Frame} {meth : Method} {c : Code} {G : tk_AG} {N : Nat} {mf : tk_AH → Nat} {b L : Nat} {xs : Nat → Int32} (K : tk_lc p l s m meth c G b L xs) : ∀ (k23 : Nat → Nat → Nat → Int32 → tk_AH → Nat → Nat → Nat → Option (Unit)), (∀ (x1 : Nat) (x2 : Nat) (x3 : Nat) (x4 : Int32) (h : tk_AH) (sz kc ks : Nat) (H : Heap) (locs : List Loc) (ls : Array Slot), k23 x1 x2 x3 x4 h sz kc ks = some () → tk_sw G s h sz H locs → lv_has ls 7 [(0, .ref b), (1, .ref x1), (2, .ref x2), (3, .ref x3), (4, .int x4)] → W p l e room_1 s m #[Value.ref b] below meth c H locs kc ks (lw_Z below #[Value.ref b] s) (F0 m 23 ls [])) → ∀ (x1 : Nat) (x2 : Nat) (x3 : Nat) (x4 : Int32) (h : tk_AH) (sz kc ks : Nat) (H : Heap) (locs : List Loc) (ls : Array Slot), fL_law_1305 N mf L xs k23 x1 x2 x3 x4 h sz kc ks = some () → tk_sw G s h sz H locs → lv_has ls 7 [(0, .ref b), (1, .ref x1), (2, .ref x2), (3, .ref x3), (4, .int x4)] → W p l e room_1 s m #[Value.ref b] below meth c H locs kc ks (lw_Z below #[Value.ref b] s) (F0 m 1305 ls []) := by
  obtain ⟨hx, hb, hr, hml, hown, ht, hX, hbl, hlocks, hE, hG, hbA, hl0⟩ := id K
  intro k23 hk23 x1 x2 x3 x4 h sz kc ks H locs ls hf hs hl
  unfold fL_law_1305 at hf
  refine lv_goto (tgt := 1856) hx hb dL_law_1305 (by decide) ?_
  exact tL_1856 K k23 hk23 x1 x2 x3 x4 h sz kc ks _ _ _ hf hs (lv_sub hl [0, 1, 2, 3, 4] rfl)
set_option maxHeartbeats 16000000 in
set_option maxRecDepth 100000 in
theorem tL_1249 {p : Program} {l : Launch} {e : Env} {s : State} {m : MethodId} {below : List Frame} {meth : Method} {c : Code} {G : tk_AG} {N : Nat} {mf : tk_AH → Nat} {b L : Nat} {xs : Nat → Int32} (K : tk_lc p l s m meth c G b L xs) : ∀ (k23 : Nat → Nat → Nat → Int32 → tk_AH → Nat → Nat → Nat → Option (Unit)), (∀ (x1 : Nat) (x2 : Nat) (x3 : Nat) (x4 : Int32) (h : tk_AH) (sz kc ks : Nat) (H : Heap) (locs : List Loc) (ls : Array Slot), k23 x1 x2 x3 x4 h sz kc ks = some () → tk_sw G s h sz H locs → lv_has ls 7 [(0, .ref b), (1, .ref x1), (2, .ref x2), (3, .ref x3), (4, .int x4)] → W p l e room_1 s m #[Value.ref b] below meth c H locs kc ks (lw_Z below #[Value.ref b] s) (F0 m 23 ls [])) → ∀ (x1 : Nat) (x2 : Nat) (x3 : Nat) (x4 : Int32) (h : tk_AH) (sz kc ks : Nat) (H : Heap) (locs : List Loc) (ls : Array Slot), fL_law_1249 N mf L xs k23 x1 x2 x3 x4 h sz kc ks = some () → tk_sw G s h sz H locs → lv_has ls 7 [(0, .ref b), (1, .ref x1), (2, .ref x2), (3, .ref x3), (4, .int x4)] → W p l e room_1 s m #[Value.ref b] below meth c H locs kc ks (lw_Z below #[Value.ref b] s) (F0 m 1249 ls []) := by
  obtain ⟨hx, hb, hr, hml, hown, ht, hX, hbl, hlocks, hE, hG, hbA, hl0⟩ := id K
  intro k23 hk23 x1 x2 x3 x4 h sz kc ks H locs ls hf hs hl
  unfold fL_law_1249 at hf
  refine lv_goto (tgt := 1856) hx hb dL_law_1249 (by decide) ?_
  exact tL_1856 K k23 hk23 x1 x2 x3 x4 h sz kc ks _ _ _ hf hs (lv_sub hl [0, 1, 2, 3, 4] rfl)
set_option maxHeartbeats 16000000 in
set_option maxRecDepth 100000 in
theorem tL_1193 {p : Program} {l : Launch} {e : Env} {s : State} {m : MethodId} {below : List Frame} {meth : Method} {c : Code} {G : tk_AG} {N : Nat} {mf : tk_AH → Nat} {b L : Nat} {xs : Nat → Int32} (K : tk_lc p l s m meth c G b L xs) : ∀ (k23 : Nat → Nat → Nat → Int32 → tk_AH → Nat → Nat → Nat → Option (Unit)), (∀ (x1 : Nat) (x2 : Nat) (x3 : Nat) (x4 : Int32) (h : tk_AH) (sz kc ks : Nat) (H : Heap) (locs : List Loc) (ls : Array Slot), k23 x1 x2 x3 x4 h sz kc ks = some () → tk_sw G s h sz H locs → lv_has ls 7 [(0, .ref b), (1, .ref x1), (2, .ref x2), (3, .ref x3), (4, .int x4)] → W p l e room_1 s m #[Value.ref b] below meth c H locs kc ks (lw_Z below #[Value.ref b] s) (F0 m 23 ls [])) → ∀ (x1 : Nat) (x2 : Nat) (x3 : Nat) (x4 : Int32) (h : tk_AH) (sz kc ks : Nat) (H : Heap) (locs : List Loc) (ls : Array Slot), fL_law_1193 N mf L xs k23 x1 x2 x3 x4 h sz kc ks = some () → tk_sw G s h sz H locs → lv_has ls 7 [(0, .ref b), (1, .ref x1), (2, .ref x2), (3, .ref x3), (4, .int x4)] → W p l e room_1 s m #[Value.ref b] below meth c H locs kc ks (lw_Z below #[Value.ref b] s) (F0 m 1193 ls []) := by
  obtain ⟨hx, hb, hr, hml, hown, ht, hX, hbl, hlocks, hE, hG, hbA, hl0⟩ := id K
  intro k23 hk23 x1 x2 x3 x4 h sz kc ks H locs ls hf hs hl
  unfold fL_law_1193 at hf
  refine lv_goto (tgt := 1856) hx hb dL_law_1193 (by decide) ?_
  exact tL_1856 K k23 hk23 x1 x2 x3 x4 h sz kc ks _ _ _ hf hs (lv_sub hl [0, 1, 2, 3, 4] rfl)
set_option maxHeartbeats 16000000 in
set_option maxRecDepth 100000 in
theorem tL_1137 {p : Program} {l : Launch} {e : Env} {s : State} {m : MethodId} {below : List Frame} {meth : Method} {c : Code} {G : tk_AG} {N : Nat} {mf : tk_AH → Nat} {b L : Nat} {xs : Nat → Int32} (K : tk_lc p l s m meth c G b L xs) : ∀ (k23 : Nat → Nat → Nat → Int32 → tk_AH → Nat → Nat → Nat → Option (Unit)), (∀ (x1 : Nat) (x2 : Nat) (x3 : Nat) (x4 : Int32) (h : tk_AH) (sz kc ks : Nat) (H : Heap) (locs : List Loc) (ls : Array Slot), k23 x1 x2 x3 x4 h sz kc ks = some () → tk_sw G s h sz H locs → lv_has ls 7 [(0, .ref b), (1, .ref x1), (2, .ref x2), (3, .ref x3), (4, .int x4)] → W p l e room_1 s m #[Value.ref b] below meth c H locs kc ks (lw_Z below #[Value.ref b] s) (F0 m 23 ls [])) → ∀ (x1 : Nat) (x2 : Nat) (x3 : Nat) (x4 : Int32) (h : tk_AH) (sz kc ks : Nat) (H : Heap) (locs : List Loc) (ls : Array Slot), fL_law_1137 N mf L xs k23 x1 x2 x3 x4 h sz kc ks = some () → tk_sw G s h sz H locs → lv_has ls 7 [(0, .ref b), (1, .ref x1), (2, .ref x2), (3, .ref x3), (4, .int x4)] → W p l e room_1 s m #[Value.ref b] below meth c H locs kc ks (lw_Z below #[Value.ref b] s) (F0 m 1137 ls []) := by
  obtain ⟨hx, hb, hr, hml, hown, ht, hX, hbl, hlocks, hE, hG, hbA, hl0⟩ := id K
  intro k23 hk23 x1 x2 x3 x4 h sz kc ks H locs ls hf hs hl
  unfold fL_law_1137 at hf
  refine lv_goto (tgt := 1856) hx hb dL_law_1137 (by decide) ?_
  exact tL_1856 K k23 hk23 x1 x2 x3 x4 h sz kc ks _ _ _ hf hs (lv_sub hl [0, 1, 2, 3, 4] rfl)
set_option maxHeartbeats 16000000 in
set_option maxRecDepth 100000 in
theorem tL_1131 {p : Program} {l : Launch} {e : Env} {s : State} {m : MethodId} {below : List Frame} {meth : Method} {c : Code} {G : tk_AG} {N : Nat} {mf : tk_AH → Nat} {b L : Nat} {xs : Nat → Int32} (K : tk_lc p l s m meth c G b L xs) : ∀ (k23 : Nat → Nat → Nat → Int32 → tk_AH → Nat → Nat → Nat → Option (Unit)), (∀ (x1 : Nat) (x2 : Nat) (x3 : Nat) (x4 : Int32) (h : tk_AH) (sz kc ks : Nat) (H : Heap) (locs : List Loc) (ls : Array Slot), k23 x1 x2 x3 x4 h sz kc ks = some () → tk_sw G s h sz H locs → lv_has ls 7 [(0, .ref b), (1, .ref x1), (2, .ref x2), (3, .ref x3), (4, .int x4)] → W p l e room_1 s m #[Value.ref b] below meth c H locs kc ks (lw_Z below #[Value.ref b] s) (F0 m 23 ls [])) → ∀ (x1 : Nat) (x2 : Nat) (x3 : Nat) (x4 : Int32) (y0 : Int64) (y1 : Int64) (h : tk_AH) (sz kc ks : Nat) (H : Heap) (locs : List Loc) (ls : Array Slot), fL_law_1131 N mf L xs k23 x1 x2 x3 x4 y0 y1 h sz kc ks = some () → tk_sw G s h sz H locs → lv_has ls 7 [(0, .ref b), (1, .ref x1), (2, .ref x2), (3, .ref x3), (4, .int x4)] → W p l e room_1 s m #[Value.ref b] below meth c H locs kc ks (lw_Z below #[Value.ref b] s) (F0 m 1131 ls [.long y0, .long y1]) := by
  obtain ⟨hx, hb, hr, hml, hown, ht, hX, hbl, hlocks, hE, hG, hbA, hl0⟩ := id K
  intro k23 hk23 x1 x2 x3 x4 y0 y1 h sz kc ks H locs ls hf hs hl
  unfold fL_law_1131 at hf
  refine W.lcmp hx hb dL_law_1131 ?_
  refine lv_if_eq (tgt := 1137) hx hb dL_law_1132 (by decide) (fun c13 => ?_) (fun c13 => ?_)
  · rw [if_pos c13] at hf
    exact tL_1137 K k23 hk23 x1 x2 x3 x4 h sz kc ks _ _ _ hf hs (lv_sub hl [0, 1, 2, 3, 4] rfl)
  · rw [if_neg c13] at hf
    refine lv_iconst (v := 0) hx hb dL_law_1135 (by decide) ?_
    cases hf
set_option maxHeartbeats 16000000 in
set_option maxRecDepth 100000 in
theorem tL_1074 {p : Program} {l : Launch} {e : Env} {s : State} {m : MethodId} {below : List Frame} {meth : Method} {c : Code} {G : tk_AG} {N : Nat} {mf : tk_AH → Nat} {b L : Nat} {xs : Nat → Int32} (K : tk_lc p l s m meth c G b L xs) : ∀ (k23 : Nat → Nat → Nat → Int32 → tk_AH → Nat → Nat → Nat → Option (Unit)), (∀ (x1 : Nat) (x2 : Nat) (x3 : Nat) (x4 : Int32) (h : tk_AH) (sz kc ks : Nat) (H : Heap) (locs : List Loc) (ls : Array Slot), k23 x1 x2 x3 x4 h sz kc ks = some () → tk_sw G s h sz H locs → lv_has ls 7 [(0, .ref b), (1, .ref x1), (2, .ref x2), (3, .ref x3), (4, .int x4)] → W p l e room_1 s m #[Value.ref b] below meth c H locs kc ks (lw_Z below #[Value.ref b] s) (F0 m 23 ls [])) → ∀ (x1 : Nat) (x2 : Nat) (x3 : Nat) (x4 : Int32) (h : tk_AH) (sz kc ks : Nat) (H : Heap) (locs : List Loc) (ls : Array Slot), fL_law_1074 N mf L xs k23 x1 x2 x3 x4 h sz kc ks = some () → tk_sw G s h sz H locs → lv_has ls 7 [(0, .ref b), (1, .ref x1), (2, .ref x2), (3, .ref x3), (4, .int x4)] → W p l e room_1 s m #[Value.ref b] below meth c H locs kc ks (lw_Z below #[Value.ref b] s) (F0 m 1074 ls []) := by
  obtain ⟨hx, hb, hr, hml, hown, ht, hX, hbl, hlocks, hE, hG, hbA, hl0⟩ := id K
  intro k23 hk23 x1 x2 x3 x4 h sz kc ks H locs ls hf hs hl
  unfold fL_law_1074 at hf
  refine lv_goto (tgt := 1856) hx hb dL_law_1074 (by decide) ?_
  exact tL_1856 K k23 hk23 x1 x2 x3 x4 h sz kc ks _ _ _ hf hs (lv_sub hl [0, 1, 2, 3, 4] rfl)
set_option maxHeartbeats 16000000 in
set_option maxRecDepth 100000 in
theorem tL_980 {p : Program} {l : Launch} {e : Env} {s : State} {m : MethodId} {below : List Frame} {meth : Method} {c : Code} {G : tk_AG} {N : Nat} {mf : tk_AH → Nat} {b L : Nat} {xs : Nat → Int32} (K : tk_lc p l s m meth c G b L xs) : ∀ (k23 : Nat → Nat → Nat → Int32 → tk_AH → Nat → Nat → Nat → Option (Unit)), (∀ (x1 : Nat) (x2 : Nat) (x3 : Nat) (x4 : Int32) (h : tk_AH) (sz kc ks : Nat) (H : Heap) (locs : List Loc) (ls : Array Slot), k23 x1 x2 x3 x4 h sz kc ks = some () → tk_sw G s h sz H locs → lv_has ls 7 [(0, .ref b), (1, .ref x1), (2, .ref x2), (3, .ref x3), (4, .int x4)] → W p l e room_1 s m #[Value.ref b] below meth c H locs kc ks (lw_Z below #[Value.ref b] s) (F0 m 23 ls [])) → ∀ (x1 : Nat) (x2 : Nat) (x3 : Nat) (x4 : Int32) (h : tk_AH) (sz kc ks : Nat) (H : Heap) (locs : List Loc) (ls : Array Slot), fL_law_980 N mf L xs k23 x1 x2 x3 x4 h sz kc ks = some () → tk_sw G s h sz H locs → lv_has ls 7 [(0, .ref b), (1, .ref x1), (2, .ref x2), (3, .ref x3), (4, .int x4)] → W p l e room_1 s m #[Value.ref b] below meth c H locs kc ks (lw_Z below #[Value.ref b] s) (F0 m 980 ls []) := by
  obtain ⟨hx, hb, hr, hml, hown, ht, hX, hbl, hlocks, hE, hG, hbA, hl0⟩ := id K
  intro k23 hk23 x1 x2 x3 x4 h sz kc ks H locs ls hf hs hl
  unfold fL_law_980 at hf
  refine lv_goto (tgt := 1856) hx hb dL_law_980 (by decide) ?_
  exact tL_1856 K k23 hk23 x1 x2 x3 x4 h sz kc ks _ _ _ hf hs (lv_sub hl [0, 1, 2, 3, 4] rfl)
set_option maxHeartbeats 16000000 in
set_option maxRecDepth 100000 in
theorem tL_888 {p : Program} {l : Launch} {e : Env} {s : State} {m : MethodId} {below : List Frame} {meth : Method} {c : Code} {G : tk_AG} {N : Nat} {mf : tk_AH → Nat} {b L : Nat} {xs : Nat → Int32} (K : tk_lc p l s m meth c G b L xs) : ∀ (k23 : Nat → Nat → Nat → Int32 → tk_AH → Nat → Nat → Nat → Option (Unit)), (∀ (x1 : Nat) (x2 : Nat) (x3 : Nat) (x4 : Int32) (h : tk_AH) (sz kc ks : Nat) (H : Heap) (locs : List Loc) (ls : Array Slot), k23 x1 x2 x3 x4 h sz kc ks = some () → tk_sw G s h sz H locs → lv_has ls 7 [(0, .ref b), (1, .ref x1), (2, .ref x2), (3, .ref x3), (4, .int x4)] → W p l e room_1 s m #[Value.ref b] below meth c H locs kc ks (lw_Z below #[Value.ref b] s) (F0 m 23 ls [])) → ∀ (x1 : Nat) (x2 : Nat) (x3 : Nat) (x4 : Int32) (h : tk_AH) (sz kc ks : Nat) (H : Heap) (locs : List Loc) (ls : Array Slot), fL_law_888 N mf L xs k23 x1 x2 x3 x4 h sz kc ks = some () → tk_sw G s h sz H locs → lv_has ls 7 [(0, .ref b), (1, .ref x1), (2, .ref x2), (3, .ref x3), (4, .int x4)] → W p l e room_1 s m #[Value.ref b] below meth c H locs kc ks (lw_Z below #[Value.ref b] s) (F0 m 888 ls []) := by
  obtain ⟨hx, hb, hr, hml, hown, ht, hX, hbl, hlocks, hE, hG, hbA, hl0⟩ := id K
  intro k23 hk23 x1 x2 x3 x4 h sz kc ks H locs ls hf hs hl
  unfold fL_law_888 at hf
  refine lv_goto (tgt := 1856) hx hb dL_law_888 (by decide) ?_
  exact tL_1856 K k23 hk23 x1 x2 x3 x4 h sz kc ks _ _ _ hf hs (lv_sub hl [0, 1, 2, 3, 4] rfl)
set_option maxHeartbeats 16000000 in
set_option maxRecDepth 100000 in
theorem tL_820 {p : Program} {l : Launch} {e : Env} {s : State} {m : MethodId} {below : List Frame} {meth : Method} {c : Code} {G : tk_AG} {N : Nat} {mf : tk_AH → Nat} {b L : Nat} {xs : Nat → Int32} (K : tk_lc p l s m meth c G b L xs) : ∀ (k23 : Nat → Nat → Nat → Int32 → tk_AH → Nat → Nat → Nat → Option (Unit)), (∀ (x1 : Nat) (x2 : Nat) (x3 : Nat) (x4 : Int32) (h : tk_AH) (sz kc ks : Nat) (H : Heap) (locs : List Loc) (ls : Array Slot), k23 x1 x2 x3 x4 h sz kc ks = some () → tk_sw G s h sz H locs → lv_has ls 7 [(0, .ref b), (1, .ref x1), (2, .ref x2), (3, .ref x3), (4, .int x4)] → W p l e room_1 s m #[Value.ref b] below meth c H locs kc ks (lw_Z below #[Value.ref b] s) (F0 m 23 ls [])) → ∀ (x1 : Nat) (x2 : Nat) (x3 : Nat) (x4 : Int32) (h : tk_AH) (sz kc ks : Nat) (H : Heap) (locs : List Loc) (ls : Array Slot), fL_law_820 N mf L xs k23 x1 x2 x3 x4 h sz kc ks = some () → tk_sw G s h sz H locs → lv_has ls 7 [(0, .ref b), (1, .ref x1), (2, .ref x2), (3, .ref x3), (4, .int x4)] → W p l e room_1 s m #[Value.ref b] below meth c H locs kc ks (lw_Z below #[Value.ref b] s) (F0 m 820 ls []) := by
  obtain ⟨hx, hb, hr, hml, hown, ht, hX, hbl, hlocks, hE, hG, hbA, hl0⟩ := id K
  intro k23 hk23 x1 x2 x3 x4 h sz kc ks H locs ls hf hs hl
  unfold fL_law_820 at hf
  refine lv_goto (tgt := 1856) hx hb dL_law_820 (by decide) ?_
  exact tL_1856 K k23 hk23 x1 x2 x3 x4 h sz kc ks _ _ _ hf hs (lv_sub hl [0, 1, 2, 3, 4] rfl)
set_option maxHeartbeats 16000000 in
set_option maxRecDepth 100000 in
theorem tL_752 {p : Program} {l : Launch} {e : Env} {s : State} {m : MethodId} {below : List Frame} {meth : Method} {c : Code} {G : tk_AG} {N : Nat} {mf : tk_AH → Nat} {b L : Nat} {xs : Nat → Int32} (K : tk_lc p l s m meth c G b L xs) : ∀ (k23 : Nat → Nat → Nat → Int32 → tk_AH → Nat → Nat → Nat → Option (Unit)), (∀ (x1 : Nat) (x2 : Nat) (x3 : Nat) (x4 : Int32) (h : tk_AH) (sz kc ks : Nat) (H : Heap) (locs : List Loc) (ls : Array Slot), k23 x1 x2 x3 x4 h sz kc ks = some () → tk_sw G s h sz H locs → lv_has ls 7 [(0, .ref b), (1, .ref x1), (2, .ref x2), (3, .ref x3), (4, .int x4)] → W p l e room_1 s m #[Value.ref b] below meth c H locs kc ks (lw_Z below #[Value.ref b] s) (F0 m 23 ls [])) → ∀ (x1 : Nat) (x2 : Nat) (x3 : Nat) (x4 : Int32) (h : tk_AH) (sz kc ks : Nat) (H : Heap) (locs : List Loc) (ls : Array Slot), fL_law_752 N mf L xs k23 x1 x2 x3 x4 h sz kc ks = some () → tk_sw G s h sz H locs → lv_has ls 7 [(0, .ref b), (1, .ref x1), (2, .ref x2), (3, .ref x3), (4, .int x4)] → W p l e room_1 s m #[Value.ref b] below meth c H locs kc ks (lw_Z below #[Value.ref b] s) (F0 m 752 ls []) := by
  obtain ⟨hx, hb, hr, hml, hown, ht, hX, hbl, hlocks, hE, hG, hbA, hl0⟩ := id K
  intro k23 hk23 x1 x2 x3 x4 h sz kc ks H locs ls hf hs hl
  unfold fL_law_752 at hf
  refine lv_goto (tgt := 1856) hx hb dL_law_752 (by decide) ?_
  exact tL_1856 K k23 hk23 x1 x2 x3 x4 h sz kc ks _ _ _ hf hs (lv_sub hl [0, 1, 2, 3, 4] rfl)
set_option maxHeartbeats 16000000 in
set_option maxRecDepth 100000 in
theorem tL_672 {p : Program} {l : Launch} {e : Env} {s : State} {m : MethodId} {below : List Frame} {meth : Method} {c : Code} {G : tk_AG} {N : Nat} {mf : tk_AH → Nat} {b L : Nat} {xs : Nat → Int32} (K : tk_lc p l s m meth c G b L xs) : ∀ (k23 : Nat → Nat → Nat → Int32 → tk_AH → Nat → Nat → Nat → Option (Unit)), (∀ (x1 : Nat) (x2 : Nat) (x3 : Nat) (x4 : Int32) (h : tk_AH) (sz kc ks : Nat) (H : Heap) (locs : List Loc) (ls : Array Slot), k23 x1 x2 x3 x4 h sz kc ks = some () → tk_sw G s h sz H locs → lv_has ls 7 [(0, .ref b), (1, .ref x1), (2, .ref x2), (3, .ref x3), (4, .int x4)] → W p l e room_1 s m #[Value.ref b] below meth c H locs kc ks (lw_Z below #[Value.ref b] s) (F0 m 23 ls [])) → ∀ (x1 : Nat) (x2 : Nat) (x3 : Nat) (x4 : Int32) (h : tk_AH) (sz kc ks : Nat) (H : Heap) (locs : List Loc) (ls : Array Slot), fL_law_672 N mf L xs k23 x1 x2 x3 x4 h sz kc ks = some () → tk_sw G s h sz H locs → lv_has ls 7 [(0, .ref b), (1, .ref x1), (2, .ref x2), (3, .ref x3), (4, .int x4)] → W p l e room_1 s m #[Value.ref b] below meth c H locs kc ks (lw_Z below #[Value.ref b] s) (F0 m 672 ls []) := by
  obtain ⟨hx, hb, hr, hml, hown, ht, hX, hbl, hlocks, hE, hG, hbA, hl0⟩ := id K
  intro k23 hk23 x1 x2 x3 x4 h sz kc ks H locs ls hf hs hl
  unfold fL_law_672 at hf
  refine lv_goto (tgt := 1856) hx hb dL_law_672 (by decide) ?_
  exact tL_1856 K k23 hk23 x1 x2 x3 x4 h sz kc ks _ _ _ hf hs (lv_sub hl [0, 1, 2, 3, 4] rfl)
set_option maxHeartbeats 16000000 in
set_option maxRecDepth 100000 in
theorem tL_666 {p : Program} {l : Launch} {e : Env} {s : State} {m : MethodId} {below : List Frame} {meth : Method} {c : Code} {G : tk_AG} {N : Nat} {mf : tk_AH → Nat} {b L : Nat} {xs : Nat → Int32} (K : tk_lc p l s m meth c G b L xs) : ∀ (k23 : Nat → Nat → Nat → Int32 → tk_AH → Nat → Nat → Nat → Option (Unit)), (∀ (x1 : Nat) (x2 : Nat) (x3 : Nat) (x4 : Int32) (h : tk_AH) (sz kc ks : Nat) (H : Heap) (locs : List Loc) (ls : Array Slot), k23 x1 x2 x3 x4 h sz kc ks = some () → tk_sw G s h sz H locs → lv_has ls 7 [(0, .ref b), (1, .ref x1), (2, .ref x2), (3, .ref x3), (4, .int x4)] → W p l e room_1 s m #[Value.ref b] below meth c H locs kc ks (lw_Z below #[Value.ref b] s) (F0 m 23 ls [])) → ∀ (x1 : Nat) (x2 : Nat) (x3 : Nat) (x4 : Int32) (y0 : Int64) (y1 : Int64) (h : tk_AH) (sz kc ks : Nat) (H : Heap) (locs : List Loc) (ls : Array Slot), fL_law_666 N mf L xs k23 x1 x2 x3 x4 y0 y1 h sz kc ks = some () → tk_sw G s h sz H locs → lv_has ls 7 [(0, .ref b), (1, .ref x1), (2, .ref x2), (3, .ref x3), (4, .int x4)] → W p l e room_1 s m #[Value.ref b] below meth c H locs kc ks (lw_Z below #[Value.ref b] s) (F0 m 666 ls [.long y0, .long y1]) := by
  obtain ⟨hx, hb, hr, hml, hown, ht, hX, hbl, hlocks, hE, hG, hbA, hl0⟩ := id K
  intro k23 hk23 x1 x2 x3 x4 y0 y1 h sz kc ks H locs ls hf hs hl
  unfold fL_law_666 at hf
  refine W.lcmp hx hb dL_law_666 ?_
  refine lv_if_eq (tgt := 672) hx hb dL_law_667 (by decide) (fun c14 => ?_) (fun c14 => ?_)
  · rw [if_pos c14] at hf
    exact tL_672 K k23 hk23 x1 x2 x3 x4 h sz kc ks _ _ _ hf hs (lv_sub hl [0, 1, 2, 3, 4] rfl)
  · rw [if_neg c14] at hf
    refine lv_iconst (v := 0) hx hb dL_law_670 (by decide) ?_
    cases hf
set_option maxHeartbeats 16000000 in
set_option maxRecDepth 100000 in
theorem tL_632 {p : Program} {l : Launch} {e : Env} {s : State} {m : MethodId} {below : List Frame} {meth : Method} {c : Code} {G : tk_AG} {N : Nat} {mf : tk_AH → Nat} {b L : Nat} {xs : Nat → Int32} (K : tk_lc p l s m meth c G b L xs) : ∀ (k23 : Nat → Nat → Nat → Int32 → tk_AH → Nat → Nat → Nat → Option (Unit)), (∀ (x1 : Nat) (x2 : Nat) (x3 : Nat) (x4 : Int32) (h : tk_AH) (sz kc ks : Nat) (H : Heap) (locs : List Loc) (ls : Array Slot), k23 x1 x2 x3 x4 h sz kc ks = some () → tk_sw G s h sz H locs → lv_has ls 7 [(0, .ref b), (1, .ref x1), (2, .ref x2), (3, .ref x3), (4, .int x4)] → W p l e room_1 s m #[Value.ref b] below meth c H locs kc ks (lw_Z below #[Value.ref b] s) (F0 m 23 ls [])) → ∀ (x1 : Nat) (x2 : Nat) (x3 : Nat) (x4 : Int32) (x5 : Int32) (y0 : Int32) (y1 : Int32) (y2 : Int32) (y3 : Int32) (y4 : Nat) (h : tk_AH) (sz kc ks : Nat) (H : Heap) (locs : List Loc) (ls : Array Slot), fL_law_632 N mf L xs k23 x1 x2 x3 x4 x5 y0 y1 y2 y3 y4 h sz kc ks = some () → tk_sw G s h sz H locs → lv_has ls 7 [(0, .ref b), (1, .ref x1), (2, .ref x2), (3, .ref x3), (4, .int x4), (5, .int x5)] → W p l e room_1 s m #[Value.ref b] below meth c H locs kc ks (lw_Z below #[Value.ref b] s) (F0 m 632 ls [.int y0, .int y1, .int y2, .int y3, .ref y4]) := by
  obtain ⟨hx, hb, hr, hml, hown, ht, hX, hbl, hlocks, hE, hG, hbA, hl0⟩ := id K
  intro k23 hk23 x1 x2 x3 x4 x5 y0 y1 y2 y3 y4 h sz kc ks H locs ls hf hs hl
  unfold fL_law_632 at hf
  obtain ⟨_, p15, hf⟩ := tk_bi hf
  obtain ⟨_, b15, hf⟩ := tk_bi hf
  have b15 := tk_bd_ok b15
  obtain ⟨o15, e15, hf⟩ := tk_bi hf
  refine tk_call0 (v := some (.int o15.1)) hs (va_runV (As := [.int y3, .int y2, .int y1, .int y0]) (rest := []) ⟨hx, hb, hml, hown, ht⟩ (cX5_test_ok l hl0 G N y4 y3 y2 y1 y0 h sz o15.1 o15.2.1 o15.2.2 e15) (kwX5_test ht wmL_122 rfl rfl ⟨Nat.le_of_ble_eq_true rfl, Nat.le_of_ble_eq_true rfl⟩) (tk_preV hE hs (tk_ok_ok p15) rfl) rfl rfl hl.1 rfl (lv_room (Nat.le_of_ble_eq_true rfl)) dL_law_632 ⟨b15.1, b15.2⟩) (fun H locs hs => ?_)
  refine W.eq (g2 := F0 m 635 ls [.int o15.1]) rfl ?_
  refine lv_istore (lv' := [(6, .int o15.1), (0, .ref b), (1, .ref x1), (2, .ref x2), (3, .ref x3), (4, .int x4), (5, .int x5)]) hx hb dL_law_635 hl (by decide) rfl (fun ls hl => ?_)
  refine lv_aload_n hx hb dL_law_637 rfl (lv_at hl 3 rfl) ?_
  obtain ⟨_, p16, hf⟩ := tk_bi hf
  obtain ⟨_, b16, hf⟩ := tk_bi hf
  have b16 := tk_bd_ok b16
  obtain ⟨o16, e16, hf⟩ := tk_bi hf
  refine tk_call0 (v := some (.int o16.1)) hs (va_runV (As := []) (rest := []) ⟨hx, hb, hml, hown, ht⟩ (cX5_thrown_ok l hl0 G N x2 o15.2.1 o15.2.2 o16.1 o16.2.1 o16.2.2 e16) (kwX5_thrown ht wmL_100 rfl rfl ⟨Nat.le_of_ble_eq_true rfl, Nat.le_of_ble_eq_true rfl⟩) (tk_preV hE hs (tk_ok_ok p16) rfl) rfl rfl hl.1 rfl (lv_room (Nat.le_of_ble_eq_true rfl)) dL_law_638 ⟨b16.1, b16.2⟩) (fun H locs hs => ?_)
  refine W.eq (g2 := F0 m 641 ls [.int o16.1]) rfl ?_
  refine lv_iload hx hb dL_law_641 (lv_at hl 6 rfl) ?_
  refine lv_icmp_eq (tgt := 648) hx hb dL_law_643 (by decide) (fun c17 => ?_) (fun c17 => ?_)
  · rw [if_pos c17] at hf
    refine lv_iload hx hb dL_law_648 (lv_at hl 6 rfl) ?_
    refine lv_if_ne (tgt := 672) hx hb dL_law_650 (by decide) (fun c18 => ?_) (fun c18 => ?_)
    · rw [if_neg c18] at hf
      exact tL_672 K k23 hk23 x1 x2 x3 x4 o16.2.1 o16.2.2 kc ks _ _ _ hf hs (lv_sub hl [1, 2, 3, 4, 5] rfl)
    · rw [if_pos c18] at hf
      refine lv_aload_n hx hb dL_law_653 rfl (lv_at hl 4 rfl) ?_
      refine lv_iconst (v := 0) hx hb dL_law_654 (by decide) ?_
      obtain ⟨v19, e19, hf⟩ := tk_bi hf
      refine tk_lald hx hb hE hs e19 dL_law_655 ?_
      refine lv_iload hx hb dL_law_656 (lv_at hl 0 rfl) ?_
      refine lv_if_eq (tgt := 665) hx hb dL_law_658 (by decide) (fun c20 => ?_) (fun c20 => ?_)
      · rw [if_pos c20] at hf
        refine lv_lconst (v := 0) hx hb dL_law_665 (by decide) ?_
        exact tL_666 K k23 hk23 x1 x2 x3 x4 0 v19 o16.2.1 o16.2.2 kc ks _ _ _ hf hs (lv_sub hl [1, 2, 3, 4, 5] rfl)
      · rw [if_neg c20] at hf
        refine lv_lconst (v := 1) hx hb dL_law_661 (by decide) ?_
        refine lv_goto (tgt := 666) hx hb dL_law_662 (by decide) ?_
        exact tL_666 K k23 hk23 x1 x2 x3 x4 1 v19 o16.2.1 o16.2.2 kc ks _ _ _ hf hs (lv_sub hl [1, 2, 3, 4, 5] rfl)
  · rw [if_neg c17] at hf
    refine lv_iconst (v := 0) hx hb dL_law_646 (by decide) ?_
    cases hf
set_option maxHeartbeats 16000000 in
set_option maxRecDepth 100000 in
theorem tL_593 {p : Program} {l : Launch} {e : Env} {s : State} {m : MethodId} {below : List Frame} {meth : Method} {c : Code} {G : tk_AG} {N : Nat} {mf : tk_AH → Nat} {b L : Nat} {xs : Nat → Int32} (K : tk_lc p l s m meth c G b L xs) : ∀ (k23 : Nat → Nat → Nat → Int32 → tk_AH → Nat → Nat → Nat → Option (Unit)), (∀ (x1 : Nat) (x2 : Nat) (x3 : Nat) (x4 : Int32) (h : tk_AH) (sz kc ks : Nat) (H : Heap) (locs : List Loc) (ls : Array Slot), k23 x1 x2 x3 x4 h sz kc ks = some () → tk_sw G s h sz H locs → lv_has ls 7 [(0, .ref b), (1, .ref x1), (2, .ref x2), (3, .ref x3), (4, .int x4)] → W p l e room_1 s m #[Value.ref b] below meth c H locs kc ks (lw_Z below #[Value.ref b] s) (F0 m 23 ls [])) → ∀ (x1 : Nat) (x2 : Nat) (x3 : Nat) (x4 : Int32) (y0 : Int32) (y1 : Int32) (y2 : Int32) (y3 : Int32) (y4 : Nat) (h : tk_AH) (sz kc ks : Nat) (H : Heap) (locs : List Loc) (ls : Array Slot), fL_law_593 N mf L xs k23 x1 x2 x3 x4 y0 y1 y2 y3 y4 h sz kc ks = some () → tk_sw G s h sz H locs → lv_has ls 7 [(0, .ref b), (1, .ref x1), (2, .ref x2), (3, .ref x3), (4, .int x4)] → W p l e room_1 s m #[Value.ref b] below meth c H locs kc ks (lw_Z below #[Value.ref b] s) (F0 m 593 ls [.int y0, .int y1, .int y2, .int y3, .ref y4]) := by
  obtain ⟨hx, hb, hr, hml, hown, ht, hX, hbl, hlocks, hE, hG, hbA, hl0⟩ := id K
  intro k23 hk23 x1 x2 x3 x4 y0 y1 y2 y3 y4 h sz kc ks H locs ls hf hs hl
  unfold fL_law_593 at hf
  refine lv_aload_n hx hb dL_law_593 rfl (lv_at hl 3 rfl) ?_
  obtain ⟨_, b21, hf⟩ := tk_bi hf
  have b21 := tk_bd_ok b21
  obtain ⟨o21, e21, hf⟩ := tk_bi hf
  refine tk_call (v := some (.int o21.1)) hs (vx_runSW (As := [.ref y4, .int y3, .int y2, .int y1, .int y0, .ref x3]) (rest := []) ⟨hx, hb, hml, hown, ht⟩ (cL_test_ok l hl0 G N y4 y3 y2 y1 y0 x3 h sz o21.1 o21.2.1 o21.2.2 e21) (kwL_test ht wmL_119 rfl rfl ⟨Nat.le_of_ble_eq_true rfl, Nat.le_of_ble_eq_true rfl⟩) (tk_preS hE hs) rfl rfl hl.1 rfl (lv_room (Nat.le_of_ble_eq_true rfl)) dL_law_594 ⟨b21.1, b21.2⟩) (fun H locs hs => ?_)
  refine W.eq (g2 := F0 m 597 ls [.int o21.1]) rfl ?_
  refine W.widen (k := kc + 1) (n := ks + 6) (Nat.le_refl _) (Nat.le_refl _) ?_
  refine lv_istore (lv' := [(5, .int o21.1), (0, .ref b), (1, .ref x1), (2, .ref x2), (3, .ref x3), (4, .int x4)]) hx hb dL_law_597 hl (by decide) rfl (fun ls hl => ?_)
  refine lv_aload_n hx hb dL_law_599 rfl (lv_at hl 3 rfl) ?_
  refine lv_aload_n hx hb dL_law_600 rfl (lv_at hl 1 rfl) ?_
  refine lv_iload hx hb dL_law_601 (lv_at hl 5 rfl) ?_
  refine lv_iconst (v := 1) hx hb dL_law_603 (by decide) ?_
  refine lv_iadd hx hb dL_law_604 ?_
  obtain ⟨v22, e22, hf⟩ := tk_bi hf
  refine tk_sld hx hb hX hbl hbA hs e22 dL_law_605 ?_
  refine lv_aload_n hx hb dL_law_606 rfl (lv_at hl 1 rfl) ?_
  refine lv_iload hx hb dL_law_607 (lv_at hl 5 rfl) ?_
  refine lv_iconst (v := 2) hx hb dL_law_609 (by decide) ?_
  refine lv_iadd hx hb dL_law_610 ?_
  obtain ⟨v23, e23, hf⟩ := tk_bi hf
  refine tk_sld hx hb hX hbl hbA hs e23 dL_law_611 ?_
  refine lv_aload_n hx hb dL_law_612 rfl (lv_at hl 1 rfl) ?_
  refine lv_iload hx hb dL_law_613 (lv_at hl 5 rfl) ?_
  refine lv_iconst (v := 3) hx hb dL_law_615 (by decide) ?_
  refine lv_iadd hx hb dL_law_616 ?_
  obtain ⟨v24, e24, hf⟩ := tk_bi hf
  refine tk_sld hx hb hX hbl hbA hs e24 dL_law_617 ?_
  refine lv_aload_n hx hb dL_law_618 rfl (lv_at hl 1 rfl) ?_
  refine lv_iload hx hb dL_law_619 (lv_at hl 5 rfl) ?_
  refine lv_iconst (v := 4) hx hb dL_law_621 (by decide) ?_
  refine lv_iadd hx hb dL_law_622 ?_
  obtain ⟨v25, e25, hf⟩ := tk_bi hf
  refine tk_sld hx hb hX hbl hbA hs e25 dL_law_623 ?_
  refine lv_if_eq (tgt := 631) hx hb dL_law_624 (by decide) (fun c26 => ?_) (fun c26 => ?_)
  · rw [if_pos c26] at hf
    refine lv_iconst (v := 0) hx hb dL_law_631 (by decide) ?_
    exact tL_632 K k23 hk23 x1 x2 x3 x4 o21.1 0 v24 v23 v22 x2 o21.2.1 o21.2.2 (kc + 1) (ks + 6) _ _ _ hf hs (lv_sub hl [1, 2, 3, 4, 5, 0] rfl)
  · rw [if_neg c26] at hf
    refine lv_iconst (v := 1) hx hb dL_law_627 (by decide) ?_
    refine lv_goto (tgt := 632) hx hb dL_law_628 (by decide) ?_
    exact tL_632 K k23 hk23 x1 x2 x3 x4 o21.1 1 v24 v23 v22 x2 o21.2.1 o21.2.2 (kc + 1) (ks + 6) _ _ _ hf hs (lv_sub hl [1, 2, 3, 4, 5, 0] rfl)
set_option maxHeartbeats 16000000 in
set_option maxRecDepth 100000 in
theorem tL_557 {p : Program} {l : Launch} {e : Env} {s : State} {m : MethodId} {below : List Frame} {meth : Method} {c : Code} {G : tk_AG} {N : Nat} {mf : tk_AH → Nat} {b L : Nat} {xs : Nat → Int32} (K : tk_lc p l s m meth c G b L xs) : ∀ (k23 : Nat → Nat → Nat → Int32 → tk_AH → Nat → Nat → Nat → Option (Unit)), (∀ (x1 : Nat) (x2 : Nat) (x3 : Nat) (x4 : Int32) (h : tk_AH) (sz kc ks : Nat) (H : Heap) (locs : List Loc) (ls : Array Slot), k23 x1 x2 x3 x4 h sz kc ks = some () → tk_sw G s h sz H locs → lv_has ls 7 [(0, .ref b), (1, .ref x1), (2, .ref x2), (3, .ref x3), (4, .int x4)] → W p l e room_1 s m #[Value.ref b] below meth c H locs kc ks (lw_Z below #[Value.ref b] s) (F0 m 23 ls [])) → ∀ (x1 : Nat) (x2 : Nat) (x3 : Nat) (x4 : Int32) (h : tk_AH) (sz kc ks : Nat) (H : Heap) (locs : List Loc) (ls : Array Slot), fL_law_557 N mf L xs k23 x1 x2 x3 x4 h sz kc ks = some () → tk_sw G s h sz H locs → lv_has ls 7 [(0, .ref b), (1, .ref x1), (2, .ref x2), (3, .ref x3), (4, .int x4)] → W p l e room_1 s m #[Value.ref b] below meth c H locs kc ks (lw_Z below #[Value.ref b] s) (F0 m 557 ls []) := by
  obtain ⟨hx, hb, hr, hml, hown, ht, hX, hbl, hlocks, hE, hG, hbA, hl0⟩ := id K
  intro k23 hk23 x1 x2 x3 x4 h sz kc ks H locs ls hf hs hl
  unfold fL_law_557 at hf
  refine lv_goto (tgt := 1856) hx hb dL_law_557 (by decide) ?_
  exact tL_1856 K k23 hk23 x1 x2 x3 x4 h sz kc ks _ _ _ hf hs (lv_sub hl [0, 1, 2, 3, 4] rfl)
set_option maxHeartbeats 16000000 in
set_option maxRecDepth 100000 in
theorem tL_551 {p : Program} {l : Launch} {e : Env} {s : State} {m : MethodId} {below : List Frame} {meth : Method} {c : Code} {G : tk_AG} {N : Nat} {mf : tk_AH → Nat} {b L : Nat} {xs : Nat → Int32} (K : tk_lc p l s m meth c G b L xs) : ∀ (k23 : Nat → Nat → Nat → Int32 → tk_AH → Nat → Nat → Nat → Option (Unit)), (∀ (x1 : Nat) (x2 : Nat) (x3 : Nat) (x4 : Int32) (h : tk_AH) (sz kc ks : Nat) (H : Heap) (locs : List Loc) (ls : Array Slot), k23 x1 x2 x3 x4 h sz kc ks = some () → tk_sw G s h sz H locs → lv_has ls 7 [(0, .ref b), (1, .ref x1), (2, .ref x2), (3, .ref x3), (4, .int x4)] → W p l e room_1 s m #[Value.ref b] below meth c H locs kc ks (lw_Z below #[Value.ref b] s) (F0 m 23 ls [])) → ∀ (x1 : Nat) (x2 : Nat) (x3 : Nat) (x4 : Int32) (y0 : Int64) (y1 : Int64) (h : tk_AH) (sz kc ks : Nat) (H : Heap) (locs : List Loc) (ls : Array Slot), fL_law_551 N mf L xs k23 x1 x2 x3 x4 y0 y1 h sz kc ks = some () → tk_sw G s h sz H locs → lv_has ls 7 [(0, .ref b), (1, .ref x1), (2, .ref x2), (3, .ref x3), (4, .int x4)] → W p l e room_1 s m #[Value.ref b] below meth c H locs kc ks (lw_Z below #[Value.ref b] s) (F0 m 551 ls [.long y0, .long y1]) := by
  obtain ⟨hx, hb, hr, hml, hown, ht, hX, hbl, hlocks, hE, hG, hbA, hl0⟩ := id K
  intro k23 hk23 x1 x2 x3 x4 y0 y1 h sz kc ks H locs ls hf hs hl
  unfold fL_law_551 at hf
  refine W.lcmp hx hb dL_law_551 ?_
  refine lv_if_eq (tgt := 557) hx hb dL_law_552 (by decide) (fun c27 => ?_) (fun c27 => ?_)
  · rw [if_pos c27] at hf
    exact tL_557 K k23 hk23 x1 x2 x3 x4 h sz kc ks _ _ _ hf hs (lv_sub hl [0, 1, 2, 3, 4] rfl)
  · rw [if_neg c27] at hf
    refine lv_iconst (v := 0) hx hb dL_law_555 (by decide) ?_
    cases hf
set_option maxHeartbeats 16000000 in
set_option maxRecDepth 100000 in
theorem tL_517 {p : Program} {l : Launch} {e : Env} {s : State} {m : MethodId} {below : List Frame} {meth : Method} {c : Code} {G : tk_AG} {N : Nat} {mf : tk_AH → Nat} {b L : Nat} {xs : Nat → Int32} (K : tk_lc p l s m meth c G b L xs) : ∀ (k23 : Nat → Nat → Nat → Int32 → tk_AH → Nat → Nat → Nat → Option (Unit)), (∀ (x1 : Nat) (x2 : Nat) (x3 : Nat) (x4 : Int32) (h : tk_AH) (sz kc ks : Nat) (H : Heap) (locs : List Loc) (ls : Array Slot), k23 x1 x2 x3 x4 h sz kc ks = some () → tk_sw G s h sz H locs → lv_has ls 7 [(0, .ref b), (1, .ref x1), (2, .ref x2), (3, .ref x3), (4, .int x4)] → W p l e room_1 s m #[Value.ref b] below meth c H locs kc ks (lw_Z below #[Value.ref b] s) (F0 m 23 ls [])) → ∀ (x1 : Nat) (x2 : Nat) (x3 : Nat) (x4 : Int32) (x5 : Int32) (y0 : Int32) (y1 : Int32) (y2 : Int32) (y3 : Nat) (h : tk_AH) (sz kc ks : Nat) (H : Heap) (locs : List Loc) (ls : Array Slot), fL_law_517 N mf L xs k23 x1 x2 x3 x4 x5 y0 y1 y2 y3 h sz kc ks = some () → tk_sw G s h sz H locs → lv_has ls 7 [(0, .ref b), (1, .ref x1), (2, .ref x2), (3, .ref x3), (4, .int x4), (5, .int x5)] → W p l e room_1 s m #[Value.ref b] below meth c H locs kc ks (lw_Z below #[Value.ref b] s) (F0 m 517 ls [.int y0, .int y1, .int y2, .ref y3]) := by
  obtain ⟨hx, hb, hr, hml, hown, ht, hX, hbl, hlocks, hE, hG, hbA, hl0⟩ := id K
  intro k23 hk23 x1 x2 x3 x4 x5 y0 y1 y2 y3 h sz kc ks H locs ls hf hs hl
  unfold fL_law_517 at hf
  obtain ⟨_, p28, hf⟩ := tk_bi hf
  obtain ⟨_, b28, hf⟩ := tk_bi hf
  have b28 := tk_bd_ok b28
  obtain ⟨o28, e28, hf⟩ := tk_bi hf
  refine tk_call0 (v := some (.int o28.1)) hs (va_runV (As := [.int y2, .int y1, .int y0]) (rest := []) ⟨hx, hb, hml, hown, ht⟩ (cX5_bar_ok l hl0 G N y3 y2 y1 y0 h sz o28.1 o28.2.1 o28.2.2 e28) (kwX5_bar ht wmL_118 rfl rfl ⟨Nat.le_of_ble_eq_true rfl, Nat.le_of_ble_eq_true rfl⟩) (tk_preV hE hs (tk_ok_ok p28) rfl) rfl rfl hl.1 rfl (lv_room (Nat.le_of_ble_eq_true rfl)) dL_law_517 ⟨b28.1, b28.2⟩) (fun H locs hs => ?_)
  refine W.eq (g2 := F0 m 520 ls [.int o28.1]) rfl ?_
  refine lv_istore (lv' := [(6, .int o28.1), (0, .ref b), (1, .ref x1), (2, .ref x2), (3, .ref x3), (4, .int x4), (5, .int x5)]) hx hb dL_law_520 hl (by decide) rfl (fun ls hl => ?_)
  refine lv_aload_n hx hb dL_law_522 rfl (lv_at hl 3 rfl) ?_
  obtain ⟨_, p29, hf⟩ := tk_bi hf
  obtain ⟨_, b29, hf⟩ := tk_bi hf
  have b29 := tk_bd_ok b29
  obtain ⟨o29, e29, hf⟩ := tk_bi hf
  refine tk_call0 (v := some (.int o29.1)) hs (va_runV (As := []) (rest := []) ⟨hx, hb, hml, hown, ht⟩ (cX5_thrown_ok l hl0 G N x2 o28.2.1 o28.2.2 o29.1 o29.2.1 o29.2.2 e29) (kwX5_thrown ht wmL_100 rfl rfl ⟨Nat.le_of_ble_eq_true rfl, Nat.le_of_ble_eq_true rfl⟩) (tk_preV hE hs (tk_ok_ok p29) rfl) rfl rfl hl.1 rfl (lv_room (Nat.le_of_ble_eq_true rfl)) dL_law_523 ⟨b29.1, b29.2⟩) (fun H locs hs => ?_)
  refine W.eq (g2 := F0 m 526 ls [.int o29.1]) rfl ?_
  refine lv_iload hx hb dL_law_526 (lv_at hl 6 rfl) ?_
  refine lv_icmp_eq (tgt := 533) hx hb dL_law_528 (by decide) (fun c30 => ?_) (fun c30 => ?_)
  · rw [if_pos c30] at hf
    refine lv_iload hx hb dL_law_533 (lv_at hl 6 rfl) ?_
    refine lv_if_ne (tgt := 557) hx hb dL_law_535 (by decide) (fun c31 => ?_) (fun c31 => ?_)
    · rw [if_neg c31] at hf
      exact tL_557 K k23 hk23 x1 x2 x3 x4 o29.2.1 o29.2.2 kc ks _ _ _ hf hs (lv_sub hl [1, 2, 3, 4, 5] rfl)
    · rw [if_pos c31] at hf
      refine lv_aload_n hx hb dL_law_538 rfl (lv_at hl 4 rfl) ?_
      refine lv_iconst (v := 0) hx hb dL_law_539 (by decide) ?_
      obtain ⟨v32, e32, hf⟩ := tk_bi hf
      refine tk_lald hx hb hE hs e32 dL_law_540 ?_
      refine lv_iload hx hb dL_law_541 (lv_at hl 0 rfl) ?_
      refine lv_if_eq (tgt := 550) hx hb dL_law_543 (by decide) (fun c33 => ?_) (fun c33 => ?_)
      · rw [if_pos c33] at hf
        refine lv_lconst (v := 0) hx hb dL_law_550 (by decide) ?_
        exact tL_551 K k23 hk23 x1 x2 x3 x4 0 v32 o29.2.1 o29.2.2 kc ks _ _ _ hf hs (lv_sub hl [1, 2, 3, 4, 5] rfl)
      · rw [if_neg c33] at hf
        refine lv_lconst (v := 1) hx hb dL_law_546 (by decide) ?_
        refine lv_goto (tgt := 551) hx hb dL_law_547 (by decide) ?_
        exact tL_551 K k23 hk23 x1 x2 x3 x4 1 v32 o29.2.1 o29.2.2 kc ks _ _ _ hf hs (lv_sub hl [1, 2, 3, 4, 5] rfl)
  · rw [if_neg c30] at hf
    refine lv_iconst (v := 0) hx hb dL_law_531 (by decide) ?_
    cases hf
set_option maxHeartbeats 16000000 in
set_option maxRecDepth 100000 in
theorem tL_484 {p : Program} {l : Launch} {e : Env} {s : State} {m : MethodId} {below : List Frame} {meth : Method} {c : Code} {G : tk_AG} {N : Nat} {mf : tk_AH → Nat} {b L : Nat} {xs : Nat → Int32} (K : tk_lc p l s m meth c G b L xs) : ∀ (k23 : Nat → Nat → Nat → Int32 → tk_AH → Nat → Nat → Nat → Option (Unit)), (∀ (x1 : Nat) (x2 : Nat) (x3 : Nat) (x4 : Int32) (h : tk_AH) (sz kc ks : Nat) (H : Heap) (locs : List Loc) (ls : Array Slot), k23 x1 x2 x3 x4 h sz kc ks = some () → tk_sw G s h sz H locs → lv_has ls 7 [(0, .ref b), (1, .ref x1), (2, .ref x2), (3, .ref x3), (4, .int x4)] → W p l e room_1 s m #[Value.ref b] below meth c H locs kc ks (lw_Z below #[Value.ref b] s) (F0 m 23 ls [])) → ∀ (x1 : Nat) (x2 : Nat) (x3 : Nat) (x4 : Int32) (y0 : Int32) (y1 : Int32) (y2 : Int32) (y3 : Nat) (h : tk_AH) (sz kc ks : Nat) (H : Heap) (locs : List Loc) (ls : Array Slot), fL_law_484 N mf L xs k23 x1 x2 x3 x4 y0 y1 y2 y3 h sz kc ks = some () → tk_sw G s h sz H locs → lv_has ls 7 [(0, .ref b), (1, .ref x1), (2, .ref x2), (3, .ref x3), (4, .int x4)] → W p l e room_1 s m #[Value.ref b] below meth c H locs kc ks (lw_Z below #[Value.ref b] s) (F0 m 484 ls [.int y0, .int y1, .int y2, .ref y3]) := by
  obtain ⟨hx, hb, hr, hml, hown, ht, hX, hbl, hlocks, hE, hG, hbA, hl0⟩ := id K
  intro k23 hk23 x1 x2 x3 x4 y0 y1 y2 y3 h sz kc ks H locs ls hf hs hl
  unfold fL_law_484 at hf
  refine lv_aload_n hx hb dL_law_484 rfl (lv_at hl 3 rfl) ?_
  obtain ⟨_, b34, hf⟩ := tk_bi hf
  have b34 := tk_bd_ok b34
  obtain ⟨o34, e34, hf⟩ := tk_bi hf
  refine tk_call (v := some (.int o34.1)) hs (vx_runSW (As := [.ref y3, .int y2, .int y1, .int y0, .ref x3]) (rest := []) ⟨hx, hb, hml, hown, ht⟩ (cL_bar_ok l hl0 G N y3 y2 y1 y0 x3 h sz o34.1 o34.2.1 o34.2.2 e34) (kwL_bar ht wmL_115 rfl rfl ⟨Nat.le_of_ble_eq_true rfl, Nat.le_of_ble_eq_true rfl⟩) (tk_preS hE hs) rfl rfl hl.1 rfl (lv_room (Nat.le_of_ble_eq_true rfl)) dL_law_485 ⟨b34.1, b34.2⟩) (fun H locs hs => ?_)
  refine W.eq (g2 := F0 m 488 ls [.int o34.1]) rfl ?_
  refine W.widen (k := kc + 1) (n := ks + 6) (Nat.le_refl _) (Nat.le_refl _) ?_
  refine lv_istore (lv' := [(5, .int o34.1), (0, .ref b), (1, .ref x1), (2, .ref x2), (3, .ref x3), (4, .int x4)]) hx hb dL_law_488 hl (by decide) rfl (fun ls hl => ?_)
  refine lv_aload_n hx hb dL_law_490 rfl (lv_at hl 3 rfl) ?_
  refine lv_aload_n hx hb dL_law_491 rfl (lv_at hl 1 rfl) ?_
  refine lv_iload hx hb dL_law_492 (lv_at hl 5 rfl) ?_
  refine lv_iconst (v := 1) hx hb dL_law_494 (by decide) ?_
  refine lv_iadd hx hb dL_law_495 ?_
  obtain ⟨v35, e35, hf⟩ := tk_bi hf
  refine tk_sld hx hb hX hbl hbA hs e35 dL_law_496 ?_
  refine lv_aload_n hx hb dL_law_497 rfl (lv_at hl 1 rfl) ?_
  refine lv_iload hx hb dL_law_498 (lv_at hl 5 rfl) ?_
  refine lv_iconst (v := 2) hx hb dL_law_500 (by decide) ?_
  refine lv_iadd hx hb dL_law_501 ?_
  obtain ⟨v36, e36, hf⟩ := tk_bi hf
  refine tk_sld hx hb hX hbl hbA hs e36 dL_law_502 ?_
  refine lv_aload_n hx hb dL_law_503 rfl (lv_at hl 1 rfl) ?_
  refine lv_iload hx hb dL_law_504 (lv_at hl 5 rfl) ?_
  refine lv_iconst (v := 3) hx hb dL_law_506 (by decide) ?_
  refine lv_iadd hx hb dL_law_507 ?_
  obtain ⟨v37, e37, hf⟩ := tk_bi hf
  refine tk_sld hx hb hX hbl hbA hs e37 dL_law_508 ?_
  refine lv_if_eq (tgt := 516) hx hb dL_law_509 (by decide) (fun c38 => ?_) (fun c38 => ?_)
  · rw [if_pos c38] at hf
    refine lv_iconst (v := 0) hx hb dL_law_516 (by decide) ?_
    exact tL_517 K k23 hk23 x1 x2 x3 x4 o34.1 0 v36 v35 x2 o34.2.1 o34.2.2 (kc + 1) (ks + 6) _ _ _ hf hs (lv_sub hl [1, 2, 3, 4, 5, 0] rfl)
  · rw [if_neg c38] at hf
    refine lv_iconst (v := 1) hx hb dL_law_512 (by decide) ?_
    refine lv_goto (tgt := 517) hx hb dL_law_513 (by decide) ?_
    exact tL_517 K k23 hk23 x1 x2 x3 x4 o34.1 1 v36 v35 x2 o34.2.1 o34.2.2 (kc + 1) (ks + 6) _ _ _ hf hs (lv_sub hl [1, 2, 3, 4, 5, 0] rfl)
set_option maxHeartbeats 16000000 in
set_option maxRecDepth 100000 in
theorem tL_454 {p : Program} {l : Launch} {e : Env} {s : State} {m : MethodId} {below : List Frame} {meth : Method} {c : Code} {G : tk_AG} {N : Nat} {mf : tk_AH → Nat} {b L : Nat} {xs : Nat → Int32} (K : tk_lc p l s m meth c G b L xs) : ∀ (k23 : Nat → Nat → Nat → Int32 → tk_AH → Nat → Nat → Nat → Option (Unit)), (∀ (x1 : Nat) (x2 : Nat) (x3 : Nat) (x4 : Int32) (h : tk_AH) (sz kc ks : Nat) (H : Heap) (locs : List Loc) (ls : Array Slot), k23 x1 x2 x3 x4 h sz kc ks = some () → tk_sw G s h sz H locs → lv_has ls 7 [(0, .ref b), (1, .ref x1), (2, .ref x2), (3, .ref x3), (4, .int x4)] → W p l e room_1 s m #[Value.ref b] below meth c H locs kc ks (lw_Z below #[Value.ref b] s) (F0 m 23 ls [])) → ∀ (x1 : Nat) (x2 : Nat) (x3 : Nat) (x4 : Int32) (h : tk_AH) (sz kc ks : Nat) (H : Heap) (locs : List Loc) (ls : Array Slot), fL_law_454 N mf L xs k23 x1 x2 x3 x4 h sz kc ks = some () → tk_sw G s h sz H locs → lv_has ls 7 [(0, .ref b), (1, .ref x1), (2, .ref x2), (3, .ref x3), (4, .int x4)] → W p l e room_1 s m #[Value.ref b] below meth c H locs kc ks (lw_Z below #[Value.ref b] s) (F0 m 454 ls []) := by
  obtain ⟨hx, hb, hr, hml, hown, ht, hX, hbl, hlocks, hE, hG, hbA, hl0⟩ := id K
  intro k23 hk23 x1 x2 x3 x4 h sz kc ks H locs ls hf hs hl
  unfold fL_law_454 at hf
  refine lv_goto (tgt := 1856) hx hb dL_law_454 (by decide) ?_
  exact tL_1856 K k23 hk23 x1 x2 x3 x4 h sz kc ks _ _ _ hf hs (lv_sub hl [0, 1, 2, 3, 4] rfl)
set_option maxHeartbeats 16000000 in
set_option maxRecDepth 100000 in
theorem tL_398 {p : Program} {l : Launch} {e : Env} {s : State} {m : MethodId} {below : List Frame} {meth : Method} {c : Code} {G : tk_AG} {N : Nat} {mf : tk_AH → Nat} {b L : Nat} {xs : Nat → Int32} (K : tk_lc p l s m meth c G b L xs) : ∀ (k23 : Nat → Nat → Nat → Int32 → tk_AH → Nat → Nat → Nat → Option (Unit)), (∀ (x1 : Nat) (x2 : Nat) (x3 : Nat) (x4 : Int32) (h : tk_AH) (sz kc ks : Nat) (H : Heap) (locs : List Loc) (ls : Array Slot), k23 x1 x2 x3 x4 h sz kc ks = some () → tk_sw G s h sz H locs → lv_has ls 7 [(0, .ref b), (1, .ref x1), (2, .ref x2), (3, .ref x3), (4, .int x4)] → W p l e room_1 s m #[Value.ref b] below meth c H locs kc ks (lw_Z below #[Value.ref b] s) (F0 m 23 ls [])) → ∀ (x1 : Nat) (x2 : Nat) (x3 : Nat) (x4 : Int32) (h : tk_AH) (sz kc ks : Nat) (H : Heap) (locs : List Loc) (ls : Array Slot), fL_law_398 N mf L xs k23 x1 x2 x3 x4 h sz kc ks = some () → tk_sw G s h sz H locs → lv_has ls 7 [(0, .ref b), (1, .ref x1), (2, .ref x2), (3, .ref x3), (4, .int x4)] → W p l e room_1 s m #[Value.ref b] below meth c H locs kc ks (lw_Z below #[Value.ref b] s) (F0 m 398 ls []) := by
  obtain ⟨hx, hb, hr, hml, hown, ht, hX, hbl, hlocks, hE, hG, hbA, hl0⟩ := id K
  intro k23 hk23 x1 x2 x3 x4 h sz kc ks H locs ls hf hs hl
  unfold fL_law_398 at hf
  refine lv_goto (tgt := 1856) hx hb dL_law_398 (by decide) ?_
  exact tL_1856 K k23 hk23 x1 x2 x3 x4 h sz kc ks _ _ _ hf hs (lv_sub hl [0, 1, 2, 3, 4] rfl)
set_option maxHeartbeats 16000000 in
set_option maxRecDepth 100000 in
theorem tL_330 {p : Program} {l : Launch} {e : Env} {s : State} {m : MethodId} {below : List Frame} {meth : Method} {c : Code} {G : tk_AG} {N : Nat} {mf : tk_AH → Nat} {b L : Nat} {xs : Nat → Int32} (K : tk_lc p l s m meth c G b L xs) : ∀ (k23 : Nat → Nat → Nat → Int32 → tk_AH → Nat → Nat → Nat → Option (Unit)), (∀ (x1 : Nat) (x2 : Nat) (x3 : Nat) (x4 : Int32) (h : tk_AH) (sz kc ks : Nat) (H : Heap) (locs : List Loc) (ls : Array Slot), k23 x1 x2 x3 x4 h sz kc ks = some () → tk_sw G s h sz H locs → lv_has ls 7 [(0, .ref b), (1, .ref x1), (2, .ref x2), (3, .ref x3), (4, .int x4)] → W p l e room_1 s m #[Value.ref b] below meth c H locs kc ks (lw_Z below #[Value.ref b] s) (F0 m 23 ls [])) → ∀ (x1 : Nat) (x2 : Nat) (x3 : Nat) (x4 : Int32) (h : tk_AH) (sz kc ks : Nat) (H : Heap) (locs : List Loc) (ls : Array Slot), fL_law_330 N mf L xs k23 x1 x2 x3 x4 h sz kc ks = some () → tk_sw G s h sz H locs → lv_has ls 7 [(0, .ref b), (1, .ref x1), (2, .ref x2), (3, .ref x3), (4, .int x4)] → W p l e room_1 s m #[Value.ref b] below meth c H locs kc ks (lw_Z below #[Value.ref b] s) (F0 m 330 ls []) := by
  obtain ⟨hx, hb, hr, hml, hown, ht, hX, hbl, hlocks, hE, hG, hbA, hl0⟩ := id K
  intro k23 hk23 x1 x2 x3 x4 h sz kc ks H locs ls hf hs hl
  unfold fL_law_330 at hf
  refine lv_goto (tgt := 1856) hx hb dL_law_330 (by decide) ?_
  exact tL_1856 K k23 hk23 x1 x2 x3 x4 h sz kc ks _ _ _ hf hs (lv_sub hl [0, 1, 2, 3, 4] rfl)
set_option maxHeartbeats 16000000 in
set_option maxRecDepth 100000 in
theorem tL_250 {p : Program} {l : Launch} {e : Env} {s : State} {m : MethodId} {below : List Frame} {meth : Method} {c : Code} {G : tk_AG} {N : Nat} {mf : tk_AH → Nat} {b L : Nat} {xs : Nat → Int32} (K : tk_lc p l s m meth c G b L xs) : ∀ (k23 : Nat → Nat → Nat → Int32 → tk_AH → Nat → Nat → Nat → Option (Unit)), (∀ (x1 : Nat) (x2 : Nat) (x3 : Nat) (x4 : Int32) (h : tk_AH) (sz kc ks : Nat) (H : Heap) (locs : List Loc) (ls : Array Slot), k23 x1 x2 x3 x4 h sz kc ks = some () → tk_sw G s h sz H locs → lv_has ls 7 [(0, .ref b), (1, .ref x1), (2, .ref x2), (3, .ref x3), (4, .int x4)] → W p l e room_1 s m #[Value.ref b] below meth c H locs kc ks (lw_Z below #[Value.ref b] s) (F0 m 23 ls [])) → ∀ (x1 : Nat) (x2 : Nat) (x3 : Nat) (x4 : Int32) (h : tk_AH) (sz kc ks : Nat) (H : Heap) (locs : List Loc) (ls : Array Slot), fL_law_250 N mf L xs k23 x1 x2 x3 x4 h sz kc ks = some () → tk_sw G s h sz H locs → lv_has ls 7 [(0, .ref b), (1, .ref x1), (2, .ref x2), (3, .ref x3), (4, .int x4)] → W p l e room_1 s m #[Value.ref b] below meth c H locs kc ks (lw_Z below #[Value.ref b] s) (F0 m 250 ls []) := by
  obtain ⟨hx, hb, hr, hml, hown, ht, hX, hbl, hlocks, hE, hG, hbA, hl0⟩ := id K
  intro k23 hk23 x1 x2 x3 x4 h sz kc ks H locs ls hf hs hl
  unfold fL_law_250 at hf
  refine lv_goto (tgt := 1856) hx hb dL_law_250 (by decide) ?_
  exact tL_1856 K k23 hk23 x1 x2 x3 x4 h sz kc ks _ _ _ hf hs (lv_sub hl [0, 1, 2, 3, 4] rfl)
set_option maxHeartbeats 16000000 in
set_option maxRecDepth 100000 in
theorem tL_23 {p : Program} {l : Launch} {e : Env} {s : State} {m : MethodId} {below : List Frame} {meth : Method} {c : Code} {G : tk_AG} {N : Nat} {mf : tk_AH → Nat} {b L : Nat} {xs : Nat → Int32} (K : tk_lc p l s m meth c G b L xs) : ∀ (n : Nat), ∀ (x1 : Nat) (x2 : Nat) (x3 : Nat) (x4 : Int32) (h : tk_AH) (sz kc ks : Nat) (H : Heap) (locs : List Loc) (ls : Array Slot), fL_law_23 N mf L xs n x1 x2 x3 x4 h sz kc ks = some () → tk_sw G s h sz H locs → lv_has ls 7 [(0, .ref b), (1, .ref x1), (2, .ref x2), (3, .ref x3), (4, .int x4)] → W p l e room_1 s m #[Value.ref b] below meth c H locs kc ks (lw_Z below #[Value.ref b] s) (F0 m 23 ls []) := by
  obtain ⟨hx, hb, hr, hml, hown, ht, hX, hbl, hlocks, hE, hG, hbA, hl0⟩ := id K
  intro n
  induction n with
  | zero =>
    intro x1 x2 x3 x4 h sz kc ks H locs ls hf
    cases hf
  | succ n ih =>
    intro x1 x2 x3 x4 h sz kc ks H locs ls hf hs hl
    rw [fL_law_23] at hf
    refine lv_iload hx hb dL_law_23 (lv_at hl 4 rfl) ?_
    refine lv_aload_n hx hb dL_law_25 rfl (lv_at hl 0 rfl) ?_
    refine va_slen hx hb hX hbl hbA hs.2.2.2 dL_law_26 ?_
    refine lv_bipush (v := 6) hx hb dL_law_27 (by decide) ?_
    refine lv_isub hx hb dL_law_29 ?_
    refine lv_icmp_gt (tgt := 1862) hx hb dL_law_30 (by decide) (fun c40 => ?_) (fun c40 => ?_)
    · rw [if_pos c40] at hf
      refine lv_iconst (v := 1) hx hb dL_law_1862 (by decide) ?_
      obtain ⟨_, b41, hf⟩ := tk_bi hf
      have b41 := tk_bd_ok b41
      refine va_forget (fun q hq => by have hq9 := hs.2.2.2.2.2 q hq; rw [← hG]; exact hq9) ?_
      refine W.widen (k := 601024) (n := 7293034) b41.1 b41.2 ?_
      exact lw_ret hx hb hr hlocks dL_law_1863
    · rw [if_neg c40] at hf
      refine lv_aload_n hx hb dL_law_33 rfl (lv_at hl 0 rfl) ?_
      refine lv_iload hx hb dL_law_34 (lv_at hl 4 rfl) ?_
      obtain ⟨v42, e42, hf⟩ := tk_bi hf
      refine tk_sld hx hb hX hbl hbA hs e42 dL_law_36 ?_
      refine lv_bipush (v := 31) hx hb dL_law_37 (by decide) ?_
      refine lv_iand hx hb dL_law_39 ?_
      by_cases c43 : (v42 &&& 31) = 0
      · rw [if_pos c43] at hf
        refine lv_tableIn (off := 120) (tgt := 160) hx hb dL_law_40 (by rw [c43]; decide) (by rw [c43]; decide) (by rw [c43]; rfl) (by decide) ?_
        refine lv_aload_n hx hb dL_law_160 rfl (lv_at hl 1 rfl) ?_
        refine lv_aload_n hx hb dL_law_161 rfl (lv_at hl 0 rfl) ?_
        refine lv_iload hx hb dL_law_162 (lv_at hl 4 rfl) ?_
        refine lv_iconst (v := 1) hx hb dL_law_164 (by decide) ?_
        refine lv_iadd hx hb dL_law_165 ?_
        obtain ⟨v44, e44, hf⟩ := tk_bi hf
        refine tk_sld hx hb hX hbl hbA hs e44 dL_law_166 ?_
        obtain ⟨_, p45, hf⟩ := tk_bi hf
        obtain ⟨_, b45, hf⟩ := tk_bi hf
        have b45 := tk_bd_ok b45
        obtain ⟨o45, e45, hf⟩ := tk_bi hf
        refine tk_call (v := some (.int o45.1)) hs (va_runV (As := [.int v44]) (rest := []) ⟨hx, hb, hml, hown, ht⟩ (cX4_learner_ok l hl0 G N x1 v44 h sz o45.1 o45.2.1 o45.2.2 e45) (kwX4_learner ht wmL_90 rfl rfl ⟨Nat.le_of_ble_eq_true rfl, Nat.le_of_ble_eq_true rfl⟩) (tk_preV hE hs (tk_ok_ok p45) rfl) rfl rfl hl.1 rfl (lv_room (Nat.le_of_ble_eq_true rfl)) dL_law_167 ⟨b45.1, b45.2⟩) (fun H locs hs => ?_)
        refine W.eq (g2 := F0 m 170 ls [.int o45.1]) rfl ?_
        refine W.widen (k := kc + 9) (n := ks + 137) (Nat.le_refl _) (Nat.le_refl _) ?_
        refine lv_aload_n hx hb dL_law_170 rfl (lv_at hl 2 rfl) ?_
        refine lv_aload_n hx hb dL_law_171 rfl (lv_at hl 0 rfl) ?_
        refine lv_iload hx hb dL_law_172 (lv_at hl 4 rfl) ?_
        refine lv_iconst (v := 1) hx hb dL_law_174 (by decide) ?_
        refine lv_iadd hx hb dL_law_175 ?_
        obtain ⟨v46, e46, hf⟩ := tk_bi hf
        refine tk_sld hx hb hX hbl hbA hs e46 dL_law_176 ?_
        obtain ⟨_, p47, hf⟩ := tk_bi hf
        obtain ⟨_, b47, hf⟩ := tk_bi hf
        have b47 := tk_bd_ok b47
        obtain ⟨o47, e47, hf⟩ := tk_bi hf
        refine tk_call0 (v := some (.int o47.1)) hs (va_runV (As := [.int v46]) (rest := [.int o45.1]) ⟨hx, hb, hml, hown, ht⟩ (cX5_learner_ok l hl0 G N x2 v46 o45.2.1 o45.2.2 o47.1 o47.2.1 o47.2.2 e47) (kwX5_learner ht wmL_93 rfl rfl ⟨Nat.le_of_ble_eq_true rfl, Nat.le_of_ble_eq_true rfl⟩) (tk_preV hE hs (tk_ok_ok p47) rfl) rfl rfl hl.1 rfl (lv_room (Nat.le_of_ble_eq_true rfl)) dL_law_177 ⟨b47.1, b47.2⟩) (fun H locs hs => ?_)
        refine W.eq (g2 := F0 m 180 ls [.int o47.1, .int o45.1]) rfl ?_
        refine lv_icmp_eq (tgt := 1856) hx hb dL_law_180 (by decide) (fun c48 => ?_) (fun c48 => ?_)
        · rw [if_pos c48] at hf
          exact tL_1856 K (fL_law_23 N mf L xs n) ih x1 x2 x3 x4 o47.2.1 o47.2.2 (kc + 9) (ks + 137) _ _ _ hf hs (lv_sub hl [0, 1, 2, 3, 4] rfl)
        · rw [if_neg c48] at hf
          refine lv_iconst (v := 0) hx hb dL_law_183 (by decide) ?_
          cases hf
      rw [if_neg c43] at hf
      by_cases c49 : (v42 &&& 31) = 1
      · rw [if_pos c49] at hf
        refine lv_tableIn (off := 145) (tgt := 185) hx hb dL_law_40 (by rw [c49]; decide) (by rw [c49]; decide) (by rw [c49]; rfl) (by decide) ?_
        refine lv_aload_n hx hb dL_law_185 rfl (lv_at hl 1 rfl) ?_
        refine lv_aload_n hx hb dL_law_186 rfl (lv_at hl 0 rfl) ?_
        refine lv_iload hx hb dL_law_187 (lv_at hl 4 rfl) ?_
        refine lv_iconst (v := 1) hx hb dL_law_189 (by decide) ?_
        refine lv_iadd hx hb dL_law_190 ?_
        obtain ⟨v50, e50, hf⟩ := tk_bi hf
        refine tk_sld hx hb hX hbl hbA hs e50 dL_law_191 ?_
        refine lv_aload_n hx hb dL_law_192 rfl (lv_at hl 0 rfl) ?_
        refine lv_iload hx hb dL_law_193 (lv_at hl 4 rfl) ?_
        refine lv_iconst (v := 2) hx hb dL_law_195 (by decide) ?_
        refine lv_iadd hx hb dL_law_196 ?_
        obtain ⟨v51, e51, hf⟩ := tk_bi hf
        refine tk_sld hx hb hX hbl hbA hs e51 dL_law_197 ?_
        refine lv_aload_n hx hb dL_law_198 rfl (lv_at hl 3 rfl) ?_
        obtain ⟨_, b52, hf⟩ := tk_bi hf
        have b52 := tk_bd_ok b52
        obtain ⟨o52, e52, hf⟩ := tk_bi hf
        refine tk_call (v := some (.int o52.1)) hs (vx_runSW (As := [.ref x1, .int v50, .int v51, .ref x3]) (rest := []) ⟨hx, hb, hml, hown, ht⟩ (cL_hours_ok l hl0 G N x1 v50 v51 x3 h sz o52.1 o52.2.1 o52.2.2 e52) (kwL_hours ht wmL_94 rfl rfl ⟨Nat.le_of_ble_eq_true rfl, Nat.le_of_ble_eq_true rfl⟩) (tk_preS hE hs) rfl rfl hl.1 rfl (lv_room (Nat.le_of_ble_eq_true rfl)) dL_law_199 ⟨b52.1, b52.2⟩) (fun H locs hs => ?_)
        refine W.eq (g2 := F0 m 202 ls [.int o52.1]) rfl ?_
        refine W.widen (k := kc + 1) (n := ks + 6) (Nat.le_refl _) (Nat.le_refl _) ?_
        refine lv_istore (lv' := [(5, .int o52.1), (0, .ref b), (1, .ref x1), (2, .ref x2), (3, .ref x3), (4, .int x4)]) hx hb dL_law_202 hl (by decide) rfl (fun ls hl => ?_)
        refine lv_aload_n hx hb dL_law_204 rfl (lv_at hl 3 rfl) ?_
        refine lv_aload_n hx hb dL_law_205 rfl (lv_at hl 1 rfl) ?_
        refine lv_iload hx hb dL_law_206 (lv_at hl 5 rfl) ?_
        refine lv_iconst (v := 1) hx hb dL_law_208 (by decide) ?_
        refine lv_iadd hx hb dL_law_209 ?_
        obtain ⟨v53, e53, hf⟩ := tk_bi hf
        refine tk_sld hx hb hX hbl hbA hs e53 dL_law_210 ?_
        refine lv_aload_n hx hb dL_law_211 rfl (lv_at hl 1 rfl) ?_
        refine lv_iload hx hb dL_law_212 (lv_at hl 5 rfl) ?_
        refine lv_iconst (v := 2) hx hb dL_law_214 (by decide) ?_
        refine lv_iadd hx hb dL_law_215 ?_
        obtain ⟨v54, e54, hf⟩ := tk_bi hf
        refine tk_sld hx hb hX hbl hbA hs e54 dL_law_216 ?_
        obtain ⟨_, p55, hf⟩ := tk_bi hf
        obtain ⟨_, b55, hf⟩ := tk_bi hf
        have b55 := tk_bd_ok b55
        obtain ⟨o55, e55, hf⟩ := tk_bi hf
        refine tk_call0 (v := some (.int o55.1)) hs (va_runV (As := [.int v53, .int v54]) (rest := []) ⟨hx, hb, hml, hown, ht⟩ (cX5_hours_ok l hl0 G N x2 v53 v54 o52.2.1 o52.2.2 o55.1 o55.2.1 o55.2.2 e55) (kwX5_hours ht wmL_99 rfl rfl ⟨Nat.le_of_ble_eq_true rfl, Nat.le_of_ble_eq_true rfl⟩) (tk_preV hE hs (tk_ok_ok p55) rfl) rfl rfl hl.1 rfl (lv_room (Nat.le_of_ble_eq_true rfl)) dL_law_217 ⟨b55.1, b55.2⟩) (fun H locs hs => ?_)
        refine W.eq (g2 := F0 m 220 ls [.int o55.1]) rfl ?_
        refine lv_istore (lv' := [(6, .int o55.1), (5, .int o52.1), (0, .ref b), (1, .ref x1), (2, .ref x2), (3, .ref x3), (4, .int x4)]) hx hb dL_law_220 hl (by decide) rfl (fun ls hl => ?_)
        refine lv_aload_n hx hb dL_law_222 rfl (lv_at hl 4 rfl) ?_
        obtain ⟨_, p56, hf⟩ := tk_bi hf
        obtain ⟨_, b56, hf⟩ := tk_bi hf
        have b56 := tk_bd_ok b56
        obtain ⟨o56, e56, hf⟩ := tk_bi hf
        refine tk_call0 (v := some (.int o56.1)) hs (va_runV (As := []) (rest := []) ⟨hx, hb, hml, hown, ht⟩ (cX5_thrown_ok l hl0 G N x2 o55.2.1 o55.2.2 o56.1 o56.2.1 o56.2.2 e56) (kwX5_thrown ht wmL_100 rfl rfl ⟨Nat.le_of_ble_eq_true rfl, Nat.le_of_ble_eq_true rfl⟩) (tk_preV hE hs (tk_ok_ok p56) rfl) rfl rfl hl.1 rfl (lv_room (Nat.le_of_ble_eq_true rfl)) dL_law_223 ⟨b56.1, b56.2⟩) (fun H locs hs => ?_)
        refine W.eq (g2 := F0 m 226 ls [.int o56.1]) rfl ?_
        refine lv_iload hx hb dL_law_226 (lv_at hl 1 rfl) ?_
        refine lv_icmp_eq (tgt := 233) hx hb dL_law_228 (by decide) (fun c57 => ?_) (fun c57 => ?_)
        · rw [if_pos c57] at hf
          refine lv_iload hx hb dL_law_233 (lv_at hl 1 rfl) ?_
          refine lv_if_ne (tgt := 250) hx hb dL_law_235 (by decide) (fun c58 => ?_) (fun c58 => ?_)
          · rw [if_neg c58] at hf
            exact tL_250 K (fL_law_23 N mf L xs n) ih x1 x2 x3 x4 o56.2.1 o56.2.2 (kc + 1) (ks + 6) _ _ _ hf hs (lv_sub hl [2, 3, 4, 5, 6] rfl)
          · rw [if_pos c58] at hf
            refine lv_aload_n hx hb dL_law_238 rfl (lv_at hl 5 rfl) ?_
            refine lv_iconst (v := 0) hx hb dL_law_239 (by decide) ?_
            obtain ⟨v59, e59, hf⟩ := tk_bi hf
            refine tk_lald hx hb hE hs e59 dL_law_240 ?_
            refine lv_iload hx hb dL_law_241 (lv_at hl 0 rfl) ?_
            refine lv_i2l (v := o55.1.toInt64) hx hb dL_law_243 rfl ?_
            refine W.lcmp hx hb dL_law_244 ?_
            refine lv_if_eq (tgt := 250) hx hb dL_law_245 (by decide) (fun c60 => ?_) (fun c60 => ?_)
            · rw [if_pos c60] at hf
              exact tL_250 K (fL_law_23 N mf L xs n) ih x1 x2 x3 x4 o56.2.1 o56.2.2 (kc + 1) (ks + 6) _ _ _ hf hs (lv_sub hl [2, 3, 4, 5, 6] rfl)
            · rw [if_neg c60] at hf
              refine lv_iconst (v := 0) hx hb dL_law_248 (by decide) ?_
              cases hf
        · rw [if_neg c57] at hf
          refine lv_iconst (v := 0) hx hb dL_law_231 (by decide) ?_
          cases hf
      rw [if_neg c49] at hf
      by_cases c61 : (v42 &&& 31) = 2
      · rw [if_pos c61] at hf
        refine lv_tableIn (off := 213) (tgt := 253) hx hb dL_law_40 (by rw [c61]; decide) (by rw [c61]; decide) (by rw [c61]; rfl) (by decide) ?_
        refine lv_aload_n hx hb dL_law_253 rfl (lv_at hl 1 rfl) ?_
        refine lv_aload_n hx hb dL_law_254 rfl (lv_at hl 0 rfl) ?_
        refine lv_iload hx hb dL_law_255 (lv_at hl 4 rfl) ?_
        refine lv_iconst (v := 1) hx hb dL_law_257 (by decide) ?_
        refine lv_iadd hx hb dL_law_258 ?_
        obtain ⟨v62, e62, hf⟩ := tk_bi hf
        refine tk_sld hx hb hX hbl hbA hs e62 dL_law_259 ?_
        refine lv_aload_n hx hb dL_law_260 rfl (lv_at hl 0 rfl) ?_
        refine lv_iload hx hb dL_law_261 (lv_at hl 4 rfl) ?_
        refine lv_iconst (v := 2) hx hb dL_law_263 (by decide) ?_
        refine lv_iadd hx hb dL_law_264 ?_
        obtain ⟨v63, e63, hf⟩ := tk_bi hf
        refine tk_sld hx hb hX hbl hbA hs e63 dL_law_265 ?_
        refine lv_aload_n hx hb dL_law_266 rfl (lv_at hl 0 rfl) ?_
        refine lv_iload hx hb dL_law_267 (lv_at hl 4 rfl) ?_
        refine lv_iconst (v := 3) hx hb dL_law_269 (by decide) ?_
        refine lv_iadd hx hb dL_law_270 ?_
        obtain ⟨v64, e64, hf⟩ := tk_bi hf
        refine tk_sld hx hb hX hbl hbA hs e64 dL_law_271 ?_
        refine lv_aload_n hx hb dL_law_272 rfl (lv_at hl 3 rfl) ?_
        obtain ⟨_, b65, hf⟩ := tk_bi hf
        have b65 := tk_bd_ok b65
        obtain ⟨o65, e65, hf⟩ := tk_bi hf
        refine tk_call (v := some (.int o65.1)) hs (vx_runSW (As := [.ref x1, .int v62, .int v63, .int v64, .ref x3]) (rest := []) ⟨hx, hb, hml, hown, ht⟩ (cL_claim_ok l hl0 G N x1 v62 v63 v64 x3 h sz o65.1 o65.2.1 o65.2.2 e65) (kwL_claim ht wmL_104 rfl rfl ⟨Nat.le_of_ble_eq_true rfl, Nat.le_of_ble_eq_true rfl⟩) (tk_preS hE hs) rfl rfl hl.1 rfl (lv_room (Nat.le_of_ble_eq_true rfl)) dL_law_273 ⟨b65.1, b65.2⟩) (fun H locs hs => ?_)
        refine W.eq (g2 := F0 m 276 ls [.int o65.1]) rfl ?_
        refine W.widen (k := kc + 1) (n := ks + 6) (Nat.le_refl _) (Nat.le_refl _) ?_
        refine lv_istore (lv' := [(5, .int o65.1), (0, .ref b), (1, .ref x1), (2, .ref x2), (3, .ref x3), (4, .int x4)]) hx hb dL_law_276 hl (by decide) rfl (fun ls hl => ?_)
        refine lv_aload_n hx hb dL_law_278 rfl (lv_at hl 3 rfl) ?_
        refine lv_aload_n hx hb dL_law_279 rfl (lv_at hl 1 rfl) ?_
        refine lv_iload hx hb dL_law_280 (lv_at hl 5 rfl) ?_
        refine lv_iconst (v := 1) hx hb dL_law_282 (by decide) ?_
        refine lv_iadd hx hb dL_law_283 ?_
        obtain ⟨v66, e66, hf⟩ := tk_bi hf
        refine tk_sld hx hb hX hbl hbA hs e66 dL_law_284 ?_
        refine lv_aload_n hx hb dL_law_285 rfl (lv_at hl 1 rfl) ?_
        refine lv_iload hx hb dL_law_286 (lv_at hl 5 rfl) ?_
        refine lv_iconst (v := 2) hx hb dL_law_288 (by decide) ?_
        refine lv_iadd hx hb dL_law_289 ?_
        obtain ⟨v67, e67, hf⟩ := tk_bi hf
        refine tk_sld hx hb hX hbl hbA hs e67 dL_law_290 ?_
        refine lv_aload_n hx hb dL_law_291 rfl (lv_at hl 1 rfl) ?_
        refine lv_iload hx hb dL_law_292 (lv_at hl 5 rfl) ?_
        refine lv_iconst (v := 3) hx hb dL_law_294 (by decide) ?_
        refine lv_iadd hx hb dL_law_295 ?_
        obtain ⟨v68, e68, hf⟩ := tk_bi hf
        refine tk_sld hx hb hX hbl hbA hs e68 dL_law_296 ?_
        obtain ⟨_, p69, hf⟩ := tk_bi hf
        obtain ⟨_, b69, hf⟩ := tk_bi hf
        have b69 := tk_bd_ok b69
        obtain ⟨o69, e69, hf⟩ := tk_bi hf
        refine tk_call0 (v := some (.int o69.1)) hs (va_runV (As := [.int v66, .int v67, .int v68]) (rest := []) ⟨hx, hb, hml, hown, ht⟩ (cX5_claim_ok l hl0 G N x2 v66 v67 v68 o65.2.1 o65.2.2 o69.1 o69.2.1 o69.2.2 e69) (kwX5_claim ht wmL_107 rfl rfl ⟨Nat.le_of_ble_eq_true rfl, Nat.le_of_ble_eq_true rfl⟩) (tk_preV hE hs (tk_ok_ok p69) rfl) rfl rfl hl.1 rfl (lv_room (Nat.le_of_ble_eq_true rfl)) dL_law_297 ⟨b69.1, b69.2⟩) (fun H locs hs => ?_)
        refine W.eq (g2 := F0 m 300 ls [.int o69.1]) rfl ?_
        refine lv_istore (lv' := [(6, .int o69.1), (5, .int o65.1), (0, .ref b), (1, .ref x1), (2, .ref x2), (3, .ref x3), (4, .int x4)]) hx hb dL_law_300 hl (by decide) rfl (fun ls hl => ?_)
        refine lv_aload_n hx hb dL_law_302 rfl (lv_at hl 4 rfl) ?_
        obtain ⟨_, p70, hf⟩ := tk_bi hf
        obtain ⟨_, b70, hf⟩ := tk_bi hf
        have b70 := tk_bd_ok b70
        obtain ⟨o70, e70, hf⟩ := tk_bi hf
        refine tk_call0 (v := some (.int o70.1)) hs (va_runV (As := []) (rest := []) ⟨hx, hb, hml, hown, ht⟩ (cX5_thrown_ok l hl0 G N x2 o69.2.1 o69.2.2 o70.1 o70.2.1 o70.2.2 e70) (kwX5_thrown ht wmL_100 rfl rfl ⟨Nat.le_of_ble_eq_true rfl, Nat.le_of_ble_eq_true rfl⟩) (tk_preV hE hs (tk_ok_ok p70) rfl) rfl rfl hl.1 rfl (lv_room (Nat.le_of_ble_eq_true rfl)) dL_law_303 ⟨b70.1, b70.2⟩) (fun H locs hs => ?_)
        refine W.eq (g2 := F0 m 306 ls [.int o70.1]) rfl ?_
        refine lv_iload hx hb dL_law_306 (lv_at hl 1 rfl) ?_
        refine lv_icmp_eq (tgt := 313) hx hb dL_law_308 (by decide) (fun c71 => ?_) (fun c71 => ?_)
        · rw [if_pos c71] at hf
          refine lv_iload hx hb dL_law_313 (lv_at hl 1 rfl) ?_
          refine lv_if_ne (tgt := 330) hx hb dL_law_315 (by decide) (fun c72 => ?_) (fun c72 => ?_)
          · rw [if_neg c72] at hf
            exact tL_330 K (fL_law_23 N mf L xs n) ih x1 x2 x3 x4 o70.2.1 o70.2.2 (kc + 1) (ks + 6) _ _ _ hf hs (lv_sub hl [2, 3, 4, 5, 6] rfl)
          · rw [if_pos c72] at hf
            refine lv_aload_n hx hb dL_law_318 rfl (lv_at hl 5 rfl) ?_
            refine lv_iconst (v := 0) hx hb dL_law_319 (by decide) ?_
            obtain ⟨v73, e73, hf⟩ := tk_bi hf
            refine tk_lald hx hb hE hs e73 dL_law_320 ?_
            refine lv_iload hx hb dL_law_321 (lv_at hl 0 rfl) ?_
            refine lv_i2l (v := o69.1.toInt64) hx hb dL_law_323 rfl ?_
            refine W.lcmp hx hb dL_law_324 ?_
            refine lv_if_eq (tgt := 330) hx hb dL_law_325 (by decide) (fun c74 => ?_) (fun c74 => ?_)
            · rw [if_pos c74] at hf
              exact tL_330 K (fL_law_23 N mf L xs n) ih x1 x2 x3 x4 o70.2.1 o70.2.2 (kc + 1) (ks + 6) _ _ _ hf hs (lv_sub hl [2, 3, 4, 5, 6] rfl)
            · rw [if_neg c74] at hf
              refine lv_iconst (v := 0) hx hb dL_law_328 (by decide) ?_
              cases hf
        · rw [if_neg c71] at hf
          refine lv_iconst (v := 0) hx hb dL_law_311 (by decide) ?_
          cases hf
      rw [if_neg c61] at hf
      by_cases c75 : (v42 &&& 31) = 3
      · rw [if_pos c75] at hf
        refine lv_tableIn (off := 293) (tgt := 333) hx hb dL_law_40 (by rw [c75]; decide) (by rw [c75]; decide) (by rw [c75]; rfl) (by decide) ?_
        refine lv_aload_n hx hb dL_law_333 rfl (lv_at hl 1 rfl) ?_
        refine lv_aload_n hx hb dL_law_334 rfl (lv_at hl 0 rfl) ?_
        refine lv_iload hx hb dL_law_335 (lv_at hl 4 rfl) ?_
        refine lv_iconst (v := 1) hx hb dL_law_337 (by decide) ?_
        refine lv_iadd hx hb dL_law_338 ?_
        obtain ⟨v76, e76, hf⟩ := tk_bi hf
        refine tk_sld hx hb hX hbl hbA hs e76 dL_law_339 ?_
        refine lv_aload_n hx hb dL_law_340 rfl (lv_at hl 0 rfl) ?_
        refine lv_iload hx hb dL_law_341 (lv_at hl 4 rfl) ?_
        refine lv_iconst (v := 2) hx hb dL_law_343 (by decide) ?_
        refine lv_iadd hx hb dL_law_344 ?_
        obtain ⟨v77, e77, hf⟩ := tk_bi hf
        refine tk_sld hx hb hX hbl hbA hs e77 dL_law_345 ?_
        refine lv_aload_n hx hb dL_law_346 rfl (lv_at hl 3 rfl) ?_
        obtain ⟨_, b78, hf⟩ := tk_bi hf
        have b78 := tk_bd_ok b78
        obtain ⟨o78, e78, hf⟩ := tk_bi hf
        refine tk_call (v := some (.int o78.1)) hs (vx_runSW (As := [.ref x1, .int v76, .int v77, .ref x3]) (rest := []) ⟨hx, hb, hml, hown, ht⟩ (cL_want_ok l hl0 G N x1 v76 v77 x3 h sz o78.1 o78.2.1 o78.2.2 e78) (kwL_want ht wmL_108 rfl rfl ⟨Nat.le_of_ble_eq_true rfl, Nat.le_of_ble_eq_true rfl⟩) (tk_preS hE hs) rfl rfl hl.1 rfl (lv_room (Nat.le_of_ble_eq_true rfl)) dL_law_347 ⟨b78.1, b78.2⟩) (fun H locs hs => ?_)
        refine W.eq (g2 := F0 m 350 ls [.int o78.1]) rfl ?_
        refine W.widen (k := kc + 1) (n := ks + 6) (Nat.le_refl _) (Nat.le_refl _) ?_
        refine lv_istore (lv' := [(5, .int o78.1), (0, .ref b), (1, .ref x1), (2, .ref x2), (3, .ref x3), (4, .int x4)]) hx hb dL_law_350 hl (by decide) rfl (fun ls hl => ?_)
        refine lv_aload_n hx hb dL_law_352 rfl (lv_at hl 3 rfl) ?_
        refine lv_aload_n hx hb dL_law_353 rfl (lv_at hl 1 rfl) ?_
        refine lv_iload hx hb dL_law_354 (lv_at hl 5 rfl) ?_
        refine lv_iconst (v := 1) hx hb dL_law_356 (by decide) ?_
        refine lv_iadd hx hb dL_law_357 ?_
        obtain ⟨v79, e79, hf⟩ := tk_bi hf
        refine tk_sld hx hb hX hbl hbA hs e79 dL_law_358 ?_
        refine lv_aload_n hx hb dL_law_359 rfl (lv_at hl 1 rfl) ?_
        refine lv_iload hx hb dL_law_360 (lv_at hl 5 rfl) ?_
        refine lv_iconst (v := 2) hx hb dL_law_362 (by decide) ?_
        refine lv_iadd hx hb dL_law_363 ?_
        obtain ⟨v80, e80, hf⟩ := tk_bi hf
        refine tk_sld hx hb hX hbl hbA hs e80 dL_law_364 ?_
        obtain ⟨_, p81, hf⟩ := tk_bi hf
        obtain ⟨_, b81, hf⟩ := tk_bi hf
        have b81 := tk_bd_ok b81
        obtain ⟨o81, e81, hf⟩ := tk_bi hf
        refine tk_call0 (v := some (.int o81.1)) hs (va_runV (As := [.int v79, .int v80]) (rest := []) ⟨hx, hb, hml, hown, ht⟩ (cX5_want_ok l hl0 G N x2 v79 v80 o78.2.1 o78.2.2 o81.1 o81.2.1 o81.2.2 e81) (kwX5_want ht wmL_110 rfl rfl ⟨Nat.le_of_ble_eq_true rfl, Nat.le_of_ble_eq_true rfl⟩) (tk_preV hE hs (tk_ok_ok p81) rfl) rfl rfl hl.1 rfl (lv_room (Nat.le_of_ble_eq_true rfl)) dL_law_365 ⟨b81.1, b81.2⟩) (fun H locs hs => ?_)
        refine W.eq (g2 := F0 m 368 ls [.int o81.1]) rfl ?_
        refine lv_istore (lv' := [(6, .int o81.1), (5, .int o78.1), (0, .ref b), (1, .ref x1), (2, .ref x2), (3, .ref x3), (4, .int x4)]) hx hb dL_law_368 hl (by decide) rfl (fun ls hl => ?_)
        refine lv_aload_n hx hb dL_law_370 rfl (lv_at hl 4 rfl) ?_
        obtain ⟨_, p82, hf⟩ := tk_bi hf
        obtain ⟨_, b82, hf⟩ := tk_bi hf
        have b82 := tk_bd_ok b82
        obtain ⟨o82, e82, hf⟩ := tk_bi hf
        refine tk_call0 (v := some (.int o82.1)) hs (va_runV (As := []) (rest := []) ⟨hx, hb, hml, hown, ht⟩ (cX5_thrown_ok l hl0 G N x2 o81.2.1 o81.2.2 o82.1 o82.2.1 o82.2.2 e82) (kwX5_thrown ht wmL_100 rfl rfl ⟨Nat.le_of_ble_eq_true rfl, Nat.le_of_ble_eq_true rfl⟩) (tk_preV hE hs (tk_ok_ok p82) rfl) rfl rfl hl.1 rfl (lv_room (Nat.le_of_ble_eq_true rfl)) dL_law_371 ⟨b82.1, b82.2⟩) (fun H locs hs => ?_)
        refine W.eq (g2 := F0 m 374 ls [.int o82.1]) rfl ?_
        refine lv_iload hx hb dL_law_374 (lv_at hl 1 rfl) ?_
        refine lv_icmp_eq (tgt := 381) hx hb dL_law_376 (by decide) (fun c83 => ?_) (fun c83 => ?_)
        · rw [if_pos c83] at hf
          refine lv_iload hx hb dL_law_381 (lv_at hl 1 rfl) ?_
          refine lv_if_ne (tgt := 398) hx hb dL_law_383 (by decide) (fun c84 => ?_) (fun c84 => ?_)
          · rw [if_neg c84] at hf
            exact tL_398 K (fL_law_23 N mf L xs n) ih x1 x2 x3 x4 o82.2.1 o82.2.2 (kc + 1) (ks + 6) _ _ _ hf hs (lv_sub hl [2, 3, 4, 5, 6] rfl)
          · rw [if_pos c84] at hf
            refine lv_aload_n hx hb dL_law_386 rfl (lv_at hl 5 rfl) ?_
            refine lv_iconst (v := 0) hx hb dL_law_387 (by decide) ?_
            obtain ⟨v85, e85, hf⟩ := tk_bi hf
            refine tk_lald hx hb hE hs e85 dL_law_388 ?_
            refine lv_iload hx hb dL_law_389 (lv_at hl 0 rfl) ?_
            refine lv_i2l (v := o81.1.toInt64) hx hb dL_law_391 rfl ?_
            refine W.lcmp hx hb dL_law_392 ?_
            refine lv_if_eq (tgt := 398) hx hb dL_law_393 (by decide) (fun c86 => ?_) (fun c86 => ?_)
            · rw [if_pos c86] at hf
              exact tL_398 K (fL_law_23 N mf L xs n) ih x1 x2 x3 x4 o82.2.1 o82.2.2 (kc + 1) (ks + 6) _ _ _ hf hs (lv_sub hl [2, 3, 4, 5, 6] rfl)
            · rw [if_neg c86] at hf
              refine lv_iconst (v := 0) hx hb dL_law_396 (by decide) ?_
              cases hf
        · rw [if_neg c83] at hf
          refine lv_iconst (v := 0) hx hb dL_law_379 (by decide) ?_
          cases hf
      rw [if_neg c75] at hf
      by_cases c87 : (v42 &&& 31) = 4
      · rw [if_pos c87] at hf
        refine lv_tableIn (off := 361) (tgt := 401) hx hb dL_law_40 (by rw [c87]; decide) (by rw [c87]; decide) (by rw [c87]; rfl) (by decide) ?_
        refine lv_aload_n hx hb dL_law_401 rfl (lv_at hl 1 rfl) ?_
        refine lv_aload_n hx hb dL_law_402 rfl (lv_at hl 0 rfl) ?_
        refine lv_iload hx hb dL_law_403 (lv_at hl 4 rfl) ?_
        refine lv_iconst (v := 1) hx hb dL_law_405 (by decide) ?_
        refine lv_iadd hx hb dL_law_406 ?_
        obtain ⟨v88, e88, hf⟩ := tk_bi hf
        refine tk_sld hx hb hX hbl hbA hs e88 dL_law_407 ?_
        refine lv_aload_n hx hb dL_law_408 rfl (lv_at hl 3 rfl) ?_
        obtain ⟨_, b89, hf⟩ := tk_bi hf
        have b89 := tk_bd_ok b89
        obtain ⟨o89, e89, hf⟩ := tk_bi hf
        refine tk_call (v := some (.int o89.1)) hs (vx_runSW (As := [.ref x1, .int v88, .ref x3]) (rest := []) ⟨hx, hb, hml, hown, ht⟩ (cL_unwant_ok l hl0 G N x1 v88 x3 h sz o89.1 o89.2.1 o89.2.2 e89) (kwL_unwant ht wmL_111 rfl rfl ⟨Nat.le_of_ble_eq_true rfl, Nat.le_of_ble_eq_true rfl⟩) (tk_preS hE hs) rfl rfl hl.1 rfl (lv_room (Nat.le_of_ble_eq_true rfl)) dL_law_409 ⟨b89.1, b89.2⟩) (fun H locs hs => ?_)
        refine W.eq (g2 := F0 m 412 ls [.int o89.1]) rfl ?_
        refine W.widen (k := kc + 1) (n := ks + 6) (Nat.le_refl _) (Nat.le_refl _) ?_
        refine lv_istore (lv' := [(5, .int o89.1), (0, .ref b), (1, .ref x1), (2, .ref x2), (3, .ref x3), (4, .int x4)]) hx hb dL_law_412 hl (by decide) rfl (fun ls hl => ?_)
        refine lv_aload_n hx hb dL_law_414 rfl (lv_at hl 3 rfl) ?_
        refine lv_aload_n hx hb dL_law_415 rfl (lv_at hl 1 rfl) ?_
        refine lv_iload hx hb dL_law_416 (lv_at hl 5 rfl) ?_
        refine lv_iconst (v := 1) hx hb dL_law_418 (by decide) ?_
        refine lv_iadd hx hb dL_law_419 ?_
        obtain ⟨v90, e90, hf⟩ := tk_bi hf
        refine tk_sld hx hb hX hbl hbA hs e90 dL_law_420 ?_
        obtain ⟨_, p91, hf⟩ := tk_bi hf
        obtain ⟨_, b91, hf⟩ := tk_bi hf
        have b91 := tk_bd_ok b91
        obtain ⟨o91, e91, hf⟩ := tk_bi hf
        refine tk_call0 (v := some (.int o91.1)) hs (va_runV (As := [.int v90]) (rest := []) ⟨hx, hb, hml, hown, ht⟩ (cX5_unwant_ok l hl0 G N x2 v90 o89.2.1 o89.2.2 o91.1 o91.2.1 o91.2.2 e91) (kwX5_unwant ht wmL_114 rfl rfl ⟨Nat.le_of_ble_eq_true rfl, Nat.le_of_ble_eq_true rfl⟩) (tk_preV hE hs (tk_ok_ok p91) rfl) rfl rfl hl.1 rfl (lv_room (Nat.le_of_ble_eq_true rfl)) dL_law_421 ⟨b91.1, b91.2⟩) (fun H locs hs => ?_)
        refine W.eq (g2 := F0 m 424 ls [.int o91.1]) rfl ?_
        refine lv_istore (lv' := [(6, .int o91.1), (5, .int o89.1), (0, .ref b), (1, .ref x1), (2, .ref x2), (3, .ref x3), (4, .int x4)]) hx hb dL_law_424 hl (by decide) rfl (fun ls hl => ?_)
        refine lv_aload_n hx hb dL_law_426 rfl (lv_at hl 4 rfl) ?_
        obtain ⟨_, p92, hf⟩ := tk_bi hf
        obtain ⟨_, b92, hf⟩ := tk_bi hf
        have b92 := tk_bd_ok b92
        obtain ⟨o92, e92, hf⟩ := tk_bi hf
        refine tk_call0 (v := some (.int o92.1)) hs (va_runV (As := []) (rest := []) ⟨hx, hb, hml, hown, ht⟩ (cX5_thrown_ok l hl0 G N x2 o91.2.1 o91.2.2 o92.1 o92.2.1 o92.2.2 e92) (kwX5_thrown ht wmL_100 rfl rfl ⟨Nat.le_of_ble_eq_true rfl, Nat.le_of_ble_eq_true rfl⟩) (tk_preV hE hs (tk_ok_ok p92) rfl) rfl rfl hl.1 rfl (lv_room (Nat.le_of_ble_eq_true rfl)) dL_law_427 ⟨b92.1, b92.2⟩) (fun H locs hs => ?_)
        refine W.eq (g2 := F0 m 430 ls [.int o92.1]) rfl ?_
        refine lv_iload hx hb dL_law_430 (lv_at hl 1 rfl) ?_
        refine lv_icmp_eq (tgt := 437) hx hb dL_law_432 (by decide) (fun c93 => ?_) (fun c93 => ?_)
        · rw [if_pos c93] at hf
          refine lv_iload hx hb dL_law_437 (lv_at hl 1 rfl) ?_
          refine lv_if_ne (tgt := 454) hx hb dL_law_439 (by decide) (fun c94 => ?_) (fun c94 => ?_)
          · rw [if_neg c94] at hf
            exact tL_454 K (fL_law_23 N mf L xs n) ih x1 x2 x3 x4 o92.2.1 o92.2.2 (kc + 1) (ks + 6) _ _ _ hf hs (lv_sub hl [2, 3, 4, 5, 6] rfl)
          · rw [if_pos c94] at hf
            refine lv_aload_n hx hb dL_law_442 rfl (lv_at hl 5 rfl) ?_
            refine lv_iconst (v := 0) hx hb dL_law_443 (by decide) ?_
            obtain ⟨v95, e95, hf⟩ := tk_bi hf
            refine tk_lald hx hb hE hs e95 dL_law_444 ?_
            refine lv_iload hx hb dL_law_445 (lv_at hl 0 rfl) ?_
            refine lv_i2l (v := o91.1.toInt64) hx hb dL_law_447 rfl ?_
            refine W.lcmp hx hb dL_law_448 ?_
            refine lv_if_eq (tgt := 454) hx hb dL_law_449 (by decide) (fun c96 => ?_) (fun c96 => ?_)
            · rw [if_pos c96] at hf
              exact tL_454 K (fL_law_23 N mf L xs n) ih x1 x2 x3 x4 o92.2.1 o92.2.2 (kc + 1) (ks + 6) _ _ _ hf hs (lv_sub hl [2, 3, 4, 5, 6] rfl)
            · rw [if_neg c96] at hf
              refine lv_iconst (v := 0) hx hb dL_law_452 (by decide) ?_
              cases hf
        · rw [if_neg c93] at hf
          refine lv_iconst (v := 0) hx hb dL_law_435 (by decide) ?_
          cases hf
      rw [if_neg c87] at hf
      by_cases c97 : (v42 &&& 31) = 5
      · rw [if_pos c97] at hf
        refine lv_tableIn (off := 417) (tgt := 457) hx hb dL_law_40 (by rw [c97]; decide) (by rw [c97]; decide) (by rw [c97]; rfl) (by decide) ?_
        refine lv_aload_n hx hb dL_law_457 rfl (lv_at hl 1 rfl) ?_
        refine lv_aload_n hx hb dL_law_458 rfl (lv_at hl 0 rfl) ?_
        refine lv_iload hx hb dL_law_459 (lv_at hl 4 rfl) ?_
        refine lv_iconst (v := 1) hx hb dL_law_461 (by decide) ?_
        refine lv_iadd hx hb dL_law_462 ?_
        obtain ⟨v98, e98, hf⟩ := tk_bi hf
        refine tk_sld hx hb hX hbl hbA hs e98 dL_law_463 ?_
        refine lv_aload_n hx hb dL_law_464 rfl (lv_at hl 0 rfl) ?_
        refine lv_iload hx hb dL_law_465 (lv_at hl 4 rfl) ?_
        refine lv_iconst (v := 2) hx hb dL_law_467 (by decide) ?_
        refine lv_iadd hx hb dL_law_468 ?_
        obtain ⟨v99, e99, hf⟩ := tk_bi hf
        refine tk_sld hx hb hX hbl hbA hs e99 dL_law_469 ?_
        refine lv_aload_n hx hb dL_law_470 rfl (lv_at hl 0 rfl) ?_
        refine lv_iload hx hb dL_law_471 (lv_at hl 4 rfl) ?_
        refine lv_iconst (v := 3) hx hb dL_law_473 (by decide) ?_
        refine lv_iadd hx hb dL_law_474 ?_
        obtain ⟨v100, e100, hf⟩ := tk_bi hf
        refine tk_sld hx hb hX hbl hbA hs e100 dL_law_475 ?_
        refine lv_if_eq (tgt := 483) hx hb dL_law_476 (by decide) (fun c101 => ?_) (fun c101 => ?_)
        · rw [if_pos c101] at hf
          refine lv_iconst (v := 0) hx hb dL_law_483 (by decide) ?_
          exact tL_484 K (fL_law_23 N mf L xs n) ih x1 x2 x3 x4 0 v99 v98 x1 h sz kc ks _ _ _ hf hs (lv_sub hl [0, 1, 2, 3, 4] rfl)
        · rw [if_neg c101] at hf
          refine lv_iconst (v := 1) hx hb dL_law_479 (by decide) ?_
          refine lv_goto (tgt := 484) hx hb dL_law_480 (by decide) ?_
          exact tL_484 K (fL_law_23 N mf L xs n) ih x1 x2 x3 x4 1 v99 v98 x1 h sz kc ks _ _ _ hf hs (lv_sub hl [0, 1, 2, 3, 4] rfl)
      rw [if_neg c97] at hf
      by_cases c102 : (v42 &&& 31) = 6
      · rw [if_pos c102] at hf
        refine lv_tableIn (off := 520) (tgt := 560) hx hb dL_law_40 (by rw [c102]; decide) (by rw [c102]; decide) (by rw [c102]; rfl) (by decide) ?_
        refine lv_aload_n hx hb dL_law_560 rfl (lv_at hl 1 rfl) ?_
        refine lv_aload_n hx hb dL_law_561 rfl (lv_at hl 0 rfl) ?_
        refine lv_iload hx hb dL_law_562 (lv_at hl 4 rfl) ?_
        refine lv_iconst (v := 1) hx hb dL_law_564 (by decide) ?_
        refine lv_iadd hx hb dL_law_565 ?_
        obtain ⟨v103, e103, hf⟩ := tk_bi hf
        refine tk_sld hx hb hX hbl hbA hs e103 dL_law_566 ?_
        refine lv_aload_n hx hb dL_law_567 rfl (lv_at hl 0 rfl) ?_
        refine lv_iload hx hb dL_law_568 (lv_at hl 4 rfl) ?_
        refine lv_iconst (v := 2) hx hb dL_law_570 (by decide) ?_
        refine lv_iadd hx hb dL_law_571 ?_
        obtain ⟨v104, e104, hf⟩ := tk_bi hf
        refine tk_sld hx hb hX hbl hbA hs e104 dL_law_572 ?_
        refine lv_aload_n hx hb dL_law_573 rfl (lv_at hl 0 rfl) ?_
        refine lv_iload hx hb dL_law_574 (lv_at hl 4 rfl) ?_
        refine lv_iconst (v := 3) hx hb dL_law_576 (by decide) ?_
        refine lv_iadd hx hb dL_law_577 ?_
        obtain ⟨v105, e105, hf⟩ := tk_bi hf
        refine tk_sld hx hb hX hbl hbA hs e105 dL_law_578 ?_
        refine lv_aload_n hx hb dL_law_579 rfl (lv_at hl 0 rfl) ?_
        refine lv_iload hx hb dL_law_580 (lv_at hl 4 rfl) ?_
        refine lv_iconst (v := 4) hx hb dL_law_582 (by decide) ?_
        refine lv_iadd hx hb dL_law_583 ?_
        obtain ⟨v106, e106, hf⟩ := tk_bi hf
        refine tk_sld hx hb hX hbl hbA hs e106 dL_law_584 ?_
        refine lv_if_eq (tgt := 592) hx hb dL_law_585 (by decide) (fun c107 => ?_) (fun c107 => ?_)
        · rw [if_pos c107] at hf
          refine lv_iconst (v := 0) hx hb dL_law_592 (by decide) ?_
          exact tL_593 K (fL_law_23 N mf L xs n) ih x1 x2 x3 x4 0 v105 v104 v103 x1 h sz kc ks _ _ _ hf hs (lv_sub hl [0, 1, 2, 3, 4] rfl)
        · rw [if_neg c107] at hf
          refine lv_iconst (v := 1) hx hb dL_law_588 (by decide) ?_
          refine lv_goto (tgt := 593) hx hb dL_law_589 (by decide) ?_
          exact tL_593 K (fL_law_23 N mf L xs n) ih x1 x2 x3 x4 1 v105 v104 v103 x1 h sz kc ks _ _ _ hf hs (lv_sub hl [0, 1, 2, 3, 4] rfl)
      rw [if_neg c102] at hf
      by_cases c108 : (v42 &&& 31) = 7
      · rw [if_pos c108] at hf
        refine lv_tableIn (off := 635) (tgt := 675) hx hb dL_law_40 (by rw [c108]; decide) (by rw [c108]; decide) (by rw [c108]; rfl) (by decide) ?_
        refine lv_aload_n hx hb dL_law_675 rfl (lv_at hl 1 rfl) ?_
        refine lv_aload_n hx hb dL_law_676 rfl (lv_at hl 0 rfl) ?_
        refine lv_iload hx hb dL_law_677 (lv_at hl 4 rfl) ?_
        refine lv_iconst (v := 1) hx hb dL_law_679 (by decide) ?_
        refine lv_iadd hx hb dL_law_680 ?_
        obtain ⟨v109, e109, hf⟩ := tk_bi hf
        refine tk_sld hx hb hX hbl hbA hs e109 dL_law_681 ?_
        refine lv_aload_n hx hb dL_law_682 rfl (lv_at hl 0 rfl) ?_
        refine lv_iload hx hb dL_law_683 (lv_at hl 4 rfl) ?_
        refine lv_iconst (v := 2) hx hb dL_law_685 (by decide) ?_
        refine lv_iadd hx hb dL_law_686 ?_
        obtain ⟨v110, e110, hf⟩ := tk_bi hf
        refine tk_sld hx hb hX hbl hbA hs e110 dL_law_687 ?_
        refine lv_aload_n hx hb dL_law_688 rfl (lv_at hl 0 rfl) ?_
        refine lv_iload hx hb dL_law_689 (lv_at hl 4 rfl) ?_
        refine lv_iconst (v := 3) hx hb dL_law_691 (by decide) ?_
        refine lv_iadd hx hb dL_law_692 ?_
        obtain ⟨v111, e111, hf⟩ := tk_bi hf
        refine tk_sld hx hb hX hbl hbA hs e111 dL_law_693 ?_
        refine lv_aload_n hx hb dL_law_694 rfl (lv_at hl 3 rfl) ?_
        obtain ⟨_, b112, hf⟩ := tk_bi hf
        have b112 := tk_bd_ok b112
        obtain ⟨o112, e112, hf⟩ := tk_bi hf
        refine tk_call (v := some (.int o112.1)) hs (vx_runSW (As := [.ref x1, .int v109, .int v110, .int v111, .ref x3]) (rest := []) ⟨hx, hb, hml, hown, ht⟩ (cL_level_ok l hl0 G N x1 v109 v110 v111 x3 h sz o112.1 o112.2.1 o112.2.2 e112) (kwL_level ht wmL_123 rfl rfl ⟨Nat.le_of_ble_eq_true rfl, Nat.le_of_ble_eq_true rfl⟩) (tk_preS hE hs) rfl rfl hl.1 rfl (lv_room (Nat.le_of_ble_eq_true rfl)) dL_law_695 ⟨b112.1, b112.2⟩) (fun H locs hs => ?_)
        refine W.eq (g2 := F0 m 698 ls [.int o112.1]) rfl ?_
        refine W.widen (k := kc + 1) (n := ks + 6) (Nat.le_refl _) (Nat.le_refl _) ?_
        refine lv_istore (lv' := [(5, .int o112.1), (0, .ref b), (1, .ref x1), (2, .ref x2), (3, .ref x3), (4, .int x4)]) hx hb dL_law_698 hl (by decide) rfl (fun ls hl => ?_)
        refine lv_aload_n hx hb dL_law_700 rfl (lv_at hl 3 rfl) ?_
        refine lv_aload_n hx hb dL_law_701 rfl (lv_at hl 1 rfl) ?_
        refine lv_iload hx hb dL_law_702 (lv_at hl 5 rfl) ?_
        refine lv_iconst (v := 1) hx hb dL_law_704 (by decide) ?_
        refine lv_iadd hx hb dL_law_705 ?_
        obtain ⟨v113, e113, hf⟩ := tk_bi hf
        refine tk_sld hx hb hX hbl hbA hs e113 dL_law_706 ?_
        refine lv_aload_n hx hb dL_law_707 rfl (lv_at hl 1 rfl) ?_
        refine lv_iload hx hb dL_law_708 (lv_at hl 5 rfl) ?_
        refine lv_iconst (v := 2) hx hb dL_law_710 (by decide) ?_
        refine lv_iadd hx hb dL_law_711 ?_
        obtain ⟨v114, e114, hf⟩ := tk_bi hf
        refine tk_sld hx hb hX hbl hbA hs e114 dL_law_712 ?_
        refine lv_aload_n hx hb dL_law_713 rfl (lv_at hl 1 rfl) ?_
        refine lv_iload hx hb dL_law_714 (lv_at hl 5 rfl) ?_
        refine lv_iconst (v := 3) hx hb dL_law_716 (by decide) ?_
        refine lv_iadd hx hb dL_law_717 ?_
        obtain ⟨v115, e115, hf⟩ := tk_bi hf
        refine tk_sld hx hb hX hbl hbA hs e115 dL_law_718 ?_
        obtain ⟨_, p116, hf⟩ := tk_bi hf
        obtain ⟨_, b116, hf⟩ := tk_bi hf
        have b116 := tk_bd_ok b116
        obtain ⟨o116, e116, hf⟩ := tk_bi hf
        refine tk_call0 (v := some (.int o116.1)) hs (va_runV (As := [.int v113, .int v114, .int v115]) (rest := []) ⟨hx, hb, hml, hown, ht⟩ (cX5_level_ok l hl0 G N x2 v113 v114 v115 o112.2.1 o112.2.2 o116.1 o116.2.1 o116.2.2 e116) (kwX5_level ht wmL_125 rfl rfl ⟨Nat.le_of_ble_eq_true rfl, Nat.le_of_ble_eq_true rfl⟩) (tk_preV hE hs (tk_ok_ok p116) rfl) rfl rfl hl.1 rfl (lv_room (Nat.le_of_ble_eq_true rfl)) dL_law_719 ⟨b116.1, b116.2⟩) (fun H locs hs => ?_)
        refine W.eq (g2 := F0 m 722 ls [.int o116.1]) rfl ?_
        refine lv_istore (lv' := [(6, .int o116.1), (5, .int o112.1), (0, .ref b), (1, .ref x1), (2, .ref x2), (3, .ref x3), (4, .int x4)]) hx hb dL_law_722 hl (by decide) rfl (fun ls hl => ?_)
        refine lv_aload_n hx hb dL_law_724 rfl (lv_at hl 4 rfl) ?_
        obtain ⟨_, p117, hf⟩ := tk_bi hf
        obtain ⟨_, b117, hf⟩ := tk_bi hf
        have b117 := tk_bd_ok b117
        obtain ⟨o117, e117, hf⟩ := tk_bi hf
        refine tk_call0 (v := some (.int o117.1)) hs (va_runV (As := []) (rest := []) ⟨hx, hb, hml, hown, ht⟩ (cX5_thrown_ok l hl0 G N x2 o116.2.1 o116.2.2 o117.1 o117.2.1 o117.2.2 e117) (kwX5_thrown ht wmL_100 rfl rfl ⟨Nat.le_of_ble_eq_true rfl, Nat.le_of_ble_eq_true rfl⟩) (tk_preV hE hs (tk_ok_ok p117) rfl) rfl rfl hl.1 rfl (lv_room (Nat.le_of_ble_eq_true rfl)) dL_law_725 ⟨b117.1, b117.2⟩) (fun H locs hs => ?_)
        refine W.eq (g2 := F0 m 728 ls [.int o117.1]) rfl ?_
        refine lv_iload hx hb dL_law_728 (lv_at hl 1 rfl) ?_
        refine lv_icmp_eq (tgt := 735) hx hb dL_law_730 (by decide) (fun c118 => ?_) (fun c118 => ?_)
        · rw [if_pos c118] at hf
          refine lv_iload hx hb dL_law_735 (lv_at hl 1 rfl) ?_
          refine lv_if_ne (tgt := 752) hx hb dL_law_737 (by decide) (fun c119 => ?_) (fun c119 => ?_)
          · rw [if_neg c119] at hf
            exact tL_752 K (fL_law_23 N mf L xs n) ih x1 x2 x3 x4 o117.2.1 o117.2.2 (kc + 1) (ks + 6) _ _ _ hf hs (lv_sub hl [2, 3, 4, 5, 6] rfl)
          · rw [if_pos c119] at hf
            refine lv_aload_n hx hb dL_law_740 rfl (lv_at hl 5 rfl) ?_
            refine lv_iconst (v := 0) hx hb dL_law_741 (by decide) ?_
            obtain ⟨v120, e120, hf⟩ := tk_bi hf
            refine tk_lald hx hb hE hs e120 dL_law_742 ?_
            refine lv_iload hx hb dL_law_743 (lv_at hl 0 rfl) ?_
            refine lv_i2l (v := o116.1.toInt64) hx hb dL_law_745 rfl ?_
            refine W.lcmp hx hb dL_law_746 ?_
            refine lv_if_eq (tgt := 752) hx hb dL_law_747 (by decide) (fun c121 => ?_) (fun c121 => ?_)
            · rw [if_pos c121] at hf
              exact tL_752 K (fL_law_23 N mf L xs n) ih x1 x2 x3 x4 o117.2.1 o117.2.2 (kc + 1) (ks + 6) _ _ _ hf hs (lv_sub hl [2, 3, 4, 5, 6] rfl)
            · rw [if_neg c121] at hf
              refine lv_iconst (v := 0) hx hb dL_law_750 (by decide) ?_
              cases hf
        · rw [if_neg c118] at hf
          refine lv_iconst (v := 0) hx hb dL_law_733 (by decide) ?_
          cases hf
      rw [if_neg c108] at hf
      by_cases c122 : (v42 &&& 31) = 8
      · rw [if_pos c122] at hf
        refine lv_tableIn (off := 715) (tgt := 755) hx hb dL_law_40 (by rw [c122]; decide) (by rw [c122]; decide) (by rw [c122]; rfl) (by decide) ?_
        refine lv_aload_n hx hb dL_law_755 rfl (lv_at hl 1 rfl) ?_
        refine lv_aload_n hx hb dL_law_756 rfl (lv_at hl 0 rfl) ?_
        refine lv_iload hx hb dL_law_757 (lv_at hl 4 rfl) ?_
        refine lv_iconst (v := 1) hx hb dL_law_759 (by decide) ?_
        refine lv_iadd hx hb dL_law_760 ?_
        obtain ⟨v123, e123, hf⟩ := tk_bi hf
        refine tk_sld hx hb hX hbl hbA hs e123 dL_law_761 ?_
        refine lv_aload_n hx hb dL_law_762 rfl (lv_at hl 0 rfl) ?_
        refine lv_iload hx hb dL_law_763 (lv_at hl 4 rfl) ?_
        refine lv_iconst (v := 2) hx hb dL_law_765 (by decide) ?_
        refine lv_iadd hx hb dL_law_766 ?_
        obtain ⟨v124, e124, hf⟩ := tk_bi hf
        refine tk_sld hx hb hX hbl hbA hs e124 dL_law_767 ?_
        refine lv_aload_n hx hb dL_law_768 rfl (lv_at hl 3 rfl) ?_
        obtain ⟨_, b125, hf⟩ := tk_bi hf
        have b125 := tk_bd_ok b125
        obtain ⟨o125, e125, hf⟩ := tk_bi hf
        refine tk_call (v := some (.int o125.1)) hs (vx_runSW (As := [.ref x1, .int v123, .int v124, .ref x3]) (rest := []) ⟨hx, hb, hml, hown, ht⟩ (cL_gift_ok l hl0 G N x1 v123 v124 x3 h sz o125.1 o125.2.1 o125.2.2 e125) (kwL_gift ht wmL_126 rfl rfl ⟨Nat.le_of_ble_eq_true rfl, Nat.le_of_ble_eq_true rfl⟩) (tk_preS hE hs) rfl rfl hl.1 rfl (lv_room (Nat.le_of_ble_eq_true rfl)) dL_law_769 ⟨b125.1, b125.2⟩) (fun H locs hs => ?_)
        refine W.eq (g2 := F0 m 772 ls [.int o125.1]) rfl ?_
        refine W.widen (k := kc + 1) (n := ks + 6) (Nat.le_refl _) (Nat.le_refl _) ?_
        refine lv_istore (lv' := [(5, .int o125.1), (0, .ref b), (1, .ref x1), (2, .ref x2), (3, .ref x3), (4, .int x4)]) hx hb dL_law_772 hl (by decide) rfl (fun ls hl => ?_)
        refine lv_aload_n hx hb dL_law_774 rfl (lv_at hl 3 rfl) ?_
        refine lv_aload_n hx hb dL_law_775 rfl (lv_at hl 1 rfl) ?_
        refine lv_iload hx hb dL_law_776 (lv_at hl 5 rfl) ?_
        refine lv_iconst (v := 1) hx hb dL_law_778 (by decide) ?_
        refine lv_iadd hx hb dL_law_779 ?_
        obtain ⟨v126, e126, hf⟩ := tk_bi hf
        refine tk_sld hx hb hX hbl hbA hs e126 dL_law_780 ?_
        refine lv_aload_n hx hb dL_law_781 rfl (lv_at hl 1 rfl) ?_
        refine lv_iload hx hb dL_law_782 (lv_at hl 5 rfl) ?_
        refine lv_iconst (v := 2) hx hb dL_law_784 (by decide) ?_
        refine lv_iadd hx hb dL_law_785 ?_
        obtain ⟨v127, e127, hf⟩ := tk_bi hf
        refine tk_sld hx hb hX hbl hbA hs e127 dL_law_786 ?_
        obtain ⟨_, p128, hf⟩ := tk_bi hf
        obtain ⟨_, b128, hf⟩ := tk_bi hf
        have b128 := tk_bd_ok b128
        obtain ⟨o128, e128, hf⟩ := tk_bi hf
        refine tk_call0 (v := some (.int o128.1)) hs (va_runV (As := [.int v126, .int v127]) (rest := []) ⟨hx, hb, hml, hown, ht⟩ (cX5_gift_ok l hl0 G N x2 v126 v127 o125.2.1 o125.2.2 o128.1 o128.2.1 o128.2.2 e128) (kwX5_gift ht wmL_128 rfl rfl ⟨Nat.le_of_ble_eq_true rfl, Nat.le_of_ble_eq_true rfl⟩) (tk_preV hE hs (tk_ok_ok p128) rfl) rfl rfl hl.1 rfl (lv_room (Nat.le_of_ble_eq_true rfl)) dL_law_787 ⟨b128.1, b128.2⟩) (fun H locs hs => ?_)
        refine W.eq (g2 := F0 m 790 ls [.int o128.1]) rfl ?_
        refine lv_istore (lv' := [(6, .int o128.1), (5, .int o125.1), (0, .ref b), (1, .ref x1), (2, .ref x2), (3, .ref x3), (4, .int x4)]) hx hb dL_law_790 hl (by decide) rfl (fun ls hl => ?_)
        refine lv_aload_n hx hb dL_law_792 rfl (lv_at hl 4 rfl) ?_
        obtain ⟨_, p129, hf⟩ := tk_bi hf
        obtain ⟨_, b129, hf⟩ := tk_bi hf
        have b129 := tk_bd_ok b129
        obtain ⟨o129, e129, hf⟩ := tk_bi hf
        refine tk_call0 (v := some (.int o129.1)) hs (va_runV (As := []) (rest := []) ⟨hx, hb, hml, hown, ht⟩ (cX5_thrown_ok l hl0 G N x2 o128.2.1 o128.2.2 o129.1 o129.2.1 o129.2.2 e129) (kwX5_thrown ht wmL_100 rfl rfl ⟨Nat.le_of_ble_eq_true rfl, Nat.le_of_ble_eq_true rfl⟩) (tk_preV hE hs (tk_ok_ok p129) rfl) rfl rfl hl.1 rfl (lv_room (Nat.le_of_ble_eq_true rfl)) dL_law_793 ⟨b129.1, b129.2⟩) (fun H locs hs => ?_)
        refine W.eq (g2 := F0 m 796 ls [.int o129.1]) rfl ?_
        refine lv_iload hx hb dL_law_796 (lv_at hl 1 rfl) ?_
        refine lv_icmp_eq (tgt := 803) hx hb dL_law_798 (by decide) (fun c130 => ?_) (fun c130 => ?_)
        · rw [if_pos c130] at hf
          refine lv_iload hx hb dL_law_803 (lv_at hl 1 rfl) ?_
          refine lv_if_ne (tgt := 820) hx hb dL_law_805 (by decide) (fun c131 => ?_) (fun c131 => ?_)
          · rw [if_neg c131] at hf
            exact tL_820 K (fL_law_23 N mf L xs n) ih x1 x2 x3 x4 o129.2.1 o129.2.2 (kc + 1) (ks + 6) _ _ _ hf hs (lv_sub hl [2, 3, 4, 5, 6] rfl)
          · rw [if_pos c131] at hf
            refine lv_aload_n hx hb dL_law_808 rfl (lv_at hl 5 rfl) ?_
            refine lv_iconst (v := 0) hx hb dL_law_809 (by decide) ?_
            obtain ⟨v132, e132, hf⟩ := tk_bi hf
            refine tk_lald hx hb hE hs e132 dL_law_810 ?_
            refine lv_iload hx hb dL_law_811 (lv_at hl 0 rfl) ?_
            refine lv_i2l (v := o128.1.toInt64) hx hb dL_law_813 rfl ?_
            refine W.lcmp hx hb dL_law_814 ?_
            refine lv_if_eq (tgt := 820) hx hb dL_law_815 (by decide) (fun c133 => ?_) (fun c133 => ?_)
            · rw [if_pos c133] at hf
              exact tL_820 K (fL_law_23 N mf L xs n) ih x1 x2 x3 x4 o129.2.1 o129.2.2 (kc + 1) (ks + 6) _ _ _ hf hs (lv_sub hl [2, 3, 4, 5, 6] rfl)
            · rw [if_neg c133] at hf
              refine lv_iconst (v := 0) hx hb dL_law_818 (by decide) ?_
              cases hf
        · rw [if_neg c130] at hf
          refine lv_iconst (v := 0) hx hb dL_law_801 (by decide) ?_
          cases hf
      rw [if_neg c122] at hf
      by_cases c134 : (v42 &&& 31) = 9
      · rw [if_pos c134] at hf
        refine lv_tableIn (off := 783) (tgt := 823) hx hb dL_law_40 (by rw [c134]; decide) (by rw [c134]; decide) (by rw [c134]; rfl) (by decide) ?_
        refine lv_aload_n hx hb dL_law_823 rfl (lv_at hl 1 rfl) ?_
        refine lv_aload_n hx hb dL_law_824 rfl (lv_at hl 0 rfl) ?_
        refine lv_iload hx hb dL_law_825 (lv_at hl 4 rfl) ?_
        refine lv_iconst (v := 1) hx hb dL_law_827 (by decide) ?_
        refine lv_iadd hx hb dL_law_828 ?_
        obtain ⟨v135, e135, hf⟩ := tk_bi hf
        refine tk_sld hx hb hX hbl hbA hs e135 dL_law_829 ?_
        refine lv_aload_n hx hb dL_law_830 rfl (lv_at hl 0 rfl) ?_
        refine lv_iload hx hb dL_law_831 (lv_at hl 4 rfl) ?_
        refine lv_iconst (v := 2) hx hb dL_law_833 (by decide) ?_
        refine lv_iadd hx hb dL_law_834 ?_
        obtain ⟨v136, e136, hf⟩ := tk_bi hf
        refine tk_sld hx hb hX hbl hbA hs e136 dL_law_835 ?_
        refine lv_aload_n hx hb dL_law_836 rfl (lv_at hl 3 rfl) ?_
        obtain ⟨_, b137, hf⟩ := tk_bi hf
        have b137 := tk_bd_ok b137
        obtain ⟨o137, e137, hf⟩ := tk_bi hf
        refine tk_call (v := some (.int o137.1)) hs (vx_runSW (As := [.ref x1, .int v135, .int v136, .ref x3]) (rest := []) ⟨hx, hb, hml, hown, ht⟩ (cL_meet_ok l hl0 G N x1 v135 v136 x3 h sz o137.1 o137.2.1 o137.2.2 e137) (kwL_meet ht wmL_129 rfl rfl ⟨Nat.le_of_ble_eq_true rfl, Nat.le_of_ble_eq_true rfl⟩) (tk_preS hE hs) rfl rfl hl.1 rfl (lv_room (Nat.le_of_ble_eq_true rfl)) dL_law_837 ⟨b137.1, b137.2⟩) (fun H locs hs => ?_)
        refine W.eq (g2 := F0 m 840 ls [.int o137.1]) rfl ?_
        refine W.widen (k := kc + 1) (n := ks + 6) (Nat.le_refl _) (Nat.le_refl _) ?_
        refine lv_istore (lv' := [(5, .int o137.1), (0, .ref b), (1, .ref x1), (2, .ref x2), (3, .ref x3), (4, .int x4)]) hx hb dL_law_840 hl (by decide) rfl (fun ls hl => ?_)
        refine lv_aload_n hx hb dL_law_842 rfl (lv_at hl 3 rfl) ?_
        refine lv_aload_n hx hb dL_law_843 rfl (lv_at hl 1 rfl) ?_
        refine lv_iload hx hb dL_law_844 (lv_at hl 5 rfl) ?_
        refine lv_iconst (v := 1) hx hb dL_law_846 (by decide) ?_
        refine lv_iadd hx hb dL_law_847 ?_
        obtain ⟨v138, e138, hf⟩ := tk_bi hf
        refine tk_sld hx hb hX hbl hbA hs e138 dL_law_848 ?_
        refine lv_aload_n hx hb dL_law_849 rfl (lv_at hl 1 rfl) ?_
        refine lv_iload hx hb dL_law_850 (lv_at hl 5 rfl) ?_
        refine lv_iconst (v := 2) hx hb dL_law_852 (by decide) ?_
        refine lv_iadd hx hb dL_law_853 ?_
        obtain ⟨v139, e139, hf⟩ := tk_bi hf
        refine tk_sld hx hb hX hbl hbA hs e139 dL_law_854 ?_
        obtain ⟨_, p140, hf⟩ := tk_bi hf
        obtain ⟨_, b140, hf⟩ := tk_bi hf
        have b140 := tk_bd_ok b140
        obtain ⟨o140, e140, hf⟩ := tk_bi hf
        refine tk_call0 (v := some (.int o140.1)) hs (va_runV (As := [.int v138, .int v139]) (rest := []) ⟨hx, hb, hml, hown, ht⟩ (cX5_meet_ok l hl0 G N x2 v138 v139 o137.2.1 o137.2.2 o140.1 o140.2.1 o140.2.2 e140) (kwX5_meet ht wmL_131 rfl rfl ⟨Nat.le_of_ble_eq_true rfl, Nat.le_of_ble_eq_true rfl⟩) (tk_preV hE hs (tk_ok_ok p140) rfl) rfl rfl hl.1 rfl (lv_room (Nat.le_of_ble_eq_true rfl)) dL_law_855 ⟨b140.1, b140.2⟩) (fun H locs hs => ?_)
        refine W.eq (g2 := F0 m 858 ls [.int o140.1]) rfl ?_
        refine lv_istore (lv' := [(6, .int o140.1), (5, .int o137.1), (0, .ref b), (1, .ref x1), (2, .ref x2), (3, .ref x3), (4, .int x4)]) hx hb dL_law_858 hl (by decide) rfl (fun ls hl => ?_)
        refine lv_aload_n hx hb dL_law_860 rfl (lv_at hl 4 rfl) ?_
        obtain ⟨_, p141, hf⟩ := tk_bi hf
        obtain ⟨_, b141, hf⟩ := tk_bi hf
        have b141 := tk_bd_ok b141
        obtain ⟨o141, e141, hf⟩ := tk_bi hf
        refine tk_call0 (v := some (.int o141.1)) hs (va_runV (As := []) (rest := []) ⟨hx, hb, hml, hown, ht⟩ (cX5_thrown_ok l hl0 G N x2 o140.2.1 o140.2.2 o141.1 o141.2.1 o141.2.2 e141) (kwX5_thrown ht wmL_100 rfl rfl ⟨Nat.le_of_ble_eq_true rfl, Nat.le_of_ble_eq_true rfl⟩) (tk_preV hE hs (tk_ok_ok p141) rfl) rfl rfl hl.1 rfl (lv_room (Nat.le_of_ble_eq_true rfl)) dL_law_861 ⟨b141.1, b141.2⟩) (fun H locs hs => ?_)
        refine W.eq (g2 := F0 m 864 ls [.int o141.1]) rfl ?_
        refine lv_iload hx hb dL_law_864 (lv_at hl 1 rfl) ?_
        refine lv_icmp_eq (tgt := 871) hx hb dL_law_866 (by decide) (fun c142 => ?_) (fun c142 => ?_)
        · rw [if_pos c142] at hf
          refine lv_iload hx hb dL_law_871 (lv_at hl 1 rfl) ?_
          refine lv_if_ne (tgt := 888) hx hb dL_law_873 (by decide) (fun c143 => ?_) (fun c143 => ?_)
          · rw [if_neg c143] at hf
            exact tL_888 K (fL_law_23 N mf L xs n) ih x1 x2 x3 x4 o141.2.1 o141.2.2 (kc + 1) (ks + 6) _ _ _ hf hs (lv_sub hl [2, 3, 4, 5, 6] rfl)
          · rw [if_pos c143] at hf
            refine lv_aload_n hx hb dL_law_876 rfl (lv_at hl 5 rfl) ?_
            refine lv_iconst (v := 0) hx hb dL_law_877 (by decide) ?_
            obtain ⟨v144, e144, hf⟩ := tk_bi hf
            refine tk_lald hx hb hE hs e144 dL_law_878 ?_
            refine lv_iload hx hb dL_law_879 (lv_at hl 0 rfl) ?_
            refine lv_i2l (v := o140.1.toInt64) hx hb dL_law_881 rfl ?_
            refine W.lcmp hx hb dL_law_882 ?_
            refine lv_if_eq (tgt := 888) hx hb dL_law_883 (by decide) (fun c145 => ?_) (fun c145 => ?_)
            · rw [if_pos c145] at hf
              exact tL_888 K (fL_law_23 N mf L xs n) ih x1 x2 x3 x4 o141.2.1 o141.2.2 (kc + 1) (ks + 6) _ _ _ hf hs (lv_sub hl [2, 3, 4, 5, 6] rfl)
            · rw [if_neg c145] at hf
              refine lv_iconst (v := 0) hx hb dL_law_886 (by decide) ?_
              cases hf
        · rw [if_neg c142] at hf
          refine lv_iconst (v := 0) hx hb dL_law_869 (by decide) ?_
          cases hf
      rw [if_neg c134] at hf
      by_cases c146 : (v42 &&& 31) = 10
      · rw [if_pos c146] at hf
        refine lv_tableIn (off := 851) (tgt := 891) hx hb dL_law_40 (by rw [c146]; decide) (by rw [c146]; decide) (by rw [c146]; rfl) (by decide) ?_
        refine lv_aload_n hx hb dL_law_891 rfl (lv_at hl 1 rfl) ?_
        refine lv_aload_n hx hb dL_law_892 rfl (lv_at hl 0 rfl) ?_
        refine lv_iload hx hb dL_law_893 (lv_at hl 4 rfl) ?_
        refine lv_iconst (v := 1) hx hb dL_law_895 (by decide) ?_
        refine lv_iadd hx hb dL_law_896 ?_
        obtain ⟨v147, e147, hf⟩ := tk_bi hf
        refine tk_sld hx hb hX hbl hbA hs e147 dL_law_897 ?_
        refine lv_aload_n hx hb dL_law_898 rfl (lv_at hl 0 rfl) ?_
        refine lv_iload hx hb dL_law_899 (lv_at hl 4 rfl) ?_
        refine lv_iconst (v := 2) hx hb dL_law_901 (by decide) ?_
        refine lv_iadd hx hb dL_law_902 ?_
        obtain ⟨v148, e148, hf⟩ := tk_bi hf
        refine tk_sld hx hb hX hbl hbA hs e148 dL_law_903 ?_
        refine lv_aload_n hx hb dL_law_904 rfl (lv_at hl 0 rfl) ?_
        refine lv_iload hx hb dL_law_905 (lv_at hl 4 rfl) ?_
        refine lv_iconst (v := 3) hx hb dL_law_907 (by decide) ?_
        refine lv_iadd hx hb dL_law_908 ?_
        obtain ⟨v149, e149, hf⟩ := tk_bi hf
        refine tk_sld hx hb hX hbl hbA hs e149 dL_law_909 ?_
        refine lv_aload_n hx hb dL_law_910 rfl (lv_at hl 0 rfl) ?_
        refine lv_iload hx hb dL_law_911 (lv_at hl 4 rfl) ?_
        refine lv_iconst (v := 4) hx hb dL_law_913 (by decide) ?_
        refine lv_iadd hx hb dL_law_914 ?_
        obtain ⟨v150, e150, hf⟩ := tk_bi hf
        refine tk_sld hx hb hX hbl hbA hs e150 dL_law_915 ?_
        refine lv_aload_n hx hb dL_law_916 rfl (lv_at hl 3 rfl) ?_
        obtain ⟨_, b151, hf⟩ := tk_bi hf
        have b151 := tk_bd_ok b151
        obtain ⟨o151, e151, hf⟩ := tk_bi hf
        refine tk_call (v := some (.int o151.1)) hs (vx_runSW (As := [.ref x1, .int v147, .int v148, .int v149, .int v150, .ref x3]) (rest := []) ⟨hx, hb, hml, hown, ht⟩ (cL_ring_ok l hl0 G N x1 v147 v148 v149 v150 x3 h sz o151.1 o151.2.1 o151.2.2 e151) (kwL_ring ht wmL_132 rfl rfl ⟨Nat.le_of_ble_eq_true rfl, Nat.le_of_ble_eq_true rfl⟩) (tk_preS hE hs) rfl rfl hl.1 rfl (lv_room (Nat.le_of_ble_eq_true rfl)) dL_law_917 ⟨b151.1, b151.2⟩) (fun H locs hs => ?_)
        refine W.eq (g2 := F0 m 920 ls [.int o151.1]) rfl ?_
        refine W.widen (k := kc + 1) (n := ks + 6) (Nat.le_refl _) (Nat.le_refl _) ?_
        refine lv_istore (lv' := [(5, .int o151.1), (0, .ref b), (1, .ref x1), (2, .ref x2), (3, .ref x3), (4, .int x4)]) hx hb dL_law_920 hl (by decide) rfl (fun ls hl => ?_)
        refine lv_aload_n hx hb dL_law_922 rfl (lv_at hl 3 rfl) ?_
        refine lv_aload_n hx hb dL_law_923 rfl (lv_at hl 1 rfl) ?_
        refine lv_iload hx hb dL_law_924 (lv_at hl 5 rfl) ?_
        refine lv_iconst (v := 1) hx hb dL_law_926 (by decide) ?_
        refine lv_iadd hx hb dL_law_927 ?_
        obtain ⟨v152, e152, hf⟩ := tk_bi hf
        refine tk_sld hx hb hX hbl hbA hs e152 dL_law_928 ?_
        refine lv_aload_n hx hb dL_law_929 rfl (lv_at hl 1 rfl) ?_
        refine lv_iload hx hb dL_law_930 (lv_at hl 5 rfl) ?_
        refine lv_iconst (v := 2) hx hb dL_law_932 (by decide) ?_
        refine lv_iadd hx hb dL_law_933 ?_
        obtain ⟨v153, e153, hf⟩ := tk_bi hf
        refine tk_sld hx hb hX hbl hbA hs e153 dL_law_934 ?_
        refine lv_aload_n hx hb dL_law_935 rfl (lv_at hl 1 rfl) ?_
        refine lv_iload hx hb dL_law_936 (lv_at hl 5 rfl) ?_
        refine lv_iconst (v := 3) hx hb dL_law_938 (by decide) ?_
        refine lv_iadd hx hb dL_law_939 ?_
        obtain ⟨v154, e154, hf⟩ := tk_bi hf
        refine tk_sld hx hb hX hbl hbA hs e154 dL_law_940 ?_
        refine lv_aload_n hx hb dL_law_941 rfl (lv_at hl 1 rfl) ?_
        refine lv_iload hx hb dL_law_942 (lv_at hl 5 rfl) ?_
        refine lv_iconst (v := 4) hx hb dL_law_944 (by decide) ?_
        refine lv_iadd hx hb dL_law_945 ?_
        obtain ⟨v155, e155, hf⟩ := tk_bi hf
        refine tk_sld hx hb hX hbl hbA hs e155 dL_law_946 ?_
        obtain ⟨_, p156, hf⟩ := tk_bi hf
        obtain ⟨_, b156, hf⟩ := tk_bi hf
        have b156 := tk_bd_ok b156
        obtain ⟨o156, e156, hf⟩ := tk_bi hf
        refine tk_call0 (v := some (.int o156.1)) hs (va_runV (As := [.int v152, .int v153, .int v154, .int v155]) (rest := []) ⟨hx, hb, hml, hown, ht⟩ (cX5_ring_ok l hl0 G N x2 v152 v153 v154 v155 o151.2.1 o151.2.2 o156.1 o156.2.1 o156.2.2 e156) (kwX5_ring ht wmL_135 rfl rfl ⟨Nat.le_of_ble_eq_true rfl, Nat.le_of_ble_eq_true rfl⟩) (tk_preV hE hs (tk_ok_ok p156) rfl) rfl rfl hl.1 rfl (lv_room (Nat.le_of_ble_eq_true rfl)) dL_law_947 ⟨b156.1, b156.2⟩) (fun H locs hs => ?_)
        refine W.eq (g2 := F0 m 950 ls [.int o156.1]) rfl ?_
        refine lv_istore (lv' := [(6, .int o156.1), (5, .int o151.1), (0, .ref b), (1, .ref x1), (2, .ref x2), (3, .ref x3), (4, .int x4)]) hx hb dL_law_950 hl (by decide) rfl (fun ls hl => ?_)
        refine lv_aload_n hx hb dL_law_952 rfl (lv_at hl 4 rfl) ?_
        obtain ⟨_, p157, hf⟩ := tk_bi hf
        obtain ⟨_, b157, hf⟩ := tk_bi hf
        have b157 := tk_bd_ok b157
        obtain ⟨o157, e157, hf⟩ := tk_bi hf
        refine tk_call0 (v := some (.int o157.1)) hs (va_runV (As := []) (rest := []) ⟨hx, hb, hml, hown, ht⟩ (cX5_thrown_ok l hl0 G N x2 o156.2.1 o156.2.2 o157.1 o157.2.1 o157.2.2 e157) (kwX5_thrown ht wmL_100 rfl rfl ⟨Nat.le_of_ble_eq_true rfl, Nat.le_of_ble_eq_true rfl⟩) (tk_preV hE hs (tk_ok_ok p157) rfl) rfl rfl hl.1 rfl (lv_room (Nat.le_of_ble_eq_true rfl)) dL_law_953 ⟨b157.1, b157.2⟩) (fun H locs hs => ?_)
        refine W.eq (g2 := F0 m 956 ls [.int o157.1]) rfl ?_
        refine lv_iload hx hb dL_law_956 (lv_at hl 1 rfl) ?_
        refine lv_icmp_eq (tgt := 963) hx hb dL_law_958 (by decide) (fun c158 => ?_) (fun c158 => ?_)
        · rw [if_pos c158] at hf
          refine lv_iload hx hb dL_law_963 (lv_at hl 1 rfl) ?_
          refine lv_if_ne (tgt := 980) hx hb dL_law_965 (by decide) (fun c159 => ?_) (fun c159 => ?_)
          · rw [if_neg c159] at hf
            exact tL_980 K (fL_law_23 N mf L xs n) ih x1 x2 x3 x4 o157.2.1 o157.2.2 (kc + 1) (ks + 6) _ _ _ hf hs (lv_sub hl [2, 3, 4, 5, 6] rfl)
          · rw [if_pos c159] at hf
            refine lv_aload_n hx hb dL_law_968 rfl (lv_at hl 5 rfl) ?_
            refine lv_iconst (v := 0) hx hb dL_law_969 (by decide) ?_
            obtain ⟨v160, e160, hf⟩ := tk_bi hf
            refine tk_lald hx hb hE hs e160 dL_law_970 ?_
            refine lv_iload hx hb dL_law_971 (lv_at hl 0 rfl) ?_
            refine lv_i2l (v := o156.1.toInt64) hx hb dL_law_973 rfl ?_
            refine W.lcmp hx hb dL_law_974 ?_
            refine lv_if_eq (tgt := 980) hx hb dL_law_975 (by decide) (fun c161 => ?_) (fun c161 => ?_)
            · rw [if_pos c161] at hf
              exact tL_980 K (fL_law_23 N mf L xs n) ih x1 x2 x3 x4 o157.2.1 o157.2.2 (kc + 1) (ks + 6) _ _ _ hf hs (lv_sub hl [2, 3, 4, 5, 6] rfl)
            · rw [if_neg c161] at hf
              refine lv_iconst (v := 0) hx hb dL_law_978 (by decide) ?_
              cases hf
        · rw [if_neg c158] at hf
          refine lv_iconst (v := 0) hx hb dL_law_961 (by decide) ?_
          cases hf
      rw [if_neg c146] at hf
      by_cases c162 : (v42 &&& 31) = 11
      · rw [if_pos c162] at hf
        refine lv_tableIn (off := 943) (tgt := 983) hx hb dL_law_40 (by rw [c162]; decide) (by rw [c162]; decide) (by rw [c162]; rfl) (by decide) ?_
        refine lv_aload_n hx hb dL_law_983 rfl (lv_at hl 1 rfl) ?_
        obtain ⟨_, p163, hf⟩ := tk_bi hf
        obtain ⟨_, b163, hf⟩ := tk_bi hf
        have b163 := tk_bd_ok b163
        obtain ⟨o163, e163, hf⟩ := tk_bi hf
        rcases w163 : o163.1 with r163 | E163
        · rw [w163, Sum.elim_inl] at hf
          refine tk_xret (v := some (.int r163)) hs (vx_runV (As := []) (rest := []) ⟨hx, hb, hml, hown, ht⟩ (cX4_week_ok l hl0 G N (mf h) x1 h sz (Sum.inl r163) o163.2.1 o163.2.2 (by rw [e163, ← w163])) (kwX4_week ht wmL_136 rfl rfl ⟨Nat.le_of_ble_eq_true rfl, Nat.le_of_ble_eq_true rfl⟩) (tk_preV hE hs (tk_ok_ok p163) rfl) rfl rfl hl.1 rfl (lv_room (Nat.le_of_ble_eq_true rfl)) dL_law_984 ⟨b163.1, b163.2⟩) (fun H locs hs => ?_)
          refine W.eq (g2 := F0 m 987 ls [.int r163]) rfl ?_
          refine W.widen (k := kc + 1) (n := ks + (mf h)) (Nat.le_refl _) (Nat.le_refl _) ?_
          refine lv_aload_n hx hb dL_law_987 rfl (lv_at hl 2 rfl) ?_
          obtain ⟨_, p164, hf⟩ := tk_bi hf
          obtain ⟨_, b164, hf⟩ := tk_bi hf
          have b164 := tk_bd_ok b164
          obtain ⟨o164, e164, hf⟩ := tk_bi hf
          refine tk_call0 (v := some (.int o164.1)) hs (va_runV (As := []) (rest := [.int r163]) ⟨hx, hb, hml, hown, ht⟩ (cX5_week_ok l hl0 G N x2 o163.2.1 o163.2.2 o164.1 o164.2.1 o164.2.2 e164) (kwX5_week ht wmL_139 rfl rfl ⟨Nat.le_of_ble_eq_true rfl, Nat.le_of_ble_eq_true rfl⟩) (tk_preV hE hs (tk_ok_ok p164) rfl) rfl rfl hl.1 rfl (lv_room (Nat.le_of_ble_eq_true rfl)) dL_law_988 ⟨b164.1, b164.2⟩) (fun H locs hs => ?_)
          refine W.eq (g2 := F0 m 991 ls [.int o164.1, .int r163]) rfl ?_
          refine lv_icmp_eq (tgt := 1856) hx hb dL_law_991 (by decide) (fun c165 => ?_) (fun c165 => ?_)
          · rw [if_pos c165] at hf
            exact tL_1856 K (fL_law_23 N mf L xs n) ih x1 x2 x3 x4 o164.2.1 o164.2.2 (kc + 1) (ks + (mf h)) _ _ _ hf hs (lv_sub hl [0, 1, 2, 3, 4] rfl)
          · rw [if_neg c165] at hf
            refine lv_iconst (v := 0) hx hb dL_law_994 (by decide) ?_
            cases hf
        · rw [w163, Sum.elim_inr] at hf
          cases hf
      rw [if_neg c162] at hf
      by_cases c166 : (v42 &&& 31) = 12
      · rw [if_pos c166] at hf
        refine lv_tableIn (off := 956) (tgt := 996) hx hb dL_law_40 (by rw [c166]; decide) (by rw [c166]; decide) (by rw [c166]; rfl) (by decide) ?_
        refine lv_aload_n hx hb dL_law_996 rfl (lv_at hl 1 rfl) ?_
        obtain ⟨_, p167, hf⟩ := tk_bi hf
        obtain ⟨_, b167, hf⟩ := tk_bi hf
        have b167 := tk_bd_ok b167
        obtain ⟨o167, e167, hf⟩ := tk_bi hf
        refine tk_call0 (v := some (.int o167.1)) hs (va_runV (As := []) (rest := []) ⟨hx, hb, hml, hown, ht⟩ (cX4_rings_ok l hl0 G N x1 h sz o167.1 o167.2.1 o167.2.2 e167) (kwX4_rings ht wmL_140 rfl rfl ⟨Nat.le_of_ble_eq_true rfl, Nat.le_of_ble_eq_true rfl⟩) (tk_preV hE hs (tk_ok_ok p167) rfl) rfl rfl hl.1 rfl (lv_room (Nat.le_of_ble_eq_true rfl)) dL_law_997 ⟨b167.1, b167.2⟩) (fun H locs hs => ?_)
        refine W.eq (g2 := F0 m 1000 ls [.int o167.1]) rfl ?_
        refine lv_aload_n hx hb dL_law_1000 rfl (lv_at hl 2 rfl) ?_
        obtain ⟨_, p168, hf⟩ := tk_bi hf
        obtain ⟨_, b168, hf⟩ := tk_bi hf
        have b168 := tk_bd_ok b168
        obtain ⟨o168, e168, hf⟩ := tk_bi hf
        refine tk_call0 (v := some (.int o168.1)) hs (va_runV (As := []) (rest := [.int o167.1]) ⟨hx, hb, hml, hown, ht⟩ (cX5_rings_ok l hl0 G N x2 o167.2.1 o167.2.2 o168.1 o168.2.1 o168.2.2 e168) (kwX5_rings ht wmL_143 rfl rfl ⟨Nat.le_of_ble_eq_true rfl, Nat.le_of_ble_eq_true rfl⟩) (tk_preV hE hs (tk_ok_ok p168) rfl) rfl rfl hl.1 rfl (lv_room (Nat.le_of_ble_eq_true rfl)) dL_law_1001 ⟨b168.1, b168.2⟩) (fun H locs hs => ?_)
        refine W.eq (g2 := F0 m 1004 ls [.int o168.1, .int o167.1]) rfl ?_
        refine lv_icmp_eq (tgt := 1856) hx hb dL_law_1004 (by decide) (fun c169 => ?_) (fun c169 => ?_)
        · rw [if_pos c169] at hf
          exact tL_1856 K (fL_law_23 N mf L xs n) ih x1 x2 x3 x4 o168.2.1 o168.2.2 kc ks _ _ _ hf hs (lv_sub hl [0, 1, 2, 3, 4] rfl)
        · rw [if_neg c169] at hf
          refine lv_iconst (v := 0) hx hb dL_law_1007 (by decide) ?_
          cases hf
      rw [if_neg c166] at hf
      by_cases c170 : (v42 &&& 31) = 13
      · rw [if_pos c170] at hf
        refine lv_tableIn (off := 969) (tgt := 1009) hx hb dL_law_40 (by rw [c170]; decide) (by rw [c170]; decide) (by rw [c170]; rfl) (by decide) ?_
        refine lv_aload_n hx hb dL_law_1009 rfl (lv_at hl 1 rfl) ?_
        refine lv_aload_n hx hb dL_law_1010 rfl (lv_at hl 0 rfl) ?_
        refine lv_iload hx hb dL_law_1011 (lv_at hl 4 rfl) ?_
        refine lv_iconst (v := 1) hx hb dL_law_1013 (by decide) ?_
        refine lv_iadd hx hb dL_law_1014 ?_
        obtain ⟨v171, e171, hf⟩ := tk_bi hf
        refine tk_sld hx hb hX hbl hbA hs e171 dL_law_1015 ?_
        refine lv_aload_n hx hb dL_law_1016 rfl (lv_at hl 0 rfl) ?_
        refine lv_iload hx hb dL_law_1017 (lv_at hl 4 rfl) ?_
        refine lv_iconst (v := 2) hx hb dL_law_1019 (by decide) ?_
        refine lv_iadd hx hb dL_law_1020 ?_
        obtain ⟨v172, e172, hf⟩ := tk_bi hf
        refine tk_sld hx hb hX hbl hbA hs e172 dL_law_1021 ?_
        refine lv_aload_n hx hb dL_law_1022 rfl (lv_at hl 3 rfl) ?_
        obtain ⟨_, b173, hf⟩ := tk_bi hf
        have b173 := tk_bd_ok b173
        obtain ⟨o173, e173, hf⟩ := tk_bi hf
        refine tk_call (v := some (.int o173.1)) hs (vx_runSW (As := [.ref x1, .int v171, .int v172, .ref x3]) (rest := []) ⟨hx, hb, hml, hown, ht⟩ (cL_ringOf_ok l hl0 G N x1 v171 v172 x3 h sz o173.1 o173.2.1 o173.2.2 e173) (kwL_ringOf ht wmL_144 rfl rfl ⟨Nat.le_of_ble_eq_true rfl, Nat.le_of_ble_eq_true rfl⟩) (tk_preS hE hs) rfl rfl hl.1 rfl (lv_room (Nat.le_of_ble_eq_true rfl)) dL_law_1023 ⟨b173.1, b173.2⟩) (fun H locs hs => ?_)
        refine W.eq (g2 := F0 m 1026 ls [.int o173.1]) rfl ?_
        refine W.widen (k := kc + 1) (n := ks + 6) (Nat.le_refl _) (Nat.le_refl _) ?_
        refine lv_istore (lv' := [(5, .int o173.1), (0, .ref b), (1, .ref x1), (2, .ref x2), (3, .ref x3), (4, .int x4)]) hx hb dL_law_1026 hl (by decide) rfl (fun ls hl => ?_)
        refine lv_aload_n hx hb dL_law_1028 rfl (lv_at hl 3 rfl) ?_
        refine lv_aload_n hx hb dL_law_1029 rfl (lv_at hl 1 rfl) ?_
        refine lv_iload hx hb dL_law_1030 (lv_at hl 5 rfl) ?_
        refine lv_iconst (v := 1) hx hb dL_law_1032 (by decide) ?_
        refine lv_iadd hx hb dL_law_1033 ?_
        obtain ⟨v174, e174, hf⟩ := tk_bi hf
        refine tk_sld hx hb hX hbl hbA hs e174 dL_law_1034 ?_
        refine lv_aload_n hx hb dL_law_1035 rfl (lv_at hl 1 rfl) ?_
        refine lv_iload hx hb dL_law_1036 (lv_at hl 5 rfl) ?_
        refine lv_iconst (v := 2) hx hb dL_law_1038 (by decide) ?_
        refine lv_iadd hx hb dL_law_1039 ?_
        obtain ⟨v175, e175, hf⟩ := tk_bi hf
        refine tk_sld hx hb hX hbl hbA hs e175 dL_law_1040 ?_
        obtain ⟨_, p176, hf⟩ := tk_bi hf
        obtain ⟨_, b176, hf⟩ := tk_bi hf
        have b176 := tk_bd_ok b176
        obtain ⟨o176, e176, hf⟩ := tk_bi hf
        refine tk_call0 (v := some (.int o176.1)) hs (va_runV (As := [.int v174, .int v175]) (rest := []) ⟨hx, hb, hml, hown, ht⟩ (cX5_ringOf_ok l hl0 G N x2 v174 v175 o173.2.1 o173.2.2 o176.1 o176.2.1 o176.2.2 e176) (kwX5_ringOf ht wmL_146 rfl rfl ⟨Nat.le_of_ble_eq_true rfl, Nat.le_of_ble_eq_true rfl⟩) (tk_preV hE hs (tk_ok_ok p176) rfl) rfl rfl hl.1 rfl (lv_room (Nat.le_of_ble_eq_true rfl)) dL_law_1041 ⟨b176.1, b176.2⟩) (fun H locs hs => ?_)
        refine W.eq (g2 := F0 m 1044 ls [.int o176.1]) rfl ?_
        refine lv_istore (lv' := [(6, .int o176.1), (5, .int o173.1), (0, .ref b), (1, .ref x1), (2, .ref x2), (3, .ref x3), (4, .int x4)]) hx hb dL_law_1044 hl (by decide) rfl (fun ls hl => ?_)
        refine lv_aload_n hx hb dL_law_1046 rfl (lv_at hl 4 rfl) ?_
        obtain ⟨_, p177, hf⟩ := tk_bi hf
        obtain ⟨_, b177, hf⟩ := tk_bi hf
        have b177 := tk_bd_ok b177
        obtain ⟨o177, e177, hf⟩ := tk_bi hf
        refine tk_call0 (v := some (.int o177.1)) hs (va_runV (As := []) (rest := []) ⟨hx, hb, hml, hown, ht⟩ (cX5_thrown_ok l hl0 G N x2 o176.2.1 o176.2.2 o177.1 o177.2.1 o177.2.2 e177) (kwX5_thrown ht wmL_100 rfl rfl ⟨Nat.le_of_ble_eq_true rfl, Nat.le_of_ble_eq_true rfl⟩) (tk_preV hE hs (tk_ok_ok p177) rfl) rfl rfl hl.1 rfl (lv_room (Nat.le_of_ble_eq_true rfl)) dL_law_1047 ⟨b177.1, b177.2⟩) (fun H locs hs => ?_)
        refine W.eq (g2 := F0 m 1050 ls [.int o177.1]) rfl ?_
        refine lv_iload hx hb dL_law_1050 (lv_at hl 1 rfl) ?_
        refine lv_icmp_eq (tgt := 1057) hx hb dL_law_1052 (by decide) (fun c178 => ?_) (fun c178 => ?_)
        · rw [if_pos c178] at hf
          refine lv_iload hx hb dL_law_1057 (lv_at hl 1 rfl) ?_
          refine lv_if_ne (tgt := 1074) hx hb dL_law_1059 (by decide) (fun c179 => ?_) (fun c179 => ?_)
          · rw [if_neg c179] at hf
            exact tL_1074 K (fL_law_23 N mf L xs n) ih x1 x2 x3 x4 o177.2.1 o177.2.2 (kc + 1) (ks + 6) _ _ _ hf hs (lv_sub hl [2, 3, 4, 5, 6] rfl)
          · rw [if_pos c179] at hf
            refine lv_aload_n hx hb dL_law_1062 rfl (lv_at hl 5 rfl) ?_
            refine lv_iconst (v := 0) hx hb dL_law_1063 (by decide) ?_
            obtain ⟨v180, e180, hf⟩ := tk_bi hf
            refine tk_lald hx hb hE hs e180 dL_law_1064 ?_
            refine lv_iload hx hb dL_law_1065 (lv_at hl 0 rfl) ?_
            refine lv_i2l (v := o176.1.toInt64) hx hb dL_law_1067 rfl ?_
            refine W.lcmp hx hb dL_law_1068 ?_
            refine lv_if_eq (tgt := 1074) hx hb dL_law_1069 (by decide) (fun c181 => ?_) (fun c181 => ?_)
            · rw [if_pos c181] at hf
              exact tL_1074 K (fL_law_23 N mf L xs n) ih x1 x2 x3 x4 o177.2.1 o177.2.2 (kc + 1) (ks + 6) _ _ _ hf hs (lv_sub hl [2, 3, 4, 5, 6] rfl)
            · rw [if_neg c181] at hf
              refine lv_iconst (v := 0) hx hb dL_law_1072 (by decide) ?_
              cases hf
        · rw [if_neg c178] at hf
          refine lv_iconst (v := 0) hx hb dL_law_1055 (by decide) ?_
          cases hf
      rw [if_neg c170] at hf
      by_cases c182 : (v42 &&& 31) = 14
      · rw [if_pos c182] at hf
        refine lv_tableIn (off := 1037) (tgt := 1077) hx hb dL_law_40 (by rw [c182]; decide) (by rw [c182]; decide) (by rw [c182]; rfl) (by decide) ?_
        refine lv_aload_n hx hb dL_law_1077 rfl (lv_at hl 1 rfl) ?_
        refine lv_aload_n hx hb dL_law_1078 rfl (lv_at hl 0 rfl) ?_
        refine lv_iload hx hb dL_law_1079 (lv_at hl 4 rfl) ?_
        refine lv_iconst (v := 1) hx hb dL_law_1081 (by decide) ?_
        refine lv_iadd hx hb dL_law_1082 ?_
        obtain ⟨v183, e183, hf⟩ := tk_bi hf
        refine tk_sld hx hb hX hbl hbA hs e183 dL_law_1083 ?_
        refine lv_aload_n hx hb dL_law_1084 rfl (lv_at hl 3 rfl) ?_
        obtain ⟨_, b184, hf⟩ := tk_bi hf
        have b184 := tk_bd_ok b184
        obtain ⟨o184, e184, hf⟩ := tk_bi hf
        refine tk_call (v := some (.int o184.1)) hs (vx_runSW (As := [.ref x1, .int v183, .ref x3]) (rest := []) ⟨hx, hb, hml, hown, ht⟩ (cL_missed_ok l hl0 G N x1 v183 x3 h sz o184.1 o184.2.1 o184.2.2 e184) (kwL_missed ht wmL_147 rfl rfl ⟨Nat.le_of_ble_eq_true rfl, Nat.le_of_ble_eq_true rfl⟩) (tk_preS hE hs) rfl rfl hl.1 rfl (lv_room (Nat.le_of_ble_eq_true rfl)) dL_law_1085 ⟨b184.1, b184.2⟩) (fun H locs hs => ?_)
        refine W.eq (g2 := F0 m 1088 ls [.int o184.1]) rfl ?_
        refine W.widen (k := kc + 1) (n := ks + 6) (Nat.le_refl _) (Nat.le_refl _) ?_
        refine lv_istore (lv' := [(5, .int o184.1), (0, .ref b), (1, .ref x1), (2, .ref x2), (3, .ref x3), (4, .int x4)]) hx hb dL_law_1088 hl (by decide) rfl (fun ls hl => ?_)
        refine lv_aload_n hx hb dL_law_1090 rfl (lv_at hl 3 rfl) ?_
        refine lv_aload_n hx hb dL_law_1091 rfl (lv_at hl 1 rfl) ?_
        refine lv_iload hx hb dL_law_1092 (lv_at hl 5 rfl) ?_
        refine lv_iconst (v := 1) hx hb dL_law_1094 (by decide) ?_
        refine lv_iadd hx hb dL_law_1095 ?_
        obtain ⟨v185, e185, hf⟩ := tk_bi hf
        refine tk_sld hx hb hX hbl hbA hs e185 dL_law_1096 ?_
        obtain ⟨_, p186, hf⟩ := tk_bi hf
        obtain ⟨_, b186, hf⟩ := tk_bi hf
        have b186 := tk_bd_ok b186
        obtain ⟨o186, e186, hf⟩ := tk_bi hf
        refine tk_call0 (v := some (.int o186.1)) hs (va_runV (As := [.int v185]) (rest := []) ⟨hx, hb, hml, hown, ht⟩ (cX5_missed_ok l hl0 G N x2 v185 o184.2.1 o184.2.2 o186.1 o186.2.1 o186.2.2 e186) (kwX5_missed ht wmL_149 rfl rfl ⟨Nat.le_of_ble_eq_true rfl, Nat.le_of_ble_eq_true rfl⟩) (tk_preV hE hs (tk_ok_ok p186) rfl) rfl rfl hl.1 rfl (lv_room (Nat.le_of_ble_eq_true rfl)) dL_law_1097 ⟨b186.1, b186.2⟩) (fun H locs hs => ?_)
        refine W.eq (g2 := F0 m 1100 ls [.int o186.1]) rfl ?_
        refine lv_istore (lv' := [(6, .int o186.1), (5, .int o184.1), (0, .ref b), (1, .ref x1), (2, .ref x2), (3, .ref x3), (4, .int x4)]) hx hb dL_law_1100 hl (by decide) rfl (fun ls hl => ?_)
        refine lv_aload_n hx hb dL_law_1102 rfl (lv_at hl 4 rfl) ?_
        obtain ⟨_, p187, hf⟩ := tk_bi hf
        obtain ⟨_, b187, hf⟩ := tk_bi hf
        have b187 := tk_bd_ok b187
        obtain ⟨o187, e187, hf⟩ := tk_bi hf
        refine tk_call0 (v := some (.int o187.1)) hs (va_runV (As := []) (rest := []) ⟨hx, hb, hml, hown, ht⟩ (cX5_thrown_ok l hl0 G N x2 o186.2.1 o186.2.2 o187.1 o187.2.1 o187.2.2 e187) (kwX5_thrown ht wmL_100 rfl rfl ⟨Nat.le_of_ble_eq_true rfl, Nat.le_of_ble_eq_true rfl⟩) (tk_preV hE hs (tk_ok_ok p187) rfl) rfl rfl hl.1 rfl (lv_room (Nat.le_of_ble_eq_true rfl)) dL_law_1103 ⟨b187.1, b187.2⟩) (fun H locs hs => ?_)
        refine W.eq (g2 := F0 m 1106 ls [.int o187.1]) rfl ?_
        refine lv_iload hx hb dL_law_1106 (lv_at hl 1 rfl) ?_
        refine lv_icmp_eq (tgt := 1113) hx hb dL_law_1108 (by decide) (fun c188 => ?_) (fun c188 => ?_)
        · rw [if_pos c188] at hf
          refine lv_iload hx hb dL_law_1113 (lv_at hl 1 rfl) ?_
          refine lv_if_ne (tgt := 1137) hx hb dL_law_1115 (by decide) (fun c189 => ?_) (fun c189 => ?_)
          · rw [if_neg c189] at hf
            exact tL_1137 K (fL_law_23 N mf L xs n) ih x1 x2 x3 x4 o187.2.1 o187.2.2 (kc + 1) (ks + 6) _ _ _ hf hs (lv_sub hl [2, 3, 4, 5, 6] rfl)
          · rw [if_pos c189] at hf
            refine lv_aload_n hx hb dL_law_1118 rfl (lv_at hl 5 rfl) ?_
            refine lv_iconst (v := 0) hx hb dL_law_1119 (by decide) ?_
            obtain ⟨v190, e190, hf⟩ := tk_bi hf
            refine tk_lald hx hb hE hs e190 dL_law_1120 ?_
            refine lv_iload hx hb dL_law_1121 (lv_at hl 0 rfl) ?_
            refine lv_if_eq (tgt := 1130) hx hb dL_law_1123 (by decide) (fun c191 => ?_) (fun c191 => ?_)
            · rw [if_pos c191] at hf
              refine lv_lconst (v := 0) hx hb dL_law_1130 (by decide) ?_
              exact tL_1131 K (fL_law_23 N mf L xs n) ih x1 x2 x3 x4 0 v190 o187.2.1 o187.2.2 (kc + 1) (ks + 6) _ _ _ hf hs (lv_sub hl [2, 3, 4, 5, 6] rfl)
            · rw [if_neg c191] at hf
              refine lv_lconst (v := 1) hx hb dL_law_1126 (by decide) ?_
              refine lv_goto (tgt := 1131) hx hb dL_law_1127 (by decide) ?_
              exact tL_1131 K (fL_law_23 N mf L xs n) ih x1 x2 x3 x4 1 v190 o187.2.1 o187.2.2 (kc + 1) (ks + 6) _ _ _ hf hs (lv_sub hl [2, 3, 4, 5, 6] rfl)
        · rw [if_neg c188] at hf
          refine lv_iconst (v := 0) hx hb dL_law_1111 (by decide) ?_
          cases hf
      rw [if_neg c182] at hf
      by_cases c192 : (v42 &&& 31) = 15
      · rw [if_pos c192] at hf
        refine lv_tableIn (off := 1100) (tgt := 1140) hx hb dL_law_40 (by rw [c192]; decide) (by rw [c192]; decide) (by rw [c192]; rfl) (by decide) ?_
        refine lv_aload_n hx hb dL_law_1140 rfl (lv_at hl 1 rfl) ?_
        refine lv_aload_n hx hb dL_law_1141 rfl (lv_at hl 0 rfl) ?_
        refine lv_iload hx hb dL_law_1142 (lv_at hl 4 rfl) ?_
        refine lv_iconst (v := 1) hx hb dL_law_1144 (by decide) ?_
        refine lv_iadd hx hb dL_law_1145 ?_
        obtain ⟨v193, e193, hf⟩ := tk_bi hf
        refine tk_sld hx hb hX hbl hbA hs e193 dL_law_1146 ?_
        refine lv_aload_n hx hb dL_law_1147 rfl (lv_at hl 3 rfl) ?_
        obtain ⟨_, b194, hf⟩ := tk_bi hf
        have b194 := tk_bd_ok b194
        obtain ⟨o194, e194, hf⟩ := tk_bi hf
        refine tk_call (v := some (.int o194.1)) hs (vx_runSW (As := [.ref x1, .int v193, .ref x3]) (rest := []) ⟨hx, hb, hml, hown, ht⟩ (cL_waited_ok l hl0 G N x1 v193 x3 h sz o194.1 o194.2.1 o194.2.2 e194) (kwL_waited ht wmL_150 rfl rfl ⟨Nat.le_of_ble_eq_true rfl, Nat.le_of_ble_eq_true rfl⟩) (tk_preS hE hs) rfl rfl hl.1 rfl (lv_room (Nat.le_of_ble_eq_true rfl)) dL_law_1148 ⟨b194.1, b194.2⟩) (fun H locs hs => ?_)
        refine W.eq (g2 := F0 m 1151 ls [.int o194.1]) rfl ?_
        refine W.widen (k := kc + 1) (n := ks + 6) (Nat.le_refl _) (Nat.le_refl _) ?_
        refine lv_istore (lv' := [(5, .int o194.1), (0, .ref b), (1, .ref x1), (2, .ref x2), (3, .ref x3), (4, .int x4)]) hx hb dL_law_1151 hl (by decide) rfl (fun ls hl => ?_)
        refine lv_aload_n hx hb dL_law_1153 rfl (lv_at hl 3 rfl) ?_
        refine lv_aload_n hx hb dL_law_1154 rfl (lv_at hl 1 rfl) ?_
        refine lv_iload hx hb dL_law_1155 (lv_at hl 5 rfl) ?_
        refine lv_iconst (v := 1) hx hb dL_law_1157 (by decide) ?_
        refine lv_iadd hx hb dL_law_1158 ?_
        obtain ⟨v195, e195, hf⟩ := tk_bi hf
        refine tk_sld hx hb hX hbl hbA hs e195 dL_law_1159 ?_
        obtain ⟨_, p196, hf⟩ := tk_bi hf
        obtain ⟨_, b196, hf⟩ := tk_bi hf
        have b196 := tk_bd_ok b196
        obtain ⟨o196, e196, hf⟩ := tk_bi hf
        refine tk_call0 (v := some (.int o196.1)) hs (va_runV (As := [.int v195]) (rest := []) ⟨hx, hb, hml, hown, ht⟩ (cX5_waited_ok l hl0 G N x2 v195 o194.2.1 o194.2.2 o196.1 o196.2.1 o196.2.2 e196) (kwX5_waited ht wmL_152 rfl rfl ⟨Nat.le_of_ble_eq_true rfl, Nat.le_of_ble_eq_true rfl⟩) (tk_preV hE hs (tk_ok_ok p196) rfl) rfl rfl hl.1 rfl (lv_room (Nat.le_of_ble_eq_true rfl)) dL_law_1160 ⟨b196.1, b196.2⟩) (fun H locs hs => ?_)
        refine W.eq (g2 := F0 m 1163 ls [.int o196.1]) rfl ?_
        refine lv_istore (lv' := [(6, .int o196.1), (5, .int o194.1), (0, .ref b), (1, .ref x1), (2, .ref x2), (3, .ref x3), (4, .int x4)]) hx hb dL_law_1163 hl (by decide) rfl (fun ls hl => ?_)
        refine lv_aload_n hx hb dL_law_1165 rfl (lv_at hl 4 rfl) ?_
        obtain ⟨_, p197, hf⟩ := tk_bi hf
        obtain ⟨_, b197, hf⟩ := tk_bi hf
        have b197 := tk_bd_ok b197
        obtain ⟨o197, e197, hf⟩ := tk_bi hf
        refine tk_call0 (v := some (.int o197.1)) hs (va_runV (As := []) (rest := []) ⟨hx, hb, hml, hown, ht⟩ (cX5_thrown_ok l hl0 G N x2 o196.2.1 o196.2.2 o197.1 o197.2.1 o197.2.2 e197) (kwX5_thrown ht wmL_100 rfl rfl ⟨Nat.le_of_ble_eq_true rfl, Nat.le_of_ble_eq_true rfl⟩) (tk_preV hE hs (tk_ok_ok p197) rfl) rfl rfl hl.1 rfl (lv_room (Nat.le_of_ble_eq_true rfl)) dL_law_1166 ⟨b197.1, b197.2⟩) (fun H locs hs => ?_)
        refine W.eq (g2 := F0 m 1169 ls [.int o197.1]) rfl ?_
        refine lv_iload hx hb dL_law_1169 (lv_at hl 1 rfl) ?_
        refine lv_icmp_eq (tgt := 1176) hx hb dL_law_1171 (by decide) (fun c198 => ?_) (fun c198 => ?_)
        · rw [if_pos c198] at hf
          refine lv_iload hx hb dL_law_1176 (lv_at hl 1 rfl) ?_
          refine lv_if_ne (tgt := 1193) hx hb dL_law_1178 (by decide) (fun c199 => ?_) (fun c199 => ?_)
          · rw [if_neg c199] at hf
            exact tL_1193 K (fL_law_23 N mf L xs n) ih x1 x2 x3 x4 o197.2.1 o197.2.2 (kc + 1) (ks + 6) _ _ _ hf hs (lv_sub hl [2, 3, 4, 5, 6] rfl)
          · rw [if_pos c199] at hf
            refine lv_aload_n hx hb dL_law_1181 rfl (lv_at hl 5 rfl) ?_
            refine lv_iconst (v := 0) hx hb dL_law_1182 (by decide) ?_
            obtain ⟨v200, e200, hf⟩ := tk_bi hf
            refine tk_lald hx hb hE hs e200 dL_law_1183 ?_
            refine lv_iload hx hb dL_law_1184 (lv_at hl 0 rfl) ?_
            refine lv_i2l (v := o196.1.toInt64) hx hb dL_law_1186 rfl ?_
            refine W.lcmp hx hb dL_law_1187 ?_
            refine lv_if_eq (tgt := 1193) hx hb dL_law_1188 (by decide) (fun c201 => ?_) (fun c201 => ?_)
            · rw [if_pos c201] at hf
              exact tL_1193 K (fL_law_23 N mf L xs n) ih x1 x2 x3 x4 o197.2.1 o197.2.2 (kc + 1) (ks + 6) _ _ _ hf hs (lv_sub hl [2, 3, 4, 5, 6] rfl)
            · rw [if_neg c201] at hf
              refine lv_iconst (v := 0) hx hb dL_law_1191 (by decide) ?_
              cases hf
        · rw [if_neg c198] at hf
          refine lv_iconst (v := 0) hx hb dL_law_1174 (by decide) ?_
          cases hf
      rw [if_neg c192] at hf
      by_cases c202 : (v42 &&& 31) = 16
      · rw [if_pos c202] at hf
        refine lv_tableIn (off := 1156) (tgt := 1196) hx hb dL_law_40 (by rw [c202]; decide) (by rw [c202]; decide) (by rw [c202]; rfl) (by decide) ?_
        refine lv_aload_n hx hb dL_law_1196 rfl (lv_at hl 1 rfl) ?_
        refine lv_aload_n hx hb dL_law_1197 rfl (lv_at hl 0 rfl) ?_
        refine lv_iload hx hb dL_law_1198 (lv_at hl 4 rfl) ?_
        refine lv_iconst (v := 1) hx hb dL_law_1200 (by decide) ?_
        refine lv_iadd hx hb dL_law_1201 ?_
        obtain ⟨v203, e203, hf⟩ := tk_bi hf
        refine tk_sld hx hb hX hbl hbA hs e203 dL_law_1202 ?_
        refine lv_aload_n hx hb dL_law_1203 rfl (lv_at hl 3 rfl) ?_
        obtain ⟨_, b204, hf⟩ := tk_bi hf
        have b204 := tk_bd_ok b204
        obtain ⟨o204, e204, hf⟩ := tk_bi hf
        refine tk_call (v := some (.int o204.1)) hs (vx_runSW (As := [.ref x1, .int v203, .ref x3]) (rest := []) ⟨hx, hb, hml, hown, ht⟩ (cL_days_ok l hl0 G N x1 v203 x3 h sz o204.1 o204.2.1 o204.2.2 e204) (kwL_days ht wmL_153 rfl rfl ⟨Nat.le_of_ble_eq_true rfl, Nat.le_of_ble_eq_true rfl⟩) (tk_preS hE hs) rfl rfl hl.1 rfl (lv_room (Nat.le_of_ble_eq_true rfl)) dL_law_1204 ⟨b204.1, b204.2⟩) (fun H locs hs => ?_)
        refine W.eq (g2 := F0 m 1207 ls [.int o204.1]) rfl ?_
        refine W.widen (k := kc + 1) (n := ks + 6) (Nat.le_refl _) (Nat.le_refl _) ?_
        refine lv_istore (lv' := [(5, .int o204.1), (0, .ref b), (1, .ref x1), (2, .ref x2), (3, .ref x3), (4, .int x4)]) hx hb dL_law_1207 hl (by decide) rfl (fun ls hl => ?_)
        refine lv_aload_n hx hb dL_law_1209 rfl (lv_at hl 3 rfl) ?_
        refine lv_aload_n hx hb dL_law_1210 rfl (lv_at hl 1 rfl) ?_
        refine lv_iload hx hb dL_law_1211 (lv_at hl 5 rfl) ?_
        refine lv_iconst (v := 1) hx hb dL_law_1213 (by decide) ?_
        refine lv_iadd hx hb dL_law_1214 ?_
        obtain ⟨v205, e205, hf⟩ := tk_bi hf
        refine tk_sld hx hb hX hbl hbA hs e205 dL_law_1215 ?_
        obtain ⟨_, p206, hf⟩ := tk_bi hf
        obtain ⟨_, b206, hf⟩ := tk_bi hf
        have b206 := tk_bd_ok b206
        obtain ⟨o206, e206, hf⟩ := tk_bi hf
        refine tk_call0 (v := some (.int o206.1)) hs (va_runV (As := [.int v205]) (rest := []) ⟨hx, hb, hml, hown, ht⟩ (cX5_days_ok l hl0 G N x2 v205 o204.2.1 o204.2.2 o206.1 o206.2.1 o206.2.2 e206) (kwX5_days ht wmL_155 rfl rfl ⟨Nat.le_of_ble_eq_true rfl, Nat.le_of_ble_eq_true rfl⟩) (tk_preV hE hs (tk_ok_ok p206) rfl) rfl rfl hl.1 rfl (lv_room (Nat.le_of_ble_eq_true rfl)) dL_law_1216 ⟨b206.1, b206.2⟩) (fun H locs hs => ?_)
        refine W.eq (g2 := F0 m 1219 ls [.int o206.1]) rfl ?_
        refine lv_istore (lv' := [(6, .int o206.1), (5, .int o204.1), (0, .ref b), (1, .ref x1), (2, .ref x2), (3, .ref x3), (4, .int x4)]) hx hb dL_law_1219 hl (by decide) rfl (fun ls hl => ?_)
        refine lv_aload_n hx hb dL_law_1221 rfl (lv_at hl 4 rfl) ?_
        obtain ⟨_, p207, hf⟩ := tk_bi hf
        obtain ⟨_, b207, hf⟩ := tk_bi hf
        have b207 := tk_bd_ok b207
        obtain ⟨o207, e207, hf⟩ := tk_bi hf
        refine tk_call0 (v := some (.int o207.1)) hs (va_runV (As := []) (rest := []) ⟨hx, hb, hml, hown, ht⟩ (cX5_thrown_ok l hl0 G N x2 o206.2.1 o206.2.2 o207.1 o207.2.1 o207.2.2 e207) (kwX5_thrown ht wmL_100 rfl rfl ⟨Nat.le_of_ble_eq_true rfl, Nat.le_of_ble_eq_true rfl⟩) (tk_preV hE hs (tk_ok_ok p207) rfl) rfl rfl hl.1 rfl (lv_room (Nat.le_of_ble_eq_true rfl)) dL_law_1222 ⟨b207.1, b207.2⟩) (fun H locs hs => ?_)
        refine W.eq (g2 := F0 m 1225 ls [.int o207.1]) rfl ?_
        refine lv_iload hx hb dL_law_1225 (lv_at hl 1 rfl) ?_
        refine lv_icmp_eq (tgt := 1232) hx hb dL_law_1227 (by decide) (fun c208 => ?_) (fun c208 => ?_)
        · rw [if_pos c208] at hf
          refine lv_iload hx hb dL_law_1232 (lv_at hl 1 rfl) ?_
          refine lv_if_ne (tgt := 1249) hx hb dL_law_1234 (by decide) (fun c209 => ?_) (fun c209 => ?_)
          · rw [if_neg c209] at hf
            exact tL_1249 K (fL_law_23 N mf L xs n) ih x1 x2 x3 x4 o207.2.1 o207.2.2 (kc + 1) (ks + 6) _ _ _ hf hs (lv_sub hl [2, 3, 4, 5, 6] rfl)
          · rw [if_pos c209] at hf
            refine lv_aload_n hx hb dL_law_1237 rfl (lv_at hl 5 rfl) ?_
            refine lv_iconst (v := 0) hx hb dL_law_1238 (by decide) ?_
            obtain ⟨v210, e210, hf⟩ := tk_bi hf
            refine tk_lald hx hb hE hs e210 dL_law_1239 ?_
            refine lv_iload hx hb dL_law_1240 (lv_at hl 0 rfl) ?_
            refine lv_i2l (v := o206.1.toInt64) hx hb dL_law_1242 rfl ?_
            refine W.lcmp hx hb dL_law_1243 ?_
            refine lv_if_eq (tgt := 1249) hx hb dL_law_1244 (by decide) (fun c211 => ?_) (fun c211 => ?_)
            · rw [if_pos c211] at hf
              exact tL_1249 K (fL_law_23 N mf L xs n) ih x1 x2 x3 x4 o207.2.1 o207.2.2 (kc + 1) (ks + 6) _ _ _ hf hs (lv_sub hl [2, 3, 4, 5, 6] rfl)
            · rw [if_neg c211] at hf
              refine lv_iconst (v := 0) hx hb dL_law_1247 (by decide) ?_
              cases hf
        · rw [if_neg c208] at hf
          refine lv_iconst (v := 0) hx hb dL_law_1230 (by decide) ?_
          cases hf
      rw [if_neg c202] at hf
      by_cases c212 : (v42 &&& 31) = 17
      · rw [if_pos c212] at hf
        refine lv_tableIn (off := 1212) (tgt := 1252) hx hb dL_law_40 (by rw [c212]; decide) (by rw [c212]; decide) (by rw [c212]; rfl) (by decide) ?_
        refine lv_aload_n hx hb dL_law_1252 rfl (lv_at hl 1 rfl) ?_
        refine lv_aload_n hx hb dL_law_1253 rfl (lv_at hl 0 rfl) ?_
        refine lv_iload hx hb dL_law_1254 (lv_at hl 4 rfl) ?_
        refine lv_iconst (v := 1) hx hb dL_law_1256 (by decide) ?_
        refine lv_iadd hx hb dL_law_1257 ?_
        obtain ⟨v213, e213, hf⟩ := tk_bi hf
        refine tk_sld hx hb hX hbl hbA hs e213 dL_law_1258 ?_
        refine lv_aload_n hx hb dL_law_1259 rfl (lv_at hl 3 rfl) ?_
        obtain ⟨_, b214, hf⟩ := tk_bi hf
        have b214 := tk_bd_ok b214
        obtain ⟨o214, e214, hf⟩ := tk_bi hf
        refine tk_call (v := some (.int o214.1)) hs (vx_runSW (As := [.ref x1, .int v213, .ref x3]) (rest := []) ⟨hx, hb, hml, hown, ht⟩ (cL_word_ok l hl0 G N x1 v213 x3 h sz o214.1 o214.2.1 o214.2.2 e214) (kwL_word ht wmL_156 rfl rfl ⟨Nat.le_of_ble_eq_true rfl, Nat.le_of_ble_eq_true rfl⟩) (tk_preS hE hs) rfl rfl hl.1 rfl (lv_room (Nat.le_of_ble_eq_true rfl)) dL_law_1260 ⟨b214.1, b214.2⟩) (fun H locs hs => ?_)
        refine W.eq (g2 := F0 m 1263 ls [.int o214.1]) rfl ?_
        refine W.widen (k := kc + 1) (n := ks + 6) (Nat.le_refl _) (Nat.le_refl _) ?_
        refine lv_istore (lv' := [(5, .int o214.1), (0, .ref b), (1, .ref x1), (2, .ref x2), (3, .ref x3), (4, .int x4)]) hx hb dL_law_1263 hl (by decide) rfl (fun ls hl => ?_)
        refine lv_aload_n hx hb dL_law_1265 rfl (lv_at hl 3 rfl) ?_
        refine lv_aload_n hx hb dL_law_1266 rfl (lv_at hl 1 rfl) ?_
        refine lv_iload hx hb dL_law_1267 (lv_at hl 5 rfl) ?_
        refine lv_iconst (v := 1) hx hb dL_law_1269 (by decide) ?_
        refine lv_iadd hx hb dL_law_1270 ?_
        obtain ⟨v215, e215, hf⟩ := tk_bi hf
        refine tk_sld hx hb hX hbl hbA hs e215 dL_law_1271 ?_
        obtain ⟨_, p216, hf⟩ := tk_bi hf
        obtain ⟨_, b216, hf⟩ := tk_bi hf
        have b216 := tk_bd_ok b216
        obtain ⟨o216, e216, hf⟩ := tk_bi hf
        refine tk_call0 (v := some (.int o216.1)) hs (va_runV (As := [.int v215]) (rest := []) ⟨hx, hb, hml, hown, ht⟩ (cX5_word_ok l hl0 G N x2 v215 o214.2.1 o214.2.2 o216.1 o216.2.1 o216.2.2 e216) (kwX5_word ht wmL_158 rfl rfl ⟨Nat.le_of_ble_eq_true rfl, Nat.le_of_ble_eq_true rfl⟩) (tk_preV hE hs (tk_ok_ok p216) rfl) rfl rfl hl.1 rfl (lv_room (Nat.le_of_ble_eq_true rfl)) dL_law_1272 ⟨b216.1, b216.2⟩) (fun H locs hs => ?_)
        refine W.eq (g2 := F0 m 1275 ls [.int o216.1]) rfl ?_
        refine lv_istore (lv' := [(6, .int o216.1), (5, .int o214.1), (0, .ref b), (1, .ref x1), (2, .ref x2), (3, .ref x3), (4, .int x4)]) hx hb dL_law_1275 hl (by decide) rfl (fun ls hl => ?_)
        refine lv_aload_n hx hb dL_law_1277 rfl (lv_at hl 4 rfl) ?_
        obtain ⟨_, p217, hf⟩ := tk_bi hf
        obtain ⟨_, b217, hf⟩ := tk_bi hf
        have b217 := tk_bd_ok b217
        obtain ⟨o217, e217, hf⟩ := tk_bi hf
        refine tk_call0 (v := some (.int o217.1)) hs (va_runV (As := []) (rest := []) ⟨hx, hb, hml, hown, ht⟩ (cX5_thrown_ok l hl0 G N x2 o216.2.1 o216.2.2 o217.1 o217.2.1 o217.2.2 e217) (kwX5_thrown ht wmL_100 rfl rfl ⟨Nat.le_of_ble_eq_true rfl, Nat.le_of_ble_eq_true rfl⟩) (tk_preV hE hs (tk_ok_ok p217) rfl) rfl rfl hl.1 rfl (lv_room (Nat.le_of_ble_eq_true rfl)) dL_law_1278 ⟨b217.1, b217.2⟩) (fun H locs hs => ?_)
        refine W.eq (g2 := F0 m 1281 ls [.int o217.1]) rfl ?_
        refine lv_iload hx hb dL_law_1281 (lv_at hl 1 rfl) ?_
        refine lv_icmp_eq (tgt := 1288) hx hb dL_law_1283 (by decide) (fun c218 => ?_) (fun c218 => ?_)
        · rw [if_pos c218] at hf
          refine lv_iload hx hb dL_law_1288 (lv_at hl 1 rfl) ?_
          refine lv_if_ne (tgt := 1305) hx hb dL_law_1290 (by decide) (fun c219 => ?_) (fun c219 => ?_)
          · rw [if_neg c219] at hf
            exact tL_1305 K (fL_law_23 N mf L xs n) ih x1 x2 x3 x4 o217.2.1 o217.2.2 (kc + 1) (ks + 6) _ _ _ hf hs (lv_sub hl [2, 3, 4, 5, 6] rfl)
          · rw [if_pos c219] at hf
            refine lv_aload_n hx hb dL_law_1293 rfl (lv_at hl 5 rfl) ?_
            refine lv_iconst (v := 0) hx hb dL_law_1294 (by decide) ?_
            obtain ⟨v220, e220, hf⟩ := tk_bi hf
            refine tk_lald hx hb hE hs e220 dL_law_1295 ?_
            refine lv_iload hx hb dL_law_1296 (lv_at hl 0 rfl) ?_
            refine lv_i2l (v := o216.1.toInt64) hx hb dL_law_1298 rfl ?_
            refine W.lcmp hx hb dL_law_1299 ?_
            refine lv_if_eq (tgt := 1305) hx hb dL_law_1300 (by decide) (fun c221 => ?_) (fun c221 => ?_)
            · rw [if_pos c221] at hf
              exact tL_1305 K (fL_law_23 N mf L xs n) ih x1 x2 x3 x4 o217.2.1 o217.2.2 (kc + 1) (ks + 6) _ _ _ hf hs (lv_sub hl [2, 3, 4, 5, 6] rfl)
            · rw [if_neg c221] at hf
              refine lv_iconst (v := 0) hx hb dL_law_1303 (by decide) ?_
              cases hf
        · rw [if_neg c218] at hf
          refine lv_iconst (v := 0) hx hb dL_law_1286 (by decide) ?_
          cases hf
      rw [if_neg c212] at hf
      by_cases c222 : (v42 &&& 31) = 18
      · rw [if_pos c222] at hf
        refine lv_tableIn (off := 1268) (tgt := 1308) hx hb dL_law_40 (by rw [c222]; decide) (by rw [c222]; decide) (by rw [c222]; rfl) (by decide) ?_
        refine lv_aload_n hx hb dL_law_1308 rfl (lv_at hl 1 rfl) ?_
        refine lv_aload_n hx hb dL_law_1309 rfl (lv_at hl 0 rfl) ?_
        refine lv_iload hx hb dL_law_1310 (lv_at hl 4 rfl) ?_
        refine lv_iconst (v := 1) hx hb dL_law_1312 (by decide) ?_
        refine lv_iadd hx hb dL_law_1313 ?_
        obtain ⟨v223, e223, hf⟩ := tk_bi hf
        refine tk_sld hx hb hX hbl hbA hs e223 dL_law_1314 ?_
        refine lv_aload_n hx hb dL_law_1315 rfl (lv_at hl 0 rfl) ?_
        refine lv_iload hx hb dL_law_1316 (lv_at hl 4 rfl) ?_
        refine lv_iconst (v := 2) hx hb dL_law_1318 (by decide) ?_
        refine lv_iadd hx hb dL_law_1319 ?_
        obtain ⟨v224, e224, hf⟩ := tk_bi hf
        refine tk_sld hx hb hX hbl hbA hs e224 dL_law_1320 ?_
        refine lv_aload_n hx hb dL_law_1321 rfl (lv_at hl 0 rfl) ?_
        refine lv_iload hx hb dL_law_1322 (lv_at hl 4 rfl) ?_
        refine lv_iconst (v := 3) hx hb dL_law_1324 (by decide) ?_
        refine lv_iadd hx hb dL_law_1325 ?_
        obtain ⟨v225, e225, hf⟩ := tk_bi hf
        refine tk_sld hx hb hX hbl hbA hs e225 dL_law_1326 ?_
        refine lv_if_eq (tgt := 1334) hx hb dL_law_1327 (by decide) (fun c226 => ?_) (fun c226 => ?_)
        · rw [if_pos c226] at hf
          refine lv_iconst (v := 0) hx hb dL_law_1334 (by decide) ?_
          exact tL_1335 K (fL_law_23 N mf L xs n) ih x1 x2 x3 x4 0 v224 v223 x1 h sz kc ks _ _ _ hf hs (lv_sub hl [0, 1, 2, 3, 4] rfl)
        · rw [if_neg c226] at hf
          refine lv_iconst (v := 1) hx hb dL_law_1330 (by decide) ?_
          refine lv_goto (tgt := 1335) hx hb dL_law_1331 (by decide) ?_
          exact tL_1335 K (fL_law_23 N mf L xs n) ih x1 x2 x3 x4 1 v224 v223 x1 h sz kc ks _ _ _ hf hs (lv_sub hl [0, 1, 2, 3, 4] rfl)
      rw [if_neg c222] at hf
      by_cases c227 : (v42 &&& 31) = 19
      · rw [if_pos c227] at hf
        refine lv_tableIn (off := 1371) (tgt := 1411) hx hb dL_law_40 (by rw [c227]; decide) (by rw [c227]; decide) (by rw [c227]; rfl) (by decide) ?_
        refine lv_aload_n hx hb dL_law_1411 rfl (lv_at hl 1 rfl) ?_
        refine lv_aload_n hx hb dL_law_1412 rfl (lv_at hl 0 rfl) ?_
        refine lv_iload hx hb dL_law_1413 (lv_at hl 4 rfl) ?_
        refine lv_iconst (v := 1) hx hb dL_law_1415 (by decide) ?_
        refine lv_iadd hx hb dL_law_1416 ?_
        obtain ⟨v228, e228, hf⟩ := tk_bi hf
        refine tk_sld hx hb hX hbl hbA hs e228 dL_law_1417 ?_
        refine lv_aload_n hx hb dL_law_1418 rfl (lv_at hl 0 rfl) ?_
        refine lv_iload hx hb dL_law_1419 (lv_at hl 4 rfl) ?_
        refine lv_iconst (v := 2) hx hb dL_law_1421 (by decide) ?_
        refine lv_iadd hx hb dL_law_1422 ?_
        obtain ⟨v229, e229, hf⟩ := tk_bi hf
        refine tk_sld hx hb hX hbl hbA hs e229 dL_law_1423 ?_
        refine lv_aload_n hx hb dL_law_1424 rfl (lv_at hl 0 rfl) ?_
        refine lv_iload hx hb dL_law_1425 (lv_at hl 4 rfl) ?_
        refine lv_iconst (v := 3) hx hb dL_law_1427 (by decide) ?_
        refine lv_iadd hx hb dL_law_1428 ?_
        obtain ⟨v230, e230, hf⟩ := tk_bi hf
        refine tk_sld hx hb hX hbl hbA hs e230 dL_law_1429 ?_
        refine lv_aload_n hx hb dL_law_1430 rfl (lv_at hl 3 rfl) ?_
        obtain ⟨_, b231, hf⟩ := tk_bi hf
        have b231 := tk_bd_ok b231
        obtain ⟨o231, e231, hf⟩ := tk_bi hf
        refine tk_call (v := some (.int o231.1)) hs (vx_runSW (As := [.ref x1, .int v228, .int v229, .int v230, .ref x3]) (rest := []) ⟨hx, hb, hml, hown, ht⟩ (cL_wordOf_ok l hl0 G N x1 v228 v229 v230 x3 h sz o231.1 o231.2.1 o231.2.2 e231) (kwL_wordOf ht wmL_162 rfl rfl ⟨Nat.le_of_ble_eq_true rfl, Nat.le_of_ble_eq_true rfl⟩) (tk_preS hE hs) rfl rfl hl.1 rfl (lv_room (Nat.le_of_ble_eq_true rfl)) dL_law_1431 ⟨b231.1, b231.2⟩) (fun H locs hs => ?_)
        refine W.eq (g2 := F0 m 1434 ls [.int o231.1]) rfl ?_
        refine W.widen (k := kc + 1) (n := ks + 6) (Nat.le_refl _) (Nat.le_refl _) ?_
        refine lv_istore (lv' := [(5, .int o231.1), (0, .ref b), (1, .ref x1), (2, .ref x2), (3, .ref x3), (4, .int x4)]) hx hb dL_law_1434 hl (by decide) rfl (fun ls hl => ?_)
        refine lv_aload_n hx hb dL_law_1436 rfl (lv_at hl 3 rfl) ?_
        refine lv_aload_n hx hb dL_law_1437 rfl (lv_at hl 1 rfl) ?_
        refine lv_iload hx hb dL_law_1438 (lv_at hl 5 rfl) ?_
        refine lv_iconst (v := 1) hx hb dL_law_1440 (by decide) ?_
        refine lv_iadd hx hb dL_law_1441 ?_
        obtain ⟨v232, e232, hf⟩ := tk_bi hf
        refine tk_sld hx hb hX hbl hbA hs e232 dL_law_1442 ?_
        refine lv_aload_n hx hb dL_law_1443 rfl (lv_at hl 1 rfl) ?_
        refine lv_iload hx hb dL_law_1444 (lv_at hl 5 rfl) ?_
        refine lv_iconst (v := 2) hx hb dL_law_1446 (by decide) ?_
        refine lv_iadd hx hb dL_law_1447 ?_
        obtain ⟨v233, e233, hf⟩ := tk_bi hf
        refine tk_sld hx hb hX hbl hbA hs e233 dL_law_1448 ?_
        refine lv_aload_n hx hb dL_law_1449 rfl (lv_at hl 1 rfl) ?_
        refine lv_iload hx hb dL_law_1450 (lv_at hl 5 rfl) ?_
        refine lv_iconst (v := 3) hx hb dL_law_1452 (by decide) ?_
        refine lv_iadd hx hb dL_law_1453 ?_
        obtain ⟨v234, e234, hf⟩ := tk_bi hf
        refine tk_sld hx hb hX hbl hbA hs e234 dL_law_1454 ?_
        obtain ⟨_, p235, hf⟩ := tk_bi hf
        obtain ⟨_, b235, hf⟩ := tk_bi hf
        have b235 := tk_bd_ok b235
        obtain ⟨o235, e235, hf⟩ := tk_bi hf
        refine tk_call0 (v := some (.int o235.1)) hs (va_runV (As := [.int v232, .int v233, .int v234]) (rest := []) ⟨hx, hb, hml, hown, ht⟩ (cX5_wordOf_ok l hl0 G N x2 v232 v233 v234 o231.2.1 o231.2.2 o235.1 o235.2.1 o235.2.2 e235) (kwX5_wordOf ht wmL_164 rfl rfl ⟨Nat.le_of_ble_eq_true rfl, Nat.le_of_ble_eq_true rfl⟩) (tk_preV hE hs (tk_ok_ok p235) rfl) rfl rfl hl.1 rfl (lv_room (Nat.le_of_ble_eq_true rfl)) dL_law_1455 ⟨b235.1, b235.2⟩) (fun H locs hs => ?_)
        refine W.eq (g2 := F0 m 1458 ls [.int o235.1]) rfl ?_
        refine lv_istore (lv' := [(6, .int o235.1), (5, .int o231.1), (0, .ref b), (1, .ref x1), (2, .ref x2), (3, .ref x3), (4, .int x4)]) hx hb dL_law_1458 hl (by decide) rfl (fun ls hl => ?_)
        refine lv_aload_n hx hb dL_law_1460 rfl (lv_at hl 4 rfl) ?_
        obtain ⟨_, p236, hf⟩ := tk_bi hf
        obtain ⟨_, b236, hf⟩ := tk_bi hf
        have b236 := tk_bd_ok b236
        obtain ⟨o236, e236, hf⟩ := tk_bi hf
        refine tk_call0 (v := some (.int o236.1)) hs (va_runV (As := []) (rest := []) ⟨hx, hb, hml, hown, ht⟩ (cX5_thrown_ok l hl0 G N x2 o235.2.1 o235.2.2 o236.1 o236.2.1 o236.2.2 e236) (kwX5_thrown ht wmL_100 rfl rfl ⟨Nat.le_of_ble_eq_true rfl, Nat.le_of_ble_eq_true rfl⟩) (tk_preV hE hs (tk_ok_ok p236) rfl) rfl rfl hl.1 rfl (lv_room (Nat.le_of_ble_eq_true rfl)) dL_law_1461 ⟨b236.1, b236.2⟩) (fun H locs hs => ?_)
        refine W.eq (g2 := F0 m 1464 ls [.int o236.1]) rfl ?_
        refine lv_iload hx hb dL_law_1464 (lv_at hl 1 rfl) ?_
        refine lv_icmp_eq (tgt := 1471) hx hb dL_law_1466 (by decide) (fun c237 => ?_) (fun c237 => ?_)
        · rw [if_pos c237] at hf
          refine lv_iload hx hb dL_law_1471 (lv_at hl 1 rfl) ?_
          refine lv_if_ne (tgt := 1488) hx hb dL_law_1473 (by decide) (fun c238 => ?_) (fun c238 => ?_)
          · rw [if_neg c238] at hf
            exact tL_1488 K (fL_law_23 N mf L xs n) ih x1 x2 x3 x4 o236.2.1 o236.2.2 (kc + 1) (ks + 6) _ _ _ hf hs (lv_sub hl [2, 3, 4, 5, 6] rfl)
          · rw [if_pos c238] at hf
            refine lv_aload_n hx hb dL_law_1476 rfl (lv_at hl 5 rfl) ?_
            refine lv_iconst (v := 0) hx hb dL_law_1477 (by decide) ?_
            obtain ⟨v239, e239, hf⟩ := tk_bi hf
            refine tk_lald hx hb hE hs e239 dL_law_1478 ?_
            refine lv_iload hx hb dL_law_1479 (lv_at hl 0 rfl) ?_
            refine lv_i2l (v := o235.1.toInt64) hx hb dL_law_1481 rfl ?_
            refine W.lcmp hx hb dL_law_1482 ?_
            refine lv_if_eq (tgt := 1488) hx hb dL_law_1483 (by decide) (fun c240 => ?_) (fun c240 => ?_)
            · rw [if_pos c240] at hf
              exact tL_1488 K (fL_law_23 N mf L xs n) ih x1 x2 x3 x4 o236.2.1 o236.2.2 (kc + 1) (ks + 6) _ _ _ hf hs (lv_sub hl [2, 3, 4, 5, 6] rfl)
            · rw [if_neg c240] at hf
              refine lv_iconst (v := 0) hx hb dL_law_1486 (by decide) ?_
              cases hf
        · rw [if_neg c237] at hf
          refine lv_iconst (v := 0) hx hb dL_law_1469 (by decide) ?_
          cases hf
      rw [if_neg c227] at hf
      by_cases c241 : (v42 &&& 31) = 20
      · rw [if_pos c241] at hf
        refine lv_tableIn (off := 1451) (tgt := 1491) hx hb dL_law_40 (by rw [c241]; decide) (by rw [c241]; decide) (by rw [c241]; rfl) (by decide) ?_
        refine lv_aload_n hx hb dL_law_1491 rfl (lv_at hl 1 rfl) ?_
        refine lv_aload_n hx hb dL_law_1492 rfl (lv_at hl 0 rfl) ?_
        refine lv_iload hx hb dL_law_1493 (lv_at hl 4 rfl) ?_
        refine lv_iconst (v := 1) hx hb dL_law_1495 (by decide) ?_
        refine lv_iadd hx hb dL_law_1496 ?_
        obtain ⟨v242, e242, hf⟩ := tk_bi hf
        refine tk_sld hx hb hX hbl hbA hs e242 dL_law_1497 ?_
        refine lv_aload_n hx hb dL_law_1498 rfl (lv_at hl 3 rfl) ?_
        obtain ⟨_, b243, hf⟩ := tk_bi hf
        have b243 := tk_bd_ok b243
        obtain ⟨o243, e243, hf⟩ := tk_bi hf
        refine tk_call (v := some (.int o243.1)) hs (vx_runSW (As := [.ref x1, .int v242, .ref x3]) (rest := []) ⟨hx, hb, hml, hown, ht⟩ (cL_next_ok l hl0 G N x1 v242 x3 h sz o243.1 o243.2.1 o243.2.2 e243) (kwL_next ht wmL_165 rfl rfl ⟨Nat.le_of_ble_eq_true rfl, Nat.le_of_ble_eq_true rfl⟩) (tk_preS hE hs) rfl rfl hl.1 rfl (lv_room (Nat.le_of_ble_eq_true rfl)) dL_law_1499 ⟨b243.1, b243.2⟩) (fun H locs hs => ?_)
        refine W.eq (g2 := F0 m 1502 ls [.int o243.1]) rfl ?_
        refine W.widen (k := kc + 1) (n := ks + 6) (Nat.le_refl _) (Nat.le_refl _) ?_
        refine lv_istore (lv' := [(5, .int o243.1), (0, .ref b), (1, .ref x1), (2, .ref x2), (3, .ref x3), (4, .int x4)]) hx hb dL_law_1502 hl (by decide) rfl (fun ls hl => ?_)
        refine lv_aload_n hx hb dL_law_1504 rfl (lv_at hl 3 rfl) ?_
        refine lv_aload_n hx hb dL_law_1505 rfl (lv_at hl 1 rfl) ?_
        refine lv_iload hx hb dL_law_1506 (lv_at hl 5 rfl) ?_
        refine lv_iconst (v := 1) hx hb dL_law_1508 (by decide) ?_
        refine lv_iadd hx hb dL_law_1509 ?_
        obtain ⟨v244, e244, hf⟩ := tk_bi hf
        refine tk_sld hx hb hX hbl hbA hs e244 dL_law_1510 ?_
        obtain ⟨_, p245, hf⟩ := tk_bi hf
        obtain ⟨_, b245, hf⟩ := tk_bi hf
        have b245 := tk_bd_ok b245
        obtain ⟨o245, e245, hf⟩ := tk_bi hf
        refine tk_call0 (v := some (.int o245.1)) hs (va_runV (As := [.int v244]) (rest := []) ⟨hx, hb, hml, hown, ht⟩ (cX5_next_ok l hl0 G N x2 v244 o243.2.1 o243.2.2 o245.1 o245.2.1 o245.2.2 e245) (kwX5_next ht wmL_167 rfl rfl ⟨Nat.le_of_ble_eq_true rfl, Nat.le_of_ble_eq_true rfl⟩) (tk_preV hE hs (tk_ok_ok p245) rfl) rfl rfl hl.1 rfl (lv_room (Nat.le_of_ble_eq_true rfl)) dL_law_1511 ⟨b245.1, b245.2⟩) (fun H locs hs => ?_)
        refine W.eq (g2 := F0 m 1514 ls [.int o245.1]) rfl ?_
        refine lv_istore (lv' := [(6, .int o245.1), (5, .int o243.1), (0, .ref b), (1, .ref x1), (2, .ref x2), (3, .ref x3), (4, .int x4)]) hx hb dL_law_1514 hl (by decide) rfl (fun ls hl => ?_)
        refine lv_aload_n hx hb dL_law_1516 rfl (lv_at hl 4 rfl) ?_
        obtain ⟨_, p246, hf⟩ := tk_bi hf
        obtain ⟨_, b246, hf⟩ := tk_bi hf
        have b246 := tk_bd_ok b246
        obtain ⟨o246, e246, hf⟩ := tk_bi hf
        refine tk_call0 (v := some (.int o246.1)) hs (va_runV (As := []) (rest := []) ⟨hx, hb, hml, hown, ht⟩ (cX5_thrown_ok l hl0 G N x2 o245.2.1 o245.2.2 o246.1 o246.2.1 o246.2.2 e246) (kwX5_thrown ht wmL_100 rfl rfl ⟨Nat.le_of_ble_eq_true rfl, Nat.le_of_ble_eq_true rfl⟩) (tk_preV hE hs (tk_ok_ok p246) rfl) rfl rfl hl.1 rfl (lv_room (Nat.le_of_ble_eq_true rfl)) dL_law_1517 ⟨b246.1, b246.2⟩) (fun H locs hs => ?_)
        refine W.eq (g2 := F0 m 1520 ls [.int o246.1]) rfl ?_
        refine lv_iload hx hb dL_law_1520 (lv_at hl 1 rfl) ?_
        refine lv_icmp_eq (tgt := 1527) hx hb dL_law_1522 (by decide) (fun c247 => ?_) (fun c247 => ?_)
        · rw [if_pos c247] at hf
          refine lv_iload hx hb dL_law_1527 (lv_at hl 1 rfl) ?_
          refine lv_if_ne (tgt := 1544) hx hb dL_law_1529 (by decide) (fun c248 => ?_) (fun c248 => ?_)
          · rw [if_neg c248] at hf
            exact tL_1544 K (fL_law_23 N mf L xs n) ih x1 x2 x3 x4 o246.2.1 o246.2.2 (kc + 1) (ks + 6) _ _ _ hf hs (lv_sub hl [2, 3, 4, 5, 6] rfl)
          · rw [if_pos c248] at hf
            refine lv_aload_n hx hb dL_law_1532 rfl (lv_at hl 5 rfl) ?_
            refine lv_iconst (v := 0) hx hb dL_law_1533 (by decide) ?_
            obtain ⟨v249, e249, hf⟩ := tk_bi hf
            refine tk_lald hx hb hE hs e249 dL_law_1534 ?_
            refine lv_iload hx hb dL_law_1535 (lv_at hl 0 rfl) ?_
            refine lv_i2l (v := o245.1.toInt64) hx hb dL_law_1537 rfl ?_
            refine W.lcmp hx hb dL_law_1538 ?_
            refine lv_if_eq (tgt := 1544) hx hb dL_law_1539 (by decide) (fun c250 => ?_) (fun c250 => ?_)
            · rw [if_pos c250] at hf
              exact tL_1544 K (fL_law_23 N mf L xs n) ih x1 x2 x3 x4 o246.2.1 o246.2.2 (kc + 1) (ks + 6) _ _ _ hf hs (lv_sub hl [2, 3, 4, 5, 6] rfl)
            · rw [if_neg c250] at hf
              refine lv_iconst (v := 0) hx hb dL_law_1542 (by decide) ?_
              cases hf
        · rw [if_neg c247] at hf
          refine lv_iconst (v := 0) hx hb dL_law_1525 (by decide) ?_
          cases hf
      rw [if_neg c241] at hf
      by_cases c251 : (v42 &&& 31) = 21
      · rw [if_pos c251] at hf
        refine lv_tableIn (off := 1507) (tgt := 1547) hx hb dL_law_40 (by rw [c251]; decide) (by rw [c251]; decide) (by rw [c251]; rfl) (by decide) ?_
        refine lv_aload_n hx hb dL_law_1547 rfl (lv_at hl 1 rfl) ?_
        refine lv_aload_n hx hb dL_law_1548 rfl (lv_at hl 0 rfl) ?_
        refine lv_iload hx hb dL_law_1549 (lv_at hl 4 rfl) ?_
        refine lv_iconst (v := 1) hx hb dL_law_1551 (by decide) ?_
        refine lv_iadd hx hb dL_law_1552 ?_
        obtain ⟨v252, e252, hf⟩ := tk_bi hf
        refine tk_sld hx hb hX hbl hbA hs e252 dL_law_1553 ?_
        refine lv_aload_n hx hb dL_law_1554 rfl (lv_at hl 0 rfl) ?_
        refine lv_iload hx hb dL_law_1555 (lv_at hl 4 rfl) ?_
        refine lv_iconst (v := 2) hx hb dL_law_1557 (by decide) ?_
        refine lv_iadd hx hb dL_law_1558 ?_
        obtain ⟨v253, e253, hf⟩ := tk_bi hf
        refine tk_sld hx hb hX hbl hbA hs e253 dL_law_1559 ?_
        refine lv_aload_n hx hb dL_law_1560 rfl (lv_at hl 0 rfl) ?_
        refine lv_iload hx hb dL_law_1561 (lv_at hl 4 rfl) ?_
        refine lv_iconst (v := 3) hx hb dL_law_1563 (by decide) ?_
        refine lv_iadd hx hb dL_law_1564 ?_
        obtain ⟨v254, e254, hf⟩ := tk_bi hf
        refine tk_sld hx hb hX hbl hbA hs e254 dL_law_1565 ?_
        refine lv_aload_n hx hb dL_law_1566 rfl (lv_at hl 0 rfl) ?_
        refine lv_iload hx hb dL_law_1567 (lv_at hl 4 rfl) ?_
        refine lv_iconst (v := 4) hx hb dL_law_1569 (by decide) ?_
        refine lv_iadd hx hb dL_law_1570 ?_
        obtain ⟨v255, e255, hf⟩ := tk_bi hf
        refine tk_sld hx hb hX hbl hbA hs e255 dL_law_1571 ?_
        refine lv_aload_n hx hb dL_law_1572 rfl (lv_at hl 0 rfl) ?_
        refine lv_iload hx hb dL_law_1573 (lv_at hl 4 rfl) ?_
        refine lv_iconst (v := 5) hx hb dL_law_1575 (by decide) ?_
        refine lv_iadd hx hb dL_law_1576 ?_
        obtain ⟨v256, e256, hf⟩ := tk_bi hf
        refine tk_sld hx hb hX hbl hbA hs e256 dL_law_1577 ?_
        obtain ⟨_, p257, hf⟩ := tk_bi hf
        obtain ⟨_, b257, hf⟩ := tk_bi hf
        have b257 := tk_bd_ok b257
        obtain ⟨o257, e257, hf⟩ := tk_bi hf
        refine tk_call0 (v := some (.int o257.1)) hs (va_runV (As := [.int v252, .int v253, .int v254, .int v255, .int v256]) (rest := []) ⟨hx, hb, hml, hown, ht⟩ (cX4_feed_ok l hl0 G N x1 v252 v253 v254 v255 v256 h sz o257.1 o257.2.1 o257.2.2 e257) (kwX4_feed ht wmL_168 rfl rfl ⟨Nat.le_of_ble_eq_true rfl, Nat.le_of_ble_eq_true rfl⟩) (tk_preV hE hs (tk_ok_ok p257) rfl) rfl rfl hl.1 rfl (lv_room (Nat.le_of_ble_eq_true rfl)) dL_law_1578 ⟨b257.1, b257.2⟩) (fun H locs hs => ?_)
        refine W.eq (g2 := F0 m 1581 ls [.int o257.1]) rfl ?_
        refine lv_aload_n hx hb dL_law_1581 rfl (lv_at hl 2 rfl) ?_
        refine lv_aload_n hx hb dL_law_1582 rfl (lv_at hl 0 rfl) ?_
        refine lv_iload hx hb dL_law_1583 (lv_at hl 4 rfl) ?_
        refine lv_iconst (v := 1) hx hb dL_law_1585 (by decide) ?_
        refine lv_iadd hx hb dL_law_1586 ?_
        obtain ⟨v258, e258, hf⟩ := tk_bi hf
        refine tk_sld hx hb hX hbl hbA hs e258 dL_law_1587 ?_
        refine lv_aload_n hx hb dL_law_1588 rfl (lv_at hl 0 rfl) ?_
        refine lv_iload hx hb dL_law_1589 (lv_at hl 4 rfl) ?_
        refine lv_iconst (v := 2) hx hb dL_law_1591 (by decide) ?_
        refine lv_iadd hx hb dL_law_1592 ?_
        obtain ⟨v259, e259, hf⟩ := tk_bi hf
        refine tk_sld hx hb hX hbl hbA hs e259 dL_law_1593 ?_
        refine lv_aload_n hx hb dL_law_1594 rfl (lv_at hl 0 rfl) ?_
        refine lv_iload hx hb dL_law_1595 (lv_at hl 4 rfl) ?_
        refine lv_iconst (v := 3) hx hb dL_law_1597 (by decide) ?_
        refine lv_iadd hx hb dL_law_1598 ?_
        obtain ⟨v260, e260, hf⟩ := tk_bi hf
        refine tk_sld hx hb hX hbl hbA hs e260 dL_law_1599 ?_
        refine lv_aload_n hx hb dL_law_1600 rfl (lv_at hl 0 rfl) ?_
        refine lv_iload hx hb dL_law_1601 (lv_at hl 4 rfl) ?_
        refine lv_iconst (v := 4) hx hb dL_law_1603 (by decide) ?_
        refine lv_iadd hx hb dL_law_1604 ?_
        obtain ⟨v261, e261, hf⟩ := tk_bi hf
        refine tk_sld hx hb hX hbl hbA hs e261 dL_law_1605 ?_
        refine lv_aload_n hx hb dL_law_1606 rfl (lv_at hl 0 rfl) ?_
        refine lv_iload hx hb dL_law_1607 (lv_at hl 4 rfl) ?_
        refine lv_iconst (v := 5) hx hb dL_law_1609 (by decide) ?_
        refine lv_iadd hx hb dL_law_1610 ?_
        obtain ⟨v262, e262, hf⟩ := tk_bi hf
        refine tk_sld hx hb hX hbl hbA hs e262 dL_law_1611 ?_
        obtain ⟨_, p263, hf⟩ := tk_bi hf
        obtain ⟨_, b263, hf⟩ := tk_bi hf
        have b263 := tk_bd_ok b263
        obtain ⟨o263, e263, hf⟩ := tk_bi hf
        refine tk_call0 (v := some (.int o263.1)) hs (va_runV (As := [.int v258, .int v259, .int v260, .int v261, .int v262]) (rest := [.int o257.1]) ⟨hx, hb, hml, hown, ht⟩ (cX5_feed_ok l hl0 G N x2 v258 v259 v260 v261 v262 o257.2.1 o257.2.2 o263.1 o263.2.1 o263.2.2 e263) (kwX5_feed ht wmL_172 rfl rfl ⟨Nat.le_of_ble_eq_true rfl, Nat.le_of_ble_eq_true rfl⟩) (tk_preV hE hs (tk_ok_ok p263) rfl) rfl rfl hl.1 rfl (lv_room (Nat.le_of_ble_eq_true rfl)) dL_law_1612 ⟨b263.1, b263.2⟩) (fun H locs hs => ?_)
        refine W.eq (g2 := F0 m 1615 ls [.int o263.1, .int o257.1]) rfl ?_
        refine lv_icmp_eq (tgt := 1856) hx hb dL_law_1615 (by decide) (fun c264 => ?_) (fun c264 => ?_)
        · rw [if_pos c264] at hf
          exact tL_1856 K (fL_law_23 N mf L xs n) ih x1 x2 x3 x4 o263.2.1 o263.2.2 kc ks _ _ _ hf hs (lv_sub hl [0, 1, 2, 3, 4] rfl)
        · rw [if_neg c264] at hf
          refine lv_iconst (v := 0) hx hb dL_law_1618 (by decide) ?_
          cases hf
      rw [if_neg c251] at hf
      by_cases c265 : (v42 &&& 31) = 22
      · rw [if_pos c265] at hf
        refine lv_tableIn (off := 1580) (tgt := 1620) hx hb dL_law_40 (by rw [c265]; decide) (by rw [c265]; decide) (by rw [c265]; rfl) (by decide) ?_
        refine lv_aload_n hx hb dL_law_1620 rfl (lv_at hl 1 rfl) ?_
        refine lv_aload_n hx hb dL_law_1621 rfl (lv_at hl 0 rfl) ?_
        refine lv_iload hx hb dL_law_1622 (lv_at hl 4 rfl) ?_
        refine lv_iconst (v := 1) hx hb dL_law_1624 (by decide) ?_
        refine lv_iadd hx hb dL_law_1625 ?_
        obtain ⟨v266, e266, hf⟩ := tk_bi hf
        refine tk_sld hx hb hX hbl hbA hs e266 dL_law_1626 ?_
        refine lv_aload_n hx hb dL_law_1627 rfl (lv_at hl 0 rfl) ?_
        refine lv_iload hx hb dL_law_1628 (lv_at hl 4 rfl) ?_
        refine lv_iconst (v := 2) hx hb dL_law_1630 (by decide) ?_
        refine lv_iadd hx hb dL_law_1631 ?_
        obtain ⟨v267, e267, hf⟩ := tk_bi hf
        refine tk_sld hx hb hX hbl hbA hs e267 dL_law_1632 ?_
        refine lv_aload_n hx hb dL_law_1633 rfl (lv_at hl 3 rfl) ?_
        obtain ⟨_, b268, hf⟩ := tk_bi hf
        have b268 := tk_bd_ok b268
        obtain ⟨o268, e268, hf⟩ := tk_bi hf
        refine tk_call (v := some (.int o268.1)) hs (vx_runSW (As := [.ref x1, .int v266, .int v267, .ref x3]) (rest := []) ⟨hx, hb, hml, hown, ht⟩ (cL_correct_ok l hl0 G N x1 v266 v267 x3 h sz o268.1 o268.2.1 o268.2.2 e268) (kwL_correct ht wmL_173 rfl rfl ⟨Nat.le_of_ble_eq_true rfl, Nat.le_of_ble_eq_true rfl⟩) (tk_preS hE hs) rfl rfl hl.1 rfl (lv_room (Nat.le_of_ble_eq_true rfl)) dL_law_1634 ⟨b268.1, b268.2⟩) (fun H locs hs => ?_)
        refine W.eq (g2 := F0 m 1637 ls [.int o268.1]) rfl ?_
        refine W.widen (k := kc + 1) (n := ks + 6) (Nat.le_refl _) (Nat.le_refl _) ?_
        refine lv_istore (lv' := [(5, .int o268.1), (0, .ref b), (1, .ref x1), (2, .ref x2), (3, .ref x3), (4, .int x4)]) hx hb dL_law_1637 hl (by decide) rfl (fun ls hl => ?_)
        refine lv_aload_n hx hb dL_law_1639 rfl (lv_at hl 3 rfl) ?_
        refine lv_aload_n hx hb dL_law_1640 rfl (lv_at hl 1 rfl) ?_
        refine lv_iload hx hb dL_law_1641 (lv_at hl 5 rfl) ?_
        refine lv_iconst (v := 1) hx hb dL_law_1643 (by decide) ?_
        refine lv_iadd hx hb dL_law_1644 ?_
        obtain ⟨v269, e269, hf⟩ := tk_bi hf
        refine tk_sld hx hb hX hbl hbA hs e269 dL_law_1645 ?_
        refine lv_aload_n hx hb dL_law_1646 rfl (lv_at hl 1 rfl) ?_
        refine lv_iload hx hb dL_law_1647 (lv_at hl 5 rfl) ?_
        refine lv_iconst (v := 2) hx hb dL_law_1649 (by decide) ?_
        refine lv_iadd hx hb dL_law_1650 ?_
        obtain ⟨v270, e270, hf⟩ := tk_bi hf
        refine tk_sld hx hb hX hbl hbA hs e270 dL_law_1651 ?_
        obtain ⟨_, p271, hf⟩ := tk_bi hf
        obtain ⟨_, b271, hf⟩ := tk_bi hf
        have b271 := tk_bd_ok b271
        obtain ⟨o271, e271, hf⟩ := tk_bi hf
        refine tk_call0 (v := some (.int o271.1)) hs (va_runV (As := [.int v269, .int v270]) (rest := []) ⟨hx, hb, hml, hown, ht⟩ (cX5_correct_ok l hl0 G N x2 v269 v270 o268.2.1 o268.2.2 o271.1 o271.2.1 o271.2.2 e271) (kwX5_correct ht wmL_175 rfl rfl ⟨Nat.le_of_ble_eq_true rfl, Nat.le_of_ble_eq_true rfl⟩) (tk_preV hE hs (tk_ok_ok p271) rfl) rfl rfl hl.1 rfl (lv_room (Nat.le_of_ble_eq_true rfl)) dL_law_1652 ⟨b271.1, b271.2⟩) (fun H locs hs => ?_)
        refine W.eq (g2 := F0 m 1655 ls [.int o271.1]) rfl ?_
        refine lv_istore (lv' := [(6, .int o271.1), (5, .int o268.1), (0, .ref b), (1, .ref x1), (2, .ref x2), (3, .ref x3), (4, .int x4)]) hx hb dL_law_1655 hl (by decide) rfl (fun ls hl => ?_)
        refine lv_aload_n hx hb dL_law_1657 rfl (lv_at hl 4 rfl) ?_
        obtain ⟨_, p272, hf⟩ := tk_bi hf
        obtain ⟨_, b272, hf⟩ := tk_bi hf
        have b272 := tk_bd_ok b272
        obtain ⟨o272, e272, hf⟩ := tk_bi hf
        refine tk_call0 (v := some (.int o272.1)) hs (va_runV (As := []) (rest := []) ⟨hx, hb, hml, hown, ht⟩ (cX5_thrown_ok l hl0 G N x2 o271.2.1 o271.2.2 o272.1 o272.2.1 o272.2.2 e272) (kwX5_thrown ht wmL_100 rfl rfl ⟨Nat.le_of_ble_eq_true rfl, Nat.le_of_ble_eq_true rfl⟩) (tk_preV hE hs (tk_ok_ok p272) rfl) rfl rfl hl.1 rfl (lv_room (Nat.le_of_ble_eq_true rfl)) dL_law_1658 ⟨b272.1, b272.2⟩) (fun H locs hs => ?_)
        refine W.eq (g2 := F0 m 1661 ls [.int o272.1]) rfl ?_
        refine lv_iload hx hb dL_law_1661 (lv_at hl 1 rfl) ?_
        refine lv_icmp_eq (tgt := 1668) hx hb dL_law_1663 (by decide) (fun c273 => ?_) (fun c273 => ?_)
        · rw [if_pos c273] at hf
          refine lv_iload hx hb dL_law_1668 (lv_at hl 1 rfl) ?_
          refine lv_if_ne (tgt := 1685) hx hb dL_law_1670 (by decide) (fun c274 => ?_) (fun c274 => ?_)
          · rw [if_neg c274] at hf
            exact tL_1685 K (fL_law_23 N mf L xs n) ih x1 x2 x3 x4 o272.2.1 o272.2.2 (kc + 1) (ks + 6) _ _ _ hf hs (lv_sub hl [2, 3, 4, 5, 6] rfl)
          · rw [if_pos c274] at hf
            refine lv_aload_n hx hb dL_law_1673 rfl (lv_at hl 5 rfl) ?_
            refine lv_iconst (v := 0) hx hb dL_law_1674 (by decide) ?_
            obtain ⟨v275, e275, hf⟩ := tk_bi hf
            refine tk_lald hx hb hE hs e275 dL_law_1675 ?_
            refine lv_iload hx hb dL_law_1676 (lv_at hl 0 rfl) ?_
            refine lv_i2l (v := o271.1.toInt64) hx hb dL_law_1678 rfl ?_
            refine W.lcmp hx hb dL_law_1679 ?_
            refine lv_if_eq (tgt := 1685) hx hb dL_law_1680 (by decide) (fun c276 => ?_) (fun c276 => ?_)
            · rw [if_pos c276] at hf
              exact tL_1685 K (fL_law_23 N mf L xs n) ih x1 x2 x3 x4 o272.2.1 o272.2.2 (kc + 1) (ks + 6) _ _ _ hf hs (lv_sub hl [2, 3, 4, 5, 6] rfl)
            · rw [if_neg c276] at hf
              refine lv_iconst (v := 0) hx hb dL_law_1683 (by decide) ?_
              cases hf
        · rw [if_neg c273] at hf
          refine lv_iconst (v := 0) hx hb dL_law_1666 (by decide) ?_
          cases hf
      rw [if_neg c265] at hf
      by_cases c277 : (v42 &&& 31) = 23
      · rw [if_pos c277] at hf
        refine lv_tableIn (off := 1648) (tgt := 1688) hx hb dL_law_40 (by rw [c277]; decide) (by rw [c277]; decide) (by rw [c277]; rfl) (by decide) ?_
        refine lv_aload_n hx hb dL_law_1688 rfl (lv_at hl 1 rfl) ?_
        refine lv_aload_n hx hb dL_law_1689 rfl (lv_at hl 0 rfl) ?_
        refine lv_iload hx hb dL_law_1690 (lv_at hl 4 rfl) ?_
        refine lv_iconst (v := 1) hx hb dL_law_1692 (by decide) ?_
        refine lv_iadd hx hb dL_law_1693 ?_
        obtain ⟨v278, e278, hf⟩ := tk_bi hf
        refine tk_sld hx hb hX hbl hbA hs e278 dL_law_1694 ?_
        refine lv_aload_n hx hb dL_law_1695 rfl (lv_at hl 3 rfl) ?_
        obtain ⟨_, b279, hf⟩ := tk_bi hf
        have b279 := tk_bd_ok b279
        obtain ⟨o279, e279, hf⟩ := tk_bi hf
        refine tk_call (v := some (.int o279.1)) hs (vx_runSW (As := [.ref x1, .int v278, .ref x3]) (rest := []) ⟨hx, hb, hml, hown, ht⟩ (cL_mark_ok l hl0 G N x1 v278 x3 h sz o279.1 o279.2.1 o279.2.2 e279) (kwL_mark ht wmL_176 rfl rfl ⟨Nat.le_of_ble_eq_true rfl, Nat.le_of_ble_eq_true rfl⟩) (tk_preS hE hs) rfl rfl hl.1 rfl (lv_room (Nat.le_of_ble_eq_true rfl)) dL_law_1696 ⟨b279.1, b279.2⟩) (fun H locs hs => ?_)
        refine W.eq (g2 := F0 m 1699 ls [.int o279.1]) rfl ?_
        refine W.widen (k := kc + 1) (n := ks + 6) (Nat.le_refl _) (Nat.le_refl _) ?_
        refine lv_istore (lv' := [(5, .int o279.1), (0, .ref b), (1, .ref x1), (2, .ref x2), (3, .ref x3), (4, .int x4)]) hx hb dL_law_1699 hl (by decide) rfl (fun ls hl => ?_)
        refine lv_aload_n hx hb dL_law_1701 rfl (lv_at hl 3 rfl) ?_
        refine lv_aload_n hx hb dL_law_1702 rfl (lv_at hl 1 rfl) ?_
        refine lv_iload hx hb dL_law_1703 (lv_at hl 5 rfl) ?_
        refine lv_iconst (v := 1) hx hb dL_law_1705 (by decide) ?_
        refine lv_iadd hx hb dL_law_1706 ?_
        obtain ⟨v280, e280, hf⟩ := tk_bi hf
        refine tk_sld hx hb hX hbl hbA hs e280 dL_law_1707 ?_
        obtain ⟨_, p281, hf⟩ := tk_bi hf
        obtain ⟨_, b281, hf⟩ := tk_bi hf
        have b281 := tk_bd_ok b281
        obtain ⟨o281, e281, hf⟩ := tk_bi hf
        refine tk_call0 (v := some (.int o281.1)) hs (va_runV (As := [.int v280]) (rest := []) ⟨hx, hb, hml, hown, ht⟩ (cX5_mark_ok l hl0 G N x2 v280 o279.2.1 o279.2.2 o281.1 o281.2.1 o281.2.2 e281) (kwX5_mark ht wmL_178 rfl rfl ⟨Nat.le_of_ble_eq_true rfl, Nat.le_of_ble_eq_true rfl⟩) (tk_preV hE hs (tk_ok_ok p281) rfl) rfl rfl hl.1 rfl (lv_room (Nat.le_of_ble_eq_true rfl)) dL_law_1708 ⟨b281.1, b281.2⟩) (fun H locs hs => ?_)
        refine W.eq (g2 := F0 m 1711 ls [.int o281.1]) rfl ?_
        refine lv_istore (lv' := [(6, .int o281.1), (5, .int o279.1), (0, .ref b), (1, .ref x1), (2, .ref x2), (3, .ref x3), (4, .int x4)]) hx hb dL_law_1711 hl (by decide) rfl (fun ls hl => ?_)
        refine lv_aload_n hx hb dL_law_1713 rfl (lv_at hl 4 rfl) ?_
        obtain ⟨_, p282, hf⟩ := tk_bi hf
        obtain ⟨_, b282, hf⟩ := tk_bi hf
        have b282 := tk_bd_ok b282
        obtain ⟨o282, e282, hf⟩ := tk_bi hf
        refine tk_call0 (v := some (.int o282.1)) hs (va_runV (As := []) (rest := []) ⟨hx, hb, hml, hown, ht⟩ (cX5_thrown_ok l hl0 G N x2 o281.2.1 o281.2.2 o282.1 o282.2.1 o282.2.2 e282) (kwX5_thrown ht wmL_100 rfl rfl ⟨Nat.le_of_ble_eq_true rfl, Nat.le_of_ble_eq_true rfl⟩) (tk_preV hE hs (tk_ok_ok p282) rfl) rfl rfl hl.1 rfl (lv_room (Nat.le_of_ble_eq_true rfl)) dL_law_1714 ⟨b282.1, b282.2⟩) (fun H locs hs => ?_)
        refine W.eq (g2 := F0 m 1717 ls [.int o282.1]) rfl ?_
        refine lv_iload hx hb dL_law_1717 (lv_at hl 1 rfl) ?_
        refine lv_icmp_eq (tgt := 1724) hx hb dL_law_1719 (by decide) (fun c283 => ?_) (fun c283 => ?_)
        · rw [if_pos c283] at hf
          refine lv_iload hx hb dL_law_1724 (lv_at hl 1 rfl) ?_
          refine lv_if_ne (tgt := 1741) hx hb dL_law_1726 (by decide) (fun c284 => ?_) (fun c284 => ?_)
          · rw [if_neg c284] at hf
            exact tL_1741 K (fL_law_23 N mf L xs n) ih x1 x2 x3 x4 o282.2.1 o282.2.2 (kc + 1) (ks + 6) _ _ _ hf hs (lv_sub hl [2, 3, 4, 5, 6] rfl)
          · rw [if_pos c284] at hf
            refine lv_aload_n hx hb dL_law_1729 rfl (lv_at hl 5 rfl) ?_
            refine lv_iconst (v := 0) hx hb dL_law_1730 (by decide) ?_
            obtain ⟨v285, e285, hf⟩ := tk_bi hf
            refine tk_lald hx hb hE hs e285 dL_law_1731 ?_
            refine lv_iload hx hb dL_law_1732 (lv_at hl 0 rfl) ?_
            refine lv_i2l (v := o281.1.toInt64) hx hb dL_law_1734 rfl ?_
            refine W.lcmp hx hb dL_law_1735 ?_
            refine lv_if_eq (tgt := 1741) hx hb dL_law_1736 (by decide) (fun c286 => ?_) (fun c286 => ?_)
            · rw [if_pos c286] at hf
              exact tL_1741 K (fL_law_23 N mf L xs n) ih x1 x2 x3 x4 o282.2.1 o282.2.2 (kc + 1) (ks + 6) _ _ _ hf hs (lv_sub hl [2, 3, 4, 5, 6] rfl)
            · rw [if_neg c286] at hf
              refine lv_iconst (v := 0) hx hb dL_law_1739 (by decide) ?_
              cases hf
        · rw [if_neg c283] at hf
          refine lv_iconst (v := 0) hx hb dL_law_1722 (by decide) ?_
          cases hf
      rw [if_neg c277] at hf
      by_cases c287 : (v42 &&& 31) = 24
      · rw [if_pos c287] at hf
        refine lv_tableIn (off := 1704) (tgt := 1744) hx hb dL_law_40 (by rw [c287]; decide) (by rw [c287]; decide) (by rw [c287]; rfl) (by decide) ?_
        refine lv_aload_n hx hb dL_law_1744 rfl (lv_at hl 1 rfl) ?_
        refine lv_aload_n hx hb dL_law_1745 rfl (lv_at hl 0 rfl) ?_
        refine lv_iload hx hb dL_law_1746 (lv_at hl 4 rfl) ?_
        refine lv_iconst (v := 1) hx hb dL_law_1748 (by decide) ?_
        refine lv_iadd hx hb dL_law_1749 ?_
        obtain ⟨v288, e288, hf⟩ := tk_bi hf
        refine tk_sld hx hb hX hbl hbA hs e288 dL_law_1750 ?_
        refine lv_aload_n hx hb dL_law_1751 rfl (lv_at hl 3 rfl) ?_
        obtain ⟨_, b289, hf⟩ := tk_bi hf
        have b289 := tk_bd_ok b289
        obtain ⟨o289, e289, hf⟩ := tk_bi hf
        refine tk_call (v := some (.int o289.1)) hs (vx_runSW (As := [.ref x1, .int v288, .ref x3]) (rest := []) ⟨hx, hb, hml, hown, ht⟩ (cL_marks_ok l hl0 G N x1 v288 x3 h sz o289.1 o289.2.1 o289.2.2 e289) (kwL_marks ht wmL_179 rfl rfl ⟨Nat.le_of_ble_eq_true rfl, Nat.le_of_ble_eq_true rfl⟩) (tk_preS hE hs) rfl rfl hl.1 rfl (lv_room (Nat.le_of_ble_eq_true rfl)) dL_law_1752 ⟨b289.1, b289.2⟩) (fun H locs hs => ?_)
        refine W.eq (g2 := F0 m 1755 ls [.int o289.1]) rfl ?_
        refine W.widen (k := kc + 1) (n := ks + 6) (Nat.le_refl _) (Nat.le_refl _) ?_
        refine lv_istore (lv' := [(5, .int o289.1), (0, .ref b), (1, .ref x1), (2, .ref x2), (3, .ref x3), (4, .int x4)]) hx hb dL_law_1755 hl (by decide) rfl (fun ls hl => ?_)
        refine lv_aload_n hx hb dL_law_1757 rfl (lv_at hl 3 rfl) ?_
        refine lv_aload_n hx hb dL_law_1758 rfl (lv_at hl 1 rfl) ?_
        refine lv_iload hx hb dL_law_1759 (lv_at hl 5 rfl) ?_
        refine lv_iconst (v := 1) hx hb dL_law_1761 (by decide) ?_
        refine lv_iadd hx hb dL_law_1762 ?_
        obtain ⟨v290, e290, hf⟩ := tk_bi hf
        refine tk_sld hx hb hX hbl hbA hs e290 dL_law_1763 ?_
        obtain ⟨_, p291, hf⟩ := tk_bi hf
        obtain ⟨_, b291, hf⟩ := tk_bi hf
        have b291 := tk_bd_ok b291
        obtain ⟨o291, e291, hf⟩ := tk_bi hf
        refine tk_call0 (v := some (.int o291.1)) hs (va_runV (As := [.int v290]) (rest := []) ⟨hx, hb, hml, hown, ht⟩ (cX5_marks_ok l hl0 G N x2 v290 o289.2.1 o289.2.2 o291.1 o291.2.1 o291.2.2 e291) (kwX5_marks ht wmL_181 rfl rfl ⟨Nat.le_of_ble_eq_true rfl, Nat.le_of_ble_eq_true rfl⟩) (tk_preV hE hs (tk_ok_ok p291) rfl) rfl rfl hl.1 rfl (lv_room (Nat.le_of_ble_eq_true rfl)) dL_law_1764 ⟨b291.1, b291.2⟩) (fun H locs hs => ?_)
        refine W.eq (g2 := F0 m 1767 ls [.int o291.1]) rfl ?_
        refine lv_istore (lv' := [(6, .int o291.1), (5, .int o289.1), (0, .ref b), (1, .ref x1), (2, .ref x2), (3, .ref x3), (4, .int x4)]) hx hb dL_law_1767 hl (by decide) rfl (fun ls hl => ?_)
        refine lv_aload_n hx hb dL_law_1769 rfl (lv_at hl 4 rfl) ?_
        obtain ⟨_, p292, hf⟩ := tk_bi hf
        obtain ⟨_, b292, hf⟩ := tk_bi hf
        have b292 := tk_bd_ok b292
        obtain ⟨o292, e292, hf⟩ := tk_bi hf
        refine tk_call0 (v := some (.int o292.1)) hs (va_runV (As := []) (rest := []) ⟨hx, hb, hml, hown, ht⟩ (cX5_thrown_ok l hl0 G N x2 o291.2.1 o291.2.2 o292.1 o292.2.1 o292.2.2 e292) (kwX5_thrown ht wmL_100 rfl rfl ⟨Nat.le_of_ble_eq_true rfl, Nat.le_of_ble_eq_true rfl⟩) (tk_preV hE hs (tk_ok_ok p292) rfl) rfl rfl hl.1 rfl (lv_room (Nat.le_of_ble_eq_true rfl)) dL_law_1770 ⟨b292.1, b292.2⟩) (fun H locs hs => ?_)
        refine W.eq (g2 := F0 m 1773 ls [.int o292.1]) rfl ?_
        refine lv_iload hx hb dL_law_1773 (lv_at hl 1 rfl) ?_
        refine lv_icmp_eq (tgt := 1780) hx hb dL_law_1775 (by decide) (fun c293 => ?_) (fun c293 => ?_)
        · rw [if_pos c293] at hf
          refine lv_iload hx hb dL_law_1780 (lv_at hl 1 rfl) ?_
          refine lv_if_ne (tgt := 1797) hx hb dL_law_1782 (by decide) (fun c294 => ?_) (fun c294 => ?_)
          · rw [if_neg c294] at hf
            exact tL_1797 K (fL_law_23 N mf L xs n) ih x1 x2 x3 x4 o292.2.1 o292.2.2 (kc + 1) (ks + 6) _ _ _ hf hs (lv_sub hl [2, 3, 4, 5, 6] rfl)
          · rw [if_pos c294] at hf
            refine lv_aload_n hx hb dL_law_1785 rfl (lv_at hl 5 rfl) ?_
            refine lv_iconst (v := 0) hx hb dL_law_1786 (by decide) ?_
            obtain ⟨v295, e295, hf⟩ := tk_bi hf
            refine tk_lald hx hb hE hs e295 dL_law_1787 ?_
            refine lv_iload hx hb dL_law_1788 (lv_at hl 0 rfl) ?_
            refine lv_i2l (v := o291.1.toInt64) hx hb dL_law_1790 rfl ?_
            refine W.lcmp hx hb dL_law_1791 ?_
            refine lv_if_eq (tgt := 1797) hx hb dL_law_1792 (by decide) (fun c296 => ?_) (fun c296 => ?_)
            · rw [if_pos c296] at hf
              exact tL_1797 K (fL_law_23 N mf L xs n) ih x1 x2 x3 x4 o292.2.1 o292.2.2 (kc + 1) (ks + 6) _ _ _ hf hs (lv_sub hl [2, 3, 4, 5, 6] rfl)
            · rw [if_neg c296] at hf
              refine lv_iconst (v := 0) hx hb dL_law_1795 (by decide) ?_
              cases hf
        · rw [if_neg c293] at hf
          refine lv_iconst (v := 0) hx hb dL_law_1778 (by decide) ?_
          cases hf
      rw [if_neg c287] at hf
      by_cases c297 : (v42 &&& 31) = 25
      · rw [if_pos c297] at hf
        refine lv_tableIn (off := 1760) (tgt := 1800) hx hb dL_law_40 (by rw [c297]; decide) (by rw [c297]; decide) (by rw [c297]; rfl) (by decide) ?_
        refine lv_aload_n hx hb dL_law_1800 rfl (lv_at hl 1 rfl) ?_
        refine lv_aload_n hx hb dL_law_1801 rfl (lv_at hl 0 rfl) ?_
        refine lv_iload hx hb dL_law_1802 (lv_at hl 4 rfl) ?_
        refine lv_iconst (v := 1) hx hb dL_law_1804 (by decide) ?_
        refine lv_iadd hx hb dL_law_1805 ?_
        obtain ⟨v298, e298, hf⟩ := tk_bi hf
        refine tk_sld hx hb hX hbl hbA hs e298 dL_law_1806 ?_
        refine lv_aload_n hx hb dL_law_1807 rfl (lv_at hl 3 rfl) ?_
        obtain ⟨_, b299, hf⟩ := tk_bi hf
        have b299 := tk_bd_ok b299
        obtain ⟨o299, e299, hf⟩ := tk_bi hf
        refine tk_call (v := some (.int o299.1)) hs (vx_runSW (As := [.ref x1, .int v298, .ref x3]) (rest := []) ⟨hx, hb, hml, hown, ht⟩ (cL_count_ok l hl0 G N x1 v298 x3 h sz o299.1 o299.2.1 o299.2.2 e299) (kwL_count ht wmL_182 rfl rfl ⟨Nat.le_of_ble_eq_true rfl, Nat.le_of_ble_eq_true rfl⟩) (tk_preS hE hs) rfl rfl hl.1 rfl (lv_room (Nat.le_of_ble_eq_true rfl)) dL_law_1808 ⟨b299.1, b299.2⟩) (fun H locs hs => ?_)
        refine W.eq (g2 := F0 m 1811 ls [.int o299.1]) rfl ?_
        refine W.widen (k := kc + 1) (n := ks + 6) (Nat.le_refl _) (Nat.le_refl _) ?_
        refine lv_istore (lv' := [(5, .int o299.1), (0, .ref b), (1, .ref x1), (2, .ref x2), (3, .ref x3), (4, .int x4)]) hx hb dL_law_1811 hl (by decide) rfl (fun ls hl => ?_)
        refine lv_aload_n hx hb dL_law_1813 rfl (lv_at hl 3 rfl) ?_
        refine lv_aload_n hx hb dL_law_1814 rfl (lv_at hl 1 rfl) ?_
        refine lv_iload hx hb dL_law_1815 (lv_at hl 5 rfl) ?_
        refine lv_iconst (v := 1) hx hb dL_law_1817 (by decide) ?_
        refine lv_iadd hx hb dL_law_1818 ?_
        obtain ⟨v300, e300, hf⟩ := tk_bi hf
        refine tk_sld hx hb hX hbl hbA hs e300 dL_law_1819 ?_
        obtain ⟨_, p301, hf⟩ := tk_bi hf
        obtain ⟨_, b301, hf⟩ := tk_bi hf
        have b301 := tk_bd_ok b301
        obtain ⟨o301, e301, hf⟩ := tk_bi hf
        refine tk_call0 (v := some (.int o301.1)) hs (va_runV (As := [.int v300]) (rest := []) ⟨hx, hb, hml, hown, ht⟩ (cX5_count_ok l hl0 G N x2 v300 o299.2.1 o299.2.2 o301.1 o301.2.1 o301.2.2 e301) (kwX5_count ht wmL_184 rfl rfl ⟨Nat.le_of_ble_eq_true rfl, Nat.le_of_ble_eq_true rfl⟩) (tk_preV hE hs (tk_ok_ok p301) rfl) rfl rfl hl.1 rfl (lv_room (Nat.le_of_ble_eq_true rfl)) dL_law_1820 ⟨b301.1, b301.2⟩) (fun H locs hs => ?_)
        refine W.eq (g2 := F0 m 1823 ls [.int o301.1]) rfl ?_
        refine lv_istore (lv' := [(6, .int o301.1), (5, .int o299.1), (0, .ref b), (1, .ref x1), (2, .ref x2), (3, .ref x3), (4, .int x4)]) hx hb dL_law_1823 hl (by decide) rfl (fun ls hl => ?_)
        refine lv_aload_n hx hb dL_law_1825 rfl (lv_at hl 4 rfl) ?_
        obtain ⟨_, p302, hf⟩ := tk_bi hf
        obtain ⟨_, b302, hf⟩ := tk_bi hf
        have b302 := tk_bd_ok b302
        obtain ⟨o302, e302, hf⟩ := tk_bi hf
        refine tk_call0 (v := some (.int o302.1)) hs (va_runV (As := []) (rest := []) ⟨hx, hb, hml, hown, ht⟩ (cX5_thrown_ok l hl0 G N x2 o301.2.1 o301.2.2 o302.1 o302.2.1 o302.2.2 e302) (kwX5_thrown ht wmL_100 rfl rfl ⟨Nat.le_of_ble_eq_true rfl, Nat.le_of_ble_eq_true rfl⟩) (tk_preV hE hs (tk_ok_ok p302) rfl) rfl rfl hl.1 rfl (lv_room (Nat.le_of_ble_eq_true rfl)) dL_law_1826 ⟨b302.1, b302.2⟩) (fun H locs hs => ?_)
        refine W.eq (g2 := F0 m 1829 ls [.int o302.1]) rfl ?_
        refine lv_iload hx hb dL_law_1829 (lv_at hl 1 rfl) ?_
        refine lv_icmp_eq (tgt := 1836) hx hb dL_law_1831 (by decide) (fun c303 => ?_) (fun c303 => ?_)
        · rw [if_pos c303] at hf
          refine lv_iload hx hb dL_law_1836 (lv_at hl 1 rfl) ?_
          refine lv_if_ne (tgt := 1853) hx hb dL_law_1838 (by decide) (fun c304 => ?_) (fun c304 => ?_)
          · rw [if_neg c304] at hf
            exact tL_1853 K (fL_law_23 N mf L xs n) ih x1 x2 x3 x4 o302.2.1 o302.2.2 (kc + 1) (ks + 6) _ _ _ hf hs (lv_sub hl [2, 3, 4, 5, 6] rfl)
          · rw [if_pos c304] at hf
            refine lv_aload_n hx hb dL_law_1841 rfl (lv_at hl 5 rfl) ?_
            refine lv_iconst (v := 0) hx hb dL_law_1842 (by decide) ?_
            obtain ⟨v305, e305, hf⟩ := tk_bi hf
            refine tk_lald hx hb hE hs e305 dL_law_1843 ?_
            refine lv_iload hx hb dL_law_1844 (lv_at hl 0 rfl) ?_
            refine lv_i2l (v := o301.1.toInt64) hx hb dL_law_1846 rfl ?_
            refine W.lcmp hx hb dL_law_1847 ?_
            refine lv_if_eq (tgt := 1853) hx hb dL_law_1848 (by decide) (fun c306 => ?_) (fun c306 => ?_)
            · rw [if_pos c306] at hf
              exact tL_1853 K (fL_law_23 N mf L xs n) ih x1 x2 x3 x4 o302.2.1 o302.2.2 (kc + 1) (ks + 6) _ _ _ hf hs (lv_sub hl [2, 3, 4, 5, 6] rfl)
            · rw [if_neg c306] at hf
              refine lv_iconst (v := 0) hx hb dL_law_1851 (by decide) ?_
              cases hf
        · rw [if_neg c303] at hf
          refine lv_iconst (v := 0) hx hb dL_law_1834 (by decide) ?_
          cases hf
      rw [if_neg c297] at hf
      refine lv_tableOut (tgt := 1856) hx hb dL_law_40 (tk_out 25 (fun k hk => match k, hk with | 0, _ => c43 | 1, _ => c49 | 2, _ => c61 | 3, _ => c75 | 4, _ => c87 | 5, _ => c97 | 6, _ => c102 | 7, _ => c108 | 8, _ => c122 | 9, _ => c134 | 10, _ => c146 | 11, _ => c162 | 12, _ => c166 | 13, _ => c170 | 14, _ => c182 | 15, _ => c192 | 16, _ => c202 | 17, _ => c212 | 18, _ => c222 | 19, _ => c227 | 20, _ => c241 | 21, _ => c251 | 22, _ => c265 | 23, _ => c277 | 24, _ => c287 | 25, _ => c297 | n9 + 26, h9 => absurd h9 (by omega)) (by decide)) (by decide) ?_
      exact tL_1856 K (fL_law_23 N mf L xs n) ih x1 x2 x3 x4 h sz kc ks _ _ _ hf hs (lv_sub hl [0, 1, 2, 3, 4] rfl)
set_option maxHeartbeats 16000000 in
set_option maxRecDepth 100000 in
theorem tL_0 {p : Program} {l : Launch} {e : Env} {s : State} {m : MethodId} {below : List Frame} {meth : Method} {c : Code} {G : tk_AG} {N : Nat} {mf : tk_AH → Nat} {b L : Nat} {xs : Nat → Int32} (K : tk_lc p l s m meth c G b L xs) : ∀ (h : tk_AH) (sz : Nat) (H : Heap) (locs : List Loc) (ls : Array Slot), fL_law N mf L xs h sz = some () → tk_sw G s h sz H locs → lv_has ls 7 [(0, .ref b)] → W p l e room_1 s m #[Value.ref b] below meth c H locs 0 0 (lw_Z below #[Value.ref b] s) (F0 m 0 ls []) := by
  obtain ⟨hx, hb, hr, hml, hown, ht, hX, hbl, hlocks, hE, hG, hbA, hl0⟩ := id K
  intro h sz H locs ls hf hs hl
  unfold fL_law at hf
  refine tk_new hx hb ht inX4 tyX4 tyX4_ok hown (ht _ wlL_8) (ht _ wbX4) (ht _ wnX4) hE hs (ci := 4) rfl (fs := [.null, .null, .null, .null, .null, .int 0, .int 0, .int 0, .int 0, .int 0]) (by decide +kernel) (Nat.le_of_ble_eq_true rfl) (Nat.le_of_ble_eq_true rfl) dL_law_0 (fun H hs => ?_)
  refine W.widen (k := 1) (n := 10) (by omega) (by omega) ?_
  refine lv_dup hx hb dL_law_3 rfl ?_
  obtain ⟨_, b307, hf⟩ := tk_bi hf
  have b307 := tk_bd_ok b307
  obtain ⟨o307, e307, hf⟩ := tk_bi hf
  refine tk_call (v := none) hs (va_runI (As := []) (rest := [.ref sz]) ⟨hx, hb, hml, hown, ht⟩ (cX4_init_ok l hl0 G N sz (tk_nO h sz 4 [.null, .null, .null, .null, .null, .int 0, .int 0, .int 0, .int 0, .int 0]) (sz + 1) o307.1 o307.2 e307) (kwX4_init ht wmL_86 rfl rfl ⟨Nat.le_of_ble_eq_true rfl, Nat.le_of_ble_eq_true rfl⟩) (tk_preS hE hs) rfl rfl hl.1 rfl (lv_room (Nat.le_of_ble_eq_true rfl)) dL_law_4 ⟨b307.1, b307.2⟩) (fun H locs hs => ?_)
  refine W.eq (g2 := F0 m 7 ls [.ref sz]) rfl ?_
  refine W.widen (k := 19) (n := 3991) (Nat.le_refl _) (Nat.le_refl _) ?_
  refine lv_astore_n (lv' := [(1, .ref sz), (0, .ref b)]) hx hb dL_law_7 rfl hl (by decide) rfl (fun ls hl => ?_)
  refine tk_new hx hb ht inX5 tyX5 tyX5_ok hown (ht _ wlL_87) (ht _ wbX5) (ht _ wnX5) hE hs (ci := 5) rfl (fs := [.int 0, .int 0, .int 0, .int 0, .int 0, .null, .null, .null, .null, .null, .null, .null, .null, .null, .null, .int 0, .null, .null, .null, .null, .null, .null, .null, .int 0, .int 0, .null, .null, .int 0, .null, .null, .null, .null, .null, .null, .null]) (by decide +kernel) (Nat.le_of_ble_eq_true rfl) (Nat.le_of_ble_eq_true rfl) dL_law_8 (fun H hs => ?_)
  refine W.widen (k := 20) (n := 4026) (by omega) (by omega) ?_
  refine lv_dup hx hb dL_law_11 rfl ?_
  obtain ⟨_, b308, hf⟩ := tk_bi hf
  have b308 := tk_bd_ok b308
  obtain ⟨o308, e308, hf⟩ := tk_bi hf
  refine tk_call (v := none) hs (va_runI (As := []) (rest := [.ref o307.2]) ⟨hx, hb, hml, hown, ht⟩ (cX5_init_ok l hl0 G N o307.2 (tk_nO o307.1 o307.2 5 [.int 0, .int 0, .int 0, .int 0, .int 0, .null, .null, .null, .null, .null, .null, .null, .null, .null, .null, .int 0, .null, .null, .null, .null, .null, .null, .null, .int 0, .int 0, .null, .null, .int 0, .null, .null, .null, .null, .null, .null, .null]) (o307.2 + 1) o308.1 o308.2 e308) (kwX5_init ht wmL_89 rfl rfl ⟨Nat.le_of_ble_eq_true rfl, Nat.le_of_ble_eq_true rfl⟩) (tk_preS hE hs) rfl rfl hl.1 rfl (lv_room (Nat.le_of_ble_eq_true rfl)) dL_law_12 ⟨b308.1, b308.2⟩) (fun H locs hs => ?_)
  refine W.eq (g2 := F0 m 15 ls [.ref o307.2]) rfl ?_
  refine W.widen (k := 46) (n := 44587) (Nat.le_refl _) (Nat.le_refl _) ?_
  refine lv_astore_n (lv' := [(2, .ref o307.2), (1, .ref sz), (0, .ref b)]) hx hb dL_law_15 rfl hl (by decide) rfl (fun ls hl => ?_)
  refine lv_iconst (v := 1) hx hb dL_law_16 (by decide) ?_
  refine tk_newJ hx hb (ht _ walong) hE hs (N := 1) (by decide) (by decide) (by decide) (Nat.le_of_ble_eq_true rfl) (Nat.le_of_ble_eq_true rfl) dL_law_17 (fun H hs => ?_)
  refine W.widen (k := 47) (n := 44588) (by omega) (by omega) ?_
  refine lv_astore_n (lv' := [(3, .ref o308.2), (2, .ref o307.2), (1, .ref sz), (0, .ref b)]) hx hb dL_law_19 rfl hl (by decide) rfl (fun ls hl => ?_)
  refine lv_iconst (v := 0) hx hb dL_law_20 (by decide) ?_
  refine lv_istore (lv' := [(4, .int 0), (3, .ref o308.2), (2, .ref o307.2), (1, .ref sz), (0, .ref b)]) hx hb dL_law_21 hl (by decide) rfl (fun ls hl => ?_)
  exact tL_23 K N sz o307.2 o308.2 0 (tk_nJ o308.1 o308.2 1) (o308.2 + 1) 47 44588 _ _ _ hf hs (lv_sub hl [4, 3, 2, 1, 0] rfl)
