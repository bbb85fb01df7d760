/-! THE START: what every method takes as given holds where the law begins -/
theorem tk_nest_in : ∀ w ∈ tk_nest, w ∈ lw_tbl := by decide +kernel
theorem tk_nw {w : Cond} {args : Array Value} {U : State} (hw : tk_okw w = true) (h : w.before args U = true) : va_Nw w U := by
  cases w <;> first | exact va_Nw.of rfl h | cases hw
theorem tk_str_in : ∀ x ∈ tk_strs, Cond.stringRef x.1 x.2.1 x.2.2 ∈ lw_tbl := by decide +kernel
set_option maxRecDepth 100000 in
theorem tk_str_ex : ∀ x ∈ tk_strs, Cond.exactly (.string x.1 x.2.1) "java/lang/String" ∈ flatC (Jvm.Cond.and given_1 narrow_1) := by decide +kernel
set_option maxRecDepth 100000 in
theorem tk_sta_1 : ∀ x ∈ tk_stats, Cond.arrayOf (.static "TongueSwap$Tape" x.1 "[I") .int ∈ flatC (Jvm.Cond.and given_1 narrow_1) ∧ Cond.eq (.length (.static "TongueSwap$Tape" x.1 "[I")) (.int 5) ∈ flatC (Jvm.Cond.and given_1 narrow_1) ∧ Cond.laysStatic "TongueSwap$Tape" x.1 "[I" ∈ lw_tbl := by decide +kernel
set_option maxRecDepth 100000 in
theorem tk_sta_2 : ∀ x ∈ tk_stats, ∀ j, j < 5 → Cond.eq (.elem (.static "TongueSwap$Tape" x.1 "[I") (.int (Int32.ofNat j))) (.int (x.2.getD j 0)) ∈ flatC (Jvm.Cond.and given_1 narrow_1) := by decide +kernel
/-- what holds at the law's entry: the machine, the code, the tables' words (any of lw_tbl by 'hts w (by decide +kernel)'), the script of L ints xs at the cell b, what the Statement gives of the start (any of its parts by flat_of_before) -/
def lw_At (p : Program) (s : State) (m : MethodId) (meth : Method) (c : Code) (b L : Nat) (xs : Nat → Int32) : Prop :=
  p.tables.exec = Jvm.exec ∧ c.code = code ∧ meth.sig.returnType = ret ∧ c.maxLocals = 7 ∧ s.vm.findClass R_law = some m.cls ∧ (∀ w ∈ lw_tbl, w.before #[Value.ref b] s = true) ∧ va_X b L xs s s.heap ∧ b < s.heap.size ∧ meth.locks = false ∧ (Jvm.Cond.and given_1 narrow_1).before #[Value.ref b] s = true
set_option maxHeartbeats 4000000 in
set_option maxRecDepth 100000 in
theorem tk_env {p : Program} {s : State} {m : MethodId} {meth : Method} {c : Code} {b L : Nat} {xs : Nat → Int32} (C0 : lw_At p s m meth c b L xs) : ∃ G : tk_AG, G.1 = s.heap.size ∧ tk_ev G s := by
  obtain ⟨hx, hb, hr, hml, hown, hts, hX, hbl, hlocks, hgv⟩ := C0
  have hf := flat_of_before _ hgv
  have hW : ∀ w ∈ tk_W, w.before #[Value.ref b] s = true := fun w h => hts w (List.mem_filter.mp h).1
  obtain ⟨c0, i0, K0⟩ := u_known (C := RX0) (T := TX0) (N := 15) (n := 15) hW inX0 (hW _ wbX0)
  obtain ⟨c1, i1, K1⟩ := u_known (C := RX1) (T := TX1) (N := 10) (n := 10) hW inX1 (hW _ wbX1)
  obtain ⟨c2, i2, K2⟩ := u_known (C := RX2) (T := TX2) (N := 8) (n := 8) hW inX2 (hW _ wbX2)
  obtain ⟨c3, i3, K3⟩ := u_known (C := RX3) (T := TX3) (N := 2) (n := 2) hW inX3 (hW _ wbX3)
  obtain ⟨c4, i4, K4⟩ := u_known (C := RX4) (T := TX4) (N := 10) (n := 10) hW inX4 (hW _ wbX4)
  obtain ⟨c5, i5, K5⟩ := u_known (C := RX5) (T := TX5) (N := 35) (n := 35) hW inX5 (hW _ wbX5)
  obtain ⟨aI, kI, pI, fI, gI, hI⟩ := Cond.arrayClass_spec (hW _ waint)
  obtain ⟨aZ, kZ, pZ, fZ, gZ, hZ⟩ := Cond.arrayClass_spec (hW _ waboolean)
  obtain ⟨aJ, kJ, pJ, fJ, gJ, hJ⟩ := Cond.arrayClass_spec (hW _ walong)
  have hAO : (Cond.arrayOver (.object "TongueSwap$Learner")).before #[Value.ref b] s = true := hts _ (by decide +kernel)
  obtain ⟨pL, aL, kL, fL1, -, gL, hL, fL⟩ := Cond.arrayOver_spec hAO
  have hA : ∀ a : Nat, a < s.heap.size → ¬ s.heap.size ≤ a := fun a h => Nat.not_le.mpr h
  refine ⟨(s.heap.size, ((fun k => if k = 0 then c0 else if k = 1 then c1 else if k = 2 then c2 else if k = 3 then c3 else if k = 4 then c4 else c5), (fun k => if k = 0 then i0 else if k = 1 then i1 else if k = 2 then i2 else if k = 3 then i3 else if k = 4 then i4 else i5)), (fun t => if t = 0 then aI else if t = 1 then aZ else if t = 2 then aJ else aL)), rfl, ⟨?_, ?_⟩, ⟨?_, ?_⟩, ?_, ?_, ?_, ?_, ?_, ?_⟩
  · intro k q hq
    match k, hq with
    | 0, hq => cases hq; exact K0
    | 1, hq => cases hq; exact K1
    | 2, hq => cases hq; exact K2
    | 3, hq => cases hq; exact K3
    | 4, hq => cases hq; exact K4
    | 5, hq => cases hq; exact K5
    | k + 6, hq => simp [vwCl] at hq
  · intro k q hq
    match k, hq with
    | 0, hq => cases hq; exact ⟨fun N z => ⟨(fun q h => by cases h), kI, gI, pI, hI⟩, fI⟩
    | 1, hq => cases hq; exact ⟨fun N z => ⟨(fun q h => by cases h), kZ, gZ, pZ, hZ⟩, fZ⟩
    | 2, hq => cases hq; exact ⟨fun N z => ⟨(fun q h => by cases h), kJ, gJ, pJ, hJ⟩, fJ⟩
    | 3, hq => cases hq; exact ⟨fun N z => ⟨(fun q h => by cases h), kL, gL, pL, hL⟩, kL, pL, gL, hL, fL1, fL⟩
    | k + 4, hq => simp [tk_tys] at hq
  · exact vx_Zqof (hts _ (by decide +kernel)) (hts _ (by decide +kernel)) (hf _ (by decide +kernel)) hA
  · exact vx_Zqof (hts _ (by decide +kernel)) (hts _ (by decide +kernel)) (hf _ (by decide +kernel)) hA
  · exact fun w hw => tk_nw (tk_nest_ok w hw) (hts w (tk_nest_in w hw))
  · intro x hxs
    obtain ⟨a2, ce, cA, kA, q1, -⟩ := Cond.exactly_spec (args := #[Value.ref b]) (first := s) (o := none) (s := s) (idx := []) (hf _ (tk_str_ex x hxs))
    exact ⟨a2, vk_R.of (hts _ (tk_str_in x hxs)) q1⟩
  · intro x hxs
    obtain ⟨g1, g2, g3⟩ := tk_sta_1 x hxs
    obtain ⟨t, ht1, ht2⟩ := va_Tof (N := 5) (f := fun j => .int (x.2.getD j 0)) (by decide) (hf _ g1) (va_eqt (hf _ g2)) (fun j hj => va_eqt (hf _ (tk_sta_2 x hxs j hj))) hA
    exact ⟨t, va_Zref (hts _ g3) (hts _ (by decide +kernel)) ht1 hA, ht2⟩
  · exact va_AO.of hAO
  · exact va_Nc.of (hf _ (by decide +kernel))
  · exact va_Nc.of (hf _ (by decide +kernel))
