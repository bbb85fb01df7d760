/-! SMALL STEPS of mirrors -/
def tk_ok (h : tk_AH) (ci a : Nat) : Option Unit := if tk_ob h ci a = true then some () else none
theorem tk_ok_ok {h : tk_AH} {ci a : Nat} {u : Unit} (e : tk_ok h ci a = some u) : tk_ob h ci a = true := by
  unfold tk_ok at e
  split at e
  · assumption
  · cases e
def tk_bz (x : Int32) : Option Unit := if x = 0 ∨ x = 1 then some () else none
theorem tk_bz_ok {x : Int32} {u : Unit} (e : tk_bz x = some u) : x = 0 ∨ x = 1 := by
  unfold tk_bz at e
  split at e
  · assumption
  · cases e
def tk_cs {α : Type} (v : Option Nat) (a : Option α) (b : Nat → Option α) : Option α := match v with
  | none => a
  | some q => b q
theorem tk_cs_n {α : Type} {a : Option α} {b : Nat → Option α} : tk_cs none a b = a := rfl
theorem tk_cs_s {α : Type} {a : Option α} {b : Nat → Option α} {q : Nat} : tk_cs (some q) a b = b q := rfl
def tk_tab (L : List Int32) (i : Int32) : Option Int32 := if i < 0 ∨ 5 ≤ i.toNatClampNeg then none else some (L.getD i.toNatClampNeg 0)
theorem tk_tab_ok {L : List Int32} {i v : Int32} (e : tk_tab L i = some v) : vp_in i 5 ∧ L.getD i.toNatClampNeg 0 = v := by
  unfold tk_tab at e
  split at e
  · cases e
  · rename_i h
    cases e
    exact ⟨h, rfl⟩
def tk_nn (n : Int32) (M : Nat) : Option Unit := if n < 0 ∨ M < n.toNatClampNeg ∨ 60000000 < n.toNatClampNeg then none else some ()
theorem tk_nn_ok {n : Int32} {M : Nat} {u : Unit} (e : tk_nn n M = some u) : ¬ n < 0 ∧ n.toNatClampNeg ≤ M ∧ n.toNatClampNeg * 8 ≤ 536870912 := by
  unfold tk_nn at e
  split at e
  · cases e
  · rename_i h
    refine ⟨fun q => h (Or.inl q), ?_, ?_⟩ <;> omega
theorem tk_out {x : Int32} (hi : Nat) (h : ∀ k, k ≤ hi → ¬ x = Int32.ofNat k) (hh : hi < 2 ^ 31) : x.toInt < 0 ∨ (hi : Int) < x.toInt := by
  rcases (show x.toInt < 0 ∨ 0 ≤ x.toInt by omega) with q | q
  · exact Or.inl q
  · refine Or.inr (Int.not_le.mp fun q2 => ?_)
    obtain ⟨j, hj, rfl⟩ := nI_of (x := x) (fun z => by have : x.toInt < (0 : Int32).toInt := Int32.lt_iff_toInt_lt.mp z; rw [show (0 : Int32).toInt = 0 from rfl] at this; omega)
    rw [nI_toInt hj] at q2
    exact h j (by omega) rfl
def tk_nO (h : tk_AH) (sz ci : Nat) (fs : List Value) : tk_AH := va_up h sz (some (.inl (ci, fs)))
def tk_nI (h : tk_AH) (sz n : Nat) : tk_AH := va_up h sz (some (.inr (0, n, .inl (fun _ => 0))))
def tk_nZ (h : tk_AH) (sz n : Nat) : tk_AH := va_up h sz (some (.inr (1, n, .inl (fun _ => 0))))
def tk_nJ (h : tk_AH) (sz n : Nat) : tk_AH := va_up h sz (some (.inr (2, n, .inr (.inl (fun _ => 0)))))
def tk_nQ (h : tk_AH) (sz n : Nat) : tk_AH := va_up h sz (some (.inr (3, n, .inr (.inr (fun _ => none)))))
def tk_xc {α : Type} (o : α ⊕ String) (k : Nat) : Nat := match o with
  | .inl _ => k
  | .inr _ => k + 1
def tk_xs {α : Type} (o : α ⊕ String) (k : Nat) : Nat := match o with
  | .inl _ => k
  | .inr _ => k + 6
theorem tk_xc_le {α : Type} (o : α ⊕ String) (k : Nat) : k ≤ tk_xc o k := by cases o <;> simp [tk_xc]
theorem tk_xs_le {α : Type} (o : α ⊕ String) (k : Nat) : k ≤ tk_xs o k := by cases o <;> simp [tk_xs]
def tk_oi (o : Int32 ⊕ String) : Option Value ⊕ String := match o with
  | .inl r => .inl (some (.int r))
  | .inr E => .inr E
def tk_oz (o : Int32 ⊕ String) : Option Value ⊕ String := match o with
  | .inl r => .inl (some (.int r))
  | .inr E => .inr E
def tk_oa (o : Nat ⊕ String) : Option Value ⊕ String := match o with
  | .inl r => .inl (some (.ref r))
  | .inr E => .inr E
def tk_ov (o : Unit ⊕ String) : Option Value ⊕ String := match o with
  | .inl _ => .inl none
  | .inr E => .inr E
section TKB
variable {p : Program} {l : Launch} {e : Env} {R : Room} {s : State} {m : MethodId} {args : Array Value} {below : List Frame} {meth : Method} {c : Code} {H : Heap} {locs : List Loc} {cells slots : Nat} {Q : State → Prop}
variable {cc : ByteArray} {pc : Nat} {ls : Array Slot} {rest st0 : List Value} {a : Nat} {G : tk_AG} {h h' : tk_AH} {sz sz' : Nat} {mc ms : Nat} {av : Array Value}
theorem tk_call0 {v : Option Value} (hs : tk_sw G s h sz H locs) (hr : va_Run p l e R s m args below meth c H locs cells slots 0 0 (F0 m pc ls st0) rest (tk_qc G v h' sz' av) (tk_ag G))
    (kk : ∀ (H1 : Heap) (locs1 : List Loc), tk_sw G s h' sz' H1 locs1 → W p l e R s m args below meth c H1 locs1 cells slots Q (F0 m (pc + 3) ls (v.toList ++ rest))) : W p l e R s m args below meth c H locs cells slots Q (F0 m pc ls st0) := tk_call hs hr kk
theorem tk_xret0 {v : Option Value} (hs : tk_sw G s h sz H locs) (hr : vx_Run p l e R s m args below meth c H locs cells slots mc ms (F0 m pc ls st0) rest (tk_qx G (.inl v) h' sz' av) (tk_xx G (.inl v) h' sz') (tk_ag G)) (hc : mc = 0) (hm : ms = 0)
    (kk : ∀ (H1 : Heap) (locs1 : List Loc), tk_sw G s h' sz' H1 locs1 → W p l e R s m args below meth c H1 locs1 cells slots Q (F0 m (pc + 3) ls (v.toList ++ rest))) : W p l e R s m args below meth c H locs cells slots Q (F0 m pc ls st0) := by
  subst hc
  subst hm
  exact tk_xret hs hr kk
variable {own C : String} {T : u_T} {N ci index : Nat} {Ts : List Cond}
theorem tk_new (hexec : p.tables.exec = Jvm.exec) (hb : c.code = cc) (hts : ∀ w ∈ Ts, w.before args s = true) (hin : ∀ w ∈ u_ws C T N, w ∈ Ts) (ty : Nat → FieldType) (hty : ∀ k, k < N → parseFieldDescriptor (T k).2.2.1 = some (ty k)) (hown : s.vm.findClass own = some m.cls) (hcl : (Cond.classLink own index C).before args s = true) (hinst : (Cond.instantiable C N).before args s = true) (hini : (Cond.initialized C).before args s = true)
    (hE : tk_ev G s) (hs : tk_sw G s h sz H locs) (hc : vwCl[ci]? = some (C, T, N)) {fs : List Value} (hfs : ∀ j, j < N → defaultValue (ty j) = vp_V fs j) (hcells : cells + 1 ≤ R.cells) (hslots : slots + N ≤ R.slots) (hdg : decode cc pc = .ok (.new index, 3))
    (kk : ∀ (H1 : Heap), tk_sw G s (tk_nO h sz ci fs) (sz + 1) H1 locs → W p l e R s m args below meth c H1 locs (cells + 1) (slots + N) Q (F0 m (pc + 3) ls (.ref sz :: rest))) : W p l e R s m args below meth c H locs cells slots Q (F0 m pc ls rest) := by
  have hKn := hE.1.1 ci _ hc
  refine W.newcK hexec hb hown hcl hinst hini rfl hdg hcells hslots hKn.2.1 hs.2.1 fun H1 kC hkC e1 z1 o1 => ?_
  exact kk H1 (tk_sw_new hs ⟨_, hc, (u_born ty hts hin hKn hkC e1 hty).to hfs⟩ z1 o1)
theorem tk_newI (hexec : p.tables.exec = Jvm.exec) (hb : c.code = cc) (harr : (Cond.arrayClass .int).before args s = true) (hE : tk_ev G s) (hs : tk_sw G s h sz H locs) {n : Int32} (hn : ¬ n < 0) (hN : n.toNatClampNeg = N) (hbytes : N * 8 ≤ 536870912) (hcells : cells + 1 ≤ R.cells) (hslots : slots + N ≤ R.slots) (hdg : decode cc pc = .ok (.newarray .int, 2))
    (kk : ∀ (H1 : Heap), tk_sw G s (tk_nI h sz N) (sz + 1) H1 locs → W p l e R s m args below meth c H1 locs (cells + 1) (slots + N) Q (F0 m (pc + 2) ls (.ref sz :: rest))) : W p l e R s m args below meth c H locs cells slots Q (F0 m pc ls (.int n :: rest)) := by
  refine va_newaK (atype := .int) hexec hb harr rfl hdg rfl hn hN (Nat.le_trans (Nat.mul_le_mul_left N (by decide : componentBytes (newarray.typeOf .int) ≤ 8)) hbytes) hcells hslots hs.2.1 fun H1 cA e1 z1 o1 hAr hNm => ?_
  have hq : s.vm.findClass ("[" ++ (newarray.typeOf .int).toString) = some (G.2.2 0) := (hE.1.2 0 _ rfl).2
  cases Option.some.inj (hNm.symm.trans hq)
  exact kk H1 (tk_sw_new hs e1 z1 o1)
theorem tk_newZ (hexec : p.tables.exec = Jvm.exec) (hb : c.code = cc) (harr : (Cond.arrayClass .boolean).before args s = true) (hE : tk_ev G s) (hs : tk_sw G s h sz H locs) {n : Int32} (hn : ¬ n < 0) (hN : n.toNatClampNeg = N) (hbytes : N * 8 ≤ 536870912) (hcells : cells + 1 ≤ R.cells) (hslots : slots + N ≤ R.slots) (hdg : decode cc pc = .ok (.newarray .boolean, 2))
    (kk : ∀ (H1 : Heap), tk_sw G s (tk_nZ h sz N) (sz + 1) H1 locs → W p l e R s m args below meth c H1 locs (cells + 1) (slots + N) Q (F0 m (pc + 2) ls (.ref sz :: rest))) : W p l e R s m args below meth c H locs cells slots Q (F0 m pc ls (.int n :: rest)) := by
  refine va_newaK (atype := .boolean) hexec hb harr rfl hdg rfl hn hN (Nat.le_trans (Nat.mul_le_mul_left N (by decide : componentBytes (newarray.typeOf .boolean) ≤ 8)) hbytes) hcells hslots hs.2.1 fun H1 cA e1 z1 o1 hAr hNm => ?_
  have hq : s.vm.findClass ("[" ++ (newarray.typeOf .boolean).toString) = some (G.2.2 1) := (hE.1.2 1 _ rfl).2
  cases Option.some.inj (hNm.symm.trans hq)
  exact kk H1 (tk_sw_new hs e1 z1 o1)
theorem tk_newJ (hexec : p.tables.exec = Jvm.exec) (hb : c.code = cc) (harr : (Cond.arrayClass .long).before args s = true) (hE : tk_ev G s) (hs : tk_sw G s h sz H locs) {n : Int32} (hn : ¬ n < 0) (hN : n.toNatClampNeg = N) (hbytes : N * 8 ≤ 536870912) (hcells : cells + 1 ≤ R.cells) (hslots : slots + N ≤ R.slots) (hdg : decode cc pc = .ok (.newarray .long, 2))
    (kk : ∀ (H1 : Heap), tk_sw G s (tk_nJ h sz N) (sz + 1) H1 locs → W p l e R s m args below meth c H1 locs (cells + 1) (slots + N) Q (F0 m (pc + 2) ls (.ref sz :: rest))) : W p l e R s m args below meth c H locs cells slots Q (F0 m pc ls (.int n :: rest)) := by
  refine va_newaK (atype := .long) hexec hb harr rfl hdg rfl hn hN (Nat.le_trans (Nat.mul_le_mul_left N (by decide : componentBytes (newarray.typeOf .long) ≤ 8)) hbytes) hcells hslots hs.2.1 fun H1 cA e1 z1 o1 hAr hNm => ?_
  have hq : s.vm.findClass ("[" ++ (newarray.typeOf .long).toString) = some (G.2.2 2) := (hE.1.2 2 _ rfl).2
  cases Option.some.inj (hNm.symm.trans hq)
  exact kk H1 (tk_sw_new hs e1 z1 o1)
theorem tk_newQ (hexec : p.tables.exec = Jvm.exec) (hb : c.code = cc) (hown : s.vm.findClass own = some m.cls) (hclink : (Cond.classLink own index "TongueSwap$Learner").before args s = true) (hE : tk_ev G s) (hs : tk_sw G s h sz H locs) {n : Int32} (hn : ¬ n < 0) (hN : n.toNatClampNeg = N) (hbytes : N * 8 ≤ 536870912) (hcells : cells + 1 ≤ R.cells) (hslots : slots + N ≤ R.slots) (hdg : decode cc pc = .ok (.anewarray index, 3))
    (kk : ∀ (H1 : Heap), tk_sw G s (tk_nQ h sz N) (sz + 1) H1 locs → W p l e R s m args below meth c H1 locs (cells + 1) (slots + N) Q (F0 m (pc + 3) ls (.ref sz :: rest))) : W p l e R s m args below meth c H locs cells slots Q (F0 m pc ls (.int n :: rest)) := by
  subst hN
  obtain ⟨h1, h2, h3, h4⟩ := id hs
  subst h2
  refine W.anew hexec hb hown hclink (va_AO.use hE.2.2.2.2.2.1) rfl hdg rfl hn (by omega) hcells hslots fun cA kA comp f1 f2 f3 f4 => ?_
  generalize hH1 : H.push ({ cls := cA, slots := Array.replicate n.toNatClampNeg .null, vm := .none } : Cell) = H1
  have z1 : H1.size = H.size + 1 := by rw [← hH1, Array.size_push]
  have e1 : H1[H.size]? = some (arrV cA n.toNatClampNeg (fun _ => .null)) := by rw [← hH1, Array.getElem?_push_size, ← arrV_new]
  have o1 : ∀ q : Nat, q < H.size → H1[q]? = H[q]? := fun q hq => by rw [← hH1, Array.getElem?_push, if_neg (Nat.ne_of_lt hq)]
  obtain ⟨kB, compB, g1, g2, g3, g4⟩ := (hE.1.2 3 _ rfl).2
  have hq : cA = G.2.2 3 := by
    first
      | exact Option.some.inj (f4.symm.trans g4)
      | exact Option.some.inj (f1.symm.trans g4)
  subst hq
  exact kk H1 (tk_sw_new hs e1 z1 o1)
theorem tk_aast (hexec : p.tables.exec = Jvm.exec) (hb : c.code = cc) (hE : tk_ev G s) (hs : tk_sw G s h sz H locs) {i : Int32} {v : Nat} (ho : tk_ob h 0 v = true) (hv : tk_sQ h 3 a i v = some h') (hdg : decode cc pc = .ok (.aastore, 1))
    (kk : ∀ (H1 : Heap) (locs1 : List Loc), tk_sw G s h' sz H1 locs1 → W p l e R s m args below meth c H1 locs1 cells slots Q (F0 m (pc + 1) ls rest)) : W p l e R s m args below meth c H locs cells slots Q (F0 m pc ls (.ref v :: .int i :: .ref a :: rest)) := by
  obtain ⟨n, f, h1, h2, rfl⟩ := tk_sQ_ok hv
  obtain ⟨vs, hvs⟩ := tk_ob_ok ho
  have hlt : i.toNatClampNeg < n := Nat.not_le.mp fun q => h2 (Or.inr q)
  have h0 : ¬ i < 0 := fun q => h2 (Or.inl q)
  obtain ⟨r', hr', cellV, g1, g2, g3, -⟩ := (hs.1 v _ hvs).2
  have hcls := (hE.1.1 0 _ rfl).2
  obtain ⟨kA, comp, k1, k2, k3, -⟩ := (hE.1.2 3 _ rfl).2
  have hcomp : comp = G.2.1.1 0 := Option.some.inj (k3.symm.trans hcls.1)
  subst hcomp
  obtain ⟨kC, hkC, -⟩ := hcls.2
  refine W.aast hexec hb (hs.1 a _ h1).2 (fun q h => by cases h) (fun h => by cases h) k1 k2 rfl hkC ⟨h0, by rw [arrV_size]; exact hlt⟩ g1 (fun q h => by rw [g3] at h; cases h) (by rw [g2]; exact hkC) (by rw [g2]; exact va_assign hcls) rfl rfl hdg fun H1 e z oq => ?_
  refine kk H1 _ (tk_sw_put hs h1 ?_ z oq)
  show H1[a]? = some (arrV _ _ _)
  rw [e, arrV_store]
  congr 2
  funext q
  by_cases hq : q = i.toNatClampNeg
  · subst hq
    simp [updV, va_up, va_rf]
  · simp [updV, va_up, hq]
end TKB
/-- the words of 'throw new X(text)', the link of X's constructor to Y's told by itself -/
def tk_own (own : String) (ic : Nat) (X Y : String) (r : List String) (i1 : Nat) (b1 : ByteArray) : List Cond :=
  Bundle.throwableAtoms ++ Bundle.throwableSAtoms ++ Bundle.passSAtoms X Y i1 b1 ++ Bundle.chainSAtoms Y r ++
  [.methodLink own ic (Bundle.initS X), .instantiable X 6, .selects X Bundle.tFill0 Bundle.tFill0, .selects X Bundle.tFill Bundle.tFill,
   .lays X Bundle.tN "cause" "Ljava/lang/Throwable;", .lays X Bundle.tN "stackTrace" Bundle.steD, .lays X Bundle.tN "suppressedExceptions" Bundle.listD, .lays X Bundle.tN "detailMessage" "Ljava/lang/String;",
   .isRef (.static Bundle.tN "UNASSIGNED_STACK" Bundle.steD), .isRef (.static Bundle.tN "SUPPRESSED_SENTINEL" Bundle.listD),
   .fieldLink Bundle.tN 198 Bundle.tN "backtrace" "Ljava/lang/Object;", .lays Bundle.tN Bundle.tN "backtrace" "Ljava/lang/Object;", .lays X Bundle.tN "backtrace" "Ljava/lang/Object;"]
section TKX
variable {p : Program} {l : Launch} {e : Env} {R : Room} {s : State} {m₀ : MethodId} {args : Array Value} {below : List Frame} {meth : Method} {c : Code} {W : State} {cells slots : Nat}
set_option maxHeartbeats 2000000 in
theorem tk_ctorThrow (X : Stand p l e R s m₀ args below meth c W [] cells slots) (hexec : p.tables.exec = Jvm.exec) (htr : e.platform.stackTraces = false) {own cls Y0 : String} {r0 : List String} {ic i1 : Nat} {b1 : ByteArray}
    (q0 : decode b1 0 = .ok (.aload_n 0, 1)) (q1 : decode b1 1 = .ok (.aload_n 1, 1)) (q2 : decode b1 2 = .ok (.invokespecial i1, 3)) (q5 : decode b1 5 = .ok (.return_, 1))
    (hown : s.vm.findClass own = some m₀.cls) (hcls : Bundle.fit cls = true) (hnames : ∀ n ∈ Y0 :: r0, Bundle.fit n = true)
    (h : ∀ a ∈ tk_own own ic cls Y0 r0 i1 b1, a.before args s = true)
    {a : Addr} {cX : ClassId} {kX : Class} (hfoundX : s.vm.findClass cls = some cX) (hkX : s.vm.classes[cX]? = some kX) (hcell : W.heap[a]? = some (freshCell cX kX)) (hnew : s.heap.size ≤ a)
    {msg : Value} (hmsg : msg.isRef = true)
    {g : JFrame} (hg : g.method = m₀) (hsize : g.locals.size = c.maxLocals) (hlocked : g.locked = none) (hentered : g.entered = []) {rest : List Value} (hstack : g.stack = msg :: .ref a :: .ref a :: rest)
    (hd6 : decode c.code g.pc = .ok (.invokespecial ic, 3)) (hd9 : decode c.code (g.pc + 3) = .ok (.athrow, 1)) (hout : ∀ x ∈ c.exceptionTable.toList, covers x (g.pc + 3) = false)
    (hRframes : (r0.length + 1) + 3 < R.frames) (hRlocals : 2 * g.monitorRoom + ((Value.ref a :: rest).map fun v => v.category).sum + (13 * ((r0.length + 1) + 1) + 42) ≤ R.locals) (hlocks : meth.locks = false) :
    ∃ U : State, Steps p.tables e below (W.setTop g) U ∧ U.status = .running ∧ Ended U below (.threw a) ∧ s.WarmedH U.vm ∧ s.sameButNew ({ U with vm := s.vm } : State) [] cells slots ∧
      ∃ ce, U.heap[a]? = some ce ∧ ce.vm = .none ∧ s.vm.findClass cls = some ce.cls := by
  have howns : e.platform.frameOwnsMonitors = true := by rw [X.admits.platform]
  have hfin : e.platform.finalization = false := by rw [X.admits.platform]
  have hpl : e.platform.magicAccessors = ({} : Platform).magicAccessors := by rw [X.admits.platform]
  have a' : ∀ x, x ∈ tk_own own ic cls Y0 r0 i1 b1 → x.holds args s none s [] = true := fun x hx => h x hx
  obtain ⟨T, Z0, L, -, Y⟩ := ThrowableC.of_atoms (args := args) howns hfin hpl (fun x hx => h x (by simp [tk_own, hx]))
  obtain ⟨Z, M, LZ, LM, hnZ⟩ := Init0T.ofS_atoms (args := args) hpl L Y (fun x hx => h x (by simp [tk_own, hx]))
  obtain ⟨P1, L1, hP1m, hsup⟩ := PassC.ofS_atoms (args := args) (s := s) hpl (X := cls) (Y := Y0) (Bundle.fit_spec hcls).1 (Bundle.fit_spec (hnames Y0 List.mem_cons_self)).2 q0 q1 q2 q5 (fun x hx => h x (by simp [tk_own, hx]))
  obtain ⟨P2, Ps', hlen, L2, hL', hm2, hl1, hl2⟩ := Bundle.chainS (args := args) hpl hnZ r0 Y0 (hnames Y0 List.mem_cons_self) (fun n hn => hnames n (List.mem_cons_of_mem _ hn)) (fun x hx => h x (by simp [tk_own, hx]))
  obtain ⟨Ps, hPs⟩ : ∃ z, z = P2 :: Ps' := ⟨_, rfl⟩
  have hL : ∀ P, P ∈ Ps → P.LinksS e.platform s := fun P hP => by
    rw [hPs] at hP
    rcases List.mem_cons.mp hP with rfl | hP
    · exact L2
    · exact hL' P hP
  have hlen : Ps.length = r0.length + 1 := by rw [hPs, List.length_cons, hlen]
  have hlink1 : P1.sup = firstOf (Z.m T.toThrowableT) (Ps.map (·.toPassT)) := by rw [hPs]; exact Option.some.inj (hsup.symm.trans hm2)
  have hlink : PassesOn (Z.m T.toThrowableT) (Ps.map (·.toPassT)) := by rw [hPs]; exact ⟨hl1, hl2⟩
  have hfound : s.vm.findClass cls = some P1.m.cls := findClass_of_methodNamed hP1m
  cases Option.some.inj (hfoundX.symm.trans hfound)
  obtain ⟨c1, kX', hc1, hk, hord, -, -, hn6⟩ := Cond.instantiable_spec (a' (.instantiable cls 6) (by simp [tk_own]))
  cases Option.some.inj (hc1.symm.trans hfound)
  cases Option.some.inj (hkX.symm.trans hk)
  have hsel0 : selectMethod e.platform s.vm P1.m.cls T.fill0 = .method T.fill0 := by
    obtain ⟨c2, r2, m2, q1, q2, q3, q4, -⟩ := Cond.selects_spec (a' (.selects cls Bundle.tFill0 Bundle.tFill0) (by simp [tk_own]))
    cases Option.some.inj (q1.symm.trans hfound)
    cases Option.some.inj (q2.symm.trans (State.methodFound?_of_named Y.fill0 (by decide)))
    cases Option.some.inj (q3.symm.trans Y.fill0)
    rw [Launch.admits_selectMethod X.admits]; exact q4
  have hselF : selectMethod e.platform s.vm P1.m.cls T.fill = .method T.fill := by
    obtain ⟨c2, r2, m2, q1, q2, q3, q4, -⟩ := Cond.selects_spec (a' (.selects cls Bundle.tFill Bundle.tFill) (by simp [tk_own]))
    cases Option.some.inj (q1.symm.trans hfound)
    cases Option.some.inj (q2.symm.trans (State.methodFound?_of_named Y.fill (by decide)))
    cases Option.some.inj (q3.symm.trans Y.fill)
    rw [Launch.admits_selectMethod X.admits]; exact q4
  obtain ⟨cellS0, hcS0, hiss⟩ := Y.statics
  obtain ⟨u0, hu0⟩ := Cond.staticRefV Y.unassigned L.unassignedStatic L.statics hcS0 hiss (a' (.isRef (.static Bundle.tN "UNASSIGNED_STACK" Bundle.steD)) (by simp [tk_own]))
  obtain ⟨sen, hsen⟩ := Cond.staticRefV Y.sentinel L.sentinelStatic L.statics hcS0 hiss (a' (.isRef (.static Bundle.tN "SUPPRESSED_SENTINEL" Bundle.listD)) (by simp [tk_own]))
  obtain ⟨ci198, i198, fB, hk198, hg198, ha198, hsB, -, hnB, htB, hffB⟩ := Cond.ownField (t := .object "java/lang/Object") Y.found L.cls (by decide +kernel) (a' (.fieldLink Bundle.tN 198 Bundle.tN "backtrace" "Ljava/lang/Object;") (by simp [tk_own])) (a' (.lays Bundle.tN Bundle.tN "backtrace" "Ljava/lang/Object;") (by simp [tk_own])) e.platform hpl
  obtain ⟨cellS, hcS', heS, -, hkeep⟩ := X.same.2.2.2.2.2 T.aS cellS0 hcS0
  have hcellS : W.heap[T.aS]? = some cellS := hcS'
  have hout' : ∀ i, (⟨T.aS, i⟩ : Loc) ∉ ([] : List Loc) := fun i hmem => nomatch hmem
  have hknownS : cellS.vm ≠ .unknown := by
    rw [heS]; intro hu
    rw [show cellS0.vm = .unknown from hu] at hiss
    cases hiss
  have hneS : T.aS ≠ a := Nat.ne_of_lt (Nat.lt_of_lt_of_le (Array.getElem?_eq_some_iff.mp hcS0).1 hnew)
  obtain ⟨iM, hffM⟩ := Y.msg
  obtain ⟨tyC, dC, hdC, hdnC⟩ := Cond.laysAt hfound hk Y.cause (a' (.lays cls Bundle.tN "cause" "Ljava/lang/Throwable;") (by simp [tk_own]))
  obtain ⟨tyS, dS, hdS, hdnS⟩ := Cond.laysAt hfound hk Y.stack (a' (.lays cls Bundle.tN "stackTrace" Bundle.steD) (by simp [tk_own]))
  obtain ⟨tyP, dP, hdP, hdnP⟩ := Cond.laysAt hfound hk Y.supp (a' (.lays cls Bundle.tN "suppressedExceptions" Bundle.listD) (by simp [tk_own]))
  obtain ⟨tyM, dM, hdM, hdnM⟩ := Cond.laysAt hfound hk hffM (a' (.lays cls Bundle.tN "detailMessage" "Ljava/lang/String;") (by simp [tk_own]))
  obtain ⟨tyB, dB, hdB, hdnB⟩ := Cond.laysAt hfound hk hffB (a' (.lays cls Bundle.tN "backtrace" "Ljava/lang/Object;") (by simp [tk_own]))
  have bC := Cond.laysApart hdB hdC hdnB hdnC (by rw [hnB, Y.causeName]; decide)
  have bS := Cond.laysApart hdB hdS hdnB hdnS (by rw [hnB, Y.stackName]; decide)
  have bP := Cond.laysApart hdB hdP hdnB hdnP (by rw [hnB, Y.suppName]; decide)
  have hskip : SkipFacts T e.platform s (fun u => u) u0 ((preparedCellV T.toThrowableT (freshCell P1.m.cls kX) a u0 sen).withEntry W.cur) :=
    ⟨{ ci198 := ci198, i198 := i198, fBack := fB }, ⟨hk198, hg198, ha198, hsB⟩, by
      have := fresh_default (c := P1.m.cls) tyB
      rw [htB] at this
      simpa [preparedCellV, Cell.setSlot, Cell.withEntry, Array.getElem?_setIfInBounds, bC, bS, bP, bC.symm, bS.symm, bP.symm, defaultValue] using this, fun _ _ => rfl⟩
  obtain ⟨tm, methC, cdC, kC, vm₁, hnC, -, -, -, -, -, -, -, hW₁, st1⟩ := Steps.initColdS (tb := p.tables) (e := e) (below := below) (s := s) (U := W) X.here hexec X.warmed hpl hown (t := Bundle.initS cls) rfl rfl (Bundle.fit_spec hcls).2
    (a' (.methodLink own ic (Bundle.initS cls)) (by simp [tk_own])) (h (.instanceMethod (Bundle.initS cls)) (by simp [tk_own, Bundle.passSAtoms])) (bytes := b1) (maxL := 2) (h (.code (Bundle.initS cls) b1 2 none) (by simp [tk_own, Bundle.passSAtoms]))
    (f := g) hg (a := a) (msg := msg) (rest := .ref a :: rest) hstack hd6
  cases Option.some.inj (hnC.symm.trans hP1m)
  have X₁ := X.noted hW₁
  obtain ⟨vm₂, X₂, st2⟩ := X₁.ctorMessageOffV hexec (g := { g with stack := .ref a :: rest }) hg hsize T L Z LZ M LM (P1 :: Ps)
    (fun P hP => by rcases List.mem_cons.mp hP with rfl | hP; exact L1; exact hL P hP) ⟨hlink1, hlink⟩ (u0 := u0) (sen := sen) (self := a) hmsg (cell := freshCell P1.m.cls kX) (cellS := cellS)
    hcell (fun _ => by simp) (by simp) rfl rfl hsel0 hselF hcellS hneS hknownS (by rw [hkeep _ (hout' _)]; exact hu0) (by rw [hkeep _ (hout' _)]; exact hsen)
    (Takes.of_laid hk hord tyC (by rw [Y.causeType]; rfl)) (Takes.of_laid hk hord tyS (by rw [Y.stackType]; exact fits_refV_array _ u0)) (Takes.of_laid hk hord tyP (by rw [Y.suppType]; exact fits_refV_object _ sen))
    (Takes.of_laid hk hord tyM (by rw [Y.msgType]; exact fits_refV_object _ ⟨msg, hmsg⟩)) Y.objLocals hskip htr [] hd6
    (by simp only [List.length_cons, hlen]; omega) (by simp only [List.length_cons, hlen]; exact hRlocals)
  obtain ⟨hwalk, hrun, hended, hWU, hsame⟩ := X₂.athrowLeaves hexec (g := { g with stack := .ref a :: rest, pc := g.pc + 3 }) hg hlocked hentered hout (a := a) (rest := rest) rfl hd9
  have hlt : a < ((W.setVm vm₁).setVm vm₂).heap.size := (Array.getElem?_eq_some_iff.mp hcell).1
  have hU := heapAt_setCell_self (s := (W.setVm vm₁).setVm vm₂) (plainBareV T.toThrowableT (freshCell P1.m.cls kX) a u0 sen msg) hlt
  refine ⟨_, st1 _ (fun acts => ?_), hrun, hended, hWU, hsame.weaken (fun y hy hlt' => ?_) (Nat.le_refl _) (Nat.le_refl _), _, hU, rfl, hfound⟩
  · rw [doInvoke_state]
    exact st2 _ hwalk
  · simp only [List.nil_append, List.mem_cons, List.not_mem_nil, or_false] at hy
    exfalso
    rcases hy with rfl | rfl | rfl | rfl | rfl <;> exact Nat.not_lt.mpr hnew hlt'
end TKX
section TKY
variable {p : Program} {l : Launch} {e : Env} {R : Room} {s : State} {m : MethodId} {args : Array Value} {below : List Frame} {meth : Method} {c : Code} {H : Heap} {locs : List Loc} {cells slots : Nat} {Q : State → Prop}
variable {mc ms : Nat} {free : Addr → Prop} {A0 A1 : Nat → Prop} {H0 : Heap} {a : Array Value} {ls : Array Slot} {st0 rest : List Value}
variable {Qc : Array Value → State → Outcome → State → Prop} {XC : String → State → State → Prop}
theorem tk_throwX {cc : ByteArray} {pc : Nat} (hexec : p.tables.exec = Jvm.exec) (hb : c.code = cc) (hl : l.stackTraces = false) {own cls text : String} {Y0 : String} {r0 : List String} {i1 : Nat} {b1 : ByteArray} (q0 : decode b1 0 = .ok (.aload_n 0, 1)) (q1 : decode b1 1 = .ok (.aload_n 1, 1)) (q2 : decode b1 2 = .ok (.invokespecial i1, 3)) (q5 : decode b1 5 = .ok (.return_, 1)) {ik is ic mc ms sa : Nat} {A : Nat → Prop}
    (hown : s.vm.findClass own = some m.cls) (hcls : Bundle.fit cls = true) (hnames : ∀ n ∈ Y0 :: r0, Bundle.fit n = true)
    (hk : (Cond.classLink own ik cls).before args s = true) (hini : (Cond.initialized cls).before args s = true) (hstr : vk_R own is text sa s) (hat : ∀ w ∈ (tk_own own ic cls Y0 r0 i1 b1).filter vx_no, w.before args s = true)
    (hgood : ∀ w ∈ Cond.classLink own ik cls :: Cond.initialized cls :: (tk_own own ic cls Y0 r0 i1 b1).filter vx_no, vx_ot w = true)
    (hU : vx_Zq Bundle.tN "UNASSIGNED_STACK" Bundle.steD A s s.heap) (hN : vx_Zq Bundle.tN "SUPPRESSED_SENTINEL" Bundle.listD A s s.heap) (hS : va_S A s.heap H locs) (hsize : ls.size = c.maxLocals)
    (d0 : decode cc pc = .ok (.new ik, 3)) (d3 : decode cc (pc + 3) = .ok (.dup, 1)) (d4 : decode cc (pc + 4) = .ok (.ldc is, 2)) (d6 : decode cc (pc + 6) = .ok (.invokespecial ic, 3)) (d9 : decode cc (pc + 9) = .ok (.athrow, 1))
    (hout : ∀ x ∈ c.exceptionTable.toList, covers x (pc + 9) = false)
    (hRframes : (r0.length + 1) + 3 < R.frames) (hRlocals : (rest.map fun v => v.category).sum + (13 * ((r0.length + 1) + 1) + 43) ≤ R.locals) (hRcells : cells + 1 ≤ R.cells) (hRslots : slots + 6 ≤ R.slots) (hlocks : meth.locks = false)
    (hx : ∀ t : State, s.vm.Alike t.vm → t.heap.size = H.size + 1 → (∀ q : Nat, q < H.size → t.heap[q]? = H[q]?) → XC cls s t)
    (hf : ∀ z ∈ locs, free z.base) (hc : cells + 1 ≤ mc) (hs : slots + 6 ≤ ms) :
    W p l e R s m args below meth c H locs cells slots (vx_MQ below Qc XC args s mc ms free) (F0 m pc ls rest) := by
  intro T hT X
  have htr : e.platform.stackTraces = false := (show e.platform.stackTraces = l.stackTraces by rw [X.admits.platform]).trans hl
  have Y := vx_rebase X (R' := { frames := R.frames, locals := R.locals, cells := 1, slots := 6 }) (Nat.le_refl _) (Nat.le_refl _) hRcells hRslots
  obtain ⟨s', hA⟩ : ∃ z, z = (T.setVm s.vm).setFrames (.invoking m args :: below) := ⟨_, rfl⟩
  rw [← hA] at Y
  have hvm : s'.vm = s.vm := by rw [hA]; rfl
  have hhp : s'.heap = H := by rw [hA]; exact hT
  have hW0 : s.WarmedH s'.vm := by rw [hvm]; exact State.WarmedH.refl s
  have hat' : ∀ w ∈ (tk_own own ic cls Y0 r0 i1 b1).filter vx_no, w.before args s' = true := fun w hw => vx_ot_at hW0 hvm.symm (hgood w (List.mem_cons_of_mem _ (List.mem_cons_of_mem _ hw))) (hat w hw)
  have hk' : (Cond.classLink own ik cls).before args s' = true := vx_ot_at hW0 hvm.symm (hgood _ List.mem_cons_self) hk
  have hini' : (Cond.initialized cls).before args s' = true := vx_ot_at hW0 hvm.symm (hgood _ (List.mem_cons_of_mem _ List.mem_cons_self)) hini
  have hU' : vx_Zq Bundle.tN "UNASSIGNED_STACK" Bundle.steD A s' s'.heap := by rw [hhp]; exact vx_Zq.moved hW0.alike (hU.kept hS.2.1)
  have hN' : vx_Zq Bundle.tN "SUPPRESSED_SENTINEL" Bundle.listD A s' s'.heap := by rw [hhp]; exact vx_Zq.moved hW0.alike (hN.kept hS.2.1)
  have h : ∀ w ∈ tk_own own ic cls Y0 r0 i1 b1, w.before args s' = true := vx_own hat' (vx_isRefq hU'.1) (vx_isRefq hN'.1) hU'.2.word hN'.2.word
  have hown' : s'.vm.findClass own = some m.cls := by rw [hvm]; exact hown
  have hins : (Cond.instantiable cls 6).before args s' = true := h _ (by simp [tk_own])
  obtain ⟨vm₁, cX, kX, hfX, hkX, -, -, X₁, st1⟩ := Y.newCold hexec (own := own) (C := cls) (index := ik) (n := 6) hown' hk' hins hini'
    (g := F0 m pc ls rest) rfl (by rw [hb]; exact d0) (Nat.le_refl _) (Nat.le_refl _)
  generalize hT1 : (T.setVm vm₁).pushCell { cls := cX, slots := kX.instanceTypes.map defaultValue, vm := .none } = T1 at X₁ st1
  have hcat : (Value.ref T.heap.size).category = 1 := rfl
  have hcellA : T1.heap[T.heap.size]? = some (freshCell cX kX) := by rw [← hT1]; exact State.heap_pushCell_size _ _
  have d3' : decode c.code (pc + 3) = .ok (.dup, 1) := by rw [hb]; exact d3
  have d4' : decode c.code (pc + 4) = .ok (.ldc is, 2) := by rw [hb]; exact d4
  have hstr' : vk_R own is text sa s' := vk_R.warm hW0 hstr
  obtain ⟨U, hsteps, hrun, hend, hW, hsame, ce, hce, hO1, hO2⟩ := tk_ctorThrow X₁ hexec htr q0 q1 q2 q5 (own := own) (cls := cls) (ic := ic) hown' hcls hnames h hfX hkX hcellA (by rw [hhp, hT]; exact Nat.le_refl _) (msg := .ref sa) rfl
    (g := { method := m, pc := pc + 6, locals := ls, stack := .ref sa :: .ref T.heap.size :: .ref T.heap.size :: rest, locked := none }) rfl hsize rfl rfl (rest := rest) rfl
    (by rw [hb]; exact d6) (by rw [hb]; exact d9) hout hRframes (by simp only [List.map_cons, List.sum_cons, hcat]; omega) hlocks
  obtain ⟨f1, f2⟩ := vx_frame hsame
  rw [hhp] at f1 f2
  have hWs : s.WarmedH U.vm := State.WarmedH.trans hW0 hW
  have hcl : s.vm.findClass cls = some ce.cls := by
    have h9 := hO2
    rw [hvm] at h9
    exact h9
  have hall : s.sameButNew ({ U with vm := s.vm } : State) locs mc ms := by
    subst hA
    obtain ⟨e1, e2⟩ := hsame
    rw [State.setFrames_setFrames] at e1
    have h2 : (T.setVm s.vm).sameButNew ({ U with vm := s.vm } : State) [] (0 + 1) (0 + 6) := ⟨e1, e2⟩
    have h3 := X.same.trans h2
    rw [List.append_nil] at h3
    exact h3.mono hc hs
  refine ⟨U, ?_, .threw T.heap.size, hrun, hend, Or.inr ⟨T.heap.size, rfl, cls, ce, locs, hx U hWs.alike (by have z1 : U.heap.size ≤ s'.heap.size + 1 := hsame.2.2.1; have z2 := (Array.getElem?_eq_some_iff.mp hce).1; rw [hhp] at z1; rw [hT] at z2; omega) (fun q hq => f2 q hq (fun z hz => nomatch hz)), hce, hO1, hcl, hWs, hall, hf⟩⟩
  refine st1 _ ?_
  show Steps p.tables e below (T1.setTop { method := m, pc := pc + 3, locals := ls, stack := .ref T.heap.size :: rest, locked := none }) _
  jvm_step X₁.here [X₁.here.top, hexec, d3', Value.category]
  exact X₁.ldcString hexec (own := own) (text := text) (index := is) (a := sa) hown' hstr'.1 hstr'.2
    (g := { method := m, pc := pc + 4, locals := ls, stack := .ref T.heap.size :: .ref T.heap.size :: rest, locked := none }) rfl d4' _ hsteps
end TKY
theorem tk_atN0 : ∀ w ∈ ((tk_own RX4 112 "java/util/NoSuchElementException" "java/lang/RuntimeException" ["java/lang/Exception"] 13 ⟨#[0x2a, 0x2b, 0xb7, 0x00, 0x0d, 0xb1]⟩).filter vx_no).filter goodWord, w ∈ lw_tbl := by decide +kernel
theorem tk_atN1 : ∀ w ∈ ((tk_own RX4 112 "java/util/NoSuchElementException" "java/lang/RuntimeException" ["java/lang/Exception"] 13 ⟨#[0x2a, 0x2b, 0xb7, 0x00, 0x0d, 0xb1]⟩).filter vx_no).filter goodWord, w ∈ tk_W := fun w hw => List.mem_filter.mpr ⟨tk_atN0 w hw, (List.mem_filter.mp hw).2⟩
theorem tk_atN2 : ∀ w ∈ ((tk_own RX4 112 "java/util/NoSuchElementException" "java/lang/RuntimeException" ["java/lang/Exception"] 13 ⟨#[0x2a, 0x2b, 0xb7, 0x00, 0x0d, 0xb1]⟩).filter vx_no).filter (fun w => !goodWord w), w ∈ tk_nest := by decide +kernel
theorem tk_atN3 : ∀ w ∈ Cond.classLink RX4 108 "java/util/NoSuchElementException" :: Cond.initialized "java/util/NoSuchElementException" :: (tk_own RX4 112 "java/util/NoSuchElementException" "java/lang/RuntimeException" ["java/lang/Exception"] 13 ⟨#[0x2a, 0x2b, 0xb7, 0x00, 0x0d, 0xb1]⟩).filter vx_no, vx_ot w = true := by decide +kernel
theorem tk_atI0 : ∀ w ∈ ((tk_own RX4 62 "java/lang/IllegalArgumentException" "java/lang/RuntimeException" ["java/lang/Exception"] 7 Bundle.six).filter vx_no).filter goodWord, w ∈ lw_tbl := by decide +kernel
theorem tk_atI1 : ∀ w ∈ ((tk_own RX4 62 "java/lang/IllegalArgumentException" "java/lang/RuntimeException" ["java/lang/Exception"] 7 Bundle.six).filter vx_no).filter goodWord, w ∈ tk_W := fun w hw => List.mem_filter.mpr ⟨tk_atI0 w hw, (List.mem_filter.mp hw).2⟩
theorem tk_atI2 : ∀ w ∈ ((tk_own RX4 62 "java/lang/IllegalArgumentException" "java/lang/RuntimeException" ["java/lang/Exception"] 7 Bundle.six).filter vx_no).filter (fun w => !goodWord w), w ∈ tk_nest := by decide +kernel
theorem tk_atI3 : ∀ w ∈ Cond.classLink RX4 58 "java/lang/IllegalArgumentException" :: Cond.initialized "java/lang/IllegalArgumentException" :: (tk_own RX4 62 "java/lang/IllegalArgumentException" "java/lang/RuntimeException" ["java/lang/Exception"] 7 Bundle.six).filter vx_no, vx_ot w = true := by decide +kernel
theorem tk_use {w : Cond} {args : Array Value} {U : State} (hw : tk_okw w = true) (h : va_Nw w U) : w.before args U = true := by
  cases w <;> first | exact va_Nw.use rfl h | cases hw
section TKC
variable {p : Program} {l : Launch} {e : Env} {R : Room} {s : State} {m : MethodId} {args : Array Value} {below : List Frame} {meth : Method} {c : Code} {H : Heap} {locs : List Loc} {cells slots : Nat} {Q : State → Prop}
variable {cc : ByteArray} {pc nL : Nat} {ls : Array Slot} {lv : List (Nat × Value)} {rest st0 : List Value} {a : Nat} {G : tk_AG} {h h' : tk_AH} {sz sz' : Nat} {mc ms : Nat} {av : Array Value} {Qc : Array Value → State → Outcome → State → Prop}
theorem tk_throwNSE {is : Nat} {text : String} (hexec : p.tables.exec = Jvm.exec) (hb : c.code = cc) (hml : c.maxLocals = nL) (hl0 : l.stackTraces = false) (hown : s.vm.findClass RX4 = some m.cls) (ht : ∀ w ∈ tk_W, w.before args s = true) (hE : tk_ev G s) (hs : tk_sw G s h sz H locs) (hl : lv_has ls nL lv) (hstr : ("TongueSwap", is, text) ∈ tk_strs)
    (d0 : decode cc pc = .ok (.new 108, 3)) (d3 : decode cc (pc + 3) = .ok (.dup, 1)) (d4 : decode cc (pc + 4) = .ok (.ldc is, 2)) (d6 : decode cc (pc + 6) = .ok (.invokespecial 112, 3)) (d9 : decode cc (pc + 9) = .ok (.athrow, 1)) (hout : ∀ x ∈ c.exceptionTable.toList, False)
    (hRframes : 2 + 3 < R.frames) (hRlocals : (rest.map fun v => v.category).sum + (13 * (2 + 1) + 43) ≤ R.locals) (hRcells : cells + 1 ≤ R.cells) (hRslots : slots + 6 ≤ R.slots) (hc : cells + 1 ≤ mc) (hsl : slots + 6 ≤ ms) (hlocks : meth.locks = false) :
    W p l e R s m args below meth c H locs cells slots (vx_MQ below Qc (tk_xx G (.inr "java/util/NoSuchElementException") h (sz + 1)) args s mc ms (tk_ag G)) (F0 m pc ls rest) := by
  obtain ⟨sa, hsa⟩ := hE.2.2.2.1 _ hstr
  refine tk_throwX (own := RX4) (cls := "java/util/NoSuchElementException") (Y0 := "java/lang/RuntimeException") (r0 := ["java/lang/Exception"]) (i1 := 13) (b1 := ⟨#[0x2a, 0x2b, 0xb7, 0x00, 0x0d, 0xb1]⟩) (A := tk_ag G) hexec hb hl0 (by decide +kernel) (by decide +kernel) (by decide +kernel) (by decide +kernel) hown (by decide +kernel) (by decide +kernel) (ht _ wlX4_108) (ht _ wnNSE) hsa (vx_hat (fun w hw => ht w (tk_atN1 w hw)) tk_atN2 (fun w hw => tk_use (tk_nest_ok w hw) (hE.2.2.1 w hw))) tk_atN3 hE.2.1.1 hE.2.1.2 hs.2.2.2 (hl.1.trans hml.symm) d0 d3 d4 d6 d9 (fun x hx => (hout x hx).elim) hRframes hRlocals hRcells hRslots hlocks (fun t htv hz hq => ?_) (fun z hz => hs.2.2.2.2.2 z hz) hc hsl
  obtain ⟨h1, h2, h3, h4⟩ := hs
  refine ⟨rfl, fun b eb hbb => ?_, by rw [hz, h2], ?_, fun q q1 q2 => ?_⟩
  · obtain ⟨g1, g2⟩ := h1 b eb hbb
    exact ⟨g1, tk_ra_kept g2 (hq b (tk_ra_lt g2))⟩
  · have := h4.1
    omega
  · have := h4.1
    rw [hq q (by omega)]
    exact h4.2.1 q q1 q2
theorem tk_throwIAE {is : Nat} {text : String} (hexec : p.tables.exec = Jvm.exec) (hb : c.code = cc) (hml : c.maxLocals = nL) (hl0 : l.stackTraces = false) (hown : s.vm.findClass RX4 = some m.cls) (ht : ∀ w ∈ tk_W, w.before args s = true) (hE : tk_ev G s) (hs : tk_sw G s h sz H locs) (hl : lv_has ls nL lv) (hstr : ("TongueSwap", is, text) ∈ tk_strs)
    (d0 : decode cc pc = .ok (.new 58, 3)) (d3 : decode cc (pc + 3) = .ok (.dup, 1)) (d4 : decode cc (pc + 4) = .ok (.ldc is, 2)) (d6 : decode cc (pc + 6) = .ok (.invokespecial 62, 3)) (d9 : decode cc (pc + 9) = .ok (.athrow, 1)) (hout : ∀ x ∈ c.exceptionTable.toList, False)
    (hRframes : 2 + 3 < R.frames) (hRlocals : (rest.map fun v => v.category).sum + (13 * (2 + 1) + 43) ≤ R.locals) (hRcells : cells + 1 ≤ R.cells) (hRslots : slots + 6 ≤ R.slots) (hc : cells + 1 ≤ mc) (hsl : slots + 6 ≤ ms) (hlocks : meth.locks = false) :
    W p l e R s m args below meth c H locs cells slots (vx_MQ below Qc (tk_xx G (.inr "java/lang/IllegalArgumentException") h (sz + 1)) args s mc ms (tk_ag G)) (F0 m pc ls rest) := by
  obtain ⟨sa, hsa⟩ := hE.2.2.2.1 _ hstr
  refine tk_throwX (own := RX4) (cls := "java/lang/IllegalArgumentException") (Y0 := "java/lang/RuntimeException") (r0 := ["java/lang/Exception"]) (i1 := 7) (b1 := Bundle.six) (A := tk_ag G) hexec hb hl0 (by decide +kernel) (by decide +kernel) (by decide +kernel) (by decide +kernel) hown (by decide +kernel) (by decide +kernel) (ht _ wlX4_58) (ht _ wnIAE) hsa (vx_hat (fun w hw => ht w (tk_atI1 w hw)) tk_atI2 (fun w hw => tk_use (tk_nest_ok w hw) (hE.2.2.1 w hw))) tk_atI3 hE.2.1.1 hE.2.1.2 hs.2.2.2 (hl.1.trans hml.symm) d0 d3 d4 d6 d9 (fun x hx => (hout x hx).elim) hRframes hRlocals hRcells hRslots hlocks (fun t htv hz hq => ?_) (fun z hz => hs.2.2.2.2.2 z hz) hc hsl
  obtain ⟨h1, h2, h3, h4⟩ := hs
  refine ⟨rfl, fun b eb hbb => ?_, by rw [hz, h2], ?_, fun q q1 q2 => ?_⟩
  · obtain ⟨g1, g2⟩ := h1 b eb hbb
    exact ⟨g1, tk_ra_kept g2 (hq b (tk_ra_lt g2))⟩
  · have := h4.1
    omega
  · have := h4.1
    rw [hq q (by omega)]
    exact h4.2.1 q q1 q2
end TKC
