/-- words of the tables that aren't carried by a method's own list -/
def tk_nest : List Cond := [(Cond.fieldLinkNest "TongueSwap" (269 : Nat) "TongueSwap$Planner" "members" "[I" "TongueSwap"),
  (Cond.fieldLinkNest "TongueSwap" (275 : Nat) "TongueSwap$Planner" "seconds" "[I" "TongueSwap"),
  (Cond.fieldLinkNest "TongueSwap" (278 : Nat) "TongueSwap$Planner" "thirds" "[I" "TongueSwap"),
  (Cond.fieldLinkNest "TongueSwap" (235 : Nat) "TongueSwap$Tape" "marksMade" "[I" "TongueSwap"),
  (Cond.fieldLinkNest "TongueSwap" (240 : Nat) "TongueSwap$Tape" "kindCounts" "[I" "TongueSwap"),
  (Cond.fieldLinkNest "TongueSwap" (220 : Nat) "TongueSwap$Tape" "length" "I" "TongueSwap"),
  (Cond.fieldLinkNest "TongueSwap" (230 : Nat) "TongueSwap$Tape" "markCount" "I" "TongueSwap"),
  (Cond.fieldLinkNest "TongueSwap" (65 : Nat) "TongueSwap$Learner" "claims" "[I" "TongueSwap"),
  (Cond.fieldLinkNest "TongueSwap" (93 : Nat) "TongueSwap$Learner" "lows" "[I" "TongueSwap"),
  (Cond.fieldLinkNest "TongueSwap" (96 : Nat) "TongueSwap$Learner" "highs" "[I" "TongueSwap"),
  (Cond.fieldLinkNest "TongueSwap" (99 : Nat) "TongueSwap$Learner" "soundTests" "[I" "TongueSwap"),
  (Cond.fieldLinkNest "TongueSwap" (102 : Nat) "TongueSwap$Learner" "oddTests" "[I" "TongueSwap"),
  (Cond.fieldLinkNest "TongueSwap" (202 : Nat) "TongueSwap$Learner" "boxes" "[I" "TongueSwap"),
  (Cond.fieldLinkNest "TongueSwap" (205 : Nat) "TongueSwap$Learner" "dueDays" "[I" "TongueSwap"),
  (Cond.fieldLinkNest "TongueSwap" (52 : Nat) "TongueSwap$Learner" "hours" "I" "TongueSwap"),
  (Cond.fieldLinkNest "TongueSwap" (72 : Nat) "TongueSwap$Learner" "wantCount" "I" "TongueSwap"),
  (Cond.fieldLinkNest "TongueSwap" (251 : Nat) "TongueSwap$Learner" "wordCount" "I" "TongueSwap"),
  (Cond.fieldLinkNest "TongueSwap" (139 : Nat) "TongueSwap$Learner" "waited" "I" "TongueSwap"),
  (Cond.fieldLinkNest "TongueSwap" (179 : Nat) "TongueSwap$Learner" "company" "I" "TongueSwap"),
  (Cond.fieldLinkNest "TongueSwap" (182 : Nat) "TongueSwap$Learner" "wasAway" "Z" "TongueSwap"),
  (Cond.methodLinkNest "TongueSwap" (17 : Nat) ({ cls := "TongueSwap$Ties", name := "<init>", desc := "()V" } : Jvm.MethodName) "TongueSwap"),
  (Cond.methodLinkNest "TongueSwap" (24 : Nat) ({ cls := "TongueSwap$Planner", name := "<init>", desc := "()V" } : Jvm.MethodName) "TongueSwap"),
  (Cond.methodLinkNest "TongueSwap" (31 : Nat) ({ cls := "TongueSwap$Tape", name := "<init>", desc := "()V" } : Jvm.MethodName) "TongueSwap"),
  (Cond.methodLinkNest "TongueSwap$Ties" (33 : Nat) ({ cls := "TongueSwap", name := "lowestBit", desc := "(I)I" } : Jvm.MethodName) "TongueSwap"),
  (Cond.declares ({ cls := "java/lang/RuntimeException", name := "<init>", desc := "()V" } : Jvm.MethodName)),
  (Cond.declares ({ cls := "java/lang/RuntimeException", name := "<init>", desc := "(Ljava/lang/String;)V" } : Jvm.MethodName)),
  (Cond.declares ({ cls := "java/lang/Exception", name := "<init>", desc := "()V" } : Jvm.MethodName)),
  (Cond.declares ({ cls := "java/lang/Exception", name := "<init>", desc := "(Ljava/lang/String;)V" } : Jvm.MethodName)),
  (Cond.declares ({ cls := "java/lang/Throwable", name := "<init>", desc := "()V" } : Jvm.MethodName)),
  (Cond.declares ({ cls := "java/lang/Throwable", name := "<init>", desc := "(Ljava/lang/String;)V" } : Jvm.MethodName)),
  (Cond.castable "java/util/NoSuchElementException" "java/util/NoSuchElementException"),
  (Cond.castable "java/lang/IllegalArgumentException" "java/lang/IllegalArgumentException"),
  (Cond.castable "TongueSwap" "java/lang/Object"),
  (Cond.castable "TongueSwap$Ties" "java/lang/Object"),
  (Cond.castable "TongueSwap$Planner" "java/lang/Object"),
  (Cond.castable "TongueSwap$Tape" "java/lang/Object"),
  (Cond.castable "TongueSwapModel" "java/lang/Object"),
  (Cond.castable "TongueSwap$Learner" "java/lang/Object"),
  (Cond.castable "java/util/NoSuchElementException" "java/lang/Object"),
  (Cond.castable "java/lang/IllegalArgumentException" "java/lang/Object"),
  (Cond.castable "java/lang/Throwable" "java/lang/Object"),
  (Cond.castable "java/lang/String" "java/lang/Object")]
/-- the texts that are thrown -/
def tk_strs : List (String × Nat × String) := [("TongueSwap", 245, "no such learner"), ("TongueSwap", 249, "no such tongue"), ("TongueSwap", 60, "a claim is 0 to 10"), ("TongueSwap", 247, "both are one"), ("TongueSwap", 87, "a grade is 1 to 10"), ("TongueSwap", 110, "a level has no such part"), ("TongueSwap", 124, "a ring has no such hour"), ("TongueSwap", 175, "no such ring"), ("TongueSwap", 177, "a ring has no such part"), ("TongueSwap", 189, "days are 0 to 1000"), ("TongueSwap", 254, "no such word"), ("TongueSwap", 208, "a word has no such part"), ("TongueSwap", 223, "a row has 0 to 40 bytes"), ("TongueSwap", 225, "the tape has not so many bytes"), ("TongueSwap", 233, "no such mark"), ("TongueSwap", 238, "no such kind of mark"), ("TongueSwap", 243, "no such count")]
def tk_stats : List (String × List Int32) := [("COSTS", [0, 3, 2, 2, 2]), ("SAID_STEPS", [1, 1, 1, 0, 2]), ("MEANT_STEPS", [1, 1, 0, 1, 2])]
def tk_okw : Cond → Bool
  | .fieldLinkNest .. => true
  | .methodLinkNest .. => true
  | .declares _ => true
  | .castable .. => true
  | _ => false
theorem tk_nest_ok : ∀ w ∈ tk_nest, tk_okw w = true := by decide +kernel
theorem tk_warm {w : Cond} {s U : State} (hw : tk_okw w = true) (hW : s.WarmedH U.vm) (h : va_Nw w s) : va_Nw w U := by
  cases w <;> first | exact va_Nw.warmF hW h | exact va_Nw.warmM hW h | exact va_Nw.warmD hW h | exact va_Nw.warmC hW h | cases hw
def tk_tys (G : tk_AG) : List (ClassId × FieldType) := [(G.2.2 0, .int), (G.2.2 1, .boolean), (G.2.2 2, .long), (G.2.2 3, .object "TongueSwap$Learner")]
/-- what every method may take as given of the state at its entry -/
def tk_ev (G : tk_AG) (U : State) : Prop :=
  va_K G.2.1 vwCl (tk_tys G) U ∧
  (vx_Zq Bundle.tN "UNASSIGNED_STACK" Bundle.steD (tk_ag G) U U.heap ∧ vx_Zq Bundle.tN "SUPPRESSED_SENTINEL" Bundle.listD (tk_ag G) U U.heap) ∧
  (∀ w ∈ tk_nest, va_Nw w U) ∧
  (∀ x ∈ tk_strs, ∃ sa, vk_R x.1 x.2.1 x.2.2 sa U) ∧
  (∀ x ∈ tk_stats, ∃ t, va_Z "TongueSwap$Tape" x.1 "[I" (.ref t) (tk_ag G) U U.heap ∧ va_T .int t 5 (fun j => .int (x.2.getD j 0)) (tk_ag G) U U.heap) ∧
  va_AO "TongueSwap$Learner" U ∧
  (va_Nc "java/lang/IllegalArgumentException" "java/util/NoSuchElementException" U ∧ va_Nc "java/util/NoSuchElementException" "java/lang/IllegalArgumentException" U)
theorem tk_ev_to {G : tk_AG} {s : State} {H : Heap} {locs : List Loc} (hE : tk_ev G s) (hS : va_S (tk_ag G) s.heap H locs) {U : State} (hU : U.heap = H) (hW : s.WarmedH U.vm) : tk_ev G U := by
  obtain ⟨h1, ⟨h2, h3⟩, h4, h5, h6, h7, h8, h9⟩ := hE
  refine ⟨va_K.moved hW.alike h1, ⟨?_, ?_⟩, fun w hw => tk_warm (tk_nest_ok w hw) hW (h4 w hw), fun x hx => ?_, fun x hx => ?_, va_AO.moved hW.alike h7, va_Nc.moved hW.alike h8, va_Nc.moved hW.alike h9⟩
  · rw [hU]; exact vx_Zq.moved hW.alike (h2.kept hS.2.1)
  · rw [hU]; exact vx_Zq.moved hW.alike (h3.kept hS.2.1)
  · obtain ⟨sa, h⟩ := h5 x hx
    exact ⟨sa, vk_R.warm hW h⟩
  · obtain ⟨t, g1, g2⟩ := h6 x hx
    refine ⟨t, ?_, ?_⟩
    · rw [hU]; exact va_Z.moved hW.alike (g1.kept hS.2.1)
    · rw [hU]; exact va_T.moved hW.alike (g2.kept hS.2.1)
/-! CONTRACTS: a method's start, its end -/
def tk_pc (G : tk_AG) (av : List Value) (h : tk_AH) (sz : Nat) : Array Value → State → Prop := fun v U => v = av.toArray ∧ tk_ev G U ∧ tk_rp G h U.heap ∧ U.heap.size = sz ∧ G.1 ≤ sz
def tk_qc (G : tk_AG) (v : Option Value) (h : tk_AH) (sz : Nat) : Array Value → State → Outcome → State → Prop := fun _ st oc t => oc = .returned v ∧ tk_rp G h t.heap ∧ t.heap.size = sz ∧ va_F (tk_ag G) st t
def tk_qx (G : tk_AG) (o : Option Value ⊕ String) (h : tk_AH) (sz : Nat) : Array Value → State → Outcome → State → Prop := fun _ st oc t => (∃ v, o = .inl v ∧ oc = .returned v) ∧ tk_rp G h t.heap ∧ t.heap.size = sz ∧ va_F (tk_ag G) st t
def tk_xx (G : tk_AG) (o : Option Value ⊕ String) (h : tk_AH) (sz : Nat) : String → State → State → Prop := fun E st t => o = .inr E ∧ tk_rp G h t.heap ∧ t.heap.size = sz ∧ va_F (tk_ag G) st t
theorem tk_blind {G : tk_AG} {av : List Value} {h : tk_AH} {sz : Nat} : FrameBlind (tk_pc G av h sz) := by
  intro a U g mk hq
  obtain ⟨h1, h2, h3, h4, h5⟩ := hq
  exact ⟨h1, tk_ev_to h2 va_S.rf (U := U.calling g mk a) rfl (State.WarmedH.refl U), h3, h4, h5⟩
theorem tk_preS {G : tk_AG} {s : State} {h : tk_AH} {sz : Nat} {H : Heap} {locs : List Loc} {As : List Value} (hE : tk_ev G s) (hs : tk_sw G s h sz H locs) : PreS s H (tk_pc G As h sz) As := by
  obtain ⟨h1, h2, h3, h4⟩ := hs
  refine ⟨tk_blind, fun U hU hW => ⟨rfl, tk_ev_to hE h4 hU hW, by rw [hU]; exact h1, by rw [hU]; exact h2, ?_⟩⟩
  have := h4.1
  omega
theorem tk_preV {G : tk_AG} {s : State} {h : tk_AH} {sz : Nat} {H : Heap} {locs : List Loc} {As : List Value} {b ci : Nat} {q : vw_C} (hE : tk_ev G s) (hs : tk_sw G s h sz H locs) (ho : tk_ob h ci b = true) (hc : vwCl[ci]? = some q) : PreV s H q.1 b (tk_pc G (.ref b :: As) h sz) As := by
  obtain ⟨g1, g2⟩ := tk_preS (As := .ref b :: As) hE hs
  obtain ⟨fs, hf⟩ := tk_ob_ok ho
  have hP := (hs.1 b _ hf).2
  refine ⟨g1, ?_, g2⟩
  exact va_recv (ws := [(b, .inr (ci, fs))]) (q0 := 0) hE.1 (fun k x hx => by
    match k, hx with
    | 0, hx => cases hx; exact hP) hc rfl
section TKA
variable {p : Program} {l : Launch} {e : Env} {R : Room} {s : State} {m : MethodId} {args : Array Value} {below : List Frame} {meth : Method} {c : Code} {H : Heap} {locs : List Loc} {cells slots : Nat} {Q : State → Prop}
variable {cc : ByteArray} {pc : Nat} {ls : Array Slot} {rest st0 : List Value} {a : Nat} {G : tk_AG} {h h' : tk_AH} {sz sz' : Nat} {mc ms : Nat} {av : Array Value}
theorem tk_keep {st₀ t T' : State} {L : List Loc} (h0 : st₀.heap = H) (e1 : T'.heap = t.heap) (hs : tk_sw G s h sz H locs) (hL : ∀ q ∈ L, tk_ag G q.base) (hF : va_F (tk_ag G) st₀ t) (hp : tk_rp G h' t.heap) (hz : t.heap.size = sz') : tk_sw G s h' sz' T'.heap (locs ++ L) := by
  obtain ⟨h1, h2, h3, h4⟩ := hs
  obtain ⟨k1, k2, k3⟩ := vx_keep h0 e1 h4 (fun q _ h => h) (fun q h => h) hL hF
  exact ⟨by rw [e1]; exact hp, by rw [e1]; exact hz, h3, k3⟩
/-- behind a call that came back -/
theorem tk_call {v : Option Value} (hs : tk_sw G s h sz H locs) (hr : va_Run p l e R s m args below meth c H locs cells slots mc ms (F0 m pc ls st0) rest (tk_qc G v h' sz' av) (tk_ag G))
    (kk : ∀ (H1 : Heap) (locs1 : List Loc), tk_sw G s h' sz' H1 locs1 → W p l e R s m args below meth c H1 locs1 (cells + mc) (slots + ms) Q (F0 m (pc + 3) ls (v.toList ++ rest))) : W p l e R s m args below meth c H locs cells slots Q (F0 m pc ls st0) := by
  intro T hT X
  obtain ⟨v', st₀, t, T', L, h0, X', hL, e1, e2, ⟨hv, hp, hz, hF⟩, st⟩ := hr T hT X
  cases hv
  obtain ⟨t2, a1, b1⟩ := kk T'.heap (locs ++ L) (tk_keep h0 e1 hs hL hF hp hz) T' rfl X'
  exact ⟨t2, st t2 a1, b1⟩
theorem tk_xret {v : Option Value} (hs : tk_sw G s h sz H locs) (hr : vx_Run p l e R s m args below meth c H locs cells slots mc ms (F0 m pc ls st0) rest (tk_qx G (.inl v) h' sz' av) (tk_xx G (.inl v) h' sz') (tk_ag G))
    (kk : ∀ (H1 : Heap) (locs1 : List Loc), tk_sw G s h' sz' H1 locs1 → W p l e R s m args below meth c H1 locs1 (cells + mc) (slots + ms) Q (F0 m (pc + 3) ls (v.toList ++ rest))) : W p l e R s m args below meth c H locs cells slots Q (F0 m pc ls st0) := by
  intro T hT X
  rcases hr T hT X with ⟨v', st₀, t, T', L, h0, X', hL, e1, e2, ⟨⟨v2, hv, hv2⟩, hp, hz, hF⟩, st⟩ | ⟨q, st₀, t, T', L, E, ce, h0, X', hL, e1, e2, ⟨hv, hp, hz, hF⟩, hce, hcv, hcl, st⟩
  · cases hv
    cases hv2
    obtain ⟨t2, a1, b1⟩ := kk T'.heap (locs ++ L) (tk_keep h0 e1 hs hL hF hp hz) T' rfl X'
    exact ⟨t2, st t2 a1, b1⟩
  · cases hv
theorem tk_xthr {E : String} (hs : tk_sw G s h sz H locs) (hr : vx_Run p l e R s m args below meth c H locs cells slots mc ms (F0 m pc ls st0) rest (tk_qx G (.inr E) h' sz' av) (tk_xx G (.inr E) h' sz') (tk_ag G))
    (kk : ∀ (H1 : Heap) (locs1 : List Loc) (ce : Cell) (q9 : Addr), tk_sw G s h' sz' H1 locs1 → H1[q9]? = some ce → ce.vm = .none → s.vm.findClass E = some ce.cls → vx_W p l e R s m args below meth c H1 locs1 (cells + mc) (slots + ms) Q (F0 m pc ls rest) q9) : W p l e R s m args below meth c H locs cells slots Q (F0 m pc ls st0) := by
  intro T hT X
  rcases hr T hT X with ⟨v', st₀, t, T', L, h0, X', hL, e1, e2, ⟨⟨v2, hv, hv2⟩, hp, hz, hF⟩, st⟩ | ⟨q, st₀, t, T', L, E', ce, h0, X', hL, e1, e2, ⟨hv, hp, hz, hF⟩, hce, hcv, hcl, st⟩
  · cases hv
  · cases hv
    obtain ⟨t2, a1, b1⟩ := kk T'.heap (locs ++ L) ce q (tk_keep h0 e1 hs hL hF hp hz) (by rw [e1]; exact hce) hcv hcl T' rfl X'
    exact ⟨t2, st.trans a1, b1⟩
/-! ENDS -/
theorem tk_iret {v : Int32} (hexec : p.tables.exec = Jvm.exec) (hb : c.code = cc) (hr : meth.sig.returnType = some .int) (hlocks : meth.locks = false) (hs : tk_sw G s h sz H locs) (hdg : decode cc pc = .ok (.ireturn, 1)) : W p l e R s m args below meth c H locs cells slots (MQ below (tk_qc G (some (.int v)) h sz) args s cells slots (tk_ag G)) (F0 m pc ls [.int v]) :=
  W.iret hexec hb hr (fun t ht _ => ⟨rfl, by rw [ht]; exact hs.1, by rw [ht]; exact hs.2.1, hs.2.2.2.F ht⟩) (fun q hq => hs.2.2.2.2.2 q hq) hdg hlocks
theorem tk_zb {v : Int32} (h : v = 0 ∨ v = 1) : narrow .boolean (.int v) = .int v := by rcases h with rfl | rfl <;> decide
theorem tk_zret {v : Int32} (hexec : p.tables.exec = Jvm.exec) (hb : c.code = cc) (hr : meth.sig.returnType = some .boolean) (hlocks : meth.locks = false) (hv : v = 0 ∨ v = 1) (hs : tk_sw G s h sz H locs) (hdg : decode cc pc = .ok (.ireturn, 1)) : W p l e R s m args below meth c H locs cells slots (MQ below (tk_qc G (some (.int v)) h sz) args s cells slots (tk_ag G)) (F0 m pc ls [.int v]) :=
  W.zret hexec hb hr (tk_zb hv) (fun t ht _ => ⟨rfl, by rw [ht]; exact hs.1, by rw [ht]; exact hs.2.1, hs.2.2.2.F ht⟩) (fun q hq => hs.2.2.2.2.2 q hq) hdg hlocks
theorem tk_vret (hexec : p.tables.exec = Jvm.exec) (hb : c.code = cc) (hr : meth.sig.returnType = none) (hlocks : meth.locks = false) (hs : tk_sw G s h sz H locs) (hdg : decode cc pc = .ok (.return_, 1)) : W p l e R s m args below meth c H locs cells slots (MQ below (tk_qc G none h sz) args s cells slots (tk_ag G)) (F0 m pc ls []) :=
  W.vret hexec hb hr (fun t ht _ => ⟨rfl, by rw [ht]; exact hs.1, by rw [ht]; exact hs.2.1, hs.2.2.2.F ht⟩) (fun q hq => hs.2.2.2.2.2 q hq) hdg hlocks
theorem tk_xiret {v : Int32} {XC : String → State → State → Prop} (hexec : p.tables.exec = Jvm.exec) (hb : c.code = cc) (hr : meth.sig.returnType = some .int) (hlocks : meth.locks = false) (hs : tk_sw G s h sz H locs) (hdg : decode cc pc = .ok (.ireturn, 1)) : W p l e R s m args below meth c H locs cells slots (vx_MQ below (tk_qx G (.inl (some (.int v))) h sz) XC args s cells slots (tk_ag G)) (F0 m pc ls [.int v]) :=
  vx_ret (W.iret hexec hb hr (fun t ht _ => ⟨⟨_, rfl, rfl⟩, by rw [ht]; exact hs.1, by rw [ht]; exact hs.2.1, hs.2.2.2.F ht⟩) (fun q hq => hs.2.2.2.2.2 q hq) hdg hlocks)
theorem tk_xzret {v : Int32} {XC : String → State → State → Prop} (hexec : p.tables.exec = Jvm.exec) (hb : c.code = cc) (hr : meth.sig.returnType = some .boolean) (hlocks : meth.locks = false) (hv : v = 0 ∨ v = 1) (hs : tk_sw G s h sz H locs) (hdg : decode cc pc = .ok (.ireturn, 1)) : W p l e R s m args below meth c H locs cells slots (vx_MQ below (tk_qx G (.inl (some (.int v))) h sz) XC args s cells slots (tk_ag G)) (F0 m pc ls [.int v]) :=
  vx_ret (W.zret hexec hb hr (tk_zb hv) (fun t ht _ => ⟨⟨_, rfl, rfl⟩, by rw [ht]; exact hs.1, by rw [ht]; exact hs.2.1, hs.2.2.2.F ht⟩) (fun q hq => hs.2.2.2.2.2 q hq) hdg hlocks)
theorem tk_xvret {XC : String → State → State → Prop} (hexec : p.tables.exec = Jvm.exec) (hb : c.code = cc) (hr : meth.sig.returnType = none) (hlocks : meth.locks = false) (hs : tk_sw G s h sz H locs) (hdg : decode cc pc = .ok (.return_, 1)) : W p l e R s m args below meth c H locs cells slots (vx_MQ below (tk_qx G (.inl none) h sz) XC args s cells slots (tk_ag G)) (F0 m pc ls []) :=
  vx_ret (W.vret hexec hb hr (fun t ht _ => ⟨⟨_, rfl, rfl⟩, by rw [ht]; exact hs.1, by rw [ht]; exact hs.2.1, hs.2.2.2.F ht⟩) (fun q hq => hs.2.2.2.2.2 q hq) hdg hlocks)
theorem tk_xaret {v : Nat} {nm : String} {XC : String → State → State → Prop} (hexec : p.tables.exec = Jvm.exec) (hb : c.code = cc) (hr : meth.sig.returnType = some (.object nm)) (hlocks : meth.locks = false) (hs : tk_sw G s h sz H locs) (hdg : decode cc pc = .ok (.areturn, 1)) : W p l e R s m args below meth c H locs cells slots (vx_MQ below (tk_qx G (.inl (some (.ref v))) h sz) XC args s cells slots (tk_ag G)) (F0 m pc ls [.ref v]) :=
  vx_ret (W.aret hexec hb hr (Or.inl ⟨_, rfl⟩) (Or.inr ⟨_, rfl⟩) (fun t ht _ => ⟨⟨_, rfl, rfl⟩, by rw [ht]; exact hs.1, by rw [ht]; exact hs.2.1, hs.2.2.2.F ht⟩) (fun q hq => hs.2.2.2.2.2 q hq) hdg hlocks)
/-- an exception goes through -/
theorem tk_xout {E : String} {ce : Cell} {q : Addr} {Qc : Array Value → State → Outcome → State → Prop} (hout : ∀ x ∈ c.exceptionTable.toList, False) (hlocks : meth.locks = false) (hs : tk_sw G s h sz H locs) (hcell : H[q]? = some ce) (hv : ce.vm = .none) (hcl : s.vm.findClass E = some ce.cls) (hc : cells ≤ mc) (hsl : slots ≤ ms) :
    vx_W p l e R s m args below meth c H locs cells slots (vx_MQ below Qc (tk_xx G (.inr E) h sz) args s mc ms (tk_ag G)) (F0 m pc ls rest) q :=
  vx_out (fun x hx => (hout x hx).elim) hlocks hcell hv hcl (fun t ht _ => ⟨rfl, by rw [ht]; exact hs.1, by rw [ht]; exact hs.2.1, hs.2.2.2.F ht⟩) (fun z hz => hs.2.2.2.2.2 z hz) hc hsl
/-! MEMORY -/
variable {own C : String} {T : u_T} {N ci index : Nat} {Ts : List Cond}
theorem tk_P1 {D : va_G} {q : Nat × va_E} (h : va_at D vwCl q H) : va_P D vwCl [q] H := fun k x hx => by
  match k, hx with
  | 0, hx => cases hx; exact h
theorem tk_atO {o : Nat × List Value} (h : tk_ra G a (.inl o) H) : va_at G.2.1 vwCl (a, .inr o) H := h
theorem tk_getI (hexec : p.tables.exec = Jvm.exec) (hb : c.code = cc) (hts : ∀ w ∈ Ts, w.before args s = true) (hin : ∀ w ∈ u_ws C T N, w ∈ Ts) (hown : s.vm.findClass own = some m.cls) (hE : tk_ev G s) (hs : tk_sw G s h sz H locs) (hc : vwCl[ci]? = some (C, T, N)) (k : Nat) (hk : k < N) (hlink : (Cond.fieldLink own index (T k).1 (T k).2.1 (T k).2.2.1).before args s = true) {v : Int32} (hv : tk_gI h ci k a = some v) (hdg : decode cc pc = .ok (.getfield index, 3))
    (kk : W p l e R s m args below meth c H locs cells slots Q (F0 m (pc + 3) ls (.int v :: rest))) : W p l e R s m args below meth c H locs cells slots Q (F0 m pc ls (.ref a :: rest)) := by
  obtain ⟨fs, h1, h2⟩ := tk_gI_ok hv
  exact va_get hexec hb hts hin hown hE.1 (tk_P1 (tk_atO (hs.1 a _ h1).2)) 0 rfl hc k hk hlink (fun _ h => h) h2 hdg kk
theorem tk_getL (hexec : p.tables.exec = Jvm.exec) (hb : c.code = cc) (hts : ∀ w ∈ Ts, w.before args s = true) (hin : ∀ w ∈ u_ws C T N, w ∈ Ts) (hown : s.vm.findClass own = some m.cls) (hE : tk_ev G s) (hs : tk_sw G s h sz H locs) (hc : vwCl[ci]? = some (C, T, N)) (k : Nat) (hk : k < N) (hlink : (Cond.fieldLink own index (T k).1 (T k).2.1 (T k).2.2.1).before args s = true) {v : Int64} (hv : tk_gL h ci k a = some v) (hdg : decode cc pc = .ok (.getfield index, 3))
    (kk : W p l e R s m args below meth c H locs cells slots Q (F0 m (pc + 3) ls (.long v :: rest))) : W p l e R s m args below meth c H locs cells slots Q (F0 m pc ls (.ref a :: rest)) := by
  obtain ⟨fs, h1, h2⟩ := tk_gL_ok hv
  exact va_get hexec hb hts hin hown hE.1 (tk_P1 (tk_atO (hs.1 a _ h1).2)) 0 rfl hc k hk hlink (fun _ h => h) h2 hdg kk
theorem tk_getR (hexec : p.tables.exec = Jvm.exec) (hb : c.code = cc) (hts : ∀ w ∈ Ts, w.before args s = true) (hin : ∀ w ∈ u_ws C T N, w ∈ Ts) (hown : s.vm.findClass own = some m.cls) (hE : tk_ev G s) (hs : tk_sw G s h sz H locs) (hc : vwCl[ci]? = some (C, T, N)) (k : Nat) (hk : k < N) (hlink : (Cond.fieldLink own index (T k).1 (T k).2.1 (T k).2.2.1).before args s = true) {v : Nat} (hv : tk_gR h ci k a = some v) (hdg : decode cc pc = .ok (.getfield index, 3))
    (kk : W p l e R s m args below meth c H locs cells slots Q (F0 m (pc + 3) ls (.ref v :: rest))) : W p l e R s m args below meth c H locs cells slots Q (F0 m pc ls (.ref a :: rest)) := by
  obtain ⟨fs, h1, h2⟩ := tk_gR_ok hv
  exact va_get hexec hb hts hin hown hE.1 (tk_P1 (tk_atO (hs.1 a _ h1).2)) 0 rfl hc k hk hlink (fun _ h => h) h2 hdg kk
/-- a nest mate's field -/
theorem tk_getNI {host : String} (hexec : p.tables.exec = Jvm.exec) (hb : c.code = cc) (hts : ∀ w ∈ Ts, w.before args s = true) (hin : ∀ w ∈ u_ws C T N, w ∈ Ts) (hown : s.vm.findClass own = some m.cls) (hE : tk_ev G s) (hs : tk_sw G s h sz H locs) (hc : vwCl[ci]? = some (C, T, N)) (k : Nat) (hk : k < N) (hlink : Cond.fieldLinkNest own index (T k).1 (T k).2.1 (T k).2.2.1 host ∈ tk_nest) {v : Int32} (hv : tk_gI h ci k a = some v) (hdg : decode cc pc = .ok (.getfield index, 3))
    (kk : W p l e R s m args below meth c H locs cells slots Q (F0 m (pc + 3) ls (.int v :: rest))) : W p l e R s m args below meth c H locs cells slots Q (F0 m pc ls (.ref a :: rest)) := by
  obtain ⟨fs, h1, h2⟩ := tk_gI_ok hv
  exact va_getN hexec hb hts hin hown hE.1 (tk_P1 (tk_atO (hs.1 a _ h1).2)) 0 rfl hc k hk (va_Nw.use rfl (hE.2.2.1 _ hlink)) (fun _ h => h) h2 hdg kk
theorem tk_getNR {host : String} (hexec : p.tables.exec = Jvm.exec) (hb : c.code = cc) (hts : ∀ w ∈ Ts, w.before args s = true) (hin : ∀ w ∈ u_ws C T N, w ∈ Ts) (hown : s.vm.findClass own = some m.cls) (hE : tk_ev G s) (hs : tk_sw G s h sz H locs) (hc : vwCl[ci]? = some (C, T, N)) (k : Nat) (hk : k < N) (hlink : Cond.fieldLinkNest own index (T k).1 (T k).2.1 (T k).2.2.1 host ∈ tk_nest) {v : Nat} (hv : tk_gR h ci k a = some v) (hdg : decode cc pc = .ok (.getfield index, 3))
    (kk : W p l e R s m args below meth c H locs cells slots Q (F0 m (pc + 3) ls (.ref v :: rest))) : W p l e R s m args below meth c H locs cells slots Q (F0 m pc ls (.ref a :: rest)) := by
  obtain ⟨fs, h1, h2⟩ := tk_gR_ok hv
  exact va_getN hexec hb hts hin hown hE.1 (tk_P1 (tk_atO (hs.1 a _ h1).2)) 0 rfl hc k hk (va_Nw.use rfl (hE.2.2.1 _ hlink)) (fun _ h => h) h2 hdg kk
theorem tk_put (hexec : p.tables.exec = Jvm.exec) (hb : c.code = cc) (hts : ∀ w ∈ Ts, w.before args s = true) (hin : ∀ w ∈ u_ws C T N, w ∈ Ts) (ty0 : Nat → FieldType) (hty : ∀ k, k < N → parseFieldDescriptor (T k).2.2.1 = some (ty0 k)) (hnm : ∀ a, a < N → ∀ b, b < N → a ≠ b → (T a).2.1 ≠ (T b).2.1) (hown : s.vm.findClass own = some m.cls) (hE : tk_ev G s) (hs : tk_sw G s h sz H locs) (hc : vwCl[ci]? = some (C, T, N)) (k : Nat) (hk : k < N) (hlink : (Cond.fieldLink own index (T k).1 (T k).2.1 (T k).2.2.1).before args s = true) (hfin : (T k).2.2.2 = false) {v : Value} (hn : narrow (ty0 k) v = v) (hfit : fits (ty0 k) v = true) (hp : tk_pF h ci k a v = some h') (hdg : decode cc pc = .ok (.putfield index, 3))
    (kk : ∀ (H1 : Heap) (locs1 : List Loc), tk_sw G s h' sz H1 locs1 → W p l e R s m args below meth c H1 locs1 cells slots Q (F0 m (pc + 3) ls rest)) : W p l e R s m args below meth c H locs cells slots Q (F0 m pc ls (v :: .ref a :: rest)) := by
  obtain ⟨fs, hf, hl, rfl⟩ := tk_pF_ok hp
  have hK := hE.1
  have hap := va_apart (own := own) hts hin ty0 hty hnm hK hc
  obtain ⟨r, h1, cell, q1, q2, q3, q4⟩ := (hs.1 a _ hf).2
  have hr : r = (C, T, N) := Option.some.inj (h1.symm.trans hc)
  subst hr
  obtain ⟨hS, hfc, kC, hkC, hkind⟩ := hK.1 ci _ hc
  obtain ⟨cf, kf, fi, f, hi, hsl⟩ := hS k hk
  have hlay := hts _ (hin _ (u_in_lay hk))
  unfold u_lay at hlay
  rw [if_neg (by rw [hfin]; decide)] at hlay
  have hst := (u_facts hfc hkC (u_lays hts hin hk) hi).1
  have h6 := u_store hfc hkC hkind hlay hi (hty k hk) hn hfit
  refine W.putK hexec hb (f := f) ⟨hown, hlink, ⟨_, _, _, hi⟩, hst⟩ (by rw [q2]; exact h6) q1 q3 (by rw [hsl]; exact k2_hasslot (q4 k hk)) rfl rfl hdg fun H' e1 e2 e3 => ?_
  rw [hsl] at e1 ⊢
  refine kk H' _ (tk_sw_put hs hf ?_ e2 e3)
  exact ⟨_, hc, t_OB.to (V := updV (vp_V fs) k v) ⟨_, e1, q2, q3, t_set q4 hap hk v⟩ (fun j _ => vp_updV_set hl v j)⟩
theorem tk_putN {host : String} (hexec : p.tables.exec = Jvm.exec) (hb : c.code = cc) (hts : ∀ w ∈ Ts, w.before args s = true) (hin : ∀ w ∈ u_ws C T N, w ∈ Ts) (ty0 : Nat → FieldType) (hty : ∀ k, k < N → parseFieldDescriptor (T k).2.2.1 = some (ty0 k)) (hnm : ∀ a, a < N → ∀ b, b < N → a ≠ b → (T a).2.1 ≠ (T b).2.1) (hown : s.vm.findClass own = some m.cls) (hE : tk_ev G s) (hs : tk_sw G s h sz H locs) (hc : vwCl[ci]? = some (C, T, N)) (k : Nat) (hk : k < N) (hlink : Cond.fieldLinkNest own index (T k).1 (T k).2.1 (T k).2.2.1 host ∈ tk_nest) (hfin : (T k).2.2.2 = false) {v : Value} (hn : narrow (ty0 k) v = v) (hfit : fits (ty0 k) v = true) (hp : tk_pF h ci k a v = some h') (hdg : decode cc pc = .ok (.putfield index, 3))
    (kk : ∀ (H1 : Heap) (locs1 : List Loc), tk_sw G s h' sz H1 locs1 → W p l e R s m args below meth c H1 locs1 cells slots Q (F0 m (pc + 3) ls rest)) : W p l e R s m args below meth c H locs cells slots Q (F0 m pc ls (v :: .ref a :: rest)) := by
  obtain ⟨fs, hf, hl, rfl⟩ := tk_pF_ok hp
  have hK := hE.1
  have hap := va_apart (own := own) hts hin ty0 hty hnm hK hc
  obtain ⟨r, h1, cell, q1, q2, q3, q4⟩ := (hs.1 a _ hf).2
  have hr : r = (C, T, N) := Option.some.inj (h1.symm.trans hc)
  subst hr
  obtain ⟨hS, hfc, kC, hkC, hkind⟩ := hK.1 ci _ hc
  obtain ⟨cf, kf, fi, f, hi, hsl⟩ := hS k hk
  have hlay := hts _ (hin _ (u_in_lay hk))
  unfold u_lay at hlay
  rw [if_neg (by rw [hfin]; decide)] at hlay
  have hst := (u_facts hfc hkC (u_lays hts hin hk) hi).1
  have h6 := u_store hfc hkC hkind hlay hi (hty k hk) hn hfit
  refine va_WputK hexec hb (f := f) hown (va_Nw.use rfl (hE.2.2.1 _ hlink)) hi hst (by rw [q2]; exact h6) q1 q3 (by rw [hsl]; exact k2_hasslot (q4 k hk)) rfl rfl hdg fun H' e1 e2 e3 => ?_
  rw [hsl] at e1 ⊢
  refine kk H' _ (tk_sw_put hs hf ?_ e2 e3)
  exact ⟨_, hc, t_OB.to (V := updV (vp_V fs) k v) ⟨_, e1, q2, q3, t_set q4 hap hk v⟩ (fun j _ => vp_updV_set hl v j)⟩
/-- a final field, in its constructor -/
theorem tk_putF (hexec : p.tables.exec = Jvm.exec) (hb : c.code = cc) (hts : ∀ w ∈ Ts, w.before args s = true) (hin : ∀ w ∈ u_ws C T N, w ∈ Ts) (ty0 : Nat → FieldType) (hty : ∀ k, k < N → parseFieldDescriptor (T k).2.2.1 = some (ty0 k)) (hnm : ∀ a, a < N → ∀ b, b < N → a ≠ b → (T a).2.1 ≠ (T b).2.1) (hown : s.vm.findClass own = some m.cls) (hE : tk_ev G s) (hs : tk_sw G s h sz H locs) (hc : vwCl[ci]? = some (C, T, N)) (k : Nat) (hk : k < N) (hlink : (Cond.fieldLink own index (T k).1 (T k).2.1 (T k).2.2.1).before args s = true) (hfin : (T k).2.2.2 = true) (hin2 : meth.name = "<init>") (hdecl : (T k).1 = own) {v : Value} (hn : narrow (ty0 k) v = v) (hfit : fits (ty0 k) v = true) (hp : tk_pF h ci k a v = some h') (hdg : decode cc pc = .ok (.putfield index, 3))
    (kk : ∀ (H1 : Heap) (locs1 : List Loc), tk_sw G s h' sz H1 locs1 → W p l e R s m args below meth c H1 locs1 cells slots Q (F0 m (pc + 3) ls rest)) : W p l e R s m args below meth c H locs cells slots Q (F0 m pc ls (v :: .ref a :: rest)) := by
  obtain ⟨fs, hf, hl, rfl⟩ := tk_pF_ok hp
  have hK := hE.1
  have hap := va_apart (own := own) hts hin ty0 hty hnm hK hc
  obtain ⟨r, h1, cell, q1, q2, q3, q4⟩ := (hs.1 a _ hf).2
  have hr : r = (C, T, N) := Option.some.inj (h1.symm.trans hc)
  subst hr
  obtain ⟨hS, hfc, kC, hkC, hkind⟩ := hK.1 ci _ hc
  obtain ⟨cf, kf, fi, f, hi, hsl⟩ := hS k hk
  have hlay := hts _ (hin _ (u_in_lay hk))
  unfold u_lay at hlay
  rw [if_pos hfin] at hlay
  have hst := (u_facts hfc hkC (u_lays hts hin hk) hi).1
  have hcf : m.cls = cf := by
    obtain ⟨_, _, c', _, _, _, -, -, hf', -, -, -, hown2, -⟩ := Cond.laysFinal_spec hlay
    have e1 : c' = cf := by have := hi.symm.trans hf'; simp at this; exact this.1.symm
    rw [hdecl] at hown2
    rw [← e1]; exact Option.some.inj (hown.symm.trans hown2)
  have h6 := u_fits hfc hkC hkind (Or.inr hlay) hi (hty k hk) hn hfit
  refine W.putFinK hexec hb hown hlink hi hst hcf hin2 (by rw [q2]; exact h6) q1 q3 (by rw [hsl]; exact k2_hasslot (q4 k hk)) rfl rfl hdg fun H' e1 e2 e3 => ?_
  rw [hsl] at e1 ⊢
  refine kk H' _ (tk_sw_put hs hf ?_ e2 e3)
  exact ⟨_, hc, t_OB.to (V := updV (vp_V fs) k v) ⟨_, e1, q2, q3, t_set q4 hap hk v⟩ (fun j _ => vp_updV_set hl v j)⟩
theorem tk_iald (hexec : p.tables.exec = Jvm.exec) (hb : c.code = cc) (hE : tk_ev G s) (hs : tk_sw G s h sz H locs) {i v : Int32} (hv : tk_aI h 0 a i = some v) (hdg : decode cc pc = .ok (.iaload, 1))
    (kk : W p l e R s m args below meth c H locs cells slots Q (F0 m (pc + 1) ls (.int v :: rest))) : W p l e R s m args below meth c H locs cells slots Q (F0 m pc ls (.int i :: .ref a :: rest)) := by
  obtain ⟨n, f, h1, h2, rfl⟩ := tk_aI_ok hv
  have hlt : i.toNatClampNeg < n := Nat.not_le.mp fun q => h2 (Or.inr q)
  exact W.iald (v := .int (f i.toNatClampNeg)) hexec hb (hs.1 a _ h1).2 ((hE.1.2 0 _ rfl).1 n (fun j => .int (f j))) (fun q => by cases q) (by rw [arrV_size]; exact h2) (by rw [arrV_read _ _ hlt]) rfl rfl hdg kk
theorem tk_zald (hexec : p.tables.exec = Jvm.exec) (hb : c.code = cc) (hE : tk_ev G s) (hs : tk_sw G s h sz H locs) {i v : Int32} (hv : tk_aI h 1 a i = some v) (hdg : decode cc pc = .ok (.baload, 1))
    (kk : W p l e R s m args below meth c H locs cells slots Q (F0 m (pc + 1) ls (.int v :: rest))) : W p l e R s m args below meth c H locs cells slots Q (F0 m pc ls (.int i :: .ref a :: rest)) := by
  obtain ⟨n, f, h1, h2, rfl⟩ := tk_aI_ok hv
  have hlt : i.toNatClampNeg < n := Nat.not_le.mp fun q => h2 (Or.inr q)
  exact W.zald (v := .int (f i.toNatClampNeg)) hexec hb (hs.1 a _ h1).2 ((hE.1.2 1 _ rfl).1 n (fun j => .int (f j))) (fun q => by cases q) (by rw [arrV_size]; exact h2) (by rw [arrV_read _ _ hlt]) rfl rfl hdg kk
theorem tk_lald (hexec : p.tables.exec = Jvm.exec) (hb : c.code = cc) (hE : tk_ev G s) (hs : tk_sw G s h sz H locs) {i : Int32} {v : Int64} (hv : tk_aJ h 2 a i = some v) (hdg : decode cc pc = .ok (.laload, 1))
    (kk : W p l e R s m args below meth c H locs cells slots Q (F0 m (pc + 1) ls (.long v :: rest))) : W p l e R s m args below meth c H locs cells slots Q (F0 m pc ls (.int i :: .ref a :: rest)) := by
  obtain ⟨n, f, h1, h2, rfl⟩ := tk_aJ_ok hv
  have hlt : i.toNatClampNeg < n := Nat.not_le.mp fun q => h2 (Or.inr q)
  exact W.lald (v := .long (f i.toNatClampNeg)) hexec hb (hs.1 a _ h1).2 ((hE.1.2 2 _ rfl).1 n (fun j => .long (f j))) (fun q => by cases q) (by rw [arrV_size]; exact h2) (by rw [arrV_read _ _ hlt]) rfl rfl hdg kk
theorem tk_aald (hexec : p.tables.exec = Jvm.exec) (hb : c.code = cc) (hE : tk_ev G s) (hs : tk_sw G s h sz H locs) {i : Int32} {v : Option Nat} (hv : tk_aQ h 3 a i = some v) (hdg : decode cc pc = .ok (.aaload, 1))
    (kk : W p l e R s m args below meth c H locs cells slots Q (F0 m (pc + 1) ls (va_rf v :: rest))) : W p l e R s m args below meth c H locs cells slots Q (F0 m pc ls (.int i :: .ref a :: rest)) := by
  obtain ⟨n, f, h1, h2, rfl⟩ := tk_aQ_ok hv
  have hlt : i.toNatClampNeg < n := Nat.not_le.mp fun q => h2 (Or.inr q)
  exact W.aald (v := va_rf (f i.toNatClampNeg)) (ty := .object "TongueSwap$Learner") hexec hb (hs.1 a _ h1).2 ((hE.1.2 3 _ rfl).1 n (fun j => va_rf (f j))) rfl (fun q => by cases q) (by rw [arrV_size]; exact h2) (by rw [arrV_read _ _ hlt]) rfl rfl hdg kk
theorem tk_iast (hexec : p.tables.exec = Jvm.exec) (hb : c.code = cc) (hE : tk_ev G s) (hs : tk_sw G s h sz H locs) {i x : Int32} (hv : tk_sI h 0 a i x = some h') (hdg : decode cc pc = .ok (.iastore, 1))
    (kk : ∀ (H1 : Heap) (locs1 : List Loc), tk_sw G s h' sz H1 locs1 → W p l e R s m args below meth c H1 locs1 cells slots Q (F0 m (pc + 1) ls rest)) : W p l e R s m args below meth c H locs cells slots Q (F0 m pc ls (.int x :: .int i :: .ref a :: rest)) := by
  obtain ⟨n, f, h1, h2, rfl⟩ := tk_sI_ok hv
  refine W.iast hexec hb (hs.1 a _ h1).2 ((hE.1.2 0 _ rfl).1 n (fun j => .int (f j))) (fun q => by cases q) (by rw [arrV_size]; exact h2) rfl rfl hdg fun H1 e z oq => ?_
  refine kk H1 _ (tk_sw_put hs h1 ?_ z oq)
  show H1[a]? = some (arrV _ _ _)
  rw [e, arrV_store]
  congr 2
  funext q
  by_cases hq : q = i.toNatClampNeg
  · subst hq
    simp [updV, upd]
  · simp [updV, upd, hq]
theorem tk_zast (hexec : p.tables.exec = Jvm.exec) (hb : c.code = cc) (hE : tk_ev G s) (hs : tk_sw G s h sz H locs) {i x : Int32} (hx : x = 0 ∨ x = 1) (hv : tk_sI h 1 a i x = some h') (hdg : decode cc pc = .ok (.bastore, 1))
    (kk : ∀ (H1 : Heap) (locs1 : List Loc), tk_sw G s h' sz H1 locs1 → W p l e R s m args below meth c H1 locs1 cells slots Q (F0 m (pc + 1) ls rest)) : W p l e R s m args below meth c H locs cells slots Q (F0 m pc ls (.int x :: .int i :: .ref a :: rest)) := by
  obtain ⟨n, f, h1, h2, rfl⟩ := tk_sI_ok hv
  refine W.zast hexec hb (hs.1 a _ h1).2 ((hE.1.2 1 _ rfl).1 n (fun j => .int (f j))) (fun q => by cases q) (by rw [arrV_size]; exact h2) rfl rfl hdg fun H1 e z oq => ?_
  refine kk H1 _ (tk_sw_put hs h1 ?_ z oq)
  show H1[a]? = some (arrV _ _ _)
  rw [e, arrV_store]
  congr 2
  funext q
  by_cases hq : q = i.toNatClampNeg
  · subst hq
    rcases hx with rfl | rfl <;> simp [updV, upd] <;> decide
  · simp [updV, upd, hq]
theorem tk_last (hexec : p.tables.exec = Jvm.exec) (hb : c.code = cc) (hE : tk_ev G s) (hs : tk_sw G s h sz H locs) {i : Int32} {x : Int64} (hv : tk_sJ h 2 a i x = some h') (hdg : decode cc pc = .ok (.lastore, 1))
    (kk : ∀ (H1 : Heap) (locs1 : List Loc), tk_sw G s h' sz H1 locs1 → W p l e R s m args below meth c H1 locs1 cells slots Q (F0 m (pc + 1) ls rest)) : W p l e R s m args below meth c H locs cells slots Q (F0 m pc ls (.long x :: .int i :: .ref a :: rest)) := by
  obtain ⟨n, f, h1, h2, rfl⟩ := tk_sJ_ok hv
  refine W.last hexec hb (hs.1 a _ h1).2 ((hE.1.2 2 _ rfl).1 n (fun j => .long (f j))) (fun q => by cases q) (by rw [arrV_size]; exact h2) rfl rfl hdg fun H1 e z oq => ?_
  refine kk H1 _ (tk_sw_put hs h1 ?_ z oq)
  show H1[a]? = some (arrV _ _ _)
  rw [e, arrV_store]
  congr 2
  funext q
  by_cases hq : q = i.toNatClampNeg
  · subst hq
    simp [updV, vp_updL]
  · simp [updV, vp_updL, hq]
theorem tk_alen (hexec : p.tables.exec = Jvm.exec) (hb : c.code = cc) (hE : tk_ev G s) (hs : tk_sw G s h sz H locs) {v : Int32} (hv : tk_aN h 2 a = some v) (hdg : decode cc pc = .ok (.arraylength, 1))
    (kk : W p l e R s m args below meth c H locs cells slots Q (F0 m (pc + 1) ls (.int v :: rest))) : W p l e R s m args below meth c H locs cells slots Q (F0 m pc ls (.ref a :: rest)) := by
  obtain ⟨n, d, h1, rfl⟩ := tk_aN_ok hv
  match d, h1 with
  | .inl f, h1 => exact W.alen (n := Int32.ofNat n) hexec hb (hs.1 a _ h1).2 ((hE.1.2 2 _ rfl).1 n (fun j => .int (f j))) (by rw [arrV_size]) rfl rfl hdg kk
  | .inr (.inl f), h1 => exact W.alen (n := Int32.ofNat n) hexec hb (hs.1 a _ h1).2 ((hE.1.2 2 _ rfl).1 n (fun j => .long (f j))) (by rw [arrV_size]) rfl rfl hdg kk
  | .inr (.inr f), h1 => exact W.alen (n := Int32.ofNat n) hexec hb (hs.1 a _ h1).2 ((hE.1.2 2 _ rfl).1 n (fun j => va_rf (f j))) (by rw [arrV_size]) rfl rfl hdg kk
end TKA
