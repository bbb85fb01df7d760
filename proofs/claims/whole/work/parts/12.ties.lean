def fX3_gives_18 (N : Nat) (y0 : Int32) (h : tk_AH) (sz : Nat) : Option (Int32 × tk_AH × Nat) :=
  (tk_bz y0).bind fun _ =>
  some (y0, h, sz)
def fX3_gives (N : Nat) (x0 : Nat) (x1 : Int32) (x2 : Int32) (h : tk_AH) (sz : Nat) : Option (Int32 × tk_AH × Nat) :=
  (tk_gR h 3 0 x0).bind fun v2 =>
  (tk_aI h 0 v2 x1).bind fun v3 =>
  if ((v3 >>> (x2 &&& 31)) &&& 1) = 0 then (
  fX3_gives_18 N 0 h sz) else (
  fX3_gives_18 N 1 h sz)
set_option maxHeartbeats 8000000 in
set_option maxRecDepth 100000 in
theorem cX3_gives_ok (l : Launch) (hl0 : l.stackTraces = false) (G : tk_AG) (N : Nat) (x0 : Nat) (x1 : Int32) (x2 : Int32) (h : tk_AH) (sz : Nat) (r9 : Int32) (h9 : tk_AH) (sz9 : Nat) (hf : fX3_gives N x0 x1 x2 h sz = some (r9, h9, sz9)) : Met l yX3_gives (coX3_gives :: tk_W) ({ frames := 0, cells := 0, slots := 0, locals := 0 }) (tk_pc G [.ref x0, .int x1, .int x2] h sz) (tk_qc G (some (.int r9)) h9 sz9) 0 0 (tk_ag G) := by
  refine Met.ofW (cc := cX3_gives) (maxL := 3) (ret := (some .boolean)) (by decide) rfl ?_
  intro p e s m args below meth c s₁ B hml hv
  obtain ⟨hav, hE, hrp, hsz, hgs⟩ := hv
  have hx := B.exec
  have hb := B.bytes
  have hr := B.returns
  have hts := atoms_spec (ws := coX3_gives :: tk_W) B.pre
  have ht : ∀ w ∈ tk_W, w.before args s = true := fun w h => hts w (List.mem_cons_of_mem _ h)
  have hown : s.vm.findClass RX3 = some m.cls := findClass_of_methodNamed B.named
  have hlocks := B.notSynchronized
  have hs : tk_sw G s h sz s.heap [] := ⟨hrp, hsz, by rw [hsz]; exact hgs, va_S.rf⟩
  have hl := lv_entry ([.ref x0, .int x1, .int x2]) (n := 3) (Nat.le_of_ble_eq_true rfl)
  have hent : entryFrame m args 3 = F0 m 0 (lg_sl ([.ref x0, .int x1, .int x2]) ++ List.replicate (3 - (lg_sl ([.ref x0, .int x1, .int x2])).length) Slot.unset).toArray [] := by rw [hav, lg_entry_eq]
  rw [hent]
  clear hent
  generalize (lg_sl ([.ref x0, .int x1, .int x2]) ++ List.replicate (3 - (lg_sl ([.ref x0, .int x1, .int x2])).length) Slot.unset).toArray = ls at hl ⊢
  have hl : lv_has ls 3 [(0, .ref x0), (1, .int x1), (2, .int x2)] := hl
  have j18 : ∀ (y0 : Int32) (h : tk_AH) (sz : Nat) (H : Heap) (locs : List Loc) (ls : Array Slot), fX3_gives_18 N y0 h sz = some (r9, h9, sz9) → tk_sw G s h sz H locs → lv_has ls 3 [] → W p l e (headSpec (coX3_gives :: tk_W) ({ frames := 0, cells := 0, slots := 0, locals := 0 })).room s m args below meth c H locs 0 (0) (MQ below (tk_qc G (some (.int r9)) h9 sz9) args s 0 0 (tk_ag G)) (F0 m 18 ls [.int y0]) := by
    intro y0 h sz H locs ls hf hs hl
    unfold fX3_gives_18 at hf
    obtain ⟨_, e1, hf⟩ := tk_bi hf
    have e1 := tk_bz_ok e1
    cases hf
    exact tk_zret hx hb hr hlocks e1 hs dX3_gives_18
  unfold fX3_gives at hf
  refine lv_aload_n hx hb dX3_gives_0 rfl (lv_at hl 0 rfl) ?_
  obtain ⟨v2, e2, hf⟩ := tk_bi hf
  refine tk_getR hx hb ht inX3 hown hE hs rfl 0 (by decide) (ht _ wfX3_9) e2 dX3_gives_1 ?_
  refine lv_iload_n hx hb dX3_gives_4 rfl (lv_at hl 1 rfl) ?_
  obtain ⟨v3, e3, hf⟩ := tk_bi hf
  refine tk_iald hx hb hE hs e3 dX3_gives_5 ?_
  refine lv_iload_n hx hb dX3_gives_6 rfl (lv_at hl 2 rfl) ?_
  refine lv_ishr hx hb dX3_gives_7 ?_
  refine lv_iconst (v := 1) hx hb dX3_gives_8 (by decide) ?_
  refine lv_iand hx hb dX3_gives_9 ?_
  refine lv_if_eq (tgt := 17) hx hb dX3_gives_10 (by decide) (fun c4 => ?_) (fun c4 => ?_)
  · rw [if_pos c4] at hf
    refine lv_iconst (v := 0) hx hb dX3_gives_17 (by decide) ?_
    exact j18 0 h sz _ _ _ hf hs (lv_sub hl [] rfl)
  · rw [if_neg c4] at hf
    refine lv_iconst (v := 1) hx hb dX3_gives_13 (by decide) ?_
    refine lv_goto (tgt := 18) hx hb dX3_gives_14 (by decide) ?_
    exact j18 1 h sz _ _ _ hf hs (lv_sub hl [] rfl)
def fX3_shared (N : Nat) (x0 : Nat) (x1 : Int32) (x2 : Int32) (h : tk_AH) (sz : Nat) : Option (Int32 × tk_AH × Nat) :=
  (tk_gR h 3 1 x0).bind fun v1 =>
  (tk_aI h 0 v1 ((x1 * 14) + x2)).bind fun v2 =>
  some (v2, h, sz)
set_option maxHeartbeats 8000000 in
set_option maxRecDepth 100000 in
theorem cX3_shared_ok (l : Launch) (hl0 : l.stackTraces = false) (G : tk_AG) (N : Nat) (x0 : Nat) (x1 : Int32) (x2 : Int32) (h : tk_AH) (sz : Nat) (r9 : Int32) (h9 : tk_AH) (sz9 : Nat) (hf : fX3_shared N x0 x1 x2 h sz = some (r9, h9, sz9)) : Met l yX3_shared (coX3_shared :: tk_W) ({ frames := 0, cells := 0, slots := 0, locals := 0 }) (tk_pc G [.ref x0, .int x1, .int x2] h sz) (tk_qc G (some (.int r9)) h9 sz9) 0 0 (tk_ag G) := by
  refine Met.ofW (cc := cX3_shared) (maxL := 3) (ret := (some .int)) (by decide) rfl ?_
  intro p e s m args below meth c s₁ B hml hv
  obtain ⟨hav, hE, hrp, hsz, hgs⟩ := hv
  have hx := B.exec
  have hb := B.bytes
  have hr := B.returns
  have hts := atoms_spec (ws := coX3_shared :: tk_W) B.pre
  have ht : ∀ w ∈ tk_W, w.before args s = true := fun w h => hts w (List.mem_cons_of_mem _ h)
  have hown : s.vm.findClass RX3 = some m.cls := findClass_of_methodNamed B.named
  have hlocks := B.notSynchronized
  have hs : tk_sw G s h sz s.heap [] := ⟨hrp, hsz, by rw [hsz]; exact hgs, va_S.rf⟩
  have hl := lv_entry ([.ref x0, .int x1, .int x2]) (n := 3) (Nat.le_of_ble_eq_true rfl)
  have hent : entryFrame m args 3 = F0 m 0 (lg_sl ([.ref x0, .int x1, .int x2]) ++ List.replicate (3 - (lg_sl ([.ref x0, .int x1, .int x2])).length) Slot.unset).toArray [] := by rw [hav, lg_entry_eq]
  rw [hent]
  clear hent
  generalize (lg_sl ([.ref x0, .int x1, .int x2]) ++ List.replicate (3 - (lg_sl ([.ref x0, .int x1, .int x2])).length) Slot.unset).toArray = ls at hl ⊢
  have hl : lv_has ls 3 [(0, .ref x0), (1, .int x1), (2, .int x2)] := hl
  unfold fX3_shared at hf
  refine lv_aload_n hx hb dX3_shared_0 rfl (lv_at hl 0 rfl) ?_
  obtain ⟨v1, e1, hf⟩ := tk_bi hf
  refine tk_getR hx hb ht inX3 hown hE hs rfl 1 (by decide) (ht _ wfX3_15) e1 dX3_shared_1 ?_
  refine lv_iload_n hx hb dX3_shared_4 rfl (lv_at hl 1 rfl) ?_
  refine lv_bipush (v := 14) hx hb dX3_shared_5 (by decide) ?_
  refine lv_imul hx hb dX3_shared_7 ?_
  refine lv_iload_n hx hb dX3_shared_8 rfl (lv_at hl 2 rfl) ?_
  refine lv_iadd hx hb dX3_shared_9 ?_
  obtain ⟨v2, e2, hf⟩ := tk_bi hf
  refine tk_iald hx hb hE hs e2 dX3_shared_10 ?_
  cases hf
  exact tk_iret hx hb hr hlocks hs dX3_shared_11
def fJ6_numberOfTrailingZeros_0f7a4_74 (N : Nat) (x0 : Int32) (x1 : Int32) (h : tk_AH) (sz : Nat) : Option (Int32 × tk_AH × Nat) :=
  some (x1 + ((x0.toUInt32 >>> ((1 : Int32).toUInt32 &&& Int32.toUInt32 31)).toInt32), h, sz)
def fJ6_numberOfTrailingZeros_0f7a4_62 (N : Nat) (x0 : Int32) (x1 : Int32) (h : tk_AH) (sz : Nat) : Option (Int32 × tk_AH × Nat) :=
  if x0 ≤ 4 then (
  fJ6_numberOfTrailingZeros_0f7a4_74 N x0 x1 h sz) else (
  fJ6_numberOfTrailingZeros_0f7a4_74 N ((x0.toUInt32 >>> ((2 : Int32).toUInt32 &&& Int32.toUInt32 31)).toInt32) (x1 + 2) h sz)
def fJ6_numberOfTrailingZeros_0f7a4_49 (N : Nat) (x0 : Int32) (x1 : Int32) (h : tk_AH) (sz : Nat) : Option (Int32 × tk_AH × Nat) :=
  if x0 ≤ 16 then (
  fJ6_numberOfTrailingZeros_0f7a4_62 N x0 x1 h sz) else (
  fJ6_numberOfTrailingZeros_0f7a4_62 N ((x0.toUInt32 >>> ((4 : Int32).toUInt32 &&& Int32.toUInt32 31)).toInt32) (x1 + 4) h sz)
def fJ6_numberOfTrailingZeros_0f7a4_34 (N : Nat) (x0 : Int32) (x1 : Int32) (h : tk_AH) (sz : Nat) : Option (Int32 × tk_AH × Nat) :=
  if x0 ≤ 256 then (
  fJ6_numberOfTrailingZeros_0f7a4_49 N x0 x1 h sz) else (
  fJ6_numberOfTrailingZeros_0f7a4_49 N ((x0.toUInt32 >>> ((8 : Int32).toUInt32 &&& Int32.toUInt32 31)).toInt32) (x1 + 8) h sz)
def fJ6_numberOfTrailingZeros_0f7a4 (N : Nat) (x0 : Int32) (h : tk_AH) (sz : Nat) : Option (Int32 × tk_AH × Nat) :=
  if 0 < ((x0 ^^^ (-1)) &&& (x0 - 1)) then (
  if ((x0 ^^^ (-1)) &&& (x0 - 1)) ≤ 65536 then (
  fJ6_numberOfTrailingZeros_0f7a4_34 N ((x0 ^^^ (-1)) &&& (x0 - 1)) 1 h sz) else (
  fJ6_numberOfTrailingZeros_0f7a4_34 N ((((x0 ^^^ (-1)) &&& (x0 - 1)).toUInt32 >>> ((16 : Int32).toUInt32 &&& Int32.toUInt32 31)).toInt32) (1 + 16) h sz)) else (
  some (((x0 ^^^ (-1)) &&& (x0 - 1)) &&& 32, h, sz))
set_option maxHeartbeats 8000000 in
set_option maxRecDepth 100000 in
theorem cJ6_numberOfTrailingZeros_0f7a4_ok (l : Launch) (hl0 : l.stackTraces = false) (G : tk_AG) (N : Nat) (x0 : Int32) (h : tk_AH) (sz : Nat) (r9 : Int32) (h9 : tk_AH) (sz9 : Nat) (hf : fJ6_numberOfTrailingZeros_0f7a4 N x0 h sz = some (r9, h9, sz9)) : Met l yJ6_numberOfTrailingZeros_0f7a4 (coJ6_numberOfTrailingZeros_0f7a4 :: tk_W) ({ frames := 0, cells := 0, slots := 0, locals := 0 }) (tk_pc G [.int x0] h sz) (tk_qc G (some (.int r9)) h9 sz9) 0 0 (tk_ag G) := by
  refine Met.ofW (cc := cJ6_numberOfTrailingZeros_0f7a4) (maxL := 2) (ret := (some .int)) (by decide) rfl ?_
  intro p e s m args below meth c s₁ B hml hv
  obtain ⟨hav, hE, hrp, hsz, hgs⟩ := hv
  have hx := B.exec
  have hb := B.bytes
  have hr := B.returns
  have hts := atoms_spec (ws := coJ6_numberOfTrailingZeros_0f7a4 :: tk_W) B.pre
  have ht : ∀ w ∈ tk_W, w.before args s = true := fun w h => hts w (List.mem_cons_of_mem _ h)
  have hown : s.vm.findClass RJ6 = some m.cls := findClass_of_methodNamed B.named
  have hlocks := B.notSynchronized
  have hs : tk_sw G s h sz s.heap [] := ⟨hrp, hsz, by rw [hsz]; exact hgs, va_S.rf⟩
  have hl := lv_entry ([.int x0]) (n := 2) (Nat.le_of_ble_eq_true rfl)
  have hent : entryFrame m args 2 = F0 m 0 (lg_sl ([.int x0]) ++ List.replicate (2 - (lg_sl ([.int x0])).length) Slot.unset).toArray [] := by rw [hav, lg_entry_eq]
  rw [hent]
  clear hent
  generalize (lg_sl ([.int x0]) ++ List.replicate (2 - (lg_sl ([.int x0])).length) Slot.unset).toArray = ls at hl ⊢
  have hl : lv_has ls 2 [(0, .int x0)] := hl
  have j74 : ∀ (x0 : Int32) (x1 : Int32) (h : tk_AH) (sz : Nat) (H : Heap) (locs : List Loc) (ls : Array Slot), fJ6_numberOfTrailingZeros_0f7a4_74 N x0 x1 h sz = some (r9, h9, sz9) → tk_sw G s h sz H locs → lv_has ls 2 [(0, .int x0), (1, .int x1)] → W p l e (headSpec (coJ6_numberOfTrailingZeros_0f7a4 :: tk_W) ({ frames := 0, cells := 0, slots := 0, locals := 0 })).room s m args below meth c H locs 0 (0) (MQ below (tk_qc G (some (.int r9)) h9 sz9) args s 0 0 (tk_ag G)) (F0 m 74 ls []) := by
    intro x0 x1 h sz H locs ls hf hs hl
    unfold fJ6_numberOfTrailingZeros_0f7a4_74 at hf
    refine lv_iload_n hx hb dJ6_numberOfTrailingZeros_0f7a4_74 rfl (lv_at hl 1 rfl) ?_
    refine lv_iload_n hx hb dJ6_numberOfTrailingZeros_0f7a4_75 rfl (lv_at hl 0 rfl) ?_
    refine lv_iconst (v := 1) hx hb dJ6_numberOfTrailingZeros_0f7a4_76 (by decide) ?_
    refine lv_iushr (v := (x0.toUInt32 >>> ((1 : Int32).toUInt32 &&& Int32.toUInt32 31)).toInt32) hx hb dJ6_numberOfTrailingZeros_0f7a4_77 rfl ?_
    refine lv_iadd hx hb dJ6_numberOfTrailingZeros_0f7a4_78 ?_
    cases hf
    exact tk_iret hx hb hr hlocks hs dJ6_numberOfTrailingZeros_0f7a4_79
  have j62 : ∀ (x0 : Int32) (x1 : Int32) (h : tk_AH) (sz : Nat) (H : Heap) (locs : List Loc) (ls : Array Slot), fJ6_numberOfTrailingZeros_0f7a4_62 N x0 x1 h sz = some (r9, h9, sz9) → tk_sw G s h sz H locs → lv_has ls 2 [(0, .int x0), (1, .int x1)] → W p l e (headSpec (coJ6_numberOfTrailingZeros_0f7a4 :: tk_W) ({ frames := 0, cells := 0, slots := 0, locals := 0 })).room s m args below meth c H locs 0 (0) (MQ below (tk_qc G (some (.int r9)) h9 sz9) args s 0 0 (tk_ag G)) (F0 m 62 ls []) := by
    intro x0 x1 h sz H locs ls hf hs hl
    unfold fJ6_numberOfTrailingZeros_0f7a4_62 at hf
    refine lv_iload_n hx hb dJ6_numberOfTrailingZeros_0f7a4_62 rfl (lv_at hl 0 rfl) ?_
    refine lv_iconst (v := 4) hx hb dJ6_numberOfTrailingZeros_0f7a4_63 (by decide) ?_
    refine lv_icmp_le (tgt := 74) hx hb dJ6_numberOfTrailingZeros_0f7a4_64 (by decide) (fun c1 => ?_) (fun c1 => ?_)
    · rw [if_pos c1] at hf
      exact j74 x0 x1 h sz _ _ _ hf hs (lv_sub hl [0, 1] rfl)
    · rw [if_neg c1] at hf
      refine lv_iinc (v := x1 + 2) (lv' := [(1, .int (x1 + 2)), (0, .int x0)]) hx hb dJ6_numberOfTrailingZeros_0f7a4_67 hl (k := 1) rfl rfl (by decide) rfl (fun ls hl => ?_)
      refine lv_iload_n hx hb dJ6_numberOfTrailingZeros_0f7a4_70 rfl (lv_at hl 1 rfl) ?_
      refine lv_iconst (v := 2) hx hb dJ6_numberOfTrailingZeros_0f7a4_71 (by decide) ?_
      refine lv_iushr (v := (x0.toUInt32 >>> ((2 : Int32).toUInt32 &&& Int32.toUInt32 31)).toInt32) hx hb dJ6_numberOfTrailingZeros_0f7a4_72 rfl ?_
      refine lv_istore_n (lv' := [(0, .int ((x0.toUInt32 >>> ((2 : Int32).toUInt32 &&& Int32.toUInt32 31)).toInt32)), (1, .int (x1 + 2))]) hx hb dJ6_numberOfTrailingZeros_0f7a4_73 rfl hl (by decide) rfl (fun ls hl => ?_)
      exact j74 ((x0.toUInt32 >>> ((2 : Int32).toUInt32 &&& Int32.toUInt32 31)).toInt32) (x1 + 2) h sz _ _ _ hf hs (lv_sub hl [0, 1] rfl)
  have j49 : ∀ (x0 : Int32) (x1 : Int32) (h : tk_AH) (sz : Nat) (H : Heap) (locs : List Loc) (ls : Array Slot), fJ6_numberOfTrailingZeros_0f7a4_49 N x0 x1 h sz = some (r9, h9, sz9) → tk_sw G s h sz H locs → lv_has ls 2 [(0, .int x0), (1, .int x1)] → W p l e (headSpec (coJ6_numberOfTrailingZeros_0f7a4 :: tk_W) ({ frames := 0, cells := 0, slots := 0, locals := 0 })).room s m args below meth c H locs 0 (0) (MQ below (tk_qc G (some (.int r9)) h9 sz9) args s 0 0 (tk_ag G)) (F0 m 49 ls []) := by
    intro x0 x1 h sz H locs ls hf hs hl
    unfold fJ6_numberOfTrailingZeros_0f7a4_49 at hf
    refine lv_iload_n hx hb dJ6_numberOfTrailingZeros_0f7a4_49 rfl (lv_at hl 0 rfl) ?_
    refine lv_bipush (v := 16) hx hb dJ6_numberOfTrailingZeros_0f7a4_50 (by decide) ?_
    refine lv_icmp_le (tgt := 62) hx hb dJ6_numberOfTrailingZeros_0f7a4_52 (by decide) (fun c2 => ?_) (fun c2 => ?_)
    · rw [if_pos c2] at hf
      exact j62 x0 x1 h sz _ _ _ hf hs (lv_sub hl [0, 1] rfl)
    · rw [if_neg c2] at hf
      refine lv_iinc (v := x1 + 4) (lv' := [(1, .int (x1 + 4)), (0, .int x0)]) hx hb dJ6_numberOfTrailingZeros_0f7a4_55 hl (k := 1) rfl rfl (by decide) rfl (fun ls hl => ?_)
      refine lv_iload_n hx hb dJ6_numberOfTrailingZeros_0f7a4_58 rfl (lv_at hl 1 rfl) ?_
      refine lv_iconst (v := 4) hx hb dJ6_numberOfTrailingZeros_0f7a4_59 (by decide) ?_
      refine lv_iushr (v := (x0.toUInt32 >>> ((4 : Int32).toUInt32 &&& Int32.toUInt32 31)).toInt32) hx hb dJ6_numberOfTrailingZeros_0f7a4_60 rfl ?_
      refine lv_istore_n (lv' := [(0, .int ((x0.toUInt32 >>> ((4 : Int32).toUInt32 &&& Int32.toUInt32 31)).toInt32)), (1, .int (x1 + 4))]) hx hb dJ6_numberOfTrailingZeros_0f7a4_61 rfl hl (by decide) rfl (fun ls hl => ?_)
      exact j62 ((x0.toUInt32 >>> ((4 : Int32).toUInt32 &&& Int32.toUInt32 31)).toInt32) (x1 + 4) h sz _ _ _ hf hs (lv_sub hl [0, 1] rfl)
  have j34 : ∀ (x0 : Int32) (x1 : Int32) (h : tk_AH) (sz : Nat) (H : Heap) (locs : List Loc) (ls : Array Slot), fJ6_numberOfTrailingZeros_0f7a4_34 N x0 x1 h sz = some (r9, h9, sz9) → tk_sw G s h sz H locs → lv_has ls 2 [(0, .int x0), (1, .int x1)] → W p l e (headSpec (coJ6_numberOfTrailingZeros_0f7a4 :: tk_W) ({ frames := 0, cells := 0, slots := 0, locals := 0 })).room s m args below meth c H locs 0 (0) (MQ below (tk_qc G (some (.int r9)) h9 sz9) args s 0 0 (tk_ag G)) (F0 m 34 ls []) := by
    intro x0 x1 h sz H locs ls hf hs hl
    unfold fJ6_numberOfTrailingZeros_0f7a4_34 at hf
    refine lv_iload_n hx hb dJ6_numberOfTrailingZeros_0f7a4_34 rfl (lv_at hl 0 rfl) ?_
    refine lv_sipush (v := 256) hx hb dJ6_numberOfTrailingZeros_0f7a4_35 (by decide) ?_
    refine lv_icmp_le (tgt := 49) hx hb dJ6_numberOfTrailingZeros_0f7a4_38 (by decide) (fun c3 => ?_) (fun c3 => ?_)
    · rw [if_pos c3] at hf
      exact j49 x0 x1 h sz _ _ _ hf hs (lv_sub hl [0, 1] rfl)
    · rw [if_neg c3] at hf
      refine lv_iinc (v := x1 + 8) (lv' := [(1, .int (x1 + 8)), (0, .int x0)]) hx hb dJ6_numberOfTrailingZeros_0f7a4_41 hl (k := 1) rfl rfl (by decide) rfl (fun ls hl => ?_)
      refine lv_iload_n hx hb dJ6_numberOfTrailingZeros_0f7a4_44 rfl (lv_at hl 1 rfl) ?_
      refine lv_bipush (v := 8) hx hb dJ6_numberOfTrailingZeros_0f7a4_45 (by decide) ?_
      refine lv_iushr (v := (x0.toUInt32 >>> ((8 : Int32).toUInt32 &&& Int32.toUInt32 31)).toInt32) hx hb dJ6_numberOfTrailingZeros_0f7a4_47 rfl ?_
      refine lv_istore_n (lv' := [(0, .int ((x0.toUInt32 >>> ((8 : Int32).toUInt32 &&& Int32.toUInt32 31)).toInt32)), (1, .int (x1 + 8))]) hx hb dJ6_numberOfTrailingZeros_0f7a4_48 rfl hl (by decide) rfl (fun ls hl => ?_)
      exact j49 ((x0.toUInt32 >>> ((8 : Int32).toUInt32 &&& Int32.toUInt32 31)).toInt32) (x1 + 8) h sz _ _ _ hf hs (lv_sub hl [0, 1] rfl)
  unfold fJ6_numberOfTrailingZeros_0f7a4 at hf
  refine lv_iload_n hx hb dJ6_numberOfTrailingZeros_0f7a4_0 rfl (lv_at hl 0 rfl) ?_
  refine lv_iconst (v := (-1)) hx hb dJ6_numberOfTrailingZeros_0f7a4_1 (by decide) ?_
  refine lv_ixor hx hb dJ6_numberOfTrailingZeros_0f7a4_2 ?_
  refine lv_iload_n hx hb dJ6_numberOfTrailingZeros_0f7a4_3 rfl (lv_at hl 0 rfl) ?_
  refine lv_iconst (v := 1) hx hb dJ6_numberOfTrailingZeros_0f7a4_4 (by decide) ?_
  refine lv_isub hx hb dJ6_numberOfTrailingZeros_0f7a4_5 ?_
  refine lv_iand hx hb dJ6_numberOfTrailingZeros_0f7a4_6 ?_
  refine lv_istore_n (lv' := [(0, .int ((x0 ^^^ (-1)) &&& (x0 - 1)))]) hx hb dJ6_numberOfTrailingZeros_0f7a4_7 rfl hl (by decide) rfl (fun ls hl => ?_)
  refine lv_iload_n hx hb dJ6_numberOfTrailingZeros_0f7a4_8 rfl (lv_at hl 0 rfl) ?_
  refine lv_if_gt (tgt := 17) hx hb dJ6_numberOfTrailingZeros_0f7a4_9 (by decide) (fun c4 => ?_) (fun c4 => ?_)
  · rw [if_pos c4] at hf
    refine lv_iconst (v := 1) hx hb dJ6_numberOfTrailingZeros_0f7a4_17 (by decide) ?_
    refine lv_istore_n (lv' := [(1, .int 1), (0, .int ((x0 ^^^ (-1)) &&& (x0 - 1)))]) hx hb dJ6_numberOfTrailingZeros_0f7a4_18 rfl hl (by decide) rfl (fun ls hl => ?_)
    refine lv_iload_n hx hb dJ6_numberOfTrailingZeros_0f7a4_19 rfl (lv_at hl 1 rfl) ?_
    refine lv_ldcw (v := 65536) hx hb hown (ht _ wkJ6_264) dJ6_numberOfTrailingZeros_0f7a4_20 ?_
    refine lv_icmp_le (tgt := 34) hx hb dJ6_numberOfTrailingZeros_0f7a4_23 (by decide) (fun c5 => ?_) (fun c5 => ?_)
    · rw [if_pos c5] at hf
      exact j34 ((x0 ^^^ (-1)) &&& (x0 - 1)) 1 h sz _ _ _ hf hs (lv_sub hl [1, 0] rfl)
    · rw [if_neg c5] at hf
      refine lv_iinc (v := 1 + 16) (lv' := [(1, .int (1 + 16)), (0, .int ((x0 ^^^ (-1)) &&& (x0 - 1)))]) hx hb dJ6_numberOfTrailingZeros_0f7a4_26 hl (k := 0) rfl rfl (by decide) rfl (fun ls hl => ?_)
      refine lv_iload_n hx hb dJ6_numberOfTrailingZeros_0f7a4_29 rfl (lv_at hl 1 rfl) ?_
      refine lv_bipush (v := 16) hx hb dJ6_numberOfTrailingZeros_0f7a4_30 (by decide) ?_
      refine lv_iushr (v := (((x0 ^^^ (-1)) &&& (x0 - 1)).toUInt32 >>> ((16 : Int32).toUInt32 &&& Int32.toUInt32 31)).toInt32) hx hb dJ6_numberOfTrailingZeros_0f7a4_32 rfl ?_
      refine lv_istore_n (lv' := [(0, .int ((((x0 ^^^ (-1)) &&& (x0 - 1)).toUInt32 >>> ((16 : Int32).toUInt32 &&& Int32.toUInt32 31)).toInt32)), (1, .int (1 + 16))]) hx hb dJ6_numberOfTrailingZeros_0f7a4_33 rfl hl (by decide) rfl (fun ls hl => ?_)
      exact j34 ((((x0 ^^^ (-1)) &&& (x0 - 1)).toUInt32 >>> ((16 : Int32).toUInt32 &&& Int32.toUInt32 31)).toInt32) (1 + 16) h sz _ _ _ hf hs (lv_sub hl [0, 1] rfl)
  · rw [if_neg c4] at hf
    refine lv_iload_n hx hb dJ6_numberOfTrailingZeros_0f7a4_12 rfl (lv_at hl 0 rfl) ?_
    refine lv_bipush (v := 32) hx hb dJ6_numberOfTrailingZeros_0f7a4_13 (by decide) ?_
    refine lv_iand hx hb dJ6_numberOfTrailingZeros_0f7a4_15 ?_
    cases hf
    exact tk_iret hx hb hr hlocks hs dJ6_numberOfTrailingZeros_0f7a4_16
def fX4_lowestBit_12 (N : Nat) (y0 : Int32) (h : tk_AH) (sz : Nat) : Option (Int32 × tk_AH × Nat) :=
  some (y0, h, sz)
def fX4_lowestBit (N : Nat) (x0 : Int32) (h : tk_AH) (sz : Nat) : Option (Int32 × tk_AH × Nat) :=
  if x0 = 0 then (
  fX4_lowestBit_12 N (-1) h sz) else (
  (fJ6_numberOfTrailingZeros_0f7a4 N x0 h sz).bind fun o2 =>
  fX4_lowestBit_12 N o2.1 o2.2.1 o2.2.2)
set_option maxHeartbeats 8000000 in
set_option maxRecDepth 100000 in
theorem cX4_lowestBit_ok (l : Launch) (hl0 : l.stackTraces = false) (G : tk_AG) (N : Nat) (x0 : Int32) (h : tk_AH) (sz : Nat) (r9 : Int32) (h9 : tk_AH) (sz9 : Nat) (hf : fX4_lowestBit N x0 h sz = some (r9, h9, sz9)) : Met l yX4_lowestBit (coX4_lowestBit :: tk_W) ({ frames := 1, cells := 0, slots := 0, locals := 21 }) (tk_pc G [.int x0] h sz) (tk_qc G (some (.int r9)) h9 sz9) 0 0 (tk_ag G) := by
  refine Met.ofW (cc := cX4_lowestBit) (maxL := 1) (ret := (some .int)) (by decide) rfl ?_
  intro p e s m args below meth c s₁ B hml hv
  obtain ⟨hav, hE, hrp, hsz, hgs⟩ := hv
  have hx := B.exec
  have hb := B.bytes
  have hr := B.returns
  have hts := atoms_spec (ws := coX4_lowestBit :: tk_W) B.pre
  have ht : ∀ w ∈ tk_W, w.before args s = true := fun w h => hts w (List.mem_cons_of_mem _ h)
  have hown : s.vm.findClass RX4 = some m.cls := findClass_of_methodNamed B.named
  have hlocks := B.notSynchronized
  have hs : tk_sw G s h sz s.heap [] := ⟨hrp, hsz, by rw [hsz]; exact hgs, va_S.rf⟩
  have hl := lv_entry ([.int x0]) (n := 1) (Nat.le_of_ble_eq_true rfl)
  have hent : entryFrame m args 1 = F0 m 0 (lg_sl ([.int x0]) ++ List.replicate (1 - (lg_sl ([.int x0])).length) Slot.unset).toArray [] := by rw [hav, lg_entry_eq]
  rw [hent]
  clear hent
  generalize (lg_sl ([.int x0]) ++ List.replicate (1 - (lg_sl ([.int x0])).length) Slot.unset).toArray = ls at hl ⊢
  have hl : lv_has ls 1 [(0, .int x0)] := hl
  have j12 : ∀ (y0 : Int32) (h : tk_AH) (sz : Nat) (H : Heap) (locs : List Loc) (ls : Array Slot), fX4_lowestBit_12 N y0 h sz = some (r9, h9, sz9) → tk_sw G s h sz H locs → lv_has ls 1 [] → W p l e (headSpec (coX4_lowestBit :: tk_W) ({ frames := 1, cells := 0, slots := 0, locals := 21 })).room s m args below meth c H locs 0 (0) (MQ below (tk_qc G (some (.int r9)) h9 sz9) args s 0 0 (tk_ag G)) (F0 m 12 ls [.int y0]) := by
    intro y0 h sz H locs ls hf hs hl
    unfold fX4_lowestBit_12 at hf
    cases hf
    exact tk_iret hx hb hr hlocks hs dX4_lowestBit_12
  unfold fX4_lowestBit at hf
  refine lv_iload_n hx hb dX4_lowestBit_0 rfl (lv_at hl 0 rfl) ?_
  refine lv_if_ne (tgt := 8) hx hb dX4_lowestBit_1 (by decide) (fun c1 => ?_) (fun c1 => ?_)
  · rw [if_neg c1] at hf
    refine lv_iload_n hx hb dX4_lowestBit_8 rfl (lv_at hl 0 rfl) ?_
    obtain ⟨o2, e2, hf⟩ := tk_bi hf
    refine tk_call0 (v := some (.int o2.1)) hs (va_runS (As := [.int x0]) (rest := []) ⟨hx, hb, hml, hown, ht⟩ (cJ6_numberOfTrailingZeros_0f7a4_ok l hl0 G N x0 h sz o2.1 o2.2.1 o2.2.2 e2) (kwJ6_numberOfTrailingZeros_0f7a4 ht wmX4_256 rfl rfl ⟨Nat.le_of_ble_eq_true rfl, Nat.le_of_ble_eq_true rfl⟩) (tk_preS hE hs) rfl rfl hl.1 rfl (lv_room (Nat.le_of_ble_eq_true rfl)) dX4_lowestBit_9 ⟨(Nat.le_of_ble_eq_true rfl), (Nat.le_of_ble_eq_true rfl)⟩) (fun H locs hs => ?_)
    refine W.eq (g2 := F0 m 12 ls [.int o2.1]) rfl ?_
    exact j12 o2.1 o2.2.1 o2.2.2 _ _ _ hf hs (lv_sub hl [] rfl)
  · rw [if_pos c1] at hf
    refine lv_iconst (v := (-1)) hx hb dX4_lowestBit_4 (by decide) ?_
    refine lv_goto (tgt := 12) hx hb dX4_lowestBit_5 (by decide) ?_
    exact j12 (-1) h sz _ _ _ hf hs (lv_sub hl [] rfl)
def fX3_pairHours_23 (N : Nat) (h : tk_AH) (sz : Nat) : Option (Int32 × tk_AH × Nat) :=
  some ((-1), h, sz)
def fX3_pairHours (N : Nat) (x0 : Nat) (x1 : Int32) (x2 : Int32) (h : tk_AH) (sz : Nat) : Option (Int32 × tk_AH × Nat) :=
  if x2 ≤ x1 then (
  fX3_pairHours_23 N h sz) else (
  (tk_ok h 3 x0).bind fun _ =>
  (fX3_gives N x0 x1 x2 h sz).bind fun o2 =>
  if o2.1 = 0 then (
  fX3_pairHours_23 N o2.2.1 o2.2.2) else (
  (tk_ok o2.2.1 3 x0).bind fun _ =>
  (fX3_gives N x0 x2 x1 o2.2.1 o2.2.2).bind fun o5 =>
  if o5.1 = 0 then (
  fX3_pairHours_23 N o5.2.1 o5.2.2) else (
  (tk_ok o5.2.1 3 x0).bind fun _ =>
  (fX3_shared N x0 x1 x2 o5.2.1 o5.2.2).bind fun o8 =>
  (fX4_lowestBit N o8.1 o8.2.1 o8.2.2).bind fun o10 =>
  some (o10.1, o10.2.1, o10.2.2))))
set_option maxHeartbeats 8000000 in
set_option maxRecDepth 100000 in
theorem cX3_pairHours_ok (l : Launch) (hl0 : l.stackTraces = false) (G : tk_AG) (N : Nat) (x0 : Nat) (x1 : Int32) (x2 : Int32) (h : tk_AH) (sz : Nat) (r9 : Int32) (h9 : tk_AH) (sz9 : Nat) (hf : fX3_pairHours N x0 x1 x2 h sz = some (r9, h9, sz9)) : Met l yX3_pairHours (coX3_pairHours :: tk_W) ({ frames := 2, cells := 0, slots := 0, locals := 41 }) (tk_pc G [.ref x0, .int x1, .int x2] h sz) (tk_qc G (some (.int r9)) h9 sz9) 0 0 (tk_ag G) := by
  refine Met.ofW (cc := cX3_pairHours) (maxL := 3) (ret := (some .int)) (by decide) rfl ?_
  intro p e s m args below meth c s₁ B hml hv
  obtain ⟨hav, hE, hrp, hsz, hgs⟩ := hv
  have hx := B.exec
  have hb := B.bytes
  have hr := B.returns
  have hts := atoms_spec (ws := coX3_pairHours :: tk_W) B.pre
  have ht : ∀ w ∈ tk_W, w.before args s = true := fun w h => hts w (List.mem_cons_of_mem _ h)
  have hown : s.vm.findClass RX3 = some m.cls := findClass_of_methodNamed B.named
  have hlocks := B.notSynchronized
  have hs : tk_sw G s h sz s.heap [] := ⟨hrp, hsz, by rw [hsz]; exact hgs, va_S.rf⟩
  have hl := lv_entry ([.ref x0, .int x1, .int x2]) (n := 3) (Nat.le_of_ble_eq_true rfl)
  have hent : entryFrame m args 3 = F0 m 0 (lg_sl ([.ref x0, .int x1, .int x2]) ++ List.replicate (3 - (lg_sl ([.ref x0, .int x1, .int x2])).length) Slot.unset).toArray [] := by rw [hav, lg_entry_eq]
  rw [hent]
  clear hent
  generalize (lg_sl ([.ref x0, .int x1, .int x2]) ++ List.replicate (3 - (lg_sl ([.ref x0, .int x1, .int x2])).length) Slot.unset).toArray = ls at hl ⊢
  have hl : lv_has ls 3 [(0, .ref x0), (1, .int x1), (2, .int x2)] := hl
  have j23 : ∀ (h : tk_AH) (sz : Nat) (H : Heap) (locs : List Loc) (ls : Array Slot), fX3_pairHours_23 N h sz = some (r9, h9, sz9) → tk_sw G s h sz H locs → lv_has ls 3 [] → W p l e (headSpec (coX3_pairHours :: tk_W) ({ frames := 2, cells := 0, slots := 0, locals := 41 })).room s m args below meth c H locs 0 (0) (MQ below (tk_qc G (some (.int r9)) h9 sz9) args s 0 0 (tk_ag G)) (F0 m 23 ls []) := by
    intro h sz H locs ls hf hs hl
    unfold fX3_pairHours_23 at hf
    refine lv_iconst (v := (-1)) hx hb dX3_pairHours_23 (by decide) ?_
    cases hf
    exact tk_iret hx hb hr hlocks hs dX3_pairHours_24
  unfold fX3_pairHours at hf
  refine lv_iload_n hx hb dX3_pairHours_0 rfl (lv_at hl 2 rfl) ?_
  refine lv_iload_n hx hb dX3_pairHours_1 rfl (lv_at hl 1 rfl) ?_
  refine lv_icmp_le (tgt := 23) hx hb dX3_pairHours_2 (by decide) (fun c1 => ?_) (fun c1 => ?_)
  · rw [if_pos c1] at hf
    exact j23 h sz _ _ _ hf hs (lv_sub hl [] rfl)
  · rw [if_neg c1] at hf
    refine lv_aload_n hx hb dX3_pairHours_5 rfl (lv_at hl 0 rfl) ?_
    refine lv_iload_n hx hb dX3_pairHours_6 rfl (lv_at hl 1 rfl) ?_
    refine lv_iload_n hx hb dX3_pairHours_7 rfl (lv_at hl 2 rfl) ?_
    obtain ⟨_, p2, hf⟩ := tk_bi hf
    obtain ⟨o2, e2, hf⟩ := tk_bi hf
    refine tk_call0 (v := some (.int o2.1)) hs (va_runV (As := [.int x1, .int x2]) (rest := []) ⟨hx, hb, hml, hown, ht⟩ (cX3_gives_ok l hl0 G N x0 x1 x2 h sz o2.1 o2.2.1 o2.2.2 e2) (kwX3_gives ht wmX3_26 rfl rfl ⟨Nat.le_of_ble_eq_true rfl, Nat.le_of_ble_eq_true rfl⟩) (tk_preV hE hs (tk_ok_ok p2) rfl) rfl rfl hl.1 rfl (lv_room (Nat.le_of_ble_eq_true rfl)) dX3_pairHours_8 ⟨(Nat.le_of_ble_eq_true rfl), (Nat.le_of_ble_eq_true rfl)⟩) (fun H locs hs => ?_)
    refine W.eq (g2 := F0 m 11 ls [.int o2.1]) rfl ?_
    refine lv_if_eq (tgt := 23) hx hb dX3_pairHours_11 (by decide) (fun c4 => ?_) (fun c4 => ?_)
    · rw [if_pos c4] at hf
      exact j23 o2.2.1 o2.2.2 _ _ _ hf hs (lv_sub hl [] rfl)
    · rw [if_neg c4] at hf
      refine lv_aload_n hx hb dX3_pairHours_14 rfl (lv_at hl 0 rfl) ?_
      refine lv_iload_n hx hb dX3_pairHours_15 rfl (lv_at hl 2 rfl) ?_
      refine lv_iload_n hx hb dX3_pairHours_16 rfl (lv_at hl 1 rfl) ?_
      obtain ⟨_, p5, hf⟩ := tk_bi hf
      obtain ⟨o5, e5, hf⟩ := tk_bi hf
      refine tk_call0 (v := some (.int o5.1)) hs (va_runV (As := [.int x2, .int x1]) (rest := []) ⟨hx, hb, hml, hown, ht⟩ (cX3_gives_ok l hl0 G N x0 x2 x1 o2.2.1 o2.2.2 o5.1 o5.2.1 o5.2.2 e5) (kwX3_gives ht wmX3_26 rfl rfl ⟨Nat.le_of_ble_eq_true rfl, Nat.le_of_ble_eq_true rfl⟩) (tk_preV hE hs (tk_ok_ok p5) rfl) rfl rfl hl.1 rfl (lv_room (Nat.le_of_ble_eq_true rfl)) dX3_pairHours_17 ⟨(Nat.le_of_ble_eq_true rfl), (Nat.le_of_ble_eq_true rfl)⟩) (fun H locs hs => ?_)
      refine W.eq (g2 := F0 m 20 ls [.int o5.1]) rfl ?_
      refine lv_if_ne (tgt := 25) hx hb dX3_pairHours_20 (by decide) (fun c7 => ?_) (fun c7 => ?_)
      · rw [if_neg c7] at hf
        refine lv_aload_n hx hb dX3_pairHours_25 rfl (lv_at hl 0 rfl) ?_
        refine lv_iload_n hx hb dX3_pairHours_26 rfl (lv_at hl 1 rfl) ?_
        refine lv_iload_n hx hb dX3_pairHours_27 rfl (lv_at hl 2 rfl) ?_
        obtain ⟨_, p8, hf⟩ := tk_bi hf
        obtain ⟨o8, e8, hf⟩ := tk_bi hf
        refine tk_call0 (v := some (.int o8.1)) hs (va_runV (As := [.int x1, .int x2]) (rest := []) ⟨hx, hb, hml, hown, ht⟩ (cX3_shared_ok l hl0 G N x0 x1 x2 o5.2.1 o5.2.2 o8.1 o8.2.1 o8.2.2 e8) (kwX3_shared ht wmX3_30 rfl rfl ⟨Nat.le_of_ble_eq_true rfl, Nat.le_of_ble_eq_true rfl⟩) (tk_preV hE hs (tk_ok_ok p8) rfl) rfl rfl hl.1 rfl (lv_room (Nat.le_of_ble_eq_true rfl)) dX3_pairHours_28 ⟨(Nat.le_of_ble_eq_true rfl), (Nat.le_of_ble_eq_true rfl)⟩) (fun H locs hs => ?_)
        refine W.eq (g2 := F0 m 31 ls [.int o8.1]) rfl ?_
        obtain ⟨o10, e10, hf⟩ := tk_bi hf
        refine tk_call0 (v := some (.int o10.1)) hs (va_runSN (As := [.int o8.1]) (rest := []) ⟨hx, hb, hml, hown, ht⟩ (cX4_lowestBit_ok l hl0 G N o8.1 o8.2.1 o8.2.2 o10.1 o10.2.1 o10.2.2 e10) ⟨knX4_lowestBit (own := RX3) (index := 33) (host := "TongueSwap") ht (hE.2.2.1 _ (by decide +kernel)) rfl rfl ⟨Nat.le_of_ble_eq_true rfl, Nat.le_of_ble_eq_true rfl⟩, ht _ wtX4_lowestBit, trivial⟩ (tk_preS hE hs) rfl rfl hl.1 rfl (lv_room (Nat.le_of_ble_eq_true rfl)) dX3_pairHours_31 ⟨(Nat.le_of_ble_eq_true rfl), (Nat.le_of_ble_eq_true rfl)⟩) (fun H locs hs => ?_)
        refine W.eq (g2 := F0 m 34 ls [.int o10.1]) rfl ?_
        cases hf
        exact tk_iret hx hb hr hlocks hs dX3_pairHours_34
      · rw [if_pos c7] at hf
        exact j23 o5.2.1 o5.2.2 _ _ _ hf hs (lv_sub hl [] rfl)
def fX3_firstUnlikeHours_8 (N : Nat) (h : tk_AH) (sz : Nat) : Option (Int32 × tk_AH × Nat) :=
  some ((-1), h, sz)
def fX3_firstUnlikeHours_95 (N : Nat) (k12 : Int32 → Int32 → Int32 → Int32 → tk_AH → Nat → Option (Int32 × tk_AH × Nat)) (x0 : Int32) (x1 : Int32) (x2 : Int32) (x3 : Int32) (h : tk_AH) (sz : Nat) : Option (Int32 × tk_AH × Nat) :=
  k12 x0 x1 x2 (x3 + 1) h sz
def fX3_firstUnlikeHours_89 (N : Nat) (k32 : Int32 → Int32 → Int32 → Int32 → Int32 → tk_AH → Nat → Option (Int32 × tk_AH × Nat)) (x0 : Int32) (x1 : Int32) (x2 : Int32) (x3 : Int32) (x4 : Int32) (h : tk_AH) (sz : Nat) : Option (Int32 × tk_AH × Nat) :=
  k32 x0 x1 x2 x3 (x4 + 1) h sz
def fX3_firstUnlikeHours_32 (N : Nat) (k95 : Int32 → Int32 → Int32 → Int32 → tk_AH → Nat → Option (Int32 × tk_AH × Nat)) : Nat → Int32 → Int32 → Int32 → Int32 → Int32 → tk_AH → Nat → Option (Int32 × tk_AH × Nat)
  | 0, _, _, _, _, _, _, _ => none
  | n + 1, x0, x1, x2, x3, x4, h, sz =>
  if 24 ≤ x4 then (
  k95 x0 x1 x2 x3 h sz) else (
  if x4 = x3 then (
  fX3_firstUnlikeHours_89 N (fX3_firstUnlikeHours_32 N k95 n) x0 x1 x2 x3 x4 h sz) else (
  if ((x1 >>> (x4 &&& 31)) &&& 1) = 0 then (
  fX3_firstUnlikeHours_89 N (fX3_firstUnlikeHours_32 N k95 n) x0 x1 x2 x3 x4 h sz) else (
  if (x2 &&& (((1 <<< (x3 &&& 31)) ||| (1 <<< (x4 &&& 31))) ^^^ (-1))) = 0 then (
  fX3_firstUnlikeHours_89 N (fX3_firstUnlikeHours_32 N k95 n) x0 x1 x2 x3 x4 h sz) else (
  (fX4_lowestBit N (x2 &&& (((1 <<< (x3 &&& 31)) ||| (1 <<< (x4 &&& 31))) ^^^ (-1))) h sz).bind fun o5 =>
  some ((x3 ||| (x4 <<< (5 &&& 31))) ||| (o5.1 <<< (10 &&& 31)), o5.2.1, o5.2.2)))))
def fX3_firstUnlikeHours_12 (N : Nat) : Nat → Int32 → Int32 → Int32 → Int32 → tk_AH → Nat → Option (Int32 × tk_AH × Nat)
  | 0, _, _, _, _, _, _ => none
  | n + 1, x0, x1, x2, x3, h, sz =>
  if 24 ≤ x3 then (
  some ((-1), h, sz)) else (
  if ((x0 >>> (x3 &&& 31)) &&& 1) = 0 then (
  fX3_firstUnlikeHours_95 N (fX3_firstUnlikeHours_12 N n) x0 x1 x2 x3 h sz) else (
  fX3_firstUnlikeHours_32 N (fX3_firstUnlikeHours_95 N (fX3_firstUnlikeHours_12 N n)) N x0 x1 x2 x3 0 h sz))
def fX3_firstUnlikeHours (N : Nat) (x0 : Int32) (x1 : Int32) (x2 : Int32) (h : tk_AH) (sz : Nat) : Option (Int32 × tk_AH × Nat) :=
  if x1 = 0 then (
  fX3_firstUnlikeHours_8 N h sz) else (
  if x2 = 0 then (
  fX3_firstUnlikeHours_8 N h sz) else (
  fX3_firstUnlikeHours_12 N N x0 x1 x2 0 h sz))
set_option maxHeartbeats 8000000 in
set_option maxRecDepth 100000 in
theorem cX3_firstUnlikeHours_ok (l : Launch) (hl0 : l.stackTraces = false) (G : tk_AG) (N : Nat) (x0 : Int32) (x1 : Int32) (x2 : Int32) (h : tk_AH) (sz : Nat) (r9 : Int32) (h9 : tk_AH) (sz9 : Nat) (hf : fX3_firstUnlikeHours N x0 x1 x2 h sz = some (r9, h9, sz9)) : Met l yX3_firstUnlikeHours (coX3_firstUnlikeHours :: tk_W) ({ frames := 2, cells := 0, slots := 0, locals := 41 }) (tk_pc G [.int x0, .int x1, .int x2] h sz) (tk_qc G (some (.int r9)) h9 sz9) 0 0 (tk_ag G) := by
  refine Met.ofW (cc := cX3_firstUnlikeHours) (maxL := 6) (ret := (some .int)) (by decide) rfl ?_
  intro p e s m args below meth c s₁ B hml hv
  obtain ⟨hav, hE, hrp, hsz, hgs⟩ := hv
  have hx := B.exec
  have hb := B.bytes
  have hr := B.returns
  have hts := atoms_spec (ws := coX3_firstUnlikeHours :: tk_W) B.pre
  have ht : ∀ w ∈ tk_W, w.before args s = true := fun w h => hts w (List.mem_cons_of_mem _ h)
  have hown : s.vm.findClass RX3 = some m.cls := findClass_of_methodNamed B.named
  have hlocks := B.notSynchronized
  have hs : tk_sw G s h sz s.heap [] := ⟨hrp, hsz, by rw [hsz]; exact hgs, va_S.rf⟩
  have hl := lv_entry ([.int x0, .int x1, .int x2]) (n := 6) (Nat.le_of_ble_eq_true rfl)
  have hent : entryFrame m args 6 = F0 m 0 (lg_sl ([.int x0, .int x1, .int x2]) ++ List.replicate (6 - (lg_sl ([.int x0, .int x1, .int x2])).length) Slot.unset).toArray [] := by rw [hav, lg_entry_eq]
  rw [hent]
  clear hent
  generalize (lg_sl ([.int x0, .int x1, .int x2]) ++ List.replicate (6 - (lg_sl ([.int x0, .int x1, .int x2])).length) Slot.unset).toArray = ls at hl ⊢
  have hl : lv_has ls 6 [(0, .int x0), (1, .int x1), (2, .int x2)] := hl
  have j8 : ∀ (h : tk_AH) (sz : Nat) (H : Heap) (locs : List Loc) (ls : Array Slot), fX3_firstUnlikeHours_8 N h sz = some (r9, h9, sz9) → tk_sw G s h sz H locs → lv_has ls 6 [] → W p l e (headSpec (coX3_firstUnlikeHours :: tk_W) ({ frames := 2, cells := 0, slots := 0, locals := 41 })).room s m args below meth c H locs 0 (0) (MQ below (tk_qc G (some (.int r9)) h9 sz9) args s 0 0 (tk_ag G)) (F0 m 8 ls []) := by
    intro h sz H locs ls hf hs hl
    unfold fX3_firstUnlikeHours_8 at hf
    refine lv_iconst (v := (-1)) hx hb dX3_firstUnlikeHours_8 (by decide) ?_
    cases hf
    exact tk_iret hx hb hr hlocks hs dX3_firstUnlikeHours_9
  have j95 : ∀ (k12 : Int32 → Int32 → Int32 → Int32 → tk_AH → Nat → Option (Int32 × tk_AH × Nat)), (∀ (x0 : Int32) (x1 : Int32) (x2 : Int32) (x3 : Int32) (h : tk_AH) (sz : Nat) (H : Heap) (locs : List Loc) (ls : Array Slot), k12 x0 x1 x2 x3 h sz = some (r9, h9, sz9) → tk_sw G s h sz H locs → lv_has ls 6 [(0, .int x0), (1, .int x1), (2, .int x2), (3, .int x3)] → W p l e (headSpec (coX3_firstUnlikeHours :: tk_W) ({ frames := 2, cells := 0, slots := 0, locals := 41 })).room s m args below meth c H locs 0 (0) (MQ below (tk_qc G (some (.int r9)) h9 sz9) args s 0 0 (tk_ag G)) (F0 m 12 ls [])) → ∀ (x0 : Int32) (x1 : Int32) (x2 : Int32) (x3 : Int32) (h : tk_AH) (sz : Nat) (H : Heap) (locs : List Loc) (ls : Array Slot), fX3_firstUnlikeHours_95 N k12 x0 x1 x2 x3 h sz = some (r9, h9, sz9) → tk_sw G s h sz H locs → lv_has ls 6 [(0, .int x0), (1, .int x1), (2, .int x2), (3, .int x3)] → W p l e (headSpec (coX3_firstUnlikeHours :: tk_W) ({ frames := 2, cells := 0, slots := 0, locals := 41 })).room s m args below meth c H locs 0 (0) (MQ below (tk_qc G (some (.int r9)) h9 sz9) args s 0 0 (tk_ag G)) (F0 m 95 ls []) := by
    intro k12 hk12 x0 x1 x2 x3 h sz H locs ls hf hs hl
    unfold fX3_firstUnlikeHours_95 at hf
    refine lv_iinc (v := x3 + 1) (lv' := [(3, .int (x3 + 1)), (0, .int x0), (1, .int x1), (2, .int x2)]) hx hb dX3_firstUnlikeHours_95 hl (k := 3) rfl rfl (by decide) rfl (fun ls hl => ?_)
    refine lv_goto (tgt := 12) hx hb dX3_firstUnlikeHours_98 (by decide) ?_
    exact hk12 x0 x1 x2 (x3 + 1) h sz _ _ _ hf hs (lv_sub hl [1, 2, 3, 0] rfl)
  have j89 : ∀ (k32 : Int32 → Int32 → Int32 → Int32 → Int32 → tk_AH → Nat → Option (Int32 × tk_AH × Nat)), (∀ (x0 : Int32) (x1 : Int32) (x2 : Int32) (x3 : Int32) (x4 : Int32) (h : tk_AH) (sz : Nat) (H : Heap) (locs : List Loc) (ls : Array Slot), k32 x0 x1 x2 x3 x4 h sz = some (r9, h9, sz9) → tk_sw G s h sz H locs → lv_has ls 6 [(0, .int x0), (1, .int x1), (2, .int x2), (3, .int x3), (4, .int x4)] → W p l e (headSpec (coX3_firstUnlikeHours :: tk_W) ({ frames := 2, cells := 0, slots := 0, locals := 41 })).room s m args below meth c H locs 0 (0) (MQ below (tk_qc G (some (.int r9)) h9 sz9) args s 0 0 (tk_ag G)) (F0 m 32 ls [])) → ∀ (x0 : Int32) (x1 : Int32) (x2 : Int32) (x3 : Int32) (x4 : Int32) (h : tk_AH) (sz : Nat) (H : Heap) (locs : List Loc) (ls : Array Slot), fX3_firstUnlikeHours_89 N k32 x0 x1 x2 x3 x4 h sz = some (r9, h9, sz9) → tk_sw G s h sz H locs → lv_has ls 6 [(0, .int x0), (1, .int x1), (2, .int x2), (3, .int x3), (4, .int x4)] → W p l e (headSpec (coX3_firstUnlikeHours :: tk_W) ({ frames := 2, cells := 0, slots := 0, locals := 41 })).room s m args below meth c H locs 0 (0) (MQ below (tk_qc G (some (.int r9)) h9 sz9) args s 0 0 (tk_ag G)) (F0 m 89 ls []) := by
    intro k32 hk32 x0 x1 x2 x3 x4 h sz H locs ls hf hs hl
    unfold fX3_firstUnlikeHours_89 at hf
    refine lv_iinc (v := x4 + 1) (lv' := [(4, .int (x4 + 1)), (0, .int x0), (1, .int x1), (2, .int x2), (3, .int x3)]) hx hb dX3_firstUnlikeHours_89 hl (k := 4) rfl rfl (by decide) rfl (fun ls hl => ?_)
    refine lv_goto (tgt := 32) hx hb dX3_firstUnlikeHours_92 (by decide) ?_
    exact hk32 x0 x1 x2 x3 (x4 + 1) h sz _ _ _ hf hs (lv_sub hl [1, 2, 3, 4, 0] rfl)
  have j32 : ∀ (k95 : Int32 → Int32 → Int32 → Int32 → tk_AH → Nat → Option (Int32 × tk_AH × Nat)), (∀ (x0 : Int32) (x1 : Int32) (x2 : Int32) (x3 : Int32) (h : tk_AH) (sz : Nat) (H : Heap) (locs : List Loc) (ls : Array Slot), k95 x0 x1 x2 x3 h sz = some (r9, h9, sz9) → tk_sw G s h sz H locs → lv_has ls 6 [(0, .int x0), (1, .int x1), (2, .int x2), (3, .int x3)] → W p l e (headSpec (coX3_firstUnlikeHours :: tk_W) ({ frames := 2, cells := 0, slots := 0, locals := 41 })).room s m args below meth c H locs 0 (0) (MQ below (tk_qc G (some (.int r9)) h9 sz9) args s 0 0 (tk_ag G)) (F0 m 95 ls [])) → ∀ (n : Nat), ∀ (x0 : Int32) (x1 : Int32) (x2 : Int32) (x3 : Int32) (x4 : Int32) (h : tk_AH) (sz : Nat) (H : Heap) (locs : List Loc) (ls : Array Slot), fX3_firstUnlikeHours_32 N k95 n x0 x1 x2 x3 x4 h sz = some (r9, h9, sz9) → tk_sw G s h sz H locs → lv_has ls 6 [(0, .int x0), (1, .int x1), (2, .int x2), (3, .int x3), (4, .int x4)] → W p l e (headSpec (coX3_firstUnlikeHours :: tk_W) ({ frames := 2, cells := 0, slots := 0, locals := 41 })).room s m args below meth c H locs 0 (0) (MQ below (tk_qc G (some (.int r9)) h9 sz9) args s 0 0 (tk_ag G)) (F0 m 32 ls []) := by
    intro k95 hk95 n
    induction n with
    | zero =>
      intro x0 x1 x2 x3 x4 h sz H locs ls hf
      cases hf
    | succ n ih =>
      intro x0 x1 x2 x3 x4 h sz H locs ls hf hs hl
      rw [fX3_firstUnlikeHours_32] at hf
      refine lv_iload hx hb dX3_firstUnlikeHours_32 (lv_at hl 4 rfl) ?_
      refine lv_bipush (v := 24) hx hb dX3_firstUnlikeHours_34 (by decide) ?_
      refine lv_icmp_ge (tgt := 95) hx hb dX3_firstUnlikeHours_36 (by decide) (fun c1 => ?_) (fun c1 => ?_)
      · rw [if_pos c1] at hf
        exact hk95 x0 x1 x2 x3 h sz _ _ _ hf hs (lv_sub hl [0, 1, 2, 3] rfl)
      · rw [if_neg c1] at hf
        refine lv_iload_n hx hb dX3_firstUnlikeHours_39 rfl (lv_at hl 2 rfl) ?_
        refine lv_iconst (v := 1) hx hb dX3_firstUnlikeHours_40 (by decide) ?_
        refine lv_iload_n hx hb dX3_firstUnlikeHours_41 rfl (lv_at hl 3 rfl) ?_
        refine lv_ishl hx hb dX3_firstUnlikeHours_42 ?_
        refine lv_iconst (v := 1) hx hb dX3_firstUnlikeHours_43 (by decide) ?_
        refine lv_iload hx hb dX3_firstUnlikeHours_44 (lv_at hl 4 rfl) ?_
        refine lv_ishl hx hb dX3_firstUnlikeHours_46 ?_
        refine lv_ior hx hb dX3_firstUnlikeHours_47 ?_
        refine lv_iconst (v := (-1)) hx hb dX3_firstUnlikeHours_48 (by decide) ?_
        refine lv_ixor hx hb dX3_firstUnlikeHours_49 ?_
        refine lv_iand hx hb dX3_firstUnlikeHours_50 ?_
        refine lv_istore (lv' := [(5, .int (x2 &&& (((1 <<< (x3 &&& 31)) ||| (1 <<< (x4 &&& 31))) ^^^ (-1)))), (0, .int x0), (1, .int x1), (2, .int x2), (3, .int x3), (4, .int x4)]) hx hb dX3_firstUnlikeHours_51 hl (by decide) rfl (fun ls hl => ?_)
        refine lv_iload hx hb dX3_firstUnlikeHours_53 (lv_at hl 5 rfl) ?_
        refine lv_iload_n hx hb dX3_firstUnlikeHours_55 rfl (lv_at hl 4 rfl) ?_
        refine lv_icmp_eq (tgt := 89) hx hb dX3_firstUnlikeHours_56 (by decide) (fun c2 => ?_) (fun c2 => ?_)
        · rw [if_pos c2] at hf
          exact j89 (fX3_firstUnlikeHours_32 N k95 n) ih x0 x1 x2 x3 x4 h sz _ _ _ hf hs (lv_sub hl [1, 2, 3, 4, 5] rfl)
        · rw [if_neg c2] at hf
          refine lv_iload_n hx hb dX3_firstUnlikeHours_59 rfl (lv_at hl 2 rfl) ?_
          refine lv_iload hx hb dX3_firstUnlikeHours_60 (lv_at hl 5 rfl) ?_
          refine lv_ishr hx hb dX3_firstUnlikeHours_62 ?_
          refine lv_iconst (v := 1) hx hb dX3_firstUnlikeHours_63 (by decide) ?_
          refine lv_iand hx hb dX3_firstUnlikeHours_64 ?_
          refine lv_if_eq (tgt := 89) hx hb dX3_firstUnlikeHours_65 (by decide) (fun c3 => ?_) (fun c3 => ?_)
          · rw [if_pos c3] at hf
            exact j89 (fX3_firstUnlikeHours_32 N k95 n) ih x0 x1 x2 x3 x4 h sz _ _ _ hf hs (lv_sub hl [1, 2, 3, 4, 5] rfl)
          · rw [if_neg c3] at hf
            refine lv_iload hx hb dX3_firstUnlikeHours_68 (lv_at hl 0 rfl) ?_
            refine lv_if_eq (tgt := 89) hx hb dX3_firstUnlikeHours_70 (by decide) (fun c4 => ?_) (fun c4 => ?_)
            · rw [if_pos c4] at hf
              exact j89 (fX3_firstUnlikeHours_32 N k95 n) ih x0 x1 x2 x3 x4 h sz _ _ _ hf hs (lv_sub hl [1, 2, 3, 4, 5] rfl)
            · rw [if_neg c4] at hf
              refine lv_iload_n hx hb dX3_firstUnlikeHours_73 rfl (lv_at hl 4 rfl) ?_
              refine lv_iload hx hb dX3_firstUnlikeHours_74 (lv_at hl 5 rfl) ?_
              refine lv_iconst (v := 5) hx hb dX3_firstUnlikeHours_76 (by decide) ?_
              refine lv_ishl hx hb dX3_firstUnlikeHours_77 ?_
              refine lv_ior hx hb dX3_firstUnlikeHours_78 ?_
              refine lv_iload hx hb dX3_firstUnlikeHours_79 (lv_at hl 0 rfl) ?_
              obtain ⟨o5, e5, hf⟩ := tk_bi hf
              refine tk_call0 (v := some (.int o5.1)) hs (va_runSN (As := [.int (x2 &&& (((1 <<< (x3 &&& 31)) ||| (1 <<< (x4 &&& 31))) ^^^ (-1)))]) (rest := [.int (x3 ||| (x4 <<< (5 &&& 31)))]) ⟨hx, hb, hml, hown, ht⟩ (cX4_lowestBit_ok l hl0 G N (x2 &&& (((1 <<< (x3 &&& 31)) ||| (1 <<< (x4 &&& 31))) ^^^ (-1))) h sz o5.1 o5.2.1 o5.2.2 e5) ⟨knX4_lowestBit (own := RX3) (index := 33) (host := "TongueSwap") ht (hE.2.2.1 _ (by decide +kernel)) rfl rfl ⟨Nat.le_of_ble_eq_true rfl, Nat.le_of_ble_eq_true rfl⟩, ht _ wtX4_lowestBit, trivial⟩ (tk_preS hE hs) rfl rfl hl.1 rfl (lv_room (Nat.le_of_ble_eq_true rfl)) dX3_firstUnlikeHours_81 ⟨(Nat.le_of_ble_eq_true rfl), (Nat.le_of_ble_eq_true rfl)⟩) (fun H locs hs => ?_)
              refine W.eq (g2 := F0 m 84 ls [.int o5.1, .int (x3 ||| (x4 <<< (5 &&& 31)))]) rfl ?_
              refine lv_bipush (v := 10) hx hb dX3_firstUnlikeHours_84 (by decide) ?_
              refine lv_ishl hx hb dX3_firstUnlikeHours_86 ?_
              refine lv_ior hx hb dX3_firstUnlikeHours_87 ?_
              cases hf
              exact tk_iret hx hb hr hlocks hs dX3_firstUnlikeHours_88
  have j12 : ∀ (n : Nat), ∀ (x0 : Int32) (x1 : Int32) (x2 : Int32) (x3 : Int32) (h : tk_AH) (sz : Nat) (H : Heap) (locs : List Loc) (ls : Array Slot), fX3_firstUnlikeHours_12 N n x0 x1 x2 x3 h sz = some (r9, h9, sz9) → tk_sw G s h sz H locs → lv_has ls 6 [(0, .int x0), (1, .int x1), (2, .int x2), (3, .int x3)] → W p l e (headSpec (coX3_firstUnlikeHours :: tk_W) ({ frames := 2, cells := 0, slots := 0, locals := 41 })).room s m args below meth c H locs 0 (0) (MQ below (tk_qc G (some (.int r9)) h9 sz9) args s 0 0 (tk_ag G)) (F0 m 12 ls []) := by
    intro n
    induction n with
    | zero =>
      intro x0 x1 x2 x3 h sz H locs ls hf
      cases hf
    | succ n ih =>
      intro x0 x1 x2 x3 h sz H locs ls hf hs hl
      rw [fX3_firstUnlikeHours_12] at hf
      refine lv_iload_n hx hb dX3_firstUnlikeHours_12 rfl (lv_at hl 3 rfl) ?_
      refine lv_bipush (v := 24) hx hb dX3_firstUnlikeHours_13 (by decide) ?_
      refine lv_icmp_ge (tgt := 101) hx hb dX3_firstUnlikeHours_15 (by decide) (fun c6 => ?_) (fun c6 => ?_)
      · rw [if_pos c6] at hf
        refine lv_iconst (v := (-1)) hx hb dX3_firstUnlikeHours_101 (by decide) ?_
        cases hf
        exact tk_iret hx hb hr hlocks hs dX3_firstUnlikeHours_102
      · rw [if_neg c6] at hf
        refine lv_iload_n hx hb dX3_firstUnlikeHours_18 rfl (lv_at hl 0 rfl) ?_
        refine lv_iload_n hx hb dX3_firstUnlikeHours_19 rfl (lv_at hl 3 rfl) ?_
        refine lv_ishr hx hb dX3_firstUnlikeHours_20 ?_
        refine lv_iconst (v := 1) hx hb dX3_firstUnlikeHours_21 (by decide) ?_
        refine lv_iand hx hb dX3_firstUnlikeHours_22 ?_
        refine lv_if_ne (tgt := 29) hx hb dX3_firstUnlikeHours_23 (by decide) (fun c7 => ?_) (fun c7 => ?_)
        · rw [if_neg c7] at hf
          refine lv_iconst (v := 0) hx hb dX3_firstUnlikeHours_29 (by decide) ?_
          refine lv_istore (lv' := [(4, .int 0), (0, .int x0), (1, .int x1), (2, .int x2), (3, .int x3)]) hx hb dX3_firstUnlikeHours_30 hl (by decide) rfl (fun ls hl => ?_)
          exact j32 (fX3_firstUnlikeHours_95 N (fX3_firstUnlikeHours_12 N n)) (j95 (fX3_firstUnlikeHours_12 N n) ih) N x0 x1 x2 x3 0 h sz _ _ _ hf hs (lv_sub hl [1, 2, 3, 4, 0] rfl)
        · rw [if_pos c7] at hf
          refine lv_goto (tgt := 95) hx hb dX3_firstUnlikeHours_26 (by decide) ?_
          exact j95 (fX3_firstUnlikeHours_12 N n) ih x0 x1 x2 x3 h sz _ _ _ hf hs (lv_sub hl [0, 1, 2, 3] rfl)
  unfold fX3_firstUnlikeHours at hf
  refine lv_iload_n hx hb dX3_firstUnlikeHours_0 rfl (lv_at hl 1 rfl) ?_
  refine lv_if_eq (tgt := 8) hx hb dX3_firstUnlikeHours_1 (by decide) (fun c8 => ?_) (fun c8 => ?_)
  · rw [if_pos c8] at hf
    exact j8 h sz _ _ _ hf hs (lv_sub hl [] rfl)
  · rw [if_neg c8] at hf
    refine lv_iload_n hx hb dX3_firstUnlikeHours_4 rfl (lv_at hl 2 rfl) ?_
    refine lv_if_ne (tgt := 10) hx hb dX3_firstUnlikeHours_5 (by decide) (fun c9 => ?_) (fun c9 => ?_)
    · rw [if_neg c9] at hf
      refine lv_iconst (v := 0) hx hb dX3_firstUnlikeHours_10 (by decide) ?_
      refine lv_istore_n (lv' := [(3, .int 0), (0, .int x0), (1, .int x1), (2, .int x2)]) hx hb dX3_firstUnlikeHours_11 rfl hl (by decide) rfl (fun ls hl => ?_)
      exact j12 N x0 x1 x2 0 h sz _ _ _ hf hs (lv_sub hl [1, 2, 3, 0] rfl)
    · rw [if_pos c9] at hf
      exact j8 h sz _ _ _ hf hs (lv_sub hl [] rfl)
def fX3_tripleHours_15 (N : Nat) (h : tk_AH) (sz : Nat) : Option (Int32 × tk_AH × Nat) :=
  some ((-1), h, sz)
def fX3_tripleHours_44 (N : Nat) (h : tk_AH) (sz : Nat) : Option (Int32 × tk_AH × Nat) :=
  some ((-1), h, sz)
def fX3_tripleHours (N : Nat) (x0 : Nat) (x1 : Int32) (x2 : Int32) (x3 : Int32) (h : tk_AH) (sz : Nat) : Option (Int32 × tk_AH × Nat) :=
  if x2 ≤ x1 then (
  fX3_tripleHours_15 N h sz) else (
  if x3 ≤ x1 then (
  fX3_tripleHours_15 N h sz) else (
  if x2 = x3 then (
  fX3_tripleHours_15 N h sz) else (
  (tk_ok h 3 x0).bind fun _ =>
  (fX3_gives N x0 x1 x2 h sz).bind fun o4 =>
  if o4.1 = 0 then (
  fX3_tripleHours_44 N o4.2.1 o4.2.2) else (
  (tk_ok o4.2.1 3 x0).bind fun _ =>
  (fX3_gives N x0 x2 x3 o4.2.1 o4.2.2).bind fun o7 =>
  if o7.1 = 0 then (
  fX3_tripleHours_44 N o7.2.1 o7.2.2) else (
  (tk_ok o7.2.1 3 x0).bind fun _ =>
  (fX3_gives N x0 x3 x1 o7.2.1 o7.2.2).bind fun o10 =>
  if o10.1 = 0 then (
  fX3_tripleHours_44 N o10.2.1 o10.2.2) else (
  (tk_ok o10.2.1 3 x0).bind fun _ =>
  (fX3_shared N x0 x1 x2 o10.2.1 o10.2.2).bind fun o13 =>
  (tk_ok o13.2.1 3 x0).bind fun _ =>
  (fX3_shared N x0 x2 x3 o13.2.1 o13.2.2).bind fun o15 =>
  (tk_ok o15.2.1 3 x0).bind fun _ =>
  (fX3_shared N x0 x3 x1 o15.2.1 o15.2.2).bind fun o17 =>
  (fX3_firstUnlikeHours N o13.1 o15.1 o17.1 o17.2.1 o17.2.2).bind fun o19 =>
  some (o19.1, o19.2.1, o19.2.2)))))))
set_option maxHeartbeats 8000000 in
set_option maxRecDepth 100000 in
theorem cX3_tripleHours_ok (l : Launch) (hl0 : l.stackTraces = false) (G : tk_AG) (N : Nat) (x0 : Nat) (x1 : Int32) (x2 : Int32) (x3 : Int32) (h : tk_AH) (sz : Nat) (r9 : Int32) (h9 : tk_AH) (sz9 : Nat) (hf : fX3_tripleHours N x0 x1 x2 x3 h sz = some (r9, h9, sz9)) : Met l yX3_tripleHours (coX3_tripleHours :: tk_W) ({ frames := 3, cells := 0, slots := 0, locals := 66 }) (tk_pc G [.ref x0, .int x1, .int x2, .int x3] h sz) (tk_qc G (some (.int r9)) h9 sz9) 0 0 (tk_ag G) := by
  refine Met.ofW (cc := cX3_tripleHours) (maxL := 4) (ret := (some .int)) (by decide) rfl ?_
  intro p e s m args below meth c s₁ B hml hv
  obtain ⟨hav, hE, hrp, hsz, hgs⟩ := hv
  have hx := B.exec
  have hb := B.bytes
  have hr := B.returns
  have hts := atoms_spec (ws := coX3_tripleHours :: tk_W) B.pre
  have ht : ∀ w ∈ tk_W, w.before args s = true := fun w h => hts w (List.mem_cons_of_mem _ h)
  have hown : s.vm.findClass RX3 = some m.cls := findClass_of_methodNamed B.named
  have hlocks := B.notSynchronized
  have hs : tk_sw G s h sz s.heap [] := ⟨hrp, hsz, by rw [hsz]; exact hgs, va_S.rf⟩
  have hl := lv_entry ([.ref x0, .int x1, .int x2, .int x3]) (n := 4) (Nat.le_of_ble_eq_true rfl)
  have hent : entryFrame m args 4 = F0 m 0 (lg_sl ([.ref x0, .int x1, .int x2, .int x3]) ++ List.replicate (4 - (lg_sl ([.ref x0, .int x1, .int x2, .int x3])).length) Slot.unset).toArray [] := by rw [hav, lg_entry_eq]
  rw [hent]
  clear hent
  generalize (lg_sl ([.ref x0, .int x1, .int x2, .int x3]) ++ List.replicate (4 - (lg_sl ([.ref x0, .int x1, .int x2, .int x3])).length) Slot.unset).toArray = ls at hl ⊢
  have hl : lv_has ls 4 [(0, .ref x0), (1, .int x1), (2, .int x2), (3, .int x3)] := hl
  have j15 : ∀ (h : tk_AH) (sz : Nat) (H : Heap) (locs : List Loc) (ls : Array Slot), fX3_tripleHours_15 N h sz = some (r9, h9, sz9) → tk_sw G s h sz H locs → lv_has ls 4 [] → W p l e (headSpec (coX3_tripleHours :: tk_W) ({ frames := 3, cells := 0, slots := 0, locals := 66 })).room s m args below meth c H locs 0 (0) (MQ below (tk_qc G (some (.int r9)) h9 sz9) args s 0 0 (tk_ag G)) (F0 m 15 ls []) := by
    intro h sz H locs ls hf hs hl
    unfold fX3_tripleHours_15 at hf
    refine lv_iconst (v := (-1)) hx hb dX3_tripleHours_15 (by decide) ?_
    cases hf
    exact tk_iret hx hb hr hlocks hs dX3_tripleHours_16
  have j44 : ∀ (h : tk_AH) (sz : Nat) (H : Heap) (locs : List Loc) (ls : Array Slot), fX3_tripleHours_44 N h sz = some (r9, h9, sz9) → tk_sw G s h sz H locs → lv_has ls 4 [] → W p l e (headSpec (coX3_tripleHours :: tk_W) ({ frames := 3, cells := 0, slots := 0, locals := 66 })).room s m args below meth c H locs 0 (0) (MQ below (tk_qc G (some (.int r9)) h9 sz9) args s 0 0 (tk_ag G)) (F0 m 44 ls []) := by
    intro h sz H locs ls hf hs hl
    unfold fX3_tripleHours_44 at hf
    refine lv_iconst (v := (-1)) hx hb dX3_tripleHours_44 (by decide) ?_
    cases hf
    exact tk_iret hx hb hr hlocks hs dX3_tripleHours_45
  unfold fX3_tripleHours at hf
  refine lv_iload_n hx hb dX3_tripleHours_0 rfl (lv_at hl 2 rfl) ?_
  refine lv_iload_n hx hb dX3_tripleHours_1 rfl (lv_at hl 1 rfl) ?_
  refine lv_icmp_le (tgt := 15) hx hb dX3_tripleHours_2 (by decide) (fun c1 => ?_) (fun c1 => ?_)
  · rw [if_pos c1] at hf
    exact j15 h sz _ _ _ hf hs (lv_sub hl [] rfl)
  · rw [if_neg c1] at hf
    refine lv_iload_n hx hb dX3_tripleHours_5 rfl (lv_at hl 3 rfl) ?_
    refine lv_iload_n hx hb dX3_tripleHours_6 rfl (lv_at hl 1 rfl) ?_
    refine lv_icmp_le (tgt := 15) hx hb dX3_tripleHours_7 (by decide) (fun c2 => ?_) (fun c2 => ?_)
    · rw [if_pos c2] at hf
      exact j15 h sz _ _ _ hf hs (lv_sub hl [] rfl)
    · rw [if_neg c2] at hf
      refine lv_iload_n hx hb dX3_tripleHours_10 rfl (lv_at hl 2 rfl) ?_
      refine lv_iload_n hx hb dX3_tripleHours_11 rfl (lv_at hl 3 rfl) ?_
      refine lv_icmp_ne (tgt := 17) hx hb dX3_tripleHours_12 (by decide) (fun c3 => ?_) (fun c3 => ?_)
      · rw [if_neg c3] at hf
        refine lv_aload_n hx hb dX3_tripleHours_17 rfl (lv_at hl 0 rfl) ?_
        refine lv_iload_n hx hb dX3_tripleHours_18 rfl (lv_at hl 1 rfl) ?_
        refine lv_iload_n hx hb dX3_tripleHours_19 rfl (lv_at hl 2 rfl) ?_
        obtain ⟨_, p4, hf⟩ := tk_bi hf
        obtain ⟨o4, e4, hf⟩ := tk_bi hf
        refine tk_call0 (v := some (.int o4.1)) hs (va_runV (As := [.int x1, .int x2]) (rest := []) ⟨hx, hb, hml, hown, ht⟩ (cX3_gives_ok l hl0 G N x0 x1 x2 h sz o4.1 o4.2.1 o4.2.2 e4) (kwX3_gives ht wmX3_26 rfl rfl ⟨Nat.le_of_ble_eq_true rfl, Nat.le_of_ble_eq_true rfl⟩) (tk_preV hE hs (tk_ok_ok p4) rfl) rfl rfl hl.1 rfl (lv_room (Nat.le_of_ble_eq_true rfl)) dX3_tripleHours_20 ⟨(Nat.le_of_ble_eq_true rfl), (Nat.le_of_ble_eq_true rfl)⟩) (fun H locs hs => ?_)
        refine W.eq (g2 := F0 m 23 ls [.int o4.1]) rfl ?_
        refine lv_if_eq (tgt := 44) hx hb dX3_tripleHours_23 (by decide) (fun c6 => ?_) (fun c6 => ?_)
        · rw [if_pos c6] at hf
          exact j44 o4.2.1 o4.2.2 _ _ _ hf hs (lv_sub hl [] rfl)
        · rw [if_neg c6] at hf
          refine lv_aload_n hx hb dX3_tripleHours_26 rfl (lv_at hl 0 rfl) ?_
          refine lv_iload_n hx hb dX3_tripleHours_27 rfl (lv_at hl 2 rfl) ?_
          refine lv_iload_n hx hb dX3_tripleHours_28 rfl (lv_at hl 3 rfl) ?_
          obtain ⟨_, p7, hf⟩ := tk_bi hf
          obtain ⟨o7, e7, hf⟩ := tk_bi hf
          refine tk_call0 (v := some (.int o7.1)) hs (va_runV (As := [.int x2, .int x3]) (rest := []) ⟨hx, hb, hml, hown, ht⟩ (cX3_gives_ok l hl0 G N x0 x2 x3 o4.2.1 o4.2.2 o7.1 o7.2.1 o7.2.2 e7) (kwX3_gives ht wmX3_26 rfl rfl ⟨Nat.le_of_ble_eq_true rfl, Nat.le_of_ble_eq_true rfl⟩) (tk_preV hE hs (tk_ok_ok p7) rfl) rfl rfl hl.1 rfl (lv_room (Nat.le_of_ble_eq_true rfl)) dX3_tripleHours_29 ⟨(Nat.le_of_ble_eq_true rfl), (Nat.le_of_ble_eq_true rfl)⟩) (fun H locs hs => ?_)
          refine W.eq (g2 := F0 m 32 ls [.int o7.1]) rfl ?_
          refine lv_if_eq (tgt := 44) hx hb dX3_tripleHours_32 (by decide) (fun c9 => ?_) (fun c9 => ?_)
          · rw [if_pos c9] at hf
            exact j44 o7.2.1 o7.2.2 _ _ _ hf hs (lv_sub hl [] rfl)
          · rw [if_neg c9] at hf
            refine lv_aload_n hx hb dX3_tripleHours_35 rfl (lv_at hl 0 rfl) ?_
            refine lv_iload_n hx hb dX3_tripleHours_36 rfl (lv_at hl 3 rfl) ?_
            refine lv_iload_n hx hb dX3_tripleHours_37 rfl (lv_at hl 1 rfl) ?_
            obtain ⟨_, p10, hf⟩ := tk_bi hf
            obtain ⟨o10, e10, hf⟩ := tk_bi hf
            refine tk_call0 (v := some (.int o10.1)) hs (va_runV (As := [.int x3, .int x1]) (rest := []) ⟨hx, hb, hml, hown, ht⟩ (cX3_gives_ok l hl0 G N x0 x3 x1 o7.2.1 o7.2.2 o10.1 o10.2.1 o10.2.2 e10) (kwX3_gives ht wmX3_26 rfl rfl ⟨Nat.le_of_ble_eq_true rfl, Nat.le_of_ble_eq_true rfl⟩) (tk_preV hE hs (tk_ok_ok p10) rfl) rfl rfl hl.1 rfl (lv_room (Nat.le_of_ble_eq_true rfl)) dX3_tripleHours_38 ⟨(Nat.le_of_ble_eq_true rfl), (Nat.le_of_ble_eq_true rfl)⟩) (fun H locs hs => ?_)
            refine W.eq (g2 := F0 m 41 ls [.int o10.1]) rfl ?_
            refine lv_if_ne (tgt := 46) hx hb dX3_tripleHours_41 (by decide) (fun c12 => ?_) (fun c12 => ?_)
            · rw [if_neg c12] at hf
              refine lv_aload_n hx hb dX3_tripleHours_46 rfl (lv_at hl 0 rfl) ?_
              refine lv_iload_n hx hb dX3_tripleHours_47 rfl (lv_at hl 1 rfl) ?_
              refine lv_iload_n hx hb dX3_tripleHours_48 rfl (lv_at hl 2 rfl) ?_
              obtain ⟨_, p13, hf⟩ := tk_bi hf
              obtain ⟨o13, e13, hf⟩ := tk_bi hf
              refine tk_call0 (v := some (.int o13.1)) hs (va_runV (As := [.int x1, .int x2]) (rest := []) ⟨hx, hb, hml, hown, ht⟩ (cX3_shared_ok l hl0 G N x0 x1 x2 o10.2.1 o10.2.2 o13.1 o13.2.1 o13.2.2 e13) (kwX3_shared ht wmX3_30 rfl rfl ⟨Nat.le_of_ble_eq_true rfl, Nat.le_of_ble_eq_true rfl⟩) (tk_preV hE hs (tk_ok_ok p13) rfl) rfl rfl hl.1 rfl (lv_room (Nat.le_of_ble_eq_true rfl)) dX3_tripleHours_49 ⟨(Nat.le_of_ble_eq_true rfl), (Nat.le_of_ble_eq_true rfl)⟩) (fun H locs hs => ?_)
              refine W.eq (g2 := F0 m 52 ls [.int o13.1]) rfl ?_
              refine lv_aload_n hx hb dX3_tripleHours_52 rfl (lv_at hl 0 rfl) ?_
              refine lv_iload_n hx hb dX3_tripleHours_53 rfl (lv_at hl 2 rfl) ?_
              refine lv_iload_n hx hb dX3_tripleHours_54 rfl (lv_at hl 3 rfl) ?_
              obtain ⟨_, p15, hf⟩ := tk_bi hf
              obtain ⟨o15, e15, hf⟩ := tk_bi hf
              refine tk_call0 (v := some (.int o15.1)) hs (va_runV (As := [.int x2, .int x3]) (rest := [.int o13.1]) ⟨hx, hb, hml, hown, ht⟩ (cX3_shared_ok l hl0 G N x0 x2 x3 o13.2.1 o13.2.2 o15.1 o15.2.1 o15.2.2 e15) (kwX3_shared ht wmX3_30 rfl rfl ⟨Nat.le_of_ble_eq_true rfl, Nat.le_of_ble_eq_true rfl⟩) (tk_preV hE hs (tk_ok_ok p15) rfl) rfl rfl hl.1 rfl (lv_room (Nat.le_of_ble_eq_true rfl)) dX3_tripleHours_55 ⟨(Nat.le_of_ble_eq_true rfl), (Nat.le_of_ble_eq_true rfl)⟩) (fun H locs hs => ?_)
              refine W.eq (g2 := F0 m 58 ls [.int o15.1, .int o13.1]) rfl ?_
              refine lv_aload_n hx hb dX3_tripleHours_58 rfl (lv_at hl 0 rfl) ?_
              refine lv_iload_n hx hb dX3_tripleHours_59 rfl (lv_at hl 3 rfl) ?_
              refine lv_iload_n hx hb dX3_tripleHours_60 rfl (lv_at hl 1 rfl) ?_
              obtain ⟨_, p17, hf⟩ := tk_bi hf
              obtain ⟨o17, e17, hf⟩ := tk_bi hf
              refine tk_call0 (v := some (.int o17.1)) hs (va_runV (As := [.int x3, .int x1]) (rest := [.int o15.1, .int o13.1]) ⟨hx, hb, hml, hown, ht⟩ (cX3_shared_ok l hl0 G N x0 x3 x1 o15.2.1 o15.2.2 o17.1 o17.2.1 o17.2.2 e17) (kwX3_shared ht wmX3_30 rfl rfl ⟨Nat.le_of_ble_eq_true rfl, Nat.le_of_ble_eq_true rfl⟩) (tk_preV hE hs (tk_ok_ok p17) rfl) rfl rfl hl.1 rfl (lv_room (Nat.le_of_ble_eq_true rfl)) dX3_tripleHours_61 ⟨(Nat.le_of_ble_eq_true rfl), (Nat.le_of_ble_eq_true rfl)⟩) (fun H locs hs => ?_)
              refine W.eq (g2 := F0 m 64 ls [.int o17.1, .int o15.1, .int o13.1]) rfl ?_
              obtain ⟨o19, e19, hf⟩ := tk_bi hf
              refine tk_call0 (v := some (.int o19.1)) hs (va_runS (As := [.int o13.1, .int o15.1, .int o17.1]) (rest := []) ⟨hx, hb, hml, hown, ht⟩ (cX3_firstUnlikeHours_ok l hl0 G N o13.1 o15.1 o17.1 o17.2.1 o17.2.2 o19.1 o19.2.1 o19.2.2 e19) (kwX3_firstUnlikeHours ht wmX3_37 rfl rfl ⟨Nat.le_of_ble_eq_true rfl, Nat.le_of_ble_eq_true rfl⟩) (tk_preS hE hs) rfl rfl hl.1 rfl (lv_room (Nat.le_of_ble_eq_true rfl)) dX3_tripleHours_64 ⟨(Nat.le_of_ble_eq_true rfl), (Nat.le_of_ble_eq_true rfl)⟩) (fun H locs hs => ?_)
              refine W.eq (g2 := F0 m 67 ls [.int o19.1]) rfl ?_
              cases hf
              exact tk_iret hx hb hr hlocks hs dX3_tripleHours_67
            · rw [if_pos c12] at hf
              exact j44 o10.2.1 o10.2.2 _ _ _ hf hs (lv_sub hl [] rfl)
      · rw [if_pos c3] at hf
        exact j15 h sz _ _ _ hf hs (lv_sub hl [] rfl)
def fX3_ringHours_21 (N : Nat) (y0 : Int32) (h : tk_AH) (sz : Nat) : Option (Int32 × tk_AH × Nat) :=
  some (y0, h, sz)
def fX3_ringHours (N : Nat) (x0 : Nat) (x1 : Int32) (x2 : Int32) (x3 : Int32) (h : tk_AH) (sz : Nat) : Option (Int32 × tk_AH × Nat) :=
  if x3 = (-1) then (
  (tk_ok h 3 x0).bind fun _ =>
  (fX3_pairHours N x0 x1 x2 h sz).bind fun o4 =>
  fX3_ringHours_21 N o4.1 o4.2.1 o4.2.2) else (
  (tk_ok h 3 x0).bind fun _ =>
  (fX3_tripleHours N x0 x1 x2 x3 h sz).bind fun o2 =>
  fX3_ringHours_21 N o2.1 o2.2.1 o2.2.2)
set_option maxHeartbeats 8000000 in
set_option maxRecDepth 100000 in
theorem cX3_ringHours_ok (l : Launch) (hl0 : l.stackTraces = false) (G : tk_AG) (N : Nat) (x0 : Nat) (x1 : Int32) (x2 : Int32) (x3 : Int32) (h : tk_AH) (sz : Nat) (r9 : Int32) (h9 : tk_AH) (sz9 : Nat) (hf : fX3_ringHours N x0 x1 x2 x3 h sz = some (r9, h9, sz9)) : Met l yX3_ringHours (coX3_ringHours :: tk_W) ({ frames := 4, cells := 0, slots := 0, locals := 89 }) (tk_pc G [.ref x0, .int x1, .int x2, .int x3] h sz) (tk_qc G (some (.int r9)) h9 sz9) 0 0 (tk_ag G) := by
  refine Met.ofW (cc := cX3_ringHours) (maxL := 4) (ret := (some .int)) (by decide) rfl ?_
  intro p e s m args below meth c s₁ B hml hv
  obtain ⟨hav, hE, hrp, hsz, hgs⟩ := hv
  have hx := B.exec
  have hb := B.bytes
  have hr := B.returns
  have hts := atoms_spec (ws := coX3_ringHours :: tk_W) B.pre
  have ht : ∀ w ∈ tk_W, w.before args s = true := fun w h => hts w (List.mem_cons_of_mem _ h)
  have hown : s.vm.findClass RX3 = some m.cls := findClass_of_methodNamed B.named
  have hlocks := B.notSynchronized
  have hs : tk_sw G s h sz s.heap [] := ⟨hrp, hsz, by rw [hsz]; exact hgs, va_S.rf⟩
  have hl := lv_entry ([.ref x0, .int x1, .int x2, .int x3]) (n := 4) (Nat.le_of_ble_eq_true rfl)
  have hent : entryFrame m args 4 = F0 m 0 (lg_sl ([.ref x0, .int x1, .int x2, .int x3]) ++ List.replicate (4 - (lg_sl ([.ref x0, .int x1, .int x2, .int x3])).length) Slot.unset).toArray [] := by rw [hav, lg_entry_eq]
  rw [hent]
  clear hent
  generalize (lg_sl ([.ref x0, .int x1, .int x2, .int x3]) ++ List.replicate (4 - (lg_sl ([.ref x0, .int x1, .int x2, .int x3])).length) Slot.unset).toArray = ls at hl ⊢
  have hl : lv_has ls 4 [(0, .ref x0), (1, .int x1), (2, .int x2), (3, .int x3)] := hl
  have j21 : ∀ (y0 : Int32) (h : tk_AH) (sz : Nat) (H : Heap) (locs : List Loc) (ls : Array Slot), fX3_ringHours_21 N y0 h sz = some (r9, h9, sz9) → tk_sw G s h sz H locs → lv_has ls 4 [] → W p l e (headSpec (coX3_ringHours :: tk_W) ({ frames := 4, cells := 0, slots := 0, locals := 89 })).room s m args below meth c H locs 0 (0) (MQ below (tk_qc G (some (.int r9)) h9 sz9) args s 0 0 (tk_ag G)) (F0 m 21 ls [.int y0]) := by
    intro y0 h sz H locs ls hf hs hl
    unfold fX3_ringHours_21 at hf
    cases hf
    exact tk_iret hx hb hr hlocks hs dX3_ringHours_21
  unfold fX3_ringHours at hf
  refine lv_iload_n hx hb dX3_ringHours_0 rfl (lv_at hl 3 rfl) ?_
  refine lv_iconst (v := (-1)) hx hb dX3_ringHours_1 (by decide) ?_
  refine lv_icmp_ne (tgt := 14) hx hb dX3_ringHours_2 (by decide) (fun c1 => ?_) (fun c1 => ?_)
  · rw [if_neg c1] at hf
    refine lv_aload_n hx hb dX3_ringHours_14 rfl (lv_at hl 0 rfl) ?_
    refine lv_iload_n hx hb dX3_ringHours_15 rfl (lv_at hl 1 rfl) ?_
    refine lv_iload_n hx hb dX3_ringHours_16 rfl (lv_at hl 2 rfl) ?_
    refine lv_iload_n hx hb dX3_ringHours_17 rfl (lv_at hl 3 rfl) ?_
    obtain ⟨_, p2, hf⟩ := tk_bi hf
    obtain ⟨o2, e2, hf⟩ := tk_bi hf
    refine tk_call0 (v := some (.int o2.1)) hs (va_runV (As := [.int x1, .int x2, .int x3]) (rest := []) ⟨hx, hb, hml, hown, ht⟩ (cX3_tripleHours_ok l hl0 G N x0 x1 x2 x3 h sz o2.1 o2.2.1 o2.2.2 e2) (kwX3_tripleHours ht wmX3_22 rfl rfl ⟨Nat.le_of_ble_eq_true rfl, Nat.le_of_ble_eq_true rfl⟩) (tk_preV hE hs (tk_ok_ok p2) rfl) rfl rfl hl.1 rfl (lv_room (Nat.le_of_ble_eq_true rfl)) dX3_ringHours_18 ⟨(Nat.le_of_ble_eq_true rfl), (Nat.le_of_ble_eq_true rfl)⟩) (fun H locs hs => ?_)
    refine W.eq (g2 := F0 m 21 ls [.int o2.1]) rfl ?_
    exact j21 o2.1 o2.2.1 o2.2.2 _ _ _ hf hs (lv_sub hl [] rfl)
  · rw [if_pos c1] at hf
    refine lv_aload_n hx hb dX3_ringHours_5 rfl (lv_at hl 0 rfl) ?_
    refine lv_iload_n hx hb dX3_ringHours_6 rfl (lv_at hl 1 rfl) ?_
    refine lv_iload_n hx hb dX3_ringHours_7 rfl (lv_at hl 2 rfl) ?_
    obtain ⟨_, p4, hf⟩ := tk_bi hf
    obtain ⟨o4, e4, hf⟩ := tk_bi hf
    refine tk_call0 (v := some (.int o4.1)) hs (va_runV (As := [.int x1, .int x2]) (rest := []) ⟨hx, hb, hml, hown, ht⟩ (cX3_pairHours_ok l hl0 G N x0 x1 x2 h sz o4.1 o4.2.1 o4.2.2 e4) (kwX3_pairHours ht wmX3_18 rfl rfl ⟨Nat.le_of_ble_eq_true rfl, Nat.le_of_ble_eq_true rfl⟩) (tk_preV hE hs (tk_ok_ok p4) rfl) rfl rfl hl.1 rfl (lv_room (Nat.le_of_ble_eq_true rfl)) dX3_ringHours_8 ⟨(Nat.le_of_ble_eq_true rfl), (Nat.le_of_ble_eq_true rfl)⟩) (fun H locs hs => ?_)
    refine W.eq (g2 := F0 m 11 ls [.int o4.1]) rfl ?_
    refine lv_goto (tgt := 21) hx hb dX3_ringHours_11 (by decide) ?_
    exact j21 o4.1 o4.2.1 o4.2.2 _ _ _ hf hs (lv_sub hl [] rfl)
def fJ6_bitCount_0f7a4 (N : Nat) (x0 : Int32) (h : tk_AH) (sz : Nat) : Option (Int32 × tk_AH × Nat) :=
  some ((((((((x0 - (((x0.toUInt32 >>> ((1 : Int32).toUInt32 &&& Int32.toUInt32 31)).toInt32) &&& 1431655765)) &&& 858993459) + ((((x0 - (((x0.toUInt32 >>> ((1 : Int32).toUInt32 &&& Int32.toUInt32 31)).toInt32) &&& 1431655765)).toUInt32 >>> ((2 : Int32).toUInt32 &&& Int32.toUInt32 31)).toInt32) &&& 858993459)) + (((((x0 - (((x0.toUInt32 >>> ((1 : Int32).toUInt32 &&& Int32.toUInt32 31)).toInt32) &&& 1431655765)) &&& 858993459) + ((((x0 - (((x0.toUInt32 >>> ((1 : Int32).toUInt32 &&& Int32.toUInt32 31)).toInt32) &&& 1431655765)).toUInt32 >>> ((2 : Int32).toUInt32 &&& Int32.toUInt32 31)).toInt32) &&& 858993459)).toUInt32 >>> ((4 : Int32).toUInt32 &&& Int32.toUInt32 31)).toInt32)) &&& 252645135) + (((((((x0 - (((x0.toUInt32 >>> ((1 : Int32).toUInt32 &&& Int32.toUInt32 31)).toInt32) &&& 1431655765)) &&& 858993459) + ((((x0 - (((x0.toUInt32 >>> ((1 : Int32).toUInt32 &&& Int32.toUInt32 31)).toInt32) &&& 1431655765)).toUInt32 >>> ((2 : Int32).toUInt32 &&& Int32.toUInt32 31)).toInt32) &&& 858993459)) + (((((x0 - (((x0.toUInt32 >>> ((1 : Int32).toUInt32 &&& Int32.toUInt32 31)).toInt32) &&& 1431655765)) &&& 858993459) + ((((x0 - (((x0.toUInt32 >>> ((1 : Int32).toUInt32 &&& Int32.toUInt32 31)).toInt32) &&& 1431655765)).toUInt32 >>> ((2 : Int32).toUInt32 &&& Int32.toUInt32 31)).toInt32) &&& 858993459)).toUInt32 >>> ((4 : Int32).toUInt32 &&& Int32.toUInt32 31)).toInt32)) &&& 252645135).toUInt32 >>> ((8 : Int32).toUInt32 &&& Int32.toUInt32 31)).toInt32)) + ((((((((x0 - (((x0.toUInt32 >>> ((1 : Int32).toUInt32 &&& Int32.toUInt32 31)).toInt32) &&& 1431655765)) &&& 858993459) + ((((x0 - (((x0.toUInt32 >>> ((1 : Int32).toUInt32 &&& Int32.toUInt32 31)).toInt32) &&& 1431655765)).toUInt32 >>> ((2 : Int32).toUInt32 &&& Int32.toUInt32 31)).toInt32) &&& 858993459)) + (((((x0 - (((x0.toUInt32 >>> ((1 : Int32).toUInt32 &&& Int32.toUInt32 31)).toInt32) &&& 1431655765)) &&& 858993459) + ((((x0 - (((x0.toUInt32 >>> ((1 : Int32).toUInt32 &&& Int32.toUInt32 31)).toInt32) &&& 1431655765)).toUInt32 >>> ((2 : Int32).toUInt32 &&& Int32.toUInt32 31)).toInt32) &&& 858993459)).toUInt32 >>> ((4 : Int32).toUInt32 &&& Int32.toUInt32 31)).toInt32)) &&& 252645135) + (((((((x0 - (((x0.toUInt32 >>> ((1 : Int32).toUInt32 &&& Int32.toUInt32 31)).toInt32) &&& 1431655765)) &&& 858993459) + ((((x0 - (((x0.toUInt32 >>> ((1 : Int32).toUInt32 &&& Int32.toUInt32 31)).toInt32) &&& 1431655765)).toUInt32 >>> ((2 : Int32).toUInt32 &&& Int32.toUInt32 31)).toInt32) &&& 858993459)) + (((((x0 - (((x0.toUInt32 >>> ((1 : Int32).toUInt32 &&& Int32.toUInt32 31)).toInt32) &&& 1431655765)) &&& 858993459) + ((((x0 - (((x0.toUInt32 >>> ((1 : Int32).toUInt32 &&& Int32.toUInt32 31)).toInt32) &&& 1431655765)).toUInt32 >>> ((2 : Int32).toUInt32 &&& Int32.toUInt32 31)).toInt32) &&& 858993459)).toUInt32 >>> ((4 : Int32).toUInt32 &&& Int32.toUInt32 31)).toInt32)) &&& 252645135).toUInt32 >>> ((8 : Int32).toUInt32 &&& Int32.toUInt32 31)).toInt32)).toUInt32 >>> ((16 : Int32).toUInt32 &&& Int32.toUInt32 31)).toInt32)) &&& 63, h, sz)
set_option maxHeartbeats 8000000 in
set_option maxRecDepth 100000 in
theorem cJ6_bitCount_0f7a4_ok (l : Launch) (hl0 : l.stackTraces = false) (G : tk_AG) (N : Nat) (x0 : Int32) (h : tk_AH) (sz : Nat) (r9 : Int32) (h9 : tk_AH) (sz9 : Nat) (hf : fJ6_bitCount_0f7a4 N x0 h sz = some (r9, h9, sz9)) : Met l yJ6_bitCount_0f7a4 (coJ6_bitCount_0f7a4 :: tk_W) ({ frames := 0, cells := 0, slots := 0, locals := 0 }) (tk_pc G [.int x0] h sz) (tk_qc G (some (.int r9)) h9 sz9) 0 0 (tk_ag G) := by
  refine Met.ofW (cc := cJ6_bitCount_0f7a4) (maxL := 1) (ret := (some .int)) (by decide) rfl ?_
  intro p e s m args below meth c s₁ B hml hv
  obtain ⟨hav, hE, hrp, hsz, hgs⟩ := hv
  have hx := B.exec
  have hb := B.bytes
  have hr := B.returns
  have hts := atoms_spec (ws := coJ6_bitCount_0f7a4 :: tk_W) B.pre
  have ht : ∀ w ∈ tk_W, w.before args s = true := fun w h => hts w (List.mem_cons_of_mem _ h)
  have hown : s.vm.findClass RJ6 = some m.cls := findClass_of_methodNamed B.named
  have hlocks := B.notSynchronized
  have hs : tk_sw G s h sz s.heap [] := ⟨hrp, hsz, by rw [hsz]; exact hgs, va_S.rf⟩
  have hl := lv_entry ([.int x0]) (n := 1) (Nat.le_of_ble_eq_true rfl)
  have hent : entryFrame m args 1 = F0 m 0 (lg_sl ([.int x0]) ++ List.replicate (1 - (lg_sl ([.int x0])).length) Slot.unset).toArray [] := by rw [hav, lg_entry_eq]
  rw [hent]
  clear hent
  generalize (lg_sl ([.int x0]) ++ List.replicate (1 - (lg_sl ([.int x0])).length) Slot.unset).toArray = ls at hl ⊢
  have hl : lv_has ls 1 [(0, .int x0)] := hl
  unfold fJ6_bitCount_0f7a4 at hf
  refine lv_iload_n hx hb dJ6_bitCount_0f7a4_0 rfl (lv_at hl 0 rfl) ?_
  refine lv_iload_n hx hb dJ6_bitCount_0f7a4_1 rfl (lv_at hl 0 rfl) ?_
  refine lv_iconst (v := 1) hx hb dJ6_bitCount_0f7a4_2 (by decide) ?_
  refine lv_iushr (v := (x0.toUInt32 >>> ((1 : Int32).toUInt32 &&& Int32.toUInt32 31)).toInt32) hx hb dJ6_bitCount_0f7a4_3 rfl ?_
  refine lv_ldcw (v := 1431655765) hx hb hown (ht _ wkJ6_265) dJ6_bitCount_0f7a4_4 ?_
  refine lv_iand hx hb dJ6_bitCount_0f7a4_7 ?_
  refine lv_isub hx hb dJ6_bitCount_0f7a4_8 ?_
  refine lv_istore_n (lv' := [(0, .int (x0 - (((x0.toUInt32 >>> ((1 : Int32).toUInt32 &&& Int32.toUInt32 31)).toInt32) &&& 1431655765)))]) hx hb dJ6_bitCount_0f7a4_9 rfl hl (by decide) rfl (fun ls hl => ?_)
  refine lv_iload_n hx hb dJ6_bitCount_0f7a4_10 rfl (lv_at hl 0 rfl) ?_
  refine lv_ldcw (v := 858993459) hx hb hown (ht _ wkJ6_266) dJ6_bitCount_0f7a4_11 ?_
  refine lv_iand hx hb dJ6_bitCount_0f7a4_14 ?_
  refine lv_iload_n hx hb dJ6_bitCount_0f7a4_15 rfl (lv_at hl 0 rfl) ?_
  refine lv_iconst (v := 2) hx hb dJ6_bitCount_0f7a4_16 (by decide) ?_
  refine lv_iushr (v := ((x0 - (((x0.toUInt32 >>> ((1 : Int32).toUInt32 &&& Int32.toUInt32 31)).toInt32) &&& 1431655765)).toUInt32 >>> ((2 : Int32).toUInt32 &&& Int32.toUInt32 31)).toInt32) hx hb dJ6_bitCount_0f7a4_17 rfl ?_
  refine lv_ldcw (v := 858993459) hx hb hown (ht _ wkJ6_266) dJ6_bitCount_0f7a4_18 ?_
  refine lv_iand hx hb dJ6_bitCount_0f7a4_21 ?_
  refine lv_iadd hx hb dJ6_bitCount_0f7a4_22 ?_
  refine lv_istore_n (lv' := [(0, .int (((x0 - (((x0.toUInt32 >>> ((1 : Int32).toUInt32 &&& Int32.toUInt32 31)).toInt32) &&& 1431655765)) &&& 858993459) + ((((x0 - (((x0.toUInt32 >>> ((1 : Int32).toUInt32 &&& Int32.toUInt32 31)).toInt32) &&& 1431655765)).toUInt32 >>> ((2 : Int32).toUInt32 &&& Int32.toUInt32 31)).toInt32) &&& 858993459)))]) hx hb dJ6_bitCount_0f7a4_23 rfl hl (by decide) rfl (fun ls hl => ?_)
  refine lv_iload_n hx hb dJ6_bitCount_0f7a4_24 rfl (lv_at hl 0 rfl) ?_
  refine lv_iload_n hx hb dJ6_bitCount_0f7a4_25 rfl (lv_at hl 0 rfl) ?_
  refine lv_iconst (v := 4) hx hb dJ6_bitCount_0f7a4_26 (by decide) ?_
  refine lv_iushr (v := ((((x0 - (((x0.toUInt32 >>> ((1 : Int32).toUInt32 &&& Int32.toUInt32 31)).toInt32) &&& 1431655765)) &&& 858993459) + ((((x0 - (((x0.toUInt32 >>> ((1 : Int32).toUInt32 &&& Int32.toUInt32 31)).toInt32) &&& 1431655765)).toUInt32 >>> ((2 : Int32).toUInt32 &&& Int32.toUInt32 31)).toInt32) &&& 858993459)).toUInt32 >>> ((4 : Int32).toUInt32 &&& Int32.toUInt32 31)).toInt32) hx hb dJ6_bitCount_0f7a4_27 rfl ?_
  refine lv_iadd hx hb dJ6_bitCount_0f7a4_28 ?_
  refine lv_ldcw (v := 252645135) hx hb hown (ht _ wkJ6_267) dJ6_bitCount_0f7a4_29 ?_
  refine lv_iand hx hb dJ6_bitCount_0f7a4_32 ?_
  refine lv_istore_n (lv' := [(0, .int (((((x0 - (((x0.toUInt32 >>> ((1 : Int32).toUInt32 &&& Int32.toUInt32 31)).toInt32) &&& 1431655765)) &&& 858993459) + ((((x0 - (((x0.toUInt32 >>> ((1 : Int32).toUInt32 &&& Int32.toUInt32 31)).toInt32) &&& 1431655765)).toUInt32 >>> ((2 : Int32).toUInt32 &&& Int32.toUInt32 31)).toInt32) &&& 858993459)) + (((((x0 - (((x0.toUInt32 >>> ((1 : Int32).toUInt32 &&& Int32.toUInt32 31)).toInt32) &&& 1431655765)) &&& 858993459) + ((((x0 - (((x0.toUInt32 >>> ((1 : Int32).toUInt32 &&& Int32.toUInt32 31)).toInt32) &&& 1431655765)).toUInt32 >>> ((2 : Int32).toUInt32 &&& Int32.toUInt32 31)).toInt32) &&& 858993459)).toUInt32 >>> ((4 : Int32).toUInt32 &&& Int32.toUInt32 31)).toInt32)) &&& 252645135))]) hx hb dJ6_bitCount_0f7a4_33 rfl hl (by decide) rfl (fun ls hl => ?_)
  refine lv_iload_n hx hb dJ6_bitCount_0f7a4_34 rfl (lv_at hl 0 rfl) ?_
  refine lv_iload_n hx hb dJ6_bitCount_0f7a4_35 rfl (lv_at hl 0 rfl) ?_
  refine lv_bipush (v := 8) hx hb dJ6_bitCount_0f7a4_36 (by decide) ?_
  refine lv_iushr (v := ((((((x0 - (((x0.toUInt32 >>> ((1 : Int32).toUInt32 &&& Int32.toUInt32 31)).toInt32) &&& 1431655765)) &&& 858993459) + ((((x0 - (((x0.toUInt32 >>> ((1 : Int32).toUInt32 &&& Int32.toUInt32 31)).toInt32) &&& 1431655765)).toUInt32 >>> ((2 : Int32).toUInt32 &&& Int32.toUInt32 31)).toInt32) &&& 858993459)) + (((((x0 - (((x0.toUInt32 >>> ((1 : Int32).toUInt32 &&& Int32.toUInt32 31)).toInt32) &&& 1431655765)) &&& 858993459) + ((((x0 - (((x0.toUInt32 >>> ((1 : Int32).toUInt32 &&& Int32.toUInt32 31)).toInt32) &&& 1431655765)).toUInt32 >>> ((2 : Int32).toUInt32 &&& Int32.toUInt32 31)).toInt32) &&& 858993459)).toUInt32 >>> ((4 : Int32).toUInt32 &&& Int32.toUInt32 31)).toInt32)) &&& 252645135).toUInt32 >>> ((8 : Int32).toUInt32 &&& Int32.toUInt32 31)).toInt32) hx hb dJ6_bitCount_0f7a4_38 rfl ?_
  refine lv_iadd hx hb dJ6_bitCount_0f7a4_39 ?_
  refine lv_istore_n (lv' := [(0, .int ((((((x0 - (((x0.toUInt32 >>> ((1 : Int32).toUInt32 &&& Int32.toUInt32 31)).toInt32) &&& 1431655765)) &&& 858993459) + ((((x0 - (((x0.toUInt32 >>> ((1 : Int32).toUInt32 &&& Int32.toUInt32 31)).toInt32) &&& 1431655765)).toUInt32 >>> ((2 : Int32).toUInt32 &&& Int32.toUInt32 31)).toInt32) &&& 858993459)) + (((((x0 - (((x0.toUInt32 >>> ((1 : Int32).toUInt32 &&& Int32.toUInt32 31)).toInt32) &&& 1431655765)) &&& 858993459) + ((((x0 - (((x0.toUInt32 >>> ((1 : Int32).toUInt32 &&& Int32.toUInt32 31)).toInt32) &&& 1431655765)).toUInt32 >>> ((2 : Int32).toUInt32 &&& Int32.toUInt32 31)).toInt32) &&& 858993459)).toUInt32 >>> ((4 : Int32).toUInt32 &&& Int32.toUInt32 31)).toInt32)) &&& 252645135) + (((((((x0 - (((x0.toUInt32 >>> ((1 : Int32).toUInt32 &&& Int32.toUInt32 31)).toInt32) &&& 1431655765)) &&& 858993459) + ((((x0 - (((x0.toUInt32 >>> ((1 : Int32).toUInt32 &&& Int32.toUInt32 31)).toInt32) &&& 1431655765)).toUInt32 >>> ((2 : Int32).toUInt32 &&& Int32.toUInt32 31)).toInt32) &&& 858993459)) + (((((x0 - (((x0.toUInt32 >>> ((1 : Int32).toUInt32 &&& Int32.toUInt32 31)).toInt32) &&& 1431655765)) &&& 858993459) + ((((x0 - (((x0.toUInt32 >>> ((1 : Int32).toUInt32 &&& Int32.toUInt32 31)).toInt32) &&& 1431655765)).toUInt32 >>> ((2 : Int32).toUInt32 &&& Int32.toUInt32 31)).toInt32) &&& 858993459)).toUInt32 >>> ((4 : Int32).toUInt32 &&& Int32.toUInt32 31)).toInt32)) &&& 252645135).toUInt32 >>> ((8 : Int32).toUInt32 &&& Int32.toUInt32 31)).toInt32)))]) hx hb dJ6_bitCount_0f7a4_40 rfl hl (by decide) rfl (fun ls hl => ?_)
  refine lv_iload_n hx hb dJ6_bitCount_0f7a4_41 rfl (lv_at hl 0 rfl) ?_
  refine lv_iload_n hx hb dJ6_bitCount_0f7a4_42 rfl (lv_at hl 0 rfl) ?_
  refine lv_bipush (v := 16) hx hb dJ6_bitCount_0f7a4_43 (by decide) ?_
  refine lv_iushr (v := (((((((x0 - (((x0.toUInt32 >>> ((1 : Int32).toUInt32 &&& Int32.toUInt32 31)).toInt32) &&& 1431655765)) &&& 858993459) + ((((x0 - (((x0.toUInt32 >>> ((1 : Int32).toUInt32 &&& Int32.toUInt32 31)).toInt32) &&& 1431655765)).toUInt32 >>> ((2 : Int32).toUInt32 &&& Int32.toUInt32 31)).toInt32) &&& 858993459)) + (((((x0 - (((x0.toUInt32 >>> ((1 : Int32).toUInt32 &&& Int32.toUInt32 31)).toInt32) &&& 1431655765)) &&& 858993459) + ((((x0 - (((x0.toUInt32 >>> ((1 : Int32).toUInt32 &&& Int32.toUInt32 31)).toInt32) &&& 1431655765)).toUInt32 >>> ((2 : Int32).toUInt32 &&& Int32.toUInt32 31)).toInt32) &&& 858993459)).toUInt32 >>> ((4 : Int32).toUInt32 &&& Int32.toUInt32 31)).toInt32)) &&& 252645135) + (((((((x0 - (((x0.toUInt32 >>> ((1 : Int32).toUInt32 &&& Int32.toUInt32 31)).toInt32) &&& 1431655765)) &&& 858993459) + ((((x0 - (((x0.toUInt32 >>> ((1 : Int32).toUInt32 &&& Int32.toUInt32 31)).toInt32) &&& 1431655765)).toUInt32 >>> ((2 : Int32).toUInt32 &&& Int32.toUInt32 31)).toInt32) &&& 858993459)) + (((((x0 - (((x0.toUInt32 >>> ((1 : Int32).toUInt32 &&& Int32.toUInt32 31)).toInt32) &&& 1431655765)) &&& 858993459) + ((((x0 - (((x0.toUInt32 >>> ((1 : Int32).toUInt32 &&& Int32.toUInt32 31)).toInt32) &&& 1431655765)).toUInt32 >>> ((2 : Int32).toUInt32 &&& Int32.toUInt32 31)).toInt32) &&& 858993459)).toUInt32 >>> ((4 : Int32).toUInt32 &&& Int32.toUInt32 31)).toInt32)) &&& 252645135).toUInt32 >>> ((8 : Int32).toUInt32 &&& Int32.toUInt32 31)).toInt32)).toUInt32 >>> ((16 : Int32).toUInt32 &&& Int32.toUInt32 31)).toInt32) hx hb dJ6_bitCount_0f7a4_45 rfl ?_
  refine lv_iadd hx hb dJ6_bitCount_0f7a4_46 ?_
  refine lv_istore_n (lv' := [(0, .int (((((((x0 - (((x0.toUInt32 >>> ((1 : Int32).toUInt32 &&& Int32.toUInt32 31)).toInt32) &&& 1431655765)) &&& 858993459) + ((((x0 - (((x0.toUInt32 >>> ((1 : Int32).toUInt32 &&& Int32.toUInt32 31)).toInt32) &&& 1431655765)).toUInt32 >>> ((2 : Int32).toUInt32 &&& Int32.toUInt32 31)).toInt32) &&& 858993459)) + (((((x0 - (((x0.toUInt32 >>> ((1 : Int32).toUInt32 &&& Int32.toUInt32 31)).toInt32) &&& 1431655765)) &&& 858993459) + ((((x0 - (((x0.toUInt32 >>> ((1 : Int32).toUInt32 &&& Int32.toUInt32 31)).toInt32) &&& 1431655765)).toUInt32 >>> ((2 : Int32).toUInt32 &&& Int32.toUInt32 31)).toInt32) &&& 858993459)).toUInt32 >>> ((4 : Int32).toUInt32 &&& Int32.toUInt32 31)).toInt32)) &&& 252645135) + (((((((x0 - (((x0.toUInt32 >>> ((1 : Int32).toUInt32 &&& Int32.toUInt32 31)).toInt32) &&& 1431655765)) &&& 858993459) + ((((x0 - (((x0.toUInt32 >>> ((1 : Int32).toUInt32 &&& Int32.toUInt32 31)).toInt32) &&& 1431655765)).toUInt32 >>> ((2 : Int32).toUInt32 &&& Int32.toUInt32 31)).toInt32) &&& 858993459)) + (((((x0 - (((x0.toUInt32 >>> ((1 : Int32).toUInt32 &&& Int32.toUInt32 31)).toInt32) &&& 1431655765)) &&& 858993459) + ((((x0 - (((x0.toUInt32 >>> ((1 : Int32).toUInt32 &&& Int32.toUInt32 31)).toInt32) &&& 1431655765)).toUInt32 >>> ((2 : Int32).toUInt32 &&& Int32.toUInt32 31)).toInt32) &&& 858993459)).toUInt32 >>> ((4 : Int32).toUInt32 &&& Int32.toUInt32 31)).toInt32)) &&& 252645135).toUInt32 >>> ((8 : Int32).toUInt32 &&& Int32.toUInt32 31)).toInt32)) + ((((((((x0 - (((x0.toUInt32 >>> ((1 : Int32).toUInt32 &&& Int32.toUInt32 31)).toInt32) &&& 1431655765)) &&& 858993459) + ((((x0 - (((x0.toUInt32 >>> ((1 : Int32).toUInt32 &&& Int32.toUInt32 31)).toInt32) &&& 1431655765)).toUInt32 >>> ((2 : Int32).toUInt32 &&& Int32.toUInt32 31)).toInt32) &&& 858993459)) + (((((x0 - (((x0.toUInt32 >>> ((1 : Int32).toUInt32 &&& Int32.toUInt32 31)).toInt32) &&& 1431655765)) &&& 858993459) + ((((x0 - (((x0.toUInt32 >>> ((1 : Int32).toUInt32 &&& Int32.toUInt32 31)).toInt32) &&& 1431655765)).toUInt32 >>> ((2 : Int32).toUInt32 &&& Int32.toUInt32 31)).toInt32) &&& 858993459)).toUInt32 >>> ((4 : Int32).toUInt32 &&& Int32.toUInt32 31)).toInt32)) &&& 252645135) + (((((((x0 - (((x0.toUInt32 >>> ((1 : Int32).toUInt32 &&& Int32.toUInt32 31)).toInt32) &&& 1431655765)) &&& 858993459) + ((((x0 - (((x0.toUInt32 >>> ((1 : Int32).toUInt32 &&& Int32.toUInt32 31)).toInt32) &&& 1431655765)).toUInt32 >>> ((2 : Int32).toUInt32 &&& Int32.toUInt32 31)).toInt32) &&& 858993459)) + (((((x0 - (((x0.toUInt32 >>> ((1 : Int32).toUInt32 &&& Int32.toUInt32 31)).toInt32) &&& 1431655765)) &&& 858993459) + ((((x0 - (((x0.toUInt32 >>> ((1 : Int32).toUInt32 &&& Int32.toUInt32 31)).toInt32) &&& 1431655765)).toUInt32 >>> ((2 : Int32).toUInt32 &&& Int32.toUInt32 31)).toInt32) &&& 858993459)).toUInt32 >>> ((4 : Int32).toUInt32 &&& Int32.toUInt32 31)).toInt32)) &&& 252645135).toUInt32 >>> ((8 : Int32).toUInt32 &&& Int32.toUInt32 31)).toInt32)).toUInt32 >>> ((16 : Int32).toUInt32 &&& Int32.toUInt32 31)).toInt32)))]) hx hb dJ6_bitCount_0f7a4_47 rfl hl (by decide) rfl (fun ls hl => ?_)
  refine lv_iload_n hx hb dJ6_bitCount_0f7a4_48 rfl (lv_at hl 0 rfl) ?_
  refine lv_bipush (v := 63) hx hb dJ6_bitCount_0f7a4_49 (by decide) ?_
  refine lv_iand hx hb dJ6_bitCount_0f7a4_51 ?_
  cases hf
  exact tk_iret hx hb hr hlocks hs dJ6_bitCount_0f7a4_52
def fX3_init (N : Nat) (x0 : Nat) (h : tk_AH) (sz : Nat) : Option (tk_AH × Nat) :=
  (tk_pF (tk_nI h sz 14) 3 0 x0 (.ref sz)).bind fun h1 =>
  (tk_pF (tk_nI h1 (sz + 1) 196) 3 1 x0 (.ref (sz + 1))).bind fun h2 =>
  some (h2, (sz + 1) + 1)
set_option maxHeartbeats 8000000 in
set_option maxRecDepth 100000 in
theorem cX3_init_ok (l : Launch) (hl0 : l.stackTraces = false) (G : tk_AG) (N : Nat) (x0 : Nat) (h : tk_AH) (sz : Nat) (h9 : tk_AH) (sz9 : Nat) (hf : fX3_init N x0 h sz = some (h9, sz9)) : Met l yX3_init (coX3_init :: tk_W) ({ frames := 1, cells := 2, slots := 210, locals := 24 }) (tk_pc G [.ref x0] h sz) (tk_qc G none h9 sz9) 2 210 (tk_ag G) := by
  refine Met.ofW (cc := cX3_init) (maxL := 1) (ret := none) (by decide) rfl ?_
  intro p e s m args below meth c s₁ B hml hv
  obtain ⟨hav, hE, hrp, hsz, hgs⟩ := hv
  have hx := B.exec
  have hb := B.bytes
  have hr := B.returns
  have hts := atoms_spec (ws := coX3_init :: tk_W) B.pre
  have ht : ∀ w ∈ tk_W, w.before args s = true := fun w h => hts w (List.mem_cons_of_mem _ h)
  have hown : s.vm.findClass RX3 = some m.cls := findClass_of_methodNamed B.named
  have hlocks := B.notSynchronized
  have hin : meth.name = "<init>" := (name_of_methodNamed B.named B.method).1
  have hs : tk_sw G s h sz s.heap [] := ⟨hrp, hsz, by rw [hsz]; exact hgs, va_S.rf⟩
  have hl := lv_entry ([.ref x0]) (n := 1) (Nat.le_of_ble_eq_true rfl)
  have hent : entryFrame m args 1 = F0 m 0 (lg_sl ([.ref x0]) ++ List.replicate (1 - (lg_sl ([.ref x0])).length) Slot.unset).toArray [] := by rw [hav, lg_entry_eq]
  rw [hent]
  clear hent
  generalize (lg_sl ([.ref x0]) ++ List.replicate (1 - (lg_sl ([.ref x0])).length) Slot.unset).toArray = ls at hl ⊢
  have hl : lv_has ls 1 [(0, .ref x0)] := hl
  unfold fX3_init at hf
  refine lv_aload_n hx hb dX3_init_0 rfl (lv_at hl 0 rfl) ?_
  refine W.objInit hx hb hown (ht _ wmX3_3) (ht _ wiOb) (ht _ wcOb) rfl (by rw [hml]; exact hl.1) rfl dX3_init_1 (Nat.le_of_ble_eq_true rfl) (Nat.le_of_ble_eq_true rfl) ?_
  refine W.eq (g2 := F0 m 4 ls []) rfl ?_
  refine lv_aload_n hx hb dX3_init_4 rfl (lv_at hl 0 rfl) ?_
  refine lv_bipush (v := 14) hx hb dX3_init_5 (by decide) ?_
  refine tk_newI hx hb (ht _ waint) hE hs (N := 14) (by decide) (by decide) (by decide) (Nat.le_of_ble_eq_true rfl) (Nat.le_of_ble_eq_true rfl) dX3_init_7 (fun H hs => ?_)
  refine W.widen (k := 1) (n := 14) (by omega) (by omega) ?_
  obtain ⟨h1, e1, hf⟩ := tk_bi hf
  refine tk_putF hx hb ht inX3 tyX3 tyX3_ok nmX3 hown hE hs rfl 0 (by decide) (ht _ wfX3_9) rfl hin rfl rfl rfl e1 dX3_init_9 (fun H locs hs => ?_)
  refine lv_aload_n hx hb dX3_init_12 rfl (lv_at hl 0 rfl) ?_
  refine lv_sipush (v := 196) hx hb dX3_init_13 (by decide) ?_
  refine tk_newI hx hb (ht _ waint) hE hs (N := 196) (by decide) (by decide) (by decide) (Nat.le_of_ble_eq_true rfl) (Nat.le_of_ble_eq_true rfl) dX3_init_16 (fun H hs => ?_)
  refine W.widen (k := 2) (n := 210) (by omega) (by omega) ?_
  obtain ⟨h2, e2, hf⟩ := tk_bi hf
  refine tk_putF hx hb ht inX3 tyX3 tyX3_ok nmX3 hown hE hs rfl 1 (by decide) (ht _ wfX3_15) rfl hin rfl rfl rfl e2 dX3_init_18 (fun H locs hs => ?_)
  cases hf
  exact tk_vret hx hb hr hlocks hs dX3_init_21
def fX3_setTie_34 (N : Nat) (x0 : Nat) (x1 : Int32) (x2 : Int32) (x4 : Int32) (y0 : Int32) (y1 : Int32) (y2 : Nat) (h : tk_AH) (sz : Nat) : Option (tk_AH × Nat) :=
  (tk_sI h 0 y2 y1 y0).bind fun h1 =>
  (tk_gR h1 3 1 x0).bind fun v2 =>
  (tk_sI h1 0 v2 ((x1 * 14) + x2) x4).bind fun h3 =>
  some (h3, sz)
def fX3_setTie (N : Nat) (x0 : Nat) (x1 : Int32) (x2 : Int32) (x3 : Int32) (x4 : Int32) (h : tk_AH) (sz : Nat) : Option (tk_AH × Nat) :=
  (tk_gR h 3 0 x0).bind fun v4 =>
  if x3 = 0 then (
  (tk_gR h 3 0 x0).bind fun v6 =>
  (tk_aI h 0 v6 x1).bind fun v7 =>
  fX3_setTie_34 N x0 x1 x2 x4 (v7 &&& ((1 <<< (x2 &&& 31)) ^^^ (-1))) x1 v4 h sz) else (
  (tk_gR h 3 0 x0).bind fun v8 =>
  (tk_aI h 0 v8 x1).bind fun v9 =>
  fX3_setTie_34 N x0 x1 x2 x4 (v9 ||| (1 <<< (x2 &&& 31))) x1 v4 h sz)
set_option maxHeartbeats 8000000 in
set_option maxRecDepth 100000 in
theorem cX3_setTie_ok (l : Launch) (hl0 : l.stackTraces = false) (G : tk_AG) (N : Nat) (x0 : Nat) (x1 : Int32) (x2 : Int32) (x3 : Int32) (x4 : Int32) (h : tk_AH) (sz : Nat) (h9 : tk_AH) (sz9 : Nat) (hf : fX3_setTie N x0 x1 x2 x3 x4 h sz = some (h9, sz9)) : Met l yX3_setTie (coX3_setTie :: tk_W) ({ frames := 0, cells := 0, slots := 0, locals := 0 }) (tk_pc G [.ref x0, .int x1, .int x2, .int x3, .int x4] h sz) (tk_qc G none h9 sz9) 0 0 (tk_ag G) := by
  refine Met.ofW (cc := cX3_setTie) (maxL := 5) (ret := none) (by decide) rfl ?_
  intro p e s m args below meth c s₁ B hml hv
  obtain ⟨hav, hE, hrp, hsz, hgs⟩ := hv
  have hx := B.exec
  have hb := B.bytes
  have hr := B.returns
  have hts := atoms_spec (ws := coX3_setTie :: tk_W) B.pre
  have ht : ∀ w ∈ tk_W, w.before args s = true := fun w h => hts w (List.mem_cons_of_mem _ h)
  have hown : s.vm.findClass RX3 = some m.cls := findClass_of_methodNamed B.named
  have hlocks := B.notSynchronized
  have hs : tk_sw G s h sz s.heap [] := ⟨hrp, hsz, by rw [hsz]; exact hgs, va_S.rf⟩
  have hl := lv_entry ([.ref x0, .int x1, .int x2, .int x3, .int x4]) (n := 5) (Nat.le_of_ble_eq_true rfl)
  have hent : entryFrame m args 5 = F0 m 0 (lg_sl ([.ref x0, .int x1, .int x2, .int x3, .int x4]) ++ List.replicate (5 - (lg_sl ([.ref x0, .int x1, .int x2, .int x3, .int x4])).length) Slot.unset).toArray [] := by rw [hav, lg_entry_eq]
  rw [hent]
  clear hent
  generalize (lg_sl ([.ref x0, .int x1, .int x2, .int x3, .int x4]) ++ List.replicate (5 - (lg_sl ([.ref x0, .int x1, .int x2, .int x3, .int x4])).length) Slot.unset).toArray = ls at hl ⊢
  have hl : lv_has ls 5 [(0, .ref x0), (1, .int x1), (2, .int x2), (3, .int x3), (4, .int x4)] := hl
  have j34 : ∀ (x0 : Nat) (x1 : Int32) (x2 : Int32) (x4 : Int32) (y0 : Int32) (y1 : Int32) (y2 : Nat) (h : tk_AH) (sz : Nat) (H : Heap) (locs : List Loc) (ls : Array Slot), fX3_setTie_34 N x0 x1 x2 x4 y0 y1 y2 h sz = some (h9, sz9) → tk_sw G s h sz H locs → lv_has ls 5 [(0, .ref x0), (1, .int x1), (2, .int x2), (4, .int x4)] → W p l e (headSpec (coX3_setTie :: tk_W) ({ frames := 0, cells := 0, slots := 0, locals := 0 })).room s m args below meth c H locs 0 (0) (MQ below (tk_qc G none h9 sz9) args s 0 0 (tk_ag G)) (F0 m 34 ls [.int y0, .int y1, .ref y2]) := by
    intro x0 x1 x2 x4 y0 y1 y2 h sz H locs ls hf hs hl
    unfold fX3_setTie_34 at hf
    obtain ⟨h1, e1, hf⟩ := tk_bi hf
    refine tk_iast hx hb hE hs e1 dX3_setTie_34 (fun H locs hs => ?_)
    refine lv_aload_n hx hb dX3_setTie_35 rfl (lv_at hl 0 rfl) ?_
    obtain ⟨v2, e2, hf⟩ := tk_bi hf
    refine tk_getR hx hb ht inX3 hown hE hs rfl 1 (by decide) (ht _ wfX3_15) e2 dX3_setTie_36 ?_
    refine lv_iload_n hx hb dX3_setTie_39 rfl (lv_at hl 1 rfl) ?_
    refine lv_bipush (v := 14) hx hb dX3_setTie_40 (by decide) ?_
    refine lv_imul hx hb dX3_setTie_42 ?_
    refine lv_iload_n hx hb dX3_setTie_43 rfl (lv_at hl 2 rfl) ?_
    refine lv_iadd hx hb dX3_setTie_44 ?_
    refine lv_iload hx hb dX3_setTie_45 (lv_at hl 3 rfl) ?_
    obtain ⟨h3, e3, hf⟩ := tk_bi hf
    refine tk_iast hx hb hE hs e3 dX3_setTie_47 (fun H locs hs => ?_)
    cases hf
    exact tk_vret hx hb hr hlocks hs dX3_setTie_48
  unfold fX3_setTie at hf
  refine lv_aload_n hx hb dX3_setTie_0 rfl (lv_at hl 0 rfl) ?_
  obtain ⟨v4, e4, hf⟩ := tk_bi hf
  refine tk_getR hx hb ht inX3 hown hE hs rfl 0 (by decide) (ht _ wfX3_9) e4 dX3_setTie_1 ?_
  refine lv_iload_n hx hb dX3_setTie_4 rfl (lv_at hl 1 rfl) ?_
  refine lv_iload_n hx hb dX3_setTie_5 rfl (lv_at hl 3 rfl) ?_
  refine lv_if_eq (tgt := 22) hx hb dX3_setTie_6 (by decide) (fun c5 => ?_) (fun c5 => ?_)
  · rw [if_pos c5] at hf
    refine lv_aload_n hx hb dX3_setTie_22 rfl (lv_at hl 0 rfl) ?_
    obtain ⟨v6, e6, hf⟩ := tk_bi hf
    refine tk_getR hx hb ht inX3 hown hE hs rfl 0 (by decide) (ht _ wfX3_9) e6 dX3_setTie_23 ?_
    refine lv_iload_n hx hb dX3_setTie_26 rfl (lv_at hl 1 rfl) ?_
    obtain ⟨v7, e7, hf⟩ := tk_bi hf
    refine tk_iald hx hb hE hs e7 dX3_setTie_27 ?_
    refine lv_iconst (v := 1) hx hb dX3_setTie_28 (by decide) ?_
    refine lv_iload_n hx hb dX3_setTie_29 rfl (lv_at hl 2 rfl) ?_
    refine lv_ishl hx hb dX3_setTie_30 ?_
    refine lv_iconst (v := (-1)) hx hb dX3_setTie_31 (by decide) ?_
    refine lv_ixor hx hb dX3_setTie_32 ?_
    refine lv_iand hx hb dX3_setTie_33 ?_
    exact j34 x0 x1 x2 x4 (v7 &&& ((1 <<< (x2 &&& 31)) ^^^ (-1))) x1 v4 h sz _ _ _ hf hs (lv_sub hl [0, 1, 2, 4] rfl)
  · rw [if_neg c5] at hf
    refine lv_aload_n hx hb dX3_setTie_9 rfl (lv_at hl 0 rfl) ?_
    obtain ⟨v8, e8, hf⟩ := tk_bi hf
    refine tk_getR hx hb ht inX3 hown hE hs rfl 0 (by decide) (ht _ wfX3_9) e8 dX3_setTie_10 ?_
    refine lv_iload_n hx hb dX3_setTie_13 rfl (lv_at hl 1 rfl) ?_
    obtain ⟨v9, e9, hf⟩ := tk_bi hf
    refine tk_iald hx hb hE hs e9 dX3_setTie_14 ?_
    refine lv_iconst (v := 1) hx hb dX3_setTie_15 (by decide) ?_
    refine lv_iload_n hx hb dX3_setTie_16 rfl (lv_at hl 2 rfl) ?_
    refine lv_ishl hx hb dX3_setTie_17 ?_
    refine lv_ior hx hb dX3_setTie_18 ?_
    refine lv_goto (tgt := 34) hx hb dX3_setTie_19 (by decide) ?_
    exact j34 x0 x1 x2 x4 (v9 ||| (1 <<< (x2 &&& 31))) x1 v4 h sz _ _ _ hf hs (lv_sub hl [0, 1, 2, 4] rfl)
