def fX5_thrown (N : Nat) (x0 : Nat) (h : tk_AH) (sz : Nat) : Option (Int32 × tk_AH × Nat) :=
  (tk_gI h 5 0 x0).bind fun v1 =>
  some (v1, h, sz)
set_option maxHeartbeats 8000000 in
set_option maxRecDepth 100000 in
theorem cX5_thrown_ok (l : Launch) (hl0 : l.stackTraces = false) (G : tk_AG) (N : Nat) (x0 : Nat) (h : tk_AH) (sz : Nat) (r9 : Int32) (h9 : tk_AH) (sz9 : Nat) (hf : fX5_thrown N x0 h sz = some (r9, h9, sz9)) : Met l yX5_thrown (coX5_thrown :: tk_W) ({ frames := 0, cells := 0, slots := 0, locals := 0 }) (tk_pc G [.ref x0] h sz) (tk_qc G (some (.int r9)) h9 sz9) 0 0 (tk_ag G) := by
  refine Met.ofW (cc := cX5_thrown) (maxL := 1) (ret := (some .int)) (by decide) rfl ?_
  intro p e s m args below meth c s₁ B hml hv
  obtain ⟨hav, hE, hrp, hsz, hgs⟩ := hv
  have hx := B.exec
  have hb := B.bytes
  have hr := B.returns
  have hts := atoms_spec (ws := coX5_thrown :: tk_W) B.pre
  have ht : ∀ w ∈ tk_W, w.before args s = true := fun w h => hts w (List.mem_cons_of_mem _ h)
  have hown : s.vm.findClass RX5 = some m.cls := findClass_of_methodNamed B.named
  have hlocks := B.notSynchronized
  have hs : tk_sw G s h sz s.heap [] := ⟨hrp, hsz, by rw [hsz]; exact hgs, va_S.rf⟩
  have hl := lv_entry ([.ref x0]) (n := 1) (Nat.le_of_ble_eq_true rfl)
  have hent : entryFrame m args 1 = F0 m 0 (lg_sl ([.ref x0]) ++ List.replicate (1 - (lg_sl ([.ref x0])).length) Slot.unset).toArray [] := by rw [hav, lg_entry_eq]
  rw [hent]
  clear hent
  generalize (lg_sl ([.ref x0]) ++ List.replicate (1 - (lg_sl ([.ref x0])).length) Slot.unset).toArray = ls at hl ⊢
  have hl : lv_has ls 1 [(0, .ref x0)] := hl
  unfold fX5_thrown at hf
  refine lv_aload_n hx hb dX5_thrown_0 rfl (lv_at hl 0 rfl) ?_
  obtain ⟨v1, e1, hf⟩ := tk_bi hf
  refine tk_getI hx hb ht inX5 hown hE hs rfl 0 (by decide) (ht _ wfX5_89) e1 dX5_thrown_1 ?_
  cases hf
  exact tk_iret hx hb hr hlocks hs dX5_thrown_4
def fX5_right_28 (N : Nat) (y0 : Int32) (h : tk_AH) (sz : Nat) : Option (Int32 × tk_AH × Nat) :=
  (tk_bz y0).bind fun _ =>
  some (y0, h, sz)
def fX5_right_16 (N : Nat) (x0 : Nat) (h : tk_AH) (sz : Nat) : Option (Int32 × tk_AH × Nat) :=
  (tk_gI h 5 0 x0).bind fun v2 =>
  if v2 = 0 then (
  fX5_right_28 N 1 h sz) else (
  fX5_right_28 N 0 h sz)
def fX5_right (N : Nat) (x0 : Nat) (x1 : Int32) (x2 : Int32) (h : tk_AH) (sz : Nat) : Option (Int32 × tk_AH × Nat) :=
  (tk_gI h 5 0 x0).bind fun v4 =>
  if v4 = 0 then (
  if x1 = 0 then (
  (tk_pF h 5 0 x0 (.int x2)).bind fun h7 =>
  fX5_right_16 N x0 h7 sz) else (
  fX5_right_16 N x0 h sz)) else (
  fX5_right_16 N x0 h sz)
set_option maxHeartbeats 8000000 in
set_option maxRecDepth 100000 in
theorem cX5_right_ok (l : Launch) (hl0 : l.stackTraces = false) (G : tk_AG) (N : Nat) (x0 : Nat) (x1 : Int32) (x2 : Int32) (h : tk_AH) (sz : Nat) (r9 : Int32) (h9 : tk_AH) (sz9 : Nat) (hf : fX5_right N x0 x1 x2 h sz = some (r9, h9, sz9)) : Met l yX5_right (coX5_right :: tk_W) ({ frames := 0, cells := 0, slots := 0, locals := 0 }) (tk_pc G [.ref x0, .int x1, .int x2] h sz) (tk_qc G (some (.int r9)) h9 sz9) 0 0 (tk_ag G) := by
  refine Met.ofW (cc := cX5_right) (maxL := 3) (ret := (some .boolean)) (by decide) rfl ?_
  intro p e s m args below meth c s₁ B hml hv
  obtain ⟨hav, hE, hrp, hsz, hgs⟩ := hv
  have hx := B.exec
  have hb := B.bytes
  have hr := B.returns
  have hts := atoms_spec (ws := coX5_right :: tk_W) B.pre
  have ht : ∀ w ∈ tk_W, w.before args s = true := fun w h => hts w (List.mem_cons_of_mem _ h)
  have hown : s.vm.findClass RX5 = some m.cls := findClass_of_methodNamed B.named
  have hlocks := B.notSynchronized
  have hs : tk_sw G s h sz s.heap [] := ⟨hrp, hsz, by rw [hsz]; exact hgs, va_S.rf⟩
  have hl := lv_entry ([.ref x0, .int x1, .int x2]) (n := 3) (Nat.le_of_ble_eq_true rfl)
  have hent : entryFrame m args 3 = F0 m 0 (lg_sl ([.ref x0, .int x1, .int x2]) ++ List.replicate (3 - (lg_sl ([.ref x0, .int x1, .int x2])).length) Slot.unset).toArray [] := by rw [hav, lg_entry_eq]
  rw [hent]
  clear hent
  generalize (lg_sl ([.ref x0, .int x1, .int x2]) ++ List.replicate (3 - (lg_sl ([.ref x0, .int x1, .int x2])).length) Slot.unset).toArray = ls at hl ⊢
  have hl : lv_has ls 3 [(0, .ref x0), (1, .int x1), (2, .int x2)] := hl
  have j28 : ∀ (y0 : Int32) (h : tk_AH) (sz : Nat) (H : Heap) (locs : List Loc) (ls : Array Slot), fX5_right_28 N y0 h sz = some (r9, h9, sz9) → tk_sw G s h sz H locs → lv_has ls 3 [] → W p l e (headSpec (coX5_right :: tk_W) ({ frames := 0, cells := 0, slots := 0, locals := 0 })).room s m args below meth c H locs 0 (0) (MQ below (tk_qc G (some (.int r9)) h9 sz9) args s 0 0 (tk_ag G)) (F0 m 28 ls [.int y0]) := by
    intro y0 h sz H locs ls hf hs hl
    unfold fX5_right_28 at hf
    obtain ⟨_, e1, hf⟩ := tk_bi hf
    have e1 := tk_bz_ok e1
    cases hf
    exact tk_zret hx hb hr hlocks e1 hs dX5_right_28
  have j16 : ∀ (x0 : Nat) (h : tk_AH) (sz : Nat) (H : Heap) (locs : List Loc) (ls : Array Slot), fX5_right_16 N x0 h sz = some (r9, h9, sz9) → tk_sw G s h sz H locs → lv_has ls 3 [(0, .ref x0)] → W p l e (headSpec (coX5_right :: tk_W) ({ frames := 0, cells := 0, slots := 0, locals := 0 })).room s m args below meth c H locs 0 (0) (MQ below (tk_qc G (some (.int r9)) h9 sz9) args s 0 0 (tk_ag G)) (F0 m 16 ls []) := by
    intro x0 h sz H locs ls hf hs hl
    unfold fX5_right_16 at hf
    refine lv_aload_n hx hb dX5_right_16 rfl (lv_at hl 0 rfl) ?_
    obtain ⟨v2, e2, hf⟩ := tk_bi hf
    refine tk_getI hx hb ht inX5 hown hE hs rfl 0 (by decide) (ht _ wfX5_89) e2 dX5_right_17 ?_
    refine lv_if_ne (tgt := 27) hx hb dX5_right_20 (by decide) (fun c3 => ?_) (fun c3 => ?_)
    · rw [if_neg c3] at hf
      refine lv_iconst (v := 0) hx hb dX5_right_27 (by decide) ?_
      exact j28 0 h sz _ _ _ hf hs (lv_sub hl [] rfl)
    · rw [if_pos c3] at hf
      refine lv_iconst (v := 1) hx hb dX5_right_23 (by decide) ?_
      refine lv_goto (tgt := 28) hx hb dX5_right_24 (by decide) ?_
      exact j28 1 h sz _ _ _ hf hs (lv_sub hl [] rfl)
  unfold fX5_right at hf
  refine lv_aload_n hx hb dX5_right_0 rfl (lv_at hl 0 rfl) ?_
  obtain ⟨v4, e4, hf⟩ := tk_bi hf
  refine tk_getI hx hb ht inX5 hown hE hs rfl 0 (by decide) (ht _ wfX5_89) e4 dX5_right_1 ?_
  refine lv_if_ne (tgt := 16) hx hb dX5_right_4 (by decide) (fun c5 => ?_) (fun c5 => ?_)
  · rw [if_neg c5] at hf
    exact j16 x0 h sz _ _ _ hf hs (lv_sub hl [0] rfl)
  · rw [if_pos c5] at hf
    refine lv_iload_n hx hb dX5_right_7 rfl (lv_at hl 1 rfl) ?_
    refine lv_if_ne (tgt := 16) hx hb dX5_right_8 (by decide) (fun c6 => ?_) (fun c6 => ?_)
    · rw [if_neg c6] at hf
      exact j16 x0 h sz _ _ _ hf hs (lv_sub hl [0] rfl)
    · rw [if_pos c6] at hf
      refine lv_aload_n hx hb dX5_right_11 rfl (lv_at hl 0 rfl) ?_
      refine lv_iload_n hx hb dX5_right_12 rfl (lv_at hl 2 rfl) ?_
      obtain ⟨h7, e7, hf⟩ := tk_bi hf
      refine tk_put hx hb ht inX5 tyX5 tyX5_ok nmX5 hown hE hs rfl 0 (by decide) (ht _ wfX5_89) rfl rfl rfl e7 dX5_right_13 (fun H locs hs => ?_)
      exact j16 x0 h7 sz _ _ _ hf hs (lv_sub hl [0] rfl)
def fX5_isLearner_23 (N : Nat) (y0 : Int32) (y1 : Nat) (h : tk_AH) (sz : Nat) : Option (Int32 × tk_AH × Nat) :=
  (tk_ok h 5 y1).bind fun _ =>
  (fX5_right N y1 y0 1 h sz).bind fun o1 =>
  (tk_bz o1.1).bind fun _ =>
  some (o1.1, o1.2.1, o1.2.2)
def fX5_isLearner_22 (N : Nat) (y0 : Nat) (h : tk_AH) (sz : Nat) : Option (Int32 × tk_AH × Nat) :=
  fX5_isLearner_23 N 0 y0 h sz
def fX5_isLearner (N : Nat) (x0 : Nat) (x1 : Int32) (h : tk_AH) (sz : Nat) : Option (Int32 × tk_AH × Nat) :=
  (tk_pF h 5 0 x0 (.int 0)).bind fun h4 =>
  if x1 < 0 then (
  fX5_isLearner_22 N x0 h4 sz) else (
  (tk_gI h4 5 1 x0).bind fun v6 =>
  if v6 ≤ x1 then (
  fX5_isLearner_22 N x0 h4 sz) else (
  fX5_isLearner_23 N 1 x0 h4 sz))
set_option maxHeartbeats 8000000 in
set_option maxRecDepth 100000 in
theorem cX5_isLearner_ok (l : Launch) (hl0 : l.stackTraces = false) (G : tk_AG) (N : Nat) (x0 : Nat) (x1 : Int32) (h : tk_AH) (sz : Nat) (r9 : Int32) (h9 : tk_AH) (sz9 : Nat) (hf : fX5_isLearner N x0 x1 h sz = some (r9, h9, sz9)) : Met l yX5_isLearner (coX5_isLearner :: tk_W) ({ frames := 1, cells := 0, slots := 0, locals := 22 }) (tk_pc G [.ref x0, .int x1] h sz) (tk_qc G (some (.int r9)) h9 sz9) 0 0 (tk_ag G) := by
  refine Met.ofW (cc := cX5_isLearner) (maxL := 2) (ret := (some .boolean)) (by decide) rfl ?_
  intro p e s m args below meth c s₁ B hml hv
  obtain ⟨hav, hE, hrp, hsz, hgs⟩ := hv
  have hx := B.exec
  have hb := B.bytes
  have hr := B.returns
  have hts := atoms_spec (ws := coX5_isLearner :: tk_W) B.pre
  have ht : ∀ w ∈ tk_W, w.before args s = true := fun w h => hts w (List.mem_cons_of_mem _ h)
  have hown : s.vm.findClass RX5 = some m.cls := findClass_of_methodNamed B.named
  have hlocks := B.notSynchronized
  have hs : tk_sw G s h sz s.heap [] := ⟨hrp, hsz, by rw [hsz]; exact hgs, va_S.rf⟩
  have hl := lv_entry ([.ref x0, .int x1]) (n := 2) (Nat.le_of_ble_eq_true rfl)
  have hent : entryFrame m args 2 = F0 m 0 (lg_sl ([.ref x0, .int x1]) ++ List.replicate (2 - (lg_sl ([.ref x0, .int x1])).length) Slot.unset).toArray [] := by rw [hav, lg_entry_eq]
  rw [hent]
  clear hent
  generalize (lg_sl ([.ref x0, .int x1]) ++ List.replicate (2 - (lg_sl ([.ref x0, .int x1])).length) Slot.unset).toArray = ls at hl ⊢
  have hl : lv_has ls 2 [(0, .ref x0), (1, .int x1)] := hl
  have j23 : ∀ (y0 : Int32) (y1 : Nat) (h : tk_AH) (sz : Nat) (H : Heap) (locs : List Loc) (ls : Array Slot), fX5_isLearner_23 N y0 y1 h sz = some (r9, h9, sz9) → tk_sw G s h sz H locs → lv_has ls 2 [] → W p l e (headSpec (coX5_isLearner :: tk_W) ({ frames := 1, cells := 0, slots := 0, locals := 22 })).room s m args below meth c H locs 0 (0) (MQ below (tk_qc G (some (.int r9)) h9 sz9) args s 0 0 (tk_ag G)) (F0 m 23 ls [.int y0, .ref y1]) := by
    intro y0 y1 h sz H locs ls hf hs hl
    unfold fX5_isLearner_23 at hf
    refine lv_iconst (v := 1) hx hb dX5_isLearner_23 (by decide) ?_
    obtain ⟨_, p1, hf⟩ := tk_bi hf
    obtain ⟨o1, e1, hf⟩ := tk_bi hf
    refine tk_call0 (v := some (.int o1.1)) hs (va_runV (As := [.int y0, .int 1]) (rest := []) ⟨hx, hb, hml, hown, ht⟩ (cX5_right_ok l hl0 G N y1 y0 1 h sz o1.1 o1.2.1 o1.2.2 e1) (kwX5_right ht wmX5_96 rfl rfl ⟨Nat.le_of_ble_eq_true rfl, Nat.le_of_ble_eq_true rfl⟩) (tk_preV hE hs (tk_ok_ok p1) rfl) rfl rfl hl.1 rfl (lv_room (Nat.le_of_ble_eq_true rfl)) dX5_isLearner_24 ⟨(Nat.le_of_ble_eq_true rfl), (Nat.le_of_ble_eq_true rfl)⟩) (fun H locs hs => ?_)
    refine W.eq (g2 := F0 m 27 ls [.int o1.1]) rfl ?_
    obtain ⟨_, e3, hf⟩ := tk_bi hf
    have e3 := tk_bz_ok e3
    cases hf
    exact tk_zret hx hb hr hlocks e3 hs dX5_isLearner_27
  have j22 : ∀ (y0 : Nat) (h : tk_AH) (sz : Nat) (H : Heap) (locs : List Loc) (ls : Array Slot), fX5_isLearner_22 N y0 h sz = some (r9, h9, sz9) → tk_sw G s h sz H locs → lv_has ls 2 [] → W p l e (headSpec (coX5_isLearner :: tk_W) ({ frames := 1, cells := 0, slots := 0, locals := 22 })).room s m args below meth c H locs 0 (0) (MQ below (tk_qc G (some (.int r9)) h9 sz9) args s 0 0 (tk_ag G)) (F0 m 22 ls [.ref y0]) := by
    intro y0 h sz H locs ls hf hs hl
    unfold fX5_isLearner_22 at hf
    refine lv_iconst (v := 0) hx hb dX5_isLearner_22 (by decide) ?_
    exact j23 0 y0 h sz _ _ _ hf hs (lv_sub hl [] rfl)
  unfold fX5_isLearner at hf
  refine lv_aload_n hx hb dX5_isLearner_0 rfl (lv_at hl 0 rfl) ?_
  refine lv_iconst (v := 0) hx hb dX5_isLearner_1 (by decide) ?_
  obtain ⟨h4, e4, hf⟩ := tk_bi hf
  refine tk_put hx hb ht inX5 tyX5 tyX5_ok nmX5 hown hE hs rfl 0 (by decide) (ht _ wfX5_89) rfl rfl rfl e4 dX5_isLearner_2 (fun H locs hs => ?_)
  refine lv_aload_n hx hb dX5_isLearner_5 rfl (lv_at hl 0 rfl) ?_
  refine lv_iload_n hx hb dX5_isLearner_6 rfl (lv_at hl 1 rfl) ?_
  refine lv_if_lt (tgt := 22) hx hb dX5_isLearner_7 (by decide) (fun c5 => ?_) (fun c5 => ?_)
  · rw [if_pos c5] at hf
    exact j22 x0 h4 sz _ _ _ hf hs (lv_sub hl [] rfl)
  · rw [if_neg c5] at hf
    refine lv_iload_n hx hb dX5_isLearner_10 rfl (lv_at hl 1 rfl) ?_
    refine lv_aload_n hx hb dX5_isLearner_11 rfl (lv_at hl 0 rfl) ?_
    obtain ⟨v6, e6, hf⟩ := tk_bi hf
    refine tk_getI hx hb ht inX5 hown hE hs rfl 1 (by decide) (ht _ wfX5_93) e6 dX5_isLearner_12 ?_
    refine lv_icmp_ge (tgt := 22) hx hb dX5_isLearner_15 (by decide) (fun c7 => ?_) (fun c7 => ?_)
    · rw [if_pos c7] at hf
      exact j22 x0 h4 sz _ _ _ hf hs (lv_sub hl [] rfl)
    · rw [if_neg c7] at hf
      refine lv_iconst (v := 1) hx hb dX5_isLearner_18 (by decide) ?_
      refine lv_goto (tgt := 23) hx hb dX5_isLearner_19 (by decide) ?_
      exact j23 1 x0 h4 sz _ _ _ hf hs (lv_sub hl [] rfl)
def fX5_areTwo_43 (N : Nat) (y0 : Int32) (h : tk_AH) (sz : Nat) : Option (Int32 × tk_AH × Nat) :=
  (tk_bz y0).bind fun _ =>
  some (y0, h, sz)
def fX5_areTwo_42 (N : Nat) (h : tk_AH) (sz : Nat) : Option (Int32 × tk_AH × Nat) :=
  fX5_areTwo_43 N 0 h sz
def fX5_areTwo_31 (N : Nat) (y0 : Int32) (y1 : Nat) (h : tk_AH) (sz : Nat) : Option (Int32 × tk_AH × Nat) :=
  (tk_ok h 5 y1).bind fun _ =>
  (fX5_right N y1 y0 1 h sz).bind fun o2 =>
  if o2.1 = 0 then (
  fX5_areTwo_42 N o2.2.1 o2.2.2) else (
  fX5_areTwo_43 N 1 o2.2.1 o2.2.2)
def fX5_areTwo_30 (N : Nat) (y0 : Nat) (h : tk_AH) (sz : Nat) : Option (Int32 × tk_AH × Nat) :=
  fX5_areTwo_31 N 0 y0 h sz
def fX5_areTwo (N : Nat) (x0 : Nat) (x1 : Int32) (x2 : Int32) (h : tk_AH) (sz : Nat) : Option (Int32 × tk_AH × Nat) :=
  (tk_ok h 5 x0).bind fun _ =>
  (fX5_isLearner N x0 x1 h sz).bind fun o5 =>
  if o5.1 = 0 then (
  fX5_areTwo_42 N o5.2.1 o5.2.2) else (
  if x2 < 0 then (
  fX5_areTwo_30 N x0 o5.2.1 o5.2.2) else (
  (tk_gI o5.2.1 5 1 x0).bind fun v9 =>
  if v9 ≤ x2 then (
  fX5_areTwo_30 N x0 o5.2.1 o5.2.2) else (
  if x1 = x2 then (
  fX5_areTwo_30 N x0 o5.2.1 o5.2.2) else (
  fX5_areTwo_31 N 1 x0 o5.2.1 o5.2.2))))
set_option maxHeartbeats 8000000 in
set_option maxRecDepth 100000 in
theorem cX5_areTwo_ok (l : Launch) (hl0 : l.stackTraces = false) (G : tk_AG) (N : Nat) (x0 : Nat) (x1 : Int32) (x2 : Int32) (h : tk_AH) (sz : Nat) (r9 : Int32) (h9 : tk_AH) (sz9 : Nat) (hf : fX5_areTwo N x0 x1 x2 h sz = some (r9, h9, sz9)) : Met l yX5_areTwo (coX5_areTwo :: tk_W) ({ frames := 2, cells := 0, slots := 0, locals := 43 }) (tk_pc G [.ref x0, .int x1, .int x2] h sz) (tk_qc G (some (.int r9)) h9 sz9) 0 0 (tk_ag G) := by
  refine Met.ofW (cc := cX5_areTwo) (maxL := 3) (ret := (some .boolean)) (by decide) rfl ?_
  intro p e s m args below meth c s₁ B hml hv
  obtain ⟨hav, hE, hrp, hsz, hgs⟩ := hv
  have hx := B.exec
  have hb := B.bytes
  have hr := B.returns
  have hts := atoms_spec (ws := coX5_areTwo :: tk_W) B.pre
  have ht : ∀ w ∈ tk_W, w.before args s = true := fun w h => hts w (List.mem_cons_of_mem _ h)
  have hown : s.vm.findClass RX5 = some m.cls := findClass_of_methodNamed B.named
  have hlocks := B.notSynchronized
  have hs : tk_sw G s h sz s.heap [] := ⟨hrp, hsz, by rw [hsz]; exact hgs, va_S.rf⟩
  have hl := lv_entry ([.ref x0, .int x1, .int x2]) (n := 3) (Nat.le_of_ble_eq_true rfl)
  have hent : entryFrame m args 3 = F0 m 0 (lg_sl ([.ref x0, .int x1, .int x2]) ++ List.replicate (3 - (lg_sl ([.ref x0, .int x1, .int x2])).length) Slot.unset).toArray [] := by rw [hav, lg_entry_eq]
  rw [hent]
  clear hent
  generalize (lg_sl ([.ref x0, .int x1, .int x2]) ++ List.replicate (3 - (lg_sl ([.ref x0, .int x1, .int x2])).length) Slot.unset).toArray = ls at hl ⊢
  have hl : lv_has ls 3 [(0, .ref x0), (1, .int x1), (2, .int x2)] := hl
  have j43 : ∀ (y0 : Int32) (h : tk_AH) (sz : Nat) (H : Heap) (locs : List Loc) (ls : Array Slot), fX5_areTwo_43 N y0 h sz = some (r9, h9, sz9) → tk_sw G s h sz H locs → lv_has ls 3 [] → W p l e (headSpec (coX5_areTwo :: tk_W) ({ frames := 2, cells := 0, slots := 0, locals := 43 })).room s m args below meth c H locs 0 (0) (MQ below (tk_qc G (some (.int r9)) h9 sz9) args s 0 0 (tk_ag G)) (F0 m 43 ls [.int y0]) := by
    intro y0 h sz H locs ls hf hs hl
    unfold fX5_areTwo_43 at hf
    obtain ⟨_, e1, hf⟩ := tk_bi hf
    have e1 := tk_bz_ok e1
    cases hf
    exact tk_zret hx hb hr hlocks e1 hs dX5_areTwo_43
  have j42 : ∀ (h : tk_AH) (sz : Nat) (H : Heap) (locs : List Loc) (ls : Array Slot), fX5_areTwo_42 N h sz = some (r9, h9, sz9) → tk_sw G s h sz H locs → lv_has ls 3 [] → W p l e (headSpec (coX5_areTwo :: tk_W) ({ frames := 2, cells := 0, slots := 0, locals := 43 })).room s m args below meth c H locs 0 (0) (MQ below (tk_qc G (some (.int r9)) h9 sz9) args s 0 0 (tk_ag G)) (F0 m 42 ls []) := by
    intro h sz H locs ls hf hs hl
    unfold fX5_areTwo_42 at hf
    refine lv_iconst (v := 0) hx hb dX5_areTwo_42 (by decide) ?_
    exact j43 0 h sz _ _ _ hf hs (lv_sub hl [] rfl)
  have j31 : ∀ (y0 : Int32) (y1 : Nat) (h : tk_AH) (sz : Nat) (H : Heap) (locs : List Loc) (ls : Array Slot), fX5_areTwo_31 N y0 y1 h sz = some (r9, h9, sz9) → tk_sw G s h sz H locs → lv_has ls 3 [] → W p l e (headSpec (coX5_areTwo :: tk_W) ({ frames := 2, cells := 0, slots := 0, locals := 43 })).room s m args below meth c H locs 0 (0) (MQ below (tk_qc G (some (.int r9)) h9 sz9) args s 0 0 (tk_ag G)) (F0 m 31 ls [.int y0, .ref y1]) := by
    intro y0 y1 h sz H locs ls hf hs hl
    unfold fX5_areTwo_31 at hf
    refine lv_iconst (v := 1) hx hb dX5_areTwo_31 (by decide) ?_
    obtain ⟨_, p2, hf⟩ := tk_bi hf
    obtain ⟨o2, e2, hf⟩ := tk_bi hf
    refine tk_call0 (v := some (.int o2.1)) hs (va_runV (As := [.int y0, .int 1]) (rest := []) ⟨hx, hb, hml, hown, ht⟩ (cX5_right_ok l hl0 G N y1 y0 1 h sz o2.1 o2.2.1 o2.2.2 e2) (kwX5_right ht wmX5_96 rfl rfl ⟨Nat.le_of_ble_eq_true rfl, Nat.le_of_ble_eq_true rfl⟩) (tk_preV hE hs (tk_ok_ok p2) rfl) rfl rfl hl.1 rfl (lv_room (Nat.le_of_ble_eq_true rfl)) dX5_areTwo_32 ⟨(Nat.le_of_ble_eq_true rfl), (Nat.le_of_ble_eq_true rfl)⟩) (fun H locs hs => ?_)
    refine W.eq (g2 := F0 m 35 ls [.int o2.1]) rfl ?_
    refine lv_if_eq (tgt := 42) hx hb dX5_areTwo_35 (by decide) (fun c4 => ?_) (fun c4 => ?_)
    · rw [if_pos c4] at hf
      exact j42 o2.2.1 o2.2.2 _ _ _ hf hs (lv_sub hl [] rfl)
    · rw [if_neg c4] at hf
      refine lv_iconst (v := 1) hx hb dX5_areTwo_38 (by decide) ?_
      refine lv_goto (tgt := 43) hx hb dX5_areTwo_39 (by decide) ?_
      exact j43 1 o2.2.1 o2.2.2 _ _ _ hf hs (lv_sub hl [] rfl)
  have j30 : ∀ (y0 : Nat) (h : tk_AH) (sz : Nat) (H : Heap) (locs : List Loc) (ls : Array Slot), fX5_areTwo_30 N y0 h sz = some (r9, h9, sz9) → tk_sw G s h sz H locs → lv_has ls 3 [] → W p l e (headSpec (coX5_areTwo :: tk_W) ({ frames := 2, cells := 0, slots := 0, locals := 43 })).room s m args below meth c H locs 0 (0) (MQ below (tk_qc G (some (.int r9)) h9 sz9) args s 0 0 (tk_ag G)) (F0 m 30 ls [.ref y0]) := by
    intro y0 h sz H locs ls hf hs hl
    unfold fX5_areTwo_30 at hf
    refine lv_iconst (v := 0) hx hb dX5_areTwo_30 (by decide) ?_
    exact j31 0 y0 h sz _ _ _ hf hs (lv_sub hl [] rfl)
  unfold fX5_areTwo at hf
  refine lv_aload_n hx hb dX5_areTwo_0 rfl (lv_at hl 0 rfl) ?_
  refine lv_iload_n hx hb dX5_areTwo_1 rfl (lv_at hl 1 rfl) ?_
  obtain ⟨_, p5, hf⟩ := tk_bi hf
  obtain ⟨o5, e5, hf⟩ := tk_bi hf
  refine tk_call0 (v := some (.int o5.1)) hs (va_runV (As := [.int x1]) (rest := []) ⟨hx, hb, hml, hown, ht⟩ (cX5_isLearner_ok l hl0 G N x0 x1 h sz o5.1 o5.2.1 o5.2.2 e5) (kwX5_isLearner ht wmX5_100 rfl rfl ⟨Nat.le_of_ble_eq_true rfl, Nat.le_of_ble_eq_true rfl⟩) (tk_preV hE hs (tk_ok_ok p5) rfl) rfl rfl hl.1 rfl (lv_room (Nat.le_of_ble_eq_true rfl)) dX5_areTwo_2 ⟨(Nat.le_of_ble_eq_true rfl), (Nat.le_of_ble_eq_true rfl)⟩) (fun H locs hs => ?_)
  refine W.eq (g2 := F0 m 5 ls [.int o5.1]) rfl ?_
  refine lv_if_eq (tgt := 42) hx hb dX5_areTwo_5 (by decide) (fun c7 => ?_) (fun c7 => ?_)
  · rw [if_pos c7] at hf
    exact j42 o5.2.1 o5.2.2 _ _ _ hf hs (lv_sub hl [] rfl)
  · rw [if_neg c7] at hf
    refine lv_aload_n hx hb dX5_areTwo_8 rfl (lv_at hl 0 rfl) ?_
    refine lv_iload_n hx hb dX5_areTwo_9 rfl (lv_at hl 2 rfl) ?_
    refine lv_if_lt (tgt := 30) hx hb dX5_areTwo_10 (by decide) (fun c8 => ?_) (fun c8 => ?_)
    · rw [if_pos c8] at hf
      exact j30 x0 o5.2.1 o5.2.2 _ _ _ hf hs (lv_sub hl [] rfl)
    · rw [if_neg c8] at hf
      refine lv_iload_n hx hb dX5_areTwo_13 rfl (lv_at hl 2 rfl) ?_
      refine lv_aload_n hx hb dX5_areTwo_14 rfl (lv_at hl 0 rfl) ?_
      obtain ⟨v9, e9, hf⟩ := tk_bi hf
      refine tk_getI hx hb ht inX5 hown hE hs rfl 1 (by decide) (ht _ wfX5_93) e9 dX5_areTwo_15 ?_
      refine lv_icmp_ge (tgt := 30) hx hb dX5_areTwo_18 (by decide) (fun c10 => ?_) (fun c10 => ?_)
      · rw [if_pos c10] at hf
        exact j30 x0 o5.2.1 o5.2.2 _ _ _ hf hs (lv_sub hl [] rfl)
      · rw [if_neg c10] at hf
        refine lv_iload_n hx hb dX5_areTwo_21 rfl (lv_at hl 1 rfl) ?_
        refine lv_iload_n hx hb dX5_areTwo_22 rfl (lv_at hl 2 rfl) ?_
        refine lv_icmp_eq (tgt := 30) hx hb dX5_areTwo_23 (by decide) (fun c11 => ?_) (fun c11 => ?_)
        · rw [if_pos c11] at hf
          exact j30 x0 o5.2.1 o5.2.2 _ _ _ hf hs (lv_sub hl [] rfl)
        · rw [if_neg c11] at hf
          refine lv_iconst (v := 1) hx hb dX5_areTwo_26 (by decide) ?_
          refine lv_goto (tgt := 31) hx hb dX5_areTwo_27 (by decide) ?_
          exact j31 1 x0 o5.2.1 o5.2.2 _ _ _ hf hs (lv_sub hl [] rfl)
def fX5_isTongue_36 (N : Nat) (y0 : Int32) (h : tk_AH) (sz : Nat) : Option (Int32 × tk_AH × Nat) :=
  (tk_bz y0).bind fun _ =>
  some (y0, h, sz)
def fX5_isTongue_35 (N : Nat) (h : tk_AH) (sz : Nat) : Option (Int32 × tk_AH × Nat) :=
  fX5_isTongue_36 N 0 h sz
def fX5_isTongue_24 (N : Nat) (y0 : Int32) (y1 : Nat) (h : tk_AH) (sz : Nat) : Option (Int32 × tk_AH × Nat) :=
  (tk_ok h 5 y1).bind fun _ =>
  (fX5_right N y1 y0 1 h sz).bind fun o2 =>
  if o2.1 = 0 then (
  fX5_isTongue_35 N o2.2.1 o2.2.2) else (
  fX5_isTongue_36 N 1 o2.2.1 o2.2.2)
def fX5_isTongue_23 (N : Nat) (y0 : Nat) (h : tk_AH) (sz : Nat) : Option (Int32 × tk_AH × Nat) :=
  fX5_isTongue_24 N 0 y0 h sz
def fX5_isTongue (N : Nat) (x0 : Nat) (x1 : Int32) (x2 : Int32) (h : tk_AH) (sz : Nat) : Option (Int32 × tk_AH × Nat) :=
  (tk_ok h 5 x0).bind fun _ =>
  (fX5_isLearner N x0 x1 h sz).bind fun o5 =>
  if o5.1 = 0 then (
  fX5_isTongue_35 N o5.2.1 o5.2.2) else (
  if x2 < 0 then (
  fX5_isTongue_23 N x0 o5.2.1 o5.2.2) else (
  if 7 < x2 then (
  fX5_isTongue_23 N x0 o5.2.1 o5.2.2) else (
  fX5_isTongue_24 N 1 x0 o5.2.1 o5.2.2)))
set_option maxHeartbeats 8000000 in
set_option maxRecDepth 100000 in
theorem cX5_isTongue_ok (l : Launch) (hl0 : l.stackTraces = false) (G : tk_AG) (N : Nat) (x0 : Nat) (x1 : Int32) (x2 : Int32) (h : tk_AH) (sz : Nat) (r9 : Int32) (h9 : tk_AH) (sz9 : Nat) (hf : fX5_isTongue N x0 x1 x2 h sz = some (r9, h9, sz9)) : Met l yX5_isTongue (coX5_isTongue :: tk_W) ({ frames := 2, cells := 0, slots := 0, locals := 43 }) (tk_pc G [.ref x0, .int x1, .int x2] h sz) (tk_qc G (some (.int r9)) h9 sz9) 0 0 (tk_ag G) := by
  refine Met.ofW (cc := cX5_isTongue) (maxL := 3) (ret := (some .boolean)) (by decide) rfl ?_
  intro p e s m args below meth c s₁ B hml hv
  obtain ⟨hav, hE, hrp, hsz, hgs⟩ := hv
  have hx := B.exec
  have hb := B.bytes
  have hr := B.returns
  have hts := atoms_spec (ws := coX5_isTongue :: tk_W) B.pre
  have ht : ∀ w ∈ tk_W, w.before args s = true := fun w h => hts w (List.mem_cons_of_mem _ h)
  have hown : s.vm.findClass RX5 = some m.cls := findClass_of_methodNamed B.named
  have hlocks := B.notSynchronized
  have hs : tk_sw G s h sz s.heap [] := ⟨hrp, hsz, by rw [hsz]; exact hgs, va_S.rf⟩
  have hl := lv_entry ([.ref x0, .int x1, .int x2]) (n := 3) (Nat.le_of_ble_eq_true rfl)
  have hent : entryFrame m args 3 = F0 m 0 (lg_sl ([.ref x0, .int x1, .int x2]) ++ List.replicate (3 - (lg_sl ([.ref x0, .int x1, .int x2])).length) Slot.unset).toArray [] := by rw [hav, lg_entry_eq]
  rw [hent]
  clear hent
  generalize (lg_sl ([.ref x0, .int x1, .int x2]) ++ List.replicate (3 - (lg_sl ([.ref x0, .int x1, .int x2])).length) Slot.unset).toArray = ls at hl ⊢
  have hl : lv_has ls 3 [(0, .ref x0), (1, .int x1), (2, .int x2)] := hl
  have j36 : ∀ (y0 : Int32) (h : tk_AH) (sz : Nat) (H : Heap) (locs : List Loc) (ls : Array Slot), fX5_isTongue_36 N y0 h sz = some (r9, h9, sz9) → tk_sw G s h sz H locs → lv_has ls 3 [] → W p l e (headSpec (coX5_isTongue :: tk_W) ({ frames := 2, cells := 0, slots := 0, locals := 43 })).room s m args below meth c H locs 0 (0) (MQ below (tk_qc G (some (.int r9)) h9 sz9) args s 0 0 (tk_ag G)) (F0 m 36 ls [.int y0]) := by
    intro y0 h sz H locs ls hf hs hl
    unfold fX5_isTongue_36 at hf
    obtain ⟨_, e1, hf⟩ := tk_bi hf
    have e1 := tk_bz_ok e1
    cases hf
    exact tk_zret hx hb hr hlocks e1 hs dX5_isTongue_36
  have j35 : ∀ (h : tk_AH) (sz : Nat) (H : Heap) (locs : List Loc) (ls : Array Slot), fX5_isTongue_35 N h sz = some (r9, h9, sz9) → tk_sw G s h sz H locs → lv_has ls 3 [] → W p l e (headSpec (coX5_isTongue :: tk_W) ({ frames := 2, cells := 0, slots := 0, locals := 43 })).room s m args below meth c H locs 0 (0) (MQ below (tk_qc G (some (.int r9)) h9 sz9) args s 0 0 (tk_ag G)) (F0 m 35 ls []) := by
    intro h sz H locs ls hf hs hl
    unfold fX5_isTongue_35 at hf
    refine lv_iconst (v := 0) hx hb dX5_isTongue_35 (by decide) ?_
    exact j36 0 h sz _ _ _ hf hs (lv_sub hl [] rfl)
  have j24 : ∀ (y0 : Int32) (y1 : Nat) (h : tk_AH) (sz : Nat) (H : Heap) (locs : List Loc) (ls : Array Slot), fX5_isTongue_24 N y0 y1 h sz = some (r9, h9, sz9) → tk_sw G s h sz H locs → lv_has ls 3 [] → W p l e (headSpec (coX5_isTongue :: tk_W) ({ frames := 2, cells := 0, slots := 0, locals := 43 })).room s m args below meth c H locs 0 (0) (MQ below (tk_qc G (some (.int r9)) h9 sz9) args s 0 0 (tk_ag G)) (F0 m 24 ls [.int y0, .ref y1]) := by
    intro y0 y1 h sz H locs ls hf hs hl
    unfold fX5_isTongue_24 at hf
    refine lv_iconst (v := 1) hx hb dX5_isTongue_24 (by decide) ?_
    obtain ⟨_, p2, hf⟩ := tk_bi hf
    obtain ⟨o2, e2, hf⟩ := tk_bi hf
    refine tk_call0 (v := some (.int o2.1)) hs (va_runV (As := [.int y0, .int 1]) (rest := []) ⟨hx, hb, hml, hown, ht⟩ (cX5_right_ok l hl0 G N y1 y0 1 h sz o2.1 o2.2.1 o2.2.2 e2) (kwX5_right ht wmX5_96 rfl rfl ⟨Nat.le_of_ble_eq_true rfl, Nat.le_of_ble_eq_true rfl⟩) (tk_preV hE hs (tk_ok_ok p2) rfl) rfl rfl hl.1 rfl (lv_room (Nat.le_of_ble_eq_true rfl)) dX5_isTongue_25 ⟨(Nat.le_of_ble_eq_true rfl), (Nat.le_of_ble_eq_true rfl)⟩) (fun H locs hs => ?_)
    refine W.eq (g2 := F0 m 28 ls [.int o2.1]) rfl ?_
    refine lv_if_eq (tgt := 35) hx hb dX5_isTongue_28 (by decide) (fun c4 => ?_) (fun c4 => ?_)
    · rw [if_pos c4] at hf
      exact j35 o2.2.1 o2.2.2 _ _ _ hf hs (lv_sub hl [] rfl)
    · rw [if_neg c4] at hf
      refine lv_iconst (v := 1) hx hb dX5_isTongue_31 (by decide) ?_
      refine lv_goto (tgt := 36) hx hb dX5_isTongue_32 (by decide) ?_
      exact j36 1 o2.2.1 o2.2.2 _ _ _ hf hs (lv_sub hl [] rfl)
  have j23 : ∀ (y0 : Nat) (h : tk_AH) (sz : Nat) (H : Heap) (locs : List Loc) (ls : Array Slot), fX5_isTongue_23 N y0 h sz = some (r9, h9, sz9) → tk_sw G s h sz H locs → lv_has ls 3 [] → W p l e (headSpec (coX5_isTongue :: tk_W) ({ frames := 2, cells := 0, slots := 0, locals := 43 })).room s m args below meth c H locs 0 (0) (MQ below (tk_qc G (some (.int r9)) h9 sz9) args s 0 0 (tk_ag G)) (F0 m 23 ls [.ref y0]) := by
    intro y0 h sz H locs ls hf hs hl
    unfold fX5_isTongue_23 at hf
    refine lv_iconst (v := 0) hx hb dX5_isTongue_23 (by decide) ?_
    exact j24 0 y0 h sz _ _ _ hf hs (lv_sub hl [] rfl)
  unfold fX5_isTongue at hf
  refine lv_aload_n hx hb dX5_isTongue_0 rfl (lv_at hl 0 rfl) ?_
  refine lv_iload_n hx hb dX5_isTongue_1 rfl (lv_at hl 1 rfl) ?_
  obtain ⟨_, p5, hf⟩ := tk_bi hf
  obtain ⟨o5, e5, hf⟩ := tk_bi hf
  refine tk_call0 (v := some (.int o5.1)) hs (va_runV (As := [.int x1]) (rest := []) ⟨hx, hb, hml, hown, ht⟩ (cX5_isLearner_ok l hl0 G N x0 x1 h sz o5.1 o5.2.1 o5.2.2 e5) (kwX5_isLearner ht wmX5_100 rfl rfl ⟨Nat.le_of_ble_eq_true rfl, Nat.le_of_ble_eq_true rfl⟩) (tk_preV hE hs (tk_ok_ok p5) rfl) rfl rfl hl.1 rfl (lv_room (Nat.le_of_ble_eq_true rfl)) dX5_isTongue_2 ⟨(Nat.le_of_ble_eq_true rfl), (Nat.le_of_ble_eq_true rfl)⟩) (fun H locs hs => ?_)
  refine W.eq (g2 := F0 m 5 ls [.int o5.1]) rfl ?_
  refine lv_if_eq (tgt := 35) hx hb dX5_isTongue_5 (by decide) (fun c7 => ?_) (fun c7 => ?_)
  · rw [if_pos c7] at hf
    exact j35 o5.2.1 o5.2.2 _ _ _ hf hs (lv_sub hl [] rfl)
  · rw [if_neg c7] at hf
    refine lv_aload_n hx hb dX5_isTongue_8 rfl (lv_at hl 0 rfl) ?_
    refine lv_iload_n hx hb dX5_isTongue_9 rfl (lv_at hl 2 rfl) ?_
    refine lv_if_lt (tgt := 23) hx hb dX5_isTongue_10 (by decide) (fun c8 => ?_) (fun c8 => ?_)
    · rw [if_pos c8] at hf
      exact j23 x0 o5.2.1 o5.2.2 _ _ _ hf hs (lv_sub hl [] rfl)
    · rw [if_neg c8] at hf
      refine lv_iload_n hx hb dX5_isTongue_13 rfl (lv_at hl 2 rfl) ?_
      refine lv_bipush (v := 7) hx hb dX5_isTongue_14 (by decide) ?_
      refine lv_icmp_gt (tgt := 23) hx hb dX5_isTongue_16 (by decide) (fun c9 => ?_) (fun c9 => ?_)
      · rw [if_pos c9] at hf
        exact j23 x0 o5.2.1 o5.2.2 _ _ _ hf hs (lv_sub hl [] rfl)
      · rw [if_neg c9] at hf
        refine lv_iconst (v := 1) hx hb dX5_isTongue_19 (by decide) ?_
        refine lv_goto (tgt := 24) hx hb dX5_isTongue_20 (by decide) ?_
        exact j24 1 x0 o5.2.1 o5.2.2 _ _ _ hf hs (lv_sub hl [] rfl)
def fX5_learner_31 (N : Nat) : Nat → Nat → Int32 → tk_AH → Nat → Option (Int32 × tk_AH × Nat)
  | 0, _, _, _, _ => none
  | n + 1, x0, x2, h, sz =>
  if 8 ≤ x2 then (
  (tk_gI h 5 1 x0).bind fun v2 =>
  (tk_pF h 5 1 x0 (.int (v2 + 1))).bind fun h3 =>
  (tk_gI h3 5 1 x0).bind fun v4 =>
  some (v4 - 1, h3, sz)) else (
  (tk_gR h 5 8 x0).bind fun v5 =>
  (tk_gI h 5 1 x0).bind fun v6 =>
  (tk_sI h 0 v5 ((8 * v6) + x2) 10).bind fun h7 =>
  fX5_learner_31 N n x0 (x2 + 1) h7 sz)
def fX5_learner (N : Nat) (x0 : Nat) (x1 : Int32) (h : tk_AH) (sz : Nat) : Option (Int32 × tk_AH × Nat) :=
  (tk_pF h 5 0 x0 (.int 0)).bind fun h8 =>
  (tk_gI h8 5 1 x0).bind fun v9 =>
  if v9 = 14 then (
  some ((-1), h8, sz)) else (
  (tk_gR h8 5 5 x0).bind fun v11 =>
  (tk_gI h8 5 1 x0).bind fun v12 =>
  (tk_sI h8 0 v11 v12 (x1 &&& 16777215)).bind fun h13 =>
  fX5_learner_31 N N x0 0 h13 sz)
set_option maxHeartbeats 8000000 in
set_option maxRecDepth 100000 in
theorem cX5_learner_ok (l : Launch) (hl0 : l.stackTraces = false) (G : tk_AG) (N : Nat) (x0 : Nat) (x1 : Int32) (h : tk_AH) (sz : Nat) (r9 : Int32) (h9 : tk_AH) (sz9 : Nat) (hf : fX5_learner N x0 x1 h sz = some (r9, h9, sz9)) : Met l yX5_learner (coX5_learner :: tk_W) ({ frames := 0, cells := 0, slots := 0, locals := 0 }) (tk_pc G [.ref x0, .int x1] h sz) (tk_qc G (some (.int r9)) h9 sz9) 0 0 (tk_ag G) := by
  refine Met.ofW (cc := cX5_learner) (maxL := 3) (ret := (some .int)) (by decide) rfl ?_
  intro p e s m args below meth c s₁ B hml hv
  obtain ⟨hav, hE, hrp, hsz, hgs⟩ := hv
  have hx := B.exec
  have hb := B.bytes
  have hr := B.returns
  have hts := atoms_spec (ws := coX5_learner :: tk_W) B.pre
  have ht : ∀ w ∈ tk_W, w.before args s = true := fun w h => hts w (List.mem_cons_of_mem _ h)
  have hown : s.vm.findClass RX5 = some m.cls := findClass_of_methodNamed B.named
  have hlocks := B.notSynchronized
  have hs : tk_sw G s h sz s.heap [] := ⟨hrp, hsz, by rw [hsz]; exact hgs, va_S.rf⟩
  have hl := lv_entry ([.ref x0, .int x1]) (n := 3) (Nat.le_of_ble_eq_true rfl)
  have hent : entryFrame m args 3 = F0 m 0 (lg_sl ([.ref x0, .int x1]) ++ List.replicate (3 - (lg_sl ([.ref x0, .int x1])).length) Slot.unset).toArray [] := by rw [hav, lg_entry_eq]
  rw [hent]
  clear hent
  generalize (lg_sl ([.ref x0, .int x1]) ++ List.replicate (3 - (lg_sl ([.ref x0, .int x1])).length) Slot.unset).toArray = ls at hl ⊢
  have hl : lv_has ls 3 [(0, .ref x0), (1, .int x1)] := hl
  have j31 : ∀ (n : Nat), ∀ (x0 : Nat) (x2 : Int32) (h : tk_AH) (sz : Nat) (H : Heap) (locs : List Loc) (ls : Array Slot), fX5_learner_31 N n x0 x2 h sz = some (r9, h9, sz9) → tk_sw G s h sz H locs → lv_has ls 3 [(0, .ref x0), (2, .int x2)] → W p l e (headSpec (coX5_learner :: tk_W) ({ frames := 0, cells := 0, slots := 0, locals := 0 })).room s m args below meth c H locs 0 (0) (MQ below (tk_qc G (some (.int r9)) h9 sz9) args s 0 0 (tk_ag G)) (F0 m 31 ls []) := by
    intro n
    induction n with
    | zero =>
      intro x0 x2 h sz H locs ls hf
      cases hf
    | succ n ih =>
      intro x0 x2 h sz H locs ls hf hs hl
      rw [fX5_learner_31] at hf
      refine lv_iload_n hx hb dX5_learner_31 rfl (lv_at hl 1 rfl) ?_
      refine lv_bipush (v := 8) hx hb dX5_learner_32 (by decide) ?_
      refine lv_icmp_ge (tgt := 59) hx hb dX5_learner_34 (by decide) (fun c1 => ?_) (fun c1 => ?_)
      · rw [if_pos c1] at hf
        refine lv_aload_n hx hb dX5_learner_59 rfl (lv_at hl 0 rfl) ?_
        refine lv_dup hx hb dX5_learner_60 rfl ?_
        obtain ⟨v2, e2, hf⟩ := tk_bi hf
        refine tk_getI hx hb ht inX5 hown hE hs rfl 1 (by decide) (ht _ wfX5_93) e2 dX5_learner_61 ?_
        refine lv_iconst (v := 1) hx hb dX5_learner_64 (by decide) ?_
        refine lv_iadd hx hb dX5_learner_65 ?_
        obtain ⟨h3, e3, hf⟩ := tk_bi hf
        refine tk_put hx hb ht inX5 tyX5 tyX5_ok nmX5 hown hE hs rfl 1 (by decide) (ht _ wfX5_93) rfl rfl rfl e3 dX5_learner_66 (fun H locs hs => ?_)
        refine lv_aload_n hx hb dX5_learner_69 rfl (lv_at hl 0 rfl) ?_
        obtain ⟨v4, e4, hf⟩ := tk_bi hf
        refine tk_getI hx hb ht inX5 hown hE hs rfl 1 (by decide) (ht _ wfX5_93) e4 dX5_learner_70 ?_
        refine lv_iconst (v := 1) hx hb dX5_learner_73 (by decide) ?_
        refine lv_isub hx hb dX5_learner_74 ?_
        cases hf
        exact tk_iret hx hb hr hlocks hs dX5_learner_75
      · rw [if_neg c1] at hf
        refine lv_aload_n hx hb dX5_learner_37 rfl (lv_at hl 0 rfl) ?_
        obtain ⟨v5, e5, hf⟩ := tk_bi hf
        refine tk_getR hx hb ht inX5 hown hE hs rfl 8 (by decide) (ht _ wfX5_19) e5 dX5_learner_38 ?_
        refine lv_bipush (v := 8) hx hb dX5_learner_41 (by decide) ?_
        refine lv_aload_n hx hb dX5_learner_43 rfl (lv_at hl 0 rfl) ?_
        obtain ⟨v6, e6, hf⟩ := tk_bi hf
        refine tk_getI hx hb ht inX5 hown hE hs rfl 1 (by decide) (ht _ wfX5_93) e6 dX5_learner_44 ?_
        refine lv_imul hx hb dX5_learner_47 ?_
        refine lv_iload_n hx hb dX5_learner_48 rfl (lv_at hl 1 rfl) ?_
        refine lv_iadd hx hb dX5_learner_49 ?_
        refine lv_bipush (v := 10) hx hb dX5_learner_50 (by decide) ?_
        obtain ⟨h7, e7, hf⟩ := tk_bi hf
        refine tk_iast hx hb hE hs e7 dX5_learner_52 (fun H locs hs => ?_)
        refine lv_iinc (v := x2 + 1) (lv' := [(2, .int (x2 + 1)), (0, .ref x0)]) hx hb dX5_learner_53 hl (k := 1) rfl rfl (by decide) rfl (fun ls hl => ?_)
        refine lv_goto (tgt := 31) hx hb dX5_learner_56 (by decide) ?_
        exact ih x0 (x2 + 1) h7 sz _ _ _ hf hs (lv_sub hl [1, 0] rfl)
  unfold fX5_learner at hf
  refine lv_aload_n hx hb dX5_learner_0 rfl (lv_at hl 0 rfl) ?_
  refine lv_iconst (v := 0) hx hb dX5_learner_1 (by decide) ?_
  obtain ⟨h8, e8, hf⟩ := tk_bi hf
  refine tk_put hx hb ht inX5 tyX5 tyX5_ok nmX5 hown hE hs rfl 0 (by decide) (ht _ wfX5_89) rfl rfl rfl e8 dX5_learner_2 (fun H locs hs => ?_)
  refine lv_aload_n hx hb dX5_learner_5 rfl (lv_at hl 0 rfl) ?_
  obtain ⟨v9, e9, hf⟩ := tk_bi hf
  refine tk_getI hx hb ht inX5 hown hE hs rfl 1 (by decide) (ht _ wfX5_93) e9 dX5_learner_6 ?_
  refine lv_bipush (v := 14) hx hb dX5_learner_9 (by decide) ?_
  refine lv_icmp_ne (tgt := 16) hx hb dX5_learner_11 (by decide) (fun c10 => ?_) (fun c10 => ?_)
  · rw [if_neg c10] at hf
    refine lv_aload_n hx hb dX5_learner_16 rfl (lv_at hl 0 rfl) ?_
    obtain ⟨v11, e11, hf⟩ := tk_bi hf
    refine tk_getR hx hb ht inX5 hown hE hs rfl 5 (by decide) (ht _ wfX5_7) e11 dX5_learner_17 ?_
    refine lv_aload_n hx hb dX5_learner_20 rfl (lv_at hl 0 rfl) ?_
    obtain ⟨v12, e12, hf⟩ := tk_bi hf
    refine tk_getI hx hb ht inX5 hown hE hs rfl 1 (by decide) (ht _ wfX5_93) e12 dX5_learner_21 ?_
    refine lv_iload_n hx hb dX5_learner_24 rfl (lv_at hl 1 rfl) ?_
    refine lv_ldc (v := 16777215) hx hb hown (ht _ wkX5_104) dX5_learner_25 ?_
    refine lv_iand hx hb dX5_learner_27 ?_
    obtain ⟨h13, e13, hf⟩ := tk_bi hf
    refine tk_iast hx hb hE hs e13 dX5_learner_28 (fun H locs hs => ?_)
    refine lv_iconst (v := 0) hx hb dX5_learner_29 (by decide) ?_
    refine lv_istore_n (lv' := [(2, .int 0), (0, .ref x0), (1, .int x1)]) hx hb dX5_learner_30 rfl hl (by decide) rfl (fun ls hl => ?_)
    exact j31 N x0 0 h13 sz _ _ _ hf hs (lv_sub hl [1, 0] rfl)
  · rw [if_pos c10] at hf
    refine lv_iconst (v := (-1)) hx hb dX5_learner_14 (by decide) ?_
    cases hf
    exact tk_iret hx hb hr hlocks hs dX5_learner_15
def fX5_hours (N : Nat) (x0 : Nat) (x1 : Int32) (x2 : Int32) (h : tk_AH) (sz : Nat) : Option (Int32 × tk_AH × Nat) :=
  (tk_ok h 5 x0).bind fun _ =>
  (fX5_isLearner N x0 x1 h sz).bind fun o1 =>
  if o1.1 = 0 then (
  some (0, o1.2.1, o1.2.2)) else (
  (tk_gR o1.2.1 5 5 x0).bind fun v4 =>
  (tk_aI o1.2.1 0 v4 x1).bind fun v5 =>
  (tk_gR o1.2.1 5 5 x0).bind fun v6 =>
  (tk_sI o1.2.1 0 v6 x1 (x2 &&& 16777215)).bind fun h7 =>
  some (v5, h7, o1.2.2))
set_option maxHeartbeats 8000000 in
set_option maxRecDepth 100000 in
theorem cX5_hours_ok (l : Launch) (hl0 : l.stackTraces = false) (G : tk_AG) (N : Nat) (x0 : Nat) (x1 : Int32) (x2 : Int32) (h : tk_AH) (sz : Nat) (r9 : Int32) (h9 : tk_AH) (sz9 : Nat) (hf : fX5_hours N x0 x1 x2 h sz = some (r9, h9, sz9)) : Met l yX5_hours (coX5_hours :: tk_W) ({ frames := 2, cells := 0, slots := 0, locals := 43 }) (tk_pc G [.ref x0, .int x1, .int x2] h sz) (tk_qc G (some (.int r9)) h9 sz9) 0 0 (tk_ag G) := by
  refine Met.ofW (cc := cX5_hours) (maxL := 4) (ret := (some .int)) (by decide) rfl ?_
  intro p e s m args below meth c s₁ B hml hv
  obtain ⟨hav, hE, hrp, hsz, hgs⟩ := hv
  have hx := B.exec
  have hb := B.bytes
  have hr := B.returns
  have hts := atoms_spec (ws := coX5_hours :: tk_W) B.pre
  have ht : ∀ w ∈ tk_W, w.before args s = true := fun w h => hts w (List.mem_cons_of_mem _ h)
  have hown : s.vm.findClass RX5 = some m.cls := findClass_of_methodNamed B.named
  have hlocks := B.notSynchronized
  have hs : tk_sw G s h sz s.heap [] := ⟨hrp, hsz, by rw [hsz]; exact hgs, va_S.rf⟩
  have hl := lv_entry ([.ref x0, .int x1, .int x2]) (n := 4) (Nat.le_of_ble_eq_true rfl)
  have hent : entryFrame m args 4 = F0 m 0 (lg_sl ([.ref x0, .int x1, .int x2]) ++ List.replicate (4 - (lg_sl ([.ref x0, .int x1, .int x2])).length) Slot.unset).toArray [] := by rw [hav, lg_entry_eq]
  rw [hent]
  clear hent
  generalize (lg_sl ([.ref x0, .int x1, .int x2]) ++ List.replicate (4 - (lg_sl ([.ref x0, .int x1, .int x2])).length) Slot.unset).toArray = ls at hl ⊢
  have hl : lv_has ls 4 [(0, .ref x0), (1, .int x1), (2, .int x2)] := hl
  unfold fX5_hours at hf
  refine lv_aload_n hx hb dX5_hours_0 rfl (lv_at hl 0 rfl) ?_
  refine lv_iload_n hx hb dX5_hours_1 rfl (lv_at hl 1 rfl) ?_
  obtain ⟨_, p1, hf⟩ := tk_bi hf
  obtain ⟨o1, e1, hf⟩ := tk_bi hf
  refine tk_call0 (v := some (.int o1.1)) hs (va_runV (As := [.int x1]) (rest := []) ⟨hx, hb, hml, hown, ht⟩ (cX5_isLearner_ok l hl0 G N x0 x1 h sz o1.1 o1.2.1 o1.2.2 e1) (kwX5_isLearner ht wmX5_100 rfl rfl ⟨Nat.le_of_ble_eq_true rfl, Nat.le_of_ble_eq_true rfl⟩) (tk_preV hE hs (tk_ok_ok p1) rfl) rfl rfl hl.1 rfl (lv_room (Nat.le_of_ble_eq_true rfl)) dX5_hours_2 ⟨(Nat.le_of_ble_eq_true rfl), (Nat.le_of_ble_eq_true rfl)⟩) (fun H locs hs => ?_)
  refine W.eq (g2 := F0 m 5 ls [.int o1.1]) rfl ?_
  refine lv_if_ne (tgt := 10) hx hb dX5_hours_5 (by decide) (fun c3 => ?_) (fun c3 => ?_)
  · rw [if_neg c3] at hf
    refine lv_aload_n hx hb dX5_hours_10 rfl (lv_at hl 0 rfl) ?_
    obtain ⟨v4, e4, hf⟩ := tk_bi hf
    refine tk_getR hx hb ht inX5 hown hE hs rfl 5 (by decide) (ht _ wfX5_7) e4 dX5_hours_11 ?_
    refine lv_iload_n hx hb dX5_hours_14 rfl (lv_at hl 1 rfl) ?_
    obtain ⟨v5, e5, hf⟩ := tk_bi hf
    refine tk_iald hx hb hE hs e5 dX5_hours_15 ?_
    refine lv_istore_n (lv' := [(3, .int v5), (0, .ref x0), (1, .int x1), (2, .int x2)]) hx hb dX5_hours_16 rfl hl (by decide) rfl (fun ls hl => ?_)
    refine lv_aload_n hx hb dX5_hours_17 rfl (lv_at hl 1 rfl) ?_
    obtain ⟨v6, e6, hf⟩ := tk_bi hf
    refine tk_getR hx hb ht inX5 hown hE hs rfl 5 (by decide) (ht _ wfX5_7) e6 dX5_hours_18 ?_
    refine lv_iload_n hx hb dX5_hours_21 rfl (lv_at hl 2 rfl) ?_
    refine lv_iload_n hx hb dX5_hours_22 rfl (lv_at hl 3 rfl) ?_
    refine lv_ldc (v := 16777215) hx hb hown (ht _ wkX5_104) dX5_hours_23 ?_
    refine lv_iand hx hb dX5_hours_25 ?_
    obtain ⟨h7, e7, hf⟩ := tk_bi hf
    refine tk_iast hx hb hE hs e7 dX5_hours_26 (fun H locs hs => ?_)
    refine lv_iload_n hx hb dX5_hours_27 rfl (lv_at hl 0 rfl) ?_
    cases hf
    exact tk_iret hx hb hr hlocks hs dX5_hours_28
  · rw [if_pos c3] at hf
    refine lv_iconst (v := 0) hx hb dX5_hours_8 (by decide) ?_
    cases hf
    exact tk_iret hx hb hr hlocks hs dX5_hours_9
def fX5_claim_32 (N : Nat) (h : tk_AH) (sz : Nat) : Option (Int32 × tk_AH × Nat) :=
  some (0, h, sz)
def fX5_claim_25 (N : Nat) (x0 : Nat) (x1 : Int32) (x2 : Int32) (x3 : Int32) (y0 : Int32) (y1 : Nat) (h : tk_AH) (sz : Nat) : Option (Int32 × tk_AH × Nat) :=
  (tk_ok h 5 y1).bind fun _ =>
  (fX5_right N y1 y0 2 h sz).bind fun o1 =>
  if o1.1 = 0 then (
  fX5_claim_32 N o1.2.1 o1.2.2) else (
  (tk_gR o1.2.1 5 6 x0).bind fun v4 =>
  (tk_aI o1.2.1 0 v4 ((8 * x1) + x2)).bind fun v5 =>
  (tk_gR o1.2.1 5 6 x0).bind fun v6 =>
  (tk_sI o1.2.1 0 v6 ((8 * x1) + x2) x3).bind fun h7 =>
  some (v5, h7, o1.2.2))
def fX5_claim_24 (N : Nat) (x0 : Nat) (x1 : Int32) (x2 : Int32) (x3 : Int32) (y0 : Nat) (h : tk_AH) (sz : Nat) : Option (Int32 × tk_AH × Nat) :=
  fX5_claim_25 N x0 x1 x2 x3 0 y0 h sz
def fX5_claim (N : Nat) (x0 : Nat) (x1 : Int32) (x2 : Int32) (x3 : Int32) (h : tk_AH) (sz : Nat) : Option (Int32 × tk_AH × Nat) :=
  (tk_ok h 5 x0).bind fun _ =>
  (fX5_isTongue N x0 x1 x2 h sz).bind fun o8 =>
  if o8.1 = 0 then (
  fX5_claim_32 N o8.2.1 o8.2.2) else (
  if x3 < 0 then (
  fX5_claim_24 N x0 x1 x2 x3 x0 o8.2.1 o8.2.2) else (
  if 10 < x3 then (
  fX5_claim_24 N x0 x1 x2 x3 x0 o8.2.1 o8.2.2) else (
  fX5_claim_25 N x0 x1 x2 x3 1 x0 o8.2.1 o8.2.2)))
set_option maxHeartbeats 8000000 in
set_option maxRecDepth 100000 in
theorem cX5_claim_ok (l : Launch) (hl0 : l.stackTraces = false) (G : tk_AG) (N : Nat) (x0 : Nat) (x1 : Int32) (x2 : Int32) (x3 : Int32) (h : tk_AH) (sz : Nat) (r9 : Int32) (h9 : tk_AH) (sz9 : Nat) (hf : fX5_claim N x0 x1 x2 x3 h sz = some (r9, h9, sz9)) : Met l yX5_claim (coX5_claim :: tk_W) ({ frames := 3, cells := 0, slots := 0, locals := 65 }) (tk_pc G [.ref x0, .int x1, .int x2, .int x3] h sz) (tk_qc G (some (.int r9)) h9 sz9) 0 0 (tk_ag G) := by
  refine Met.ofW (cc := cX5_claim) (maxL := 5) (ret := (some .int)) (by decide) rfl ?_
  intro p e s m args below meth c s₁ B hml hv
  obtain ⟨hav, hE, hrp, hsz, hgs⟩ := hv
  have hx := B.exec
  have hb := B.bytes
  have hr := B.returns
  have hts := atoms_spec (ws := coX5_claim :: tk_W) B.pre
  have ht : ∀ w ∈ tk_W, w.before args s = true := fun w h => hts w (List.mem_cons_of_mem _ h)
  have hown : s.vm.findClass RX5 = some m.cls := findClass_of_methodNamed B.named
  have hlocks := B.notSynchronized
  have hs : tk_sw G s h sz s.heap [] := ⟨hrp, hsz, by rw [hsz]; exact hgs, va_S.rf⟩
  have hl := lv_entry ([.ref x0, .int x1, .int x2, .int x3]) (n := 5) (Nat.le_of_ble_eq_true rfl)
  have hent : entryFrame m args 5 = F0 m 0 (lg_sl ([.ref x0, .int x1, .int x2, .int x3]) ++ List.replicate (5 - (lg_sl ([.ref x0, .int x1, .int x2, .int x3])).length) Slot.unset).toArray [] := by rw [hav, lg_entry_eq]
  rw [hent]
  clear hent
  generalize (lg_sl ([.ref x0, .int x1, .int x2, .int x3]) ++ List.replicate (5 - (lg_sl ([.ref x0, .int x1, .int x2, .int x3])).length) Slot.unset).toArray = ls at hl ⊢
  have hl : lv_has ls 5 [(0, .ref x0), (1, .int x1), (2, .int x2), (3, .int x3)] := hl
  have j32 : ∀ (h : tk_AH) (sz : Nat) (H : Heap) (locs : List Loc) (ls : Array Slot), fX5_claim_32 N h sz = some (r9, h9, sz9) → tk_sw G s h sz H locs → lv_has ls 5 [] → W p l e (headSpec (coX5_claim :: tk_W) ({ frames := 3, cells := 0, slots := 0, locals := 65 })).room s m args below meth c H locs 0 (0) (MQ below (tk_qc G (some (.int r9)) h9 sz9) args s 0 0 (tk_ag G)) (F0 m 32 ls []) := by
    intro h sz H locs ls hf hs hl
    unfold fX5_claim_32 at hf
    refine lv_iconst (v := 0) hx hb dX5_claim_32 (by decide) ?_
    cases hf
    exact tk_iret hx hb hr hlocks hs dX5_claim_33
  have j25 : ∀ (x0 : Nat) (x1 : Int32) (x2 : Int32) (x3 : Int32) (y0 : Int32) (y1 : Nat) (h : tk_AH) (sz : Nat) (H : Heap) (locs : List Loc) (ls : Array Slot), fX5_claim_25 N x0 x1 x2 x3 y0 y1 h sz = some (r9, h9, sz9) → tk_sw G s h sz H locs → lv_has ls 5 [(0, .ref x0), (1, .int x1), (2, .int x2), (3, .int x3)] → W p l e (headSpec (coX5_claim :: tk_W) ({ frames := 3, cells := 0, slots := 0, locals := 65 })).room s m args below meth c H locs 0 (0) (MQ below (tk_qc G (some (.int r9)) h9 sz9) args s 0 0 (tk_ag G)) (F0 m 25 ls [.int y0, .ref y1]) := by
    intro x0 x1 x2 x3 y0 y1 h sz H locs ls hf hs hl
    unfold fX5_claim_25 at hf
    refine lv_iconst (v := 2) hx hb dX5_claim_25 (by decide) ?_
    obtain ⟨_, p1, hf⟩ := tk_bi hf
    obtain ⟨o1, e1, hf⟩ := tk_bi hf
    refine tk_call0 (v := some (.int o1.1)) hs (va_runV (As := [.int y0, .int 2]) (rest := []) ⟨hx, hb, hml, hown, ht⟩ (cX5_right_ok l hl0 G N y1 y0 2 h sz o1.1 o1.2.1 o1.2.2 e1) (kwX5_right ht wmX5_96 rfl rfl ⟨Nat.le_of_ble_eq_true rfl, Nat.le_of_ble_eq_true rfl⟩) (tk_preV hE hs (tk_ok_ok p1) rfl) rfl rfl hl.1 rfl (lv_room (Nat.le_of_ble_eq_true rfl)) dX5_claim_26 ⟨(Nat.le_of_ble_eq_true rfl), (Nat.le_of_ble_eq_true rfl)⟩) (fun H locs hs => ?_)
    refine W.eq (g2 := F0 m 29 ls [.int o1.1]) rfl ?_
    refine lv_if_ne (tgt := 34) hx hb dX5_claim_29 (by decide) (fun c3 => ?_) (fun c3 => ?_)
    · rw [if_neg c3] at hf
      refine lv_aload_n hx hb dX5_claim_34 rfl (lv_at hl 0 rfl) ?_
      obtain ⟨v4, e4, hf⟩ := tk_bi hf
      refine tk_getR hx hb ht inX5 hown hE hs rfl 6 (by decide) (ht _ wfX5_13) e4 dX5_claim_35 ?_
      refine lv_bipush (v := 8) hx hb dX5_claim_38 (by decide) ?_
      refine lv_iload_n hx hb dX5_claim_40 rfl (lv_at hl 1 rfl) ?_
      refine lv_imul hx hb dX5_claim_41 ?_
      refine lv_iload_n hx hb dX5_claim_42 rfl (lv_at hl 2 rfl) ?_
      refine lv_iadd hx hb dX5_claim_43 ?_
      obtain ⟨v5, e5, hf⟩ := tk_bi hf
      refine tk_iald hx hb hE hs e5 dX5_claim_44 ?_
      refine lv_istore (lv' := [(4, .int v5), (0, .ref x0), (1, .int x1), (2, .int x2), (3, .int x3)]) hx hb dX5_claim_45 hl (by decide) rfl (fun ls hl => ?_)
      refine lv_aload_n hx hb dX5_claim_47 rfl (lv_at hl 1 rfl) ?_
      obtain ⟨v6, e6, hf⟩ := tk_bi hf
      refine tk_getR hx hb ht inX5 hown hE hs rfl 6 (by decide) (ht _ wfX5_13) e6 dX5_claim_48 ?_
      refine lv_bipush (v := 8) hx hb dX5_claim_51 (by decide) ?_
      refine lv_iload_n hx hb dX5_claim_53 rfl (lv_at hl 2 rfl) ?_
      refine lv_imul hx hb dX5_claim_54 ?_
      refine lv_iload_n hx hb dX5_claim_55 rfl (lv_at hl 3 rfl) ?_
      refine lv_iadd hx hb dX5_claim_56 ?_
      refine lv_iload_n hx hb dX5_claim_57 rfl (lv_at hl 4 rfl) ?_
      obtain ⟨h7, e7, hf⟩ := tk_bi hf
      refine tk_iast hx hb hE hs e7 dX5_claim_58 (fun H locs hs => ?_)
      refine lv_iload hx hb dX5_claim_59 (lv_at hl 0 rfl) ?_
      cases hf
      exact tk_iret hx hb hr hlocks hs dX5_claim_61
    · rw [if_pos c3] at hf
      exact j32 o1.2.1 o1.2.2 _ _ _ hf hs (lv_sub hl [] rfl)
  have j24 : ∀ (x0 : Nat) (x1 : Int32) (x2 : Int32) (x3 : Int32) (y0 : Nat) (h : tk_AH) (sz : Nat) (H : Heap) (locs : List Loc) (ls : Array Slot), fX5_claim_24 N x0 x1 x2 x3 y0 h sz = some (r9, h9, sz9) → tk_sw G s h sz H locs → lv_has ls 5 [(0, .ref x0), (1, .int x1), (2, .int x2), (3, .int x3)] → W p l e (headSpec (coX5_claim :: tk_W) ({ frames := 3, cells := 0, slots := 0, locals := 65 })).room s m args below meth c H locs 0 (0) (MQ below (tk_qc G (some (.int r9)) h9 sz9) args s 0 0 (tk_ag G)) (F0 m 24 ls [.ref y0]) := by
    intro x0 x1 x2 x3 y0 h sz H locs ls hf hs hl
    unfold fX5_claim_24 at hf
    refine lv_iconst (v := 0) hx hb dX5_claim_24 (by decide) ?_
    exact j25 x0 x1 x2 x3 0 y0 h sz _ _ _ hf hs (lv_sub hl [0, 1, 2, 3] rfl)
  unfold fX5_claim at hf
  refine lv_aload_n hx hb dX5_claim_0 rfl (lv_at hl 0 rfl) ?_
  refine lv_iload_n hx hb dX5_claim_1 rfl (lv_at hl 1 rfl) ?_
  refine lv_iload_n hx hb dX5_claim_2 rfl (lv_at hl 2 rfl) ?_
  obtain ⟨_, p8, hf⟩ := tk_bi hf
  obtain ⟨o8, e8, hf⟩ := tk_bi hf
  refine tk_call0 (v := some (.int o8.1)) hs (va_runV (As := [.int x1, .int x2]) (rest := []) ⟨hx, hb, hml, hown, ht⟩ (cX5_isTongue_ok l hl0 G N x0 x1 x2 h sz o8.1 o8.2.1 o8.2.2 e8) (kwX5_isTongue ht wmX5_105 rfl rfl ⟨Nat.le_of_ble_eq_true rfl, Nat.le_of_ble_eq_true rfl⟩) (tk_preV hE hs (tk_ok_ok p8) rfl) rfl rfl hl.1 rfl (lv_room (Nat.le_of_ble_eq_true rfl)) dX5_claim_3 ⟨(Nat.le_of_ble_eq_true rfl), (Nat.le_of_ble_eq_true rfl)⟩) (fun H locs hs => ?_)
  refine W.eq (g2 := F0 m 6 ls [.int o8.1]) rfl ?_
  refine lv_if_eq (tgt := 32) hx hb dX5_claim_6 (by decide) (fun c10 => ?_) (fun c10 => ?_)
  · rw [if_pos c10] at hf
    exact j32 o8.2.1 o8.2.2 _ _ _ hf hs (lv_sub hl [] rfl)
  · rw [if_neg c10] at hf
    refine lv_aload_n hx hb dX5_claim_9 rfl (lv_at hl 0 rfl) ?_
    refine lv_iload_n hx hb dX5_claim_10 rfl (lv_at hl 3 rfl) ?_
    refine lv_if_lt (tgt := 24) hx hb dX5_claim_11 (by decide) (fun c11 => ?_) (fun c11 => ?_)
    · rw [if_pos c11] at hf
      exact j24 x0 x1 x2 x3 x0 o8.2.1 o8.2.2 _ _ _ hf hs (lv_sub hl [0, 1, 2, 3] rfl)
    · rw [if_neg c11] at hf
      refine lv_iload_n hx hb dX5_claim_14 rfl (lv_at hl 3 rfl) ?_
      refine lv_bipush (v := 10) hx hb dX5_claim_15 (by decide) ?_
      refine lv_icmp_gt (tgt := 24) hx hb dX5_claim_17 (by decide) (fun c12 => ?_) (fun c12 => ?_)
      · rw [if_pos c12] at hf
        exact j24 x0 x1 x2 x3 x0 o8.2.1 o8.2.2 _ _ _ hf hs (lv_sub hl [0, 1, 2, 3] rfl)
      · rw [if_neg c12] at hf
        refine lv_iconst (v := 1) hx hb dX5_claim_20 (by decide) ?_
        refine lv_goto (tgt := 25) hx hb dX5_claim_21 (by decide) ?_
        exact j25 x0 x1 x2 x3 1 x0 o8.2.1 o8.2.2 _ _ _ hf hs (lv_sub hl [0, 1, 2, 3] rfl)
def fX5_want_43 (N : Nat) (h : tk_AH) (sz : Nat) : Option (Int32 × tk_AH × Nat) :=
  some ((-1), h, sz)
def fX5_want_45 (N : Nat) (x0 : Nat) (x1 : Int32) (x2 : Int32) (h : tk_AH) (sz : Nat) : Option (Int32 × tk_AH × Nat) :=
  (tk_gR h 5 11 x0).bind fun v1 =>
  (tk_gR h 5 12 x0).bind fun v2 =>
  (tk_aI h 0 v2 x1).bind fun v3 =>
  (tk_sI h 0 v1 ((2 * x1) + v3) x2).bind fun h4 =>
  (tk_gR h4 5 12 x0).bind fun v5 =>
  (tk_aI h4 0 v5 x1).bind fun v6 =>
  (tk_sI h4 0 v5 x1 (v6 + 1)).bind fun h7 =>
  (tk_gR h7 5 12 x0).bind fun v8 =>
  (tk_aI h7 0 v8 x1).bind fun v9 =>
  some (v9, h7, sz)
def fX5_want (N : Nat) (x0 : Nat) (x1 : Int32) (x2 : Int32) (h : tk_AH) (sz : Nat) : Option (Int32 × tk_AH × Nat) :=
  (tk_ok h 5 x0).bind fun _ =>
  (fX5_isTongue N x0 x1 x2 h sz).bind fun o10 =>
  if o10.1 = 0 then (
  some (0, o10.2.1, o10.2.2)) else (
  (tk_gR o10.2.1 5 12 x0).bind fun v13 =>
  (tk_aI o10.2.1 0 v13 x1).bind fun v14 =>
  if v14 = 2 then (
  fX5_want_43 N o10.2.1 o10.2.2) else (
  (tk_gR o10.2.1 5 12 x0).bind fun v16 =>
  (tk_aI o10.2.1 0 v16 x1).bind fun v17 =>
  if v17 = 1 then (
  (tk_gR o10.2.1 5 11 x0).bind fun v19 =>
  (tk_aI o10.2.1 0 v19 (2 * x1)).bind fun v20 =>
  if v20 = x2 then (
  fX5_want_43 N o10.2.1 o10.2.2) else (
  fX5_want_45 N x0 x1 x2 o10.2.1 o10.2.2)) else (
  fX5_want_45 N x0 x1 x2 o10.2.1 o10.2.2)))
set_option maxHeartbeats 8000000 in
set_option maxRecDepth 100000 in
theorem cX5_want_ok (l : Launch) (hl0 : l.stackTraces = false) (G : tk_AG) (N : Nat) (x0 : Nat) (x1 : Int32) (x2 : Int32) (h : tk_AH) (sz : Nat) (r9 : Int32) (h9 : tk_AH) (sz9 : Nat) (hf : fX5_want N x0 x1 x2 h sz = some (r9, h9, sz9)) : Met l yX5_want (coX5_want :: tk_W) ({ frames := 3, cells := 0, slots := 0, locals := 65 }) (tk_pc G [.ref x0, .int x1, .int x2] h sz) (tk_qc G (some (.int r9)) h9 sz9) 0 0 (tk_ag G) := by
  refine Met.ofW (cc := cX5_want) (maxL := 3) (ret := (some .int)) (by decide) rfl ?_
  intro p e s m args below meth c s₁ B hml hv
  obtain ⟨hav, hE, hrp, hsz, hgs⟩ := hv
  have hx := B.exec
  have hb := B.bytes
  have hr := B.returns
  have hts := atoms_spec (ws := coX5_want :: tk_W) B.pre
  have ht : ∀ w ∈ tk_W, w.before args s = true := fun w h => hts w (List.mem_cons_of_mem _ h)
  have hown : s.vm.findClass RX5 = some m.cls := findClass_of_methodNamed B.named
  have hlocks := B.notSynchronized
  have hs : tk_sw G s h sz s.heap [] := ⟨hrp, hsz, by rw [hsz]; exact hgs, va_S.rf⟩
  have hl := lv_entry ([.ref x0, .int x1, .int x2]) (n := 3) (Nat.le_of_ble_eq_true rfl)
  have hent : entryFrame m args 3 = F0 m 0 (lg_sl ([.ref x0, .int x1, .int x2]) ++ List.replicate (3 - (lg_sl ([.ref x0, .int x1, .int x2])).length) Slot.unset).toArray [] := by rw [hav, lg_entry_eq]
  rw [hent]
  clear hent
  generalize (lg_sl ([.ref x0, .int x1, .int x2]) ++ List.replicate (3 - (lg_sl ([.ref x0, .int x1, .int x2])).length) Slot.unset).toArray = ls at hl ⊢
  have hl : lv_has ls 3 [(0, .ref x0), (1, .int x1), (2, .int x2)] := hl
  have j43 : ∀ (h : tk_AH) (sz : Nat) (H : Heap) (locs : List Loc) (ls : Array Slot), fX5_want_43 N h sz = some (r9, h9, sz9) → tk_sw G s h sz H locs → lv_has ls 3 [] → W p l e (headSpec (coX5_want :: tk_W) ({ frames := 3, cells := 0, slots := 0, locals := 65 })).room s m args below meth c H locs 0 (0) (MQ below (tk_qc G (some (.int r9)) h9 sz9) args s 0 0 (tk_ag G)) (F0 m 43 ls []) := by
    intro h sz H locs ls hf hs hl
    unfold fX5_want_43 at hf
    refine lv_iconst (v := (-1)) hx hb dX5_want_43 (by decide) ?_
    cases hf
    exact tk_iret hx hb hr hlocks hs dX5_want_44
  have j45 : ∀ (x0 : Nat) (x1 : Int32) (x2 : Int32) (h : tk_AH) (sz : Nat) (H : Heap) (locs : List Loc) (ls : Array Slot), fX5_want_45 N x0 x1 x2 h sz = some (r9, h9, sz9) → tk_sw G s h sz H locs → lv_has ls 3 [(0, .ref x0), (1, .int x1), (2, .int x2)] → W p l e (headSpec (coX5_want :: tk_W) ({ frames := 3, cells := 0, slots := 0, locals := 65 })).room s m args below meth c H locs 0 (0) (MQ below (tk_qc G (some (.int r9)) h9 sz9) args s 0 0 (tk_ag G)) (F0 m 45 ls []) := by
    intro x0 x1 x2 h sz H locs ls hf hs hl
    unfold fX5_want_45 at hf
    refine lv_aload_n hx hb dX5_want_45 rfl (lv_at hl 0 rfl) ?_
    obtain ⟨v1, e1, hf⟩ := tk_bi hf
    refine tk_getR hx hb ht inX5 hown hE hs rfl 11 (by decide) (ht _ wfX5_28) e1 dX5_want_46 ?_
    refine lv_iconst (v := 2) hx hb dX5_want_49 (by decide) ?_
    refine lv_iload_n hx hb dX5_want_50 rfl (lv_at hl 1 rfl) ?_
    refine lv_imul hx hb dX5_want_51 ?_
    refine lv_aload_n hx hb dX5_want_52 rfl (lv_at hl 0 rfl) ?_
    obtain ⟨v2, e2, hf⟩ := tk_bi hf
    refine tk_getR hx hb ht inX5 hown hE hs rfl 12 (by decide) (ht _ wfX5_31) e2 dX5_want_53 ?_
    refine lv_iload_n hx hb dX5_want_56 rfl (lv_at hl 1 rfl) ?_
    obtain ⟨v3, e3, hf⟩ := tk_bi hf
    refine tk_iald hx hb hE hs e3 dX5_want_57 ?_
    refine lv_iadd hx hb dX5_want_58 ?_
    refine lv_iload_n hx hb dX5_want_59 rfl (lv_at hl 2 rfl) ?_
    obtain ⟨h4, e4, hf⟩ := tk_bi hf
    refine tk_iast hx hb hE hs e4 dX5_want_60 (fun H locs hs => ?_)
    refine lv_aload_n hx hb dX5_want_61 rfl (lv_at hl 0 rfl) ?_
    obtain ⟨v5, e5, hf⟩ := tk_bi hf
    refine tk_getR hx hb ht inX5 hown hE hs rfl 12 (by decide) (ht _ wfX5_31) e5 dX5_want_62 ?_
    refine lv_iload_n hx hb dX5_want_65 rfl (lv_at hl 1 rfl) ?_
    refine lv_dup2_11 hx hb dX5_want_66 rfl rfl ?_
    obtain ⟨v6, e6, hf⟩ := tk_bi hf
    refine tk_iald hx hb hE hs e6 dX5_want_67 ?_
    refine lv_iconst (v := 1) hx hb dX5_want_68 (by decide) ?_
    refine lv_iadd hx hb dX5_want_69 ?_
    obtain ⟨h7, e7, hf⟩ := tk_bi hf
    refine tk_iast hx hb hE hs e7 dX5_want_70 (fun H locs hs => ?_)
    refine lv_aload_n hx hb dX5_want_71 rfl (lv_at hl 0 rfl) ?_
    obtain ⟨v8, e8, hf⟩ := tk_bi hf
    refine tk_getR hx hb ht inX5 hown hE hs rfl 12 (by decide) (ht _ wfX5_31) e8 dX5_want_72 ?_
    refine lv_iload_n hx hb dX5_want_75 rfl (lv_at hl 1 rfl) ?_
    obtain ⟨v9, e9, hf⟩ := tk_bi hf
    refine tk_iald hx hb hE hs e9 dX5_want_76 ?_
    cases hf
    exact tk_iret hx hb hr hlocks hs dX5_want_77
  unfold fX5_want at hf
  refine lv_aload_n hx hb dX5_want_0 rfl (lv_at hl 0 rfl) ?_
  refine lv_iload_n hx hb dX5_want_1 rfl (lv_at hl 1 rfl) ?_
  refine lv_iload_n hx hb dX5_want_2 rfl (lv_at hl 2 rfl) ?_
  obtain ⟨_, p10, hf⟩ := tk_bi hf
  obtain ⟨o10, e10, hf⟩ := tk_bi hf
  refine tk_call0 (v := some (.int o10.1)) hs (va_runV (As := [.int x1, .int x2]) (rest := []) ⟨hx, hb, hml, hown, ht⟩ (cX5_isTongue_ok l hl0 G N x0 x1 x2 h sz o10.1 o10.2.1 o10.2.2 e10) (kwX5_isTongue ht wmX5_105 rfl rfl ⟨Nat.le_of_ble_eq_true rfl, Nat.le_of_ble_eq_true rfl⟩) (tk_preV hE hs (tk_ok_ok p10) rfl) rfl rfl hl.1 rfl (lv_room (Nat.le_of_ble_eq_true rfl)) dX5_want_3 ⟨(Nat.le_of_ble_eq_true rfl), (Nat.le_of_ble_eq_true rfl)⟩) (fun H locs hs => ?_)
  refine W.eq (g2 := F0 m 6 ls [.int o10.1]) rfl ?_
  refine lv_if_ne (tgt := 11) hx hb dX5_want_6 (by decide) (fun c12 => ?_) (fun c12 => ?_)
  · rw [if_neg c12] at hf
    refine lv_aload_n hx hb dX5_want_11 rfl (lv_at hl 0 rfl) ?_
    obtain ⟨v13, e13, hf⟩ := tk_bi hf
    refine tk_getR hx hb ht inX5 hown hE hs rfl 12 (by decide) (ht _ wfX5_31) e13 dX5_want_12 ?_
    refine lv_iload_n hx hb dX5_want_15 rfl (lv_at hl 1 rfl) ?_
    obtain ⟨v14, e14, hf⟩ := tk_bi hf
    refine tk_iald hx hb hE hs e14 dX5_want_16 ?_
    refine lv_iconst (v := 2) hx hb dX5_want_17 (by decide) ?_
    refine lv_icmp_eq (tgt := 43) hx hb dX5_want_18 (by decide) (fun c15 => ?_) (fun c15 => ?_)
    · rw [if_pos c15] at hf
      exact j43 o10.2.1 o10.2.2 _ _ _ hf hs (lv_sub hl [] rfl)
    · rw [if_neg c15] at hf
      refine lv_aload_n hx hb dX5_want_21 rfl (lv_at hl 0 rfl) ?_
      obtain ⟨v16, e16, hf⟩ := tk_bi hf
      refine tk_getR hx hb ht inX5 hown hE hs rfl 12 (by decide) (ht _ wfX5_31) e16 dX5_want_22 ?_
      refine lv_iload_n hx hb dX5_want_25 rfl (lv_at hl 1 rfl) ?_
      obtain ⟨v17, e17, hf⟩ := tk_bi hf
      refine tk_iald hx hb hE hs e17 dX5_want_26 ?_
      refine lv_iconst (v := 1) hx hb dX5_want_27 (by decide) ?_
      refine lv_icmp_ne (tgt := 45) hx hb dX5_want_28 (by decide) (fun c18 => ?_) (fun c18 => ?_)
      · rw [if_neg c18] at hf
        exact j45 x0 x1 x2 o10.2.1 o10.2.2 _ _ _ hf hs (lv_sub hl [0, 1, 2] rfl)
      · rw [if_pos c18] at hf
        refine lv_aload_n hx hb dX5_want_31 rfl (lv_at hl 0 rfl) ?_
        obtain ⟨v19, e19, hf⟩ := tk_bi hf
        refine tk_getR hx hb ht inX5 hown hE hs rfl 11 (by decide) (ht _ wfX5_28) e19 dX5_want_32 ?_
        refine lv_iconst (v := 2) hx hb dX5_want_35 (by decide) ?_
        refine lv_iload_n hx hb dX5_want_36 rfl (lv_at hl 1 rfl) ?_
        refine lv_imul hx hb dX5_want_37 ?_
        obtain ⟨v20, e20, hf⟩ := tk_bi hf
        refine tk_iald hx hb hE hs e20 dX5_want_38 ?_
        refine lv_iload_n hx hb dX5_want_39 rfl (lv_at hl 2 rfl) ?_
        refine lv_icmp_ne (tgt := 45) hx hb dX5_want_40 (by decide) (fun c21 => ?_) (fun c21 => ?_)
        · rw [if_neg c21] at hf
          exact j45 x0 x1 x2 o10.2.1 o10.2.2 _ _ _ hf hs (lv_sub hl [0, 1, 2] rfl)
        · rw [if_pos c21] at hf
          exact j43 o10.2.1 o10.2.2 _ _ _ hf hs (lv_sub hl [] rfl)
  · rw [if_pos c12] at hf
    refine lv_iconst (v := 0) hx hb dX5_want_9 (by decide) ?_
    cases hf
    exact tk_iret hx hb hr hlocks hs dX5_want_10
def fX5_unwant (N : Nat) (x0 : Nat) (x1 : Int32) (h : tk_AH) (sz : Nat) : Option (Int32 × tk_AH × Nat) :=
  (tk_ok h 5 x0).bind fun _ =>
  (fX5_isLearner N x0 x1 h sz).bind fun o1 =>
  if o1.1 = 0 then (
  some (0, o1.2.1, o1.2.2)) else (
  (tk_gR o1.2.1 5 12 x0).bind fun v4 =>
  (tk_aI o1.2.1 0 v4 x1).bind fun v5 =>
  (tk_gR o1.2.1 5 12 x0).bind fun v6 =>
  (tk_sI o1.2.1 0 v6 x1 0).bind fun h7 =>
  some (v5, h7, o1.2.2))
set_option maxHeartbeats 8000000 in
set_option maxRecDepth 100000 in
theorem cX5_unwant_ok (l : Launch) (hl0 : l.stackTraces = false) (G : tk_AG) (N : Nat) (x0 : Nat) (x1 : Int32) (h : tk_AH) (sz : Nat) (r9 : Int32) (h9 : tk_AH) (sz9 : Nat) (hf : fX5_unwant N x0 x1 h sz = some (r9, h9, sz9)) : Met l yX5_unwant (coX5_unwant :: tk_W) ({ frames := 2, cells := 0, slots := 0, locals := 43 }) (tk_pc G [.ref x0, .int x1] h sz) (tk_qc G (some (.int r9)) h9 sz9) 0 0 (tk_ag G) := by
  refine Met.ofW (cc := cX5_unwant) (maxL := 3) (ret := (some .int)) (by decide) rfl ?_
  intro p e s m args below meth c s₁ B hml hv
  obtain ⟨hav, hE, hrp, hsz, hgs⟩ := hv
  have hx := B.exec
  have hb := B.bytes
  have hr := B.returns
  have hts := atoms_spec (ws := coX5_unwant :: tk_W) B.pre
  have ht : ∀ w ∈ tk_W, w.before args s = true := fun w h => hts w (List.mem_cons_of_mem _ h)
  have hown : s.vm.findClass RX5 = some m.cls := findClass_of_methodNamed B.named
  have hlocks := B.notSynchronized
  have hs : tk_sw G s h sz s.heap [] := ⟨hrp, hsz, by rw [hsz]; exact hgs, va_S.rf⟩
  have hl := lv_entry ([.ref x0, .int x1]) (n := 3) (Nat.le_of_ble_eq_true rfl)
  have hent : entryFrame m args 3 = F0 m 0 (lg_sl ([.ref x0, .int x1]) ++ List.replicate (3 - (lg_sl ([.ref x0, .int x1])).length) Slot.unset).toArray [] := by rw [hav, lg_entry_eq]
  rw [hent]
  clear hent
  generalize (lg_sl ([.ref x0, .int x1]) ++ List.replicate (3 - (lg_sl ([.ref x0, .int x1])).length) Slot.unset).toArray = ls at hl ⊢
  have hl : lv_has ls 3 [(0, .ref x0), (1, .int x1)] := hl
  unfold fX5_unwant at hf
  refine lv_aload_n hx hb dX5_unwant_0 rfl (lv_at hl 0 rfl) ?_
  refine lv_iload_n hx hb dX5_unwant_1 rfl (lv_at hl 1 rfl) ?_
  obtain ⟨_, p1, hf⟩ := tk_bi hf
  obtain ⟨o1, e1, hf⟩ := tk_bi hf
  refine tk_call0 (v := some (.int o1.1)) hs (va_runV (As := [.int x1]) (rest := []) ⟨hx, hb, hml, hown, ht⟩ (cX5_isLearner_ok l hl0 G N x0 x1 h sz o1.1 o1.2.1 o1.2.2 e1) (kwX5_isLearner ht wmX5_100 rfl rfl ⟨Nat.le_of_ble_eq_true rfl, Nat.le_of_ble_eq_true rfl⟩) (tk_preV hE hs (tk_ok_ok p1) rfl) rfl rfl hl.1 rfl (lv_room (Nat.le_of_ble_eq_true rfl)) dX5_unwant_2 ⟨(Nat.le_of_ble_eq_true rfl), (Nat.le_of_ble_eq_true rfl)⟩) (fun H locs hs => ?_)
  refine W.eq (g2 := F0 m 5 ls [.int o1.1]) rfl ?_
  refine lv_if_ne (tgt := 10) hx hb dX5_unwant_5 (by decide) (fun c3 => ?_) (fun c3 => ?_)
  · rw [if_neg c3] at hf
    refine lv_aload_n hx hb dX5_unwant_10 rfl (lv_at hl 0 rfl) ?_
    obtain ⟨v4, e4, hf⟩ := tk_bi hf
    refine tk_getR hx hb ht inX5 hown hE hs rfl 12 (by decide) (ht _ wfX5_31) e4 dX5_unwant_11 ?_
    refine lv_iload_n hx hb dX5_unwant_14 rfl (lv_at hl 1 rfl) ?_
    obtain ⟨v5, e5, hf⟩ := tk_bi hf
    refine tk_iald hx hb hE hs e5 dX5_unwant_15 ?_
    refine lv_istore_n (lv' := [(2, .int v5), (0, .ref x0), (1, .int x1)]) hx hb dX5_unwant_16 rfl hl (by decide) rfl (fun ls hl => ?_)
    refine lv_aload_n hx hb dX5_unwant_17 rfl (lv_at hl 1 rfl) ?_
    obtain ⟨v6, e6, hf⟩ := tk_bi hf
    refine tk_getR hx hb ht inX5 hown hE hs rfl 12 (by decide) (ht _ wfX5_31) e6 dX5_unwant_18 ?_
    refine lv_iload_n hx hb dX5_unwant_21 rfl (lv_at hl 2 rfl) ?_
    refine lv_iconst (v := 0) hx hb dX5_unwant_22 (by decide) ?_
    obtain ⟨h7, e7, hf⟩ := tk_bi hf
    refine tk_iast hx hb hE hs e7 dX5_unwant_23 (fun H locs hs => ?_)
    refine lv_iload_n hx hb dX5_unwant_24 rfl (lv_at hl 0 rfl) ?_
    cases hf
    exact tk_iret hx hb hr hlocks hs dX5_unwant_25
  · rw [if_pos c3] at hf
    refine lv_iconst (v := 0) hx hb dX5_unwant_8 (by decide) ?_
    cases hf
    exact tk_iret hx hb hr hlocks hs dX5_unwant_9
def fX5_isBarred_19 (N : Nat) (y0 : Int32) (h : tk_AH) (sz : Nat) : Option (Int32 × tk_AH × Nat) :=
  (tk_bz y0).bind fun _ =>
  some (y0, h, sz)
def fX5_isBarred (N : Nat) (x0 : Nat) (x1 : Int32) (x2 : Int32) (h : tk_AH) (sz : Nat) : Option (Int32 × tk_AH × Nat) :=
  (tk_gR h 5 13 x0).bind fun v2 =>
  (tk_aI h 0 v2 x1).bind fun v3 =>
  if ((v3 >>> (x2 &&& 31)) &&& 1) = 1 then (
  fX5_isBarred_19 N 1 h sz) else (
  fX5_isBarred_19 N 0 h sz)
set_option maxHeartbeats 8000000 in
set_option maxRecDepth 100000 in
theorem cX5_isBarred_ok (l : Launch) (hl0 : l.stackTraces = false) (G : tk_AG) (N : Nat) (x0 : Nat) (x1 : Int32) (x2 : Int32) (h : tk_AH) (sz : Nat) (r9 : Int32) (h9 : tk_AH) (sz9 : Nat) (hf : fX5_isBarred N x0 x1 x2 h sz = some (r9, h9, sz9)) : Met l yX5_isBarred (coX5_isBarred :: tk_W) ({ frames := 0, cells := 0, slots := 0, locals := 0 }) (tk_pc G [.ref x0, .int x1, .int x2] h sz) (tk_qc G (some (.int r9)) h9 sz9) 0 0 (tk_ag G) := by
  refine Met.ofW (cc := cX5_isBarred) (maxL := 3) (ret := (some .boolean)) (by decide) rfl ?_
  intro p e s m args below meth c s₁ B hml hv
  obtain ⟨hav, hE, hrp, hsz, hgs⟩ := hv
  have hx := B.exec
  have hb := B.bytes
  have hr := B.returns
  have hts := atoms_spec (ws := coX5_isBarred :: tk_W) B.pre
  have ht : ∀ w ∈ tk_W, w.before args s = true := fun w h => hts w (List.mem_cons_of_mem _ h)
  have hown : s.vm.findClass RX5 = some m.cls := findClass_of_methodNamed B.named
  have hlocks := B.notSynchronized
  have hs : tk_sw G s h sz s.heap [] := ⟨hrp, hsz, by rw [hsz]; exact hgs, va_S.rf⟩
  have hl := lv_entry ([.ref x0, .int x1, .int x2]) (n := 3) (Nat.le_of_ble_eq_true rfl)
  have hent : entryFrame m args 3 = F0 m 0 (lg_sl ([.ref x0, .int x1, .int x2]) ++ List.replicate (3 - (lg_sl ([.ref x0, .int x1, .int x2])).length) Slot.unset).toArray [] := by rw [hav, lg_entry_eq]
  rw [hent]
  clear hent
  generalize (lg_sl ([.ref x0, .int x1, .int x2]) ++ List.replicate (3 - (lg_sl ([.ref x0, .int x1, .int x2])).length) Slot.unset).toArray = ls at hl ⊢
  have hl : lv_has ls 3 [(0, .ref x0), (1, .int x1), (2, .int x2)] := hl
  have j19 : ∀ (y0 : Int32) (h : tk_AH) (sz : Nat) (H : Heap) (locs : List Loc) (ls : Array Slot), fX5_isBarred_19 N y0 h sz = some (r9, h9, sz9) → tk_sw G s h sz H locs → lv_has ls 3 [] → W p l e (headSpec (coX5_isBarred :: tk_W) ({ frames := 0, cells := 0, slots := 0, locals := 0 })).room s m args below meth c H locs 0 (0) (MQ below (tk_qc G (some (.int r9)) h9 sz9) args s 0 0 (tk_ag G)) (F0 m 19 ls [.int y0]) := by
    intro y0 h sz H locs ls hf hs hl
    unfold fX5_isBarred_19 at hf
    obtain ⟨_, e1, hf⟩ := tk_bi hf
    have e1 := tk_bz_ok e1
    cases hf
    exact tk_zret hx hb hr hlocks e1 hs dX5_isBarred_19
  unfold fX5_isBarred at hf
  refine lv_aload_n hx hb dX5_isBarred_0 rfl (lv_at hl 0 rfl) ?_
  obtain ⟨v2, e2, hf⟩ := tk_bi hf
  refine tk_getR hx hb ht inX5 hown hE hs rfl 13 (by decide) (ht _ wfX5_34) e2 dX5_isBarred_1 ?_
  refine lv_iload_n hx hb dX5_isBarred_4 rfl (lv_at hl 1 rfl) ?_
  obtain ⟨v3, e3, hf⟩ := tk_bi hf
  refine tk_iald hx hb hE hs e3 dX5_isBarred_5 ?_
  refine lv_iload_n hx hb dX5_isBarred_6 rfl (lv_at hl 2 rfl) ?_
  refine lv_ishr hx hb dX5_isBarred_7 ?_
  refine lv_iconst (v := 1) hx hb dX5_isBarred_8 (by decide) ?_
  refine lv_iand hx hb dX5_isBarred_9 ?_
  refine lv_iconst (v := 1) hx hb dX5_isBarred_10 (by decide) ?_
  refine lv_icmp_ne (tgt := 18) hx hb dX5_isBarred_11 (by decide) (fun c4 => ?_) (fun c4 => ?_)
  · rw [if_neg c4] at hf
    refine lv_iconst (v := 0) hx hb dX5_isBarred_18 (by decide) ?_
    exact j19 0 h sz _ _ _ hf hs (lv_sub hl [] rfl)
  · rw [if_pos c4] at hf
    refine lv_iconst (v := 1) hx hb dX5_isBarred_14 (by decide) ?_
    refine lv_goto (tgt := 19) hx hb dX5_isBarred_15 (by decide) ?_
    exact j19 1 h sz _ _ _ hf hs (lv_sub hl [] rfl)
def fX5_bar_88 (N : Nat) (x4 : Int32) (y0 : Int32) (y1 : Int32) (y2 : Nat) (h : tk_AH) (sz : Nat) : Option (Int32 × tk_AH × Nat) :=
  (tk_sI h 0 y2 y1 y0).bind fun h1 =>
  (tk_bz x4).bind fun _ =>
  some (x4, h1, sz)
def fX5_bar_53 (N : Nat) (x0 : Nat) (x1 : Int32) (x2 : Int32) (x3 : Int32) (x4 : Int32) (y0 : Int32) (y1 : Int32) (y2 : Nat) (h : tk_AH) (sz : Nat) : Option (Int32 × tk_AH × Nat) :=
  (tk_sI h 0 y2 y1 y0).bind fun h3 =>
  (tk_gR h3 5 13 x0).bind fun v4 =>
  if x3 = 0 then (
  (tk_gR h3 5 13 x0).bind fun v6 =>
  (tk_aI h3 0 v6 x2).bind fun v7 =>
  fX5_bar_88 N x4 (v7 &&& ((1 <<< (x1 &&& 31)) ^^^ (-1))) x2 v4 h3 sz) else (
  (tk_gR h3 5 13 x0).bind fun v8 =>
  (tk_aI h3 0 v8 x2).bind fun v9 =>
  fX5_bar_88 N x4 (v9 ||| (1 <<< (x1 &&& 31))) x2 v4 h3 sz)
def fX5_bar (N : Nat) (x0 : Nat) (x1 : Int32) (x2 : Int32) (x3 : Int32) (h : tk_AH) (sz : Nat) : Option (Int32 × tk_AH × Nat) :=
  (tk_ok h 5 x0).bind fun _ =>
  (fX5_areTwo N x0 x1 x2 h sz).bind fun o10 =>
  if o10.1 = 0 then (
  (tk_bz 0).bind fun _ =>
  some (0, o10.2.1, o10.2.2)) else (
  (tk_ok o10.2.1 5 x0).bind fun _ =>
  (fX5_isBarred N x0 x1 x2 o10.2.1 o10.2.2).bind fun o13 =>
  (tk_gR o13.2.1 5 13 x0).bind fun v15 =>
  if x3 = 0 then (
  (tk_gR o13.2.1 5 13 x0).bind fun v17 =>
  (tk_aI o13.2.1 0 v17 x1).bind fun v18 =>
  fX5_bar_53 N x0 x1 x2 x3 o13.1 (v18 &&& ((1 <<< (x2 &&& 31)) ^^^ (-1))) x1 v15 o13.2.1 o13.2.2) else (
  (tk_gR o13.2.1 5 13 x0).bind fun v19 =>
  (tk_aI o13.2.1 0 v19 x1).bind fun v20 =>
  fX5_bar_53 N x0 x1 x2 x3 o13.1 (v20 ||| (1 <<< (x2 &&& 31))) x1 v15 o13.2.1 o13.2.2))
set_option maxHeartbeats 8000000 in
set_option maxRecDepth 100000 in
theorem cX5_bar_ok (l : Launch) (hl0 : l.stackTraces = false) (G : tk_AG) (N : Nat) (x0 : Nat) (x1 : Int32) (x2 : Int32) (x3 : Int32) (h : tk_AH) (sz : Nat) (r9 : Int32) (h9 : tk_AH) (sz9 : Nat) (hf : fX5_bar N x0 x1 x2 x3 h sz = some (r9, h9, sz9)) : Met l yX5_bar (coX5_bar :: tk_W) ({ frames := 3, cells := 0, slots := 0, locals := 65 }) (tk_pc G [.ref x0, .int x1, .int x2, .int x3] h sz) (tk_qc G (some (.int r9)) h9 sz9) 0 0 (tk_ag G) := by
  refine Met.ofW (cc := cX5_bar) (maxL := 5) (ret := (some .boolean)) (by decide) rfl ?_
  intro p e s m args below meth c s₁ B hml hv
  obtain ⟨hav, hE, hrp, hsz, hgs⟩ := hv
  have hx := B.exec
  have hb := B.bytes
  have hr := B.returns
  have hts := atoms_spec (ws := coX5_bar :: tk_W) B.pre
  have ht : ∀ w ∈ tk_W, w.before args s = true := fun w h => hts w (List.mem_cons_of_mem _ h)
  have hown : s.vm.findClass RX5 = some m.cls := findClass_of_methodNamed B.named
  have hlocks := B.notSynchronized
  have hs : tk_sw G s h sz s.heap [] := ⟨hrp, hsz, by rw [hsz]; exact hgs, va_S.rf⟩
  have hl := lv_entry ([.ref x0, .int x1, .int x2, .int x3]) (n := 5) (Nat.le_of_ble_eq_true rfl)
  have hent : entryFrame m args 5 = F0 m 0 (lg_sl ([.ref x0, .int x1, .int x2, .int x3]) ++ List.replicate (5 - (lg_sl ([.ref x0, .int x1, .int x2, .int x3])).length) Slot.unset).toArray [] := by rw [hav, lg_entry_eq]
  rw [hent]
  clear hent
  generalize (lg_sl ([.ref x0, .int x1, .int x2, .int x3]) ++ List.replicate (5 - (lg_sl ([.ref x0, .int x1, .int x2, .int x3])).length) Slot.unset).toArray = ls at hl ⊢
  have hl : lv_has ls 5 [(0, .ref x0), (1, .int x1), (2, .int x2), (3, .int x3)] := hl
  have j88 : ∀ (x4 : Int32) (y0 : Int32) (y1 : Int32) (y2 : Nat) (h : tk_AH) (sz : Nat) (H : Heap) (locs : List Loc) (ls : Array Slot), fX5_bar_88 N x4 y0 y1 y2 h sz = some (r9, h9, sz9) → tk_sw G s h sz H locs → lv_has ls 5 [(4, .int x4)] → W p l e (headSpec (coX5_bar :: tk_W) ({ frames := 3, cells := 0, slots := 0, locals := 65 })).room s m args below meth c H locs 0 (0) (MQ below (tk_qc G (some (.int r9)) h9 sz9) args s 0 0 (tk_ag G)) (F0 m 88 ls [.int y0, .int y1, .ref y2]) := by
    intro x4 y0 y1 y2 h sz H locs ls hf hs hl
    unfold fX5_bar_88 at hf
    obtain ⟨h1, e1, hf⟩ := tk_bi hf
    refine tk_iast hx hb hE hs e1 dX5_bar_88 (fun H locs hs => ?_)
    refine lv_iload hx hb dX5_bar_89 (lv_at hl 0 rfl) ?_
    obtain ⟨_, e2, hf⟩ := tk_bi hf
    have e2 := tk_bz_ok e2
    cases hf
    exact tk_zret hx hb hr hlocks e2 hs dX5_bar_91
  have j53 : ∀ (x0 : Nat) (x1 : Int32) (x2 : Int32) (x3 : Int32) (x4 : Int32) (y0 : Int32) (y1 : Int32) (y2 : Nat) (h : tk_AH) (sz : Nat) (H : Heap) (locs : List Loc) (ls : Array Slot), fX5_bar_53 N x0 x1 x2 x3 x4 y0 y1 y2 h sz = some (r9, h9, sz9) → tk_sw G s h sz H locs → lv_has ls 5 [(0, .ref x0), (1, .int x1), (2, .int x2), (3, .int x3), (4, .int x4)] → W p l e (headSpec (coX5_bar :: tk_W) ({ frames := 3, cells := 0, slots := 0, locals := 65 })).room s m args below meth c H locs 0 (0) (MQ below (tk_qc G (some (.int r9)) h9 sz9) args s 0 0 (tk_ag G)) (F0 m 53 ls [.int y0, .int y1, .ref y2]) := by
    intro x0 x1 x2 x3 x4 y0 y1 y2 h sz H locs ls hf hs hl
    unfold fX5_bar_53 at hf
    obtain ⟨h3, e3, hf⟩ := tk_bi hf
    refine tk_iast hx hb hE hs e3 dX5_bar_53 (fun H locs hs => ?_)
    refine lv_aload_n hx hb dX5_bar_54 rfl (lv_at hl 0 rfl) ?_
    obtain ⟨v4, e4, hf⟩ := tk_bi hf
    refine tk_getR hx hb ht inX5 hown hE hs rfl 13 (by decide) (ht _ wfX5_34) e4 dX5_bar_55 ?_
    refine lv_iload_n hx hb dX5_bar_58 rfl (lv_at hl 2 rfl) ?_
    refine lv_iload_n hx hb dX5_bar_59 rfl (lv_at hl 3 rfl) ?_
    refine lv_if_eq (tgt := 76) hx hb dX5_bar_60 (by decide) (fun c5 => ?_) (fun c5 => ?_)
    · rw [if_pos c5] at hf
      refine lv_aload_n hx hb dX5_bar_76 rfl (lv_at hl 0 rfl) ?_
      obtain ⟨v6, e6, hf⟩ := tk_bi hf
      refine tk_getR hx hb ht inX5 hown hE hs rfl 13 (by decide) (ht _ wfX5_34) e6 dX5_bar_77 ?_
      refine lv_iload_n hx hb dX5_bar_80 rfl (lv_at hl 2 rfl) ?_
      obtain ⟨v7, e7, hf⟩ := tk_bi hf
      refine tk_iald hx hb hE hs e7 dX5_bar_81 ?_
      refine lv_iconst (v := 1) hx hb dX5_bar_82 (by decide) ?_
      refine lv_iload_n hx hb dX5_bar_83 rfl (lv_at hl 1 rfl) ?_
      refine lv_ishl hx hb dX5_bar_84 ?_
      refine lv_iconst (v := (-1)) hx hb dX5_bar_85 (by decide) ?_
      refine lv_ixor hx hb dX5_bar_86 ?_
      refine lv_iand hx hb dX5_bar_87 ?_
      exact j88 x4 (v7 &&& ((1 <<< (x1 &&& 31)) ^^^ (-1))) x2 v4 h3 sz _ _ _ hf hs (lv_sub hl [4] rfl)
    · rw [if_neg c5] at hf
      refine lv_aload_n hx hb dX5_bar_63 rfl (lv_at hl 0 rfl) ?_
      obtain ⟨v8, e8, hf⟩ := tk_bi hf
      refine tk_getR hx hb ht inX5 hown hE hs rfl 13 (by decide) (ht _ wfX5_34) e8 dX5_bar_64 ?_
      refine lv_iload_n hx hb dX5_bar_67 rfl (lv_at hl 2 rfl) ?_
      obtain ⟨v9, e9, hf⟩ := tk_bi hf
      refine tk_iald hx hb hE hs e9 dX5_bar_68 ?_
      refine lv_iconst (v := 1) hx hb dX5_bar_69 (by decide) ?_
      refine lv_iload_n hx hb dX5_bar_70 rfl (lv_at hl 1 rfl) ?_
      refine lv_ishl hx hb dX5_bar_71 ?_
      refine lv_ior hx hb dX5_bar_72 ?_
      refine lv_goto (tgt := 88) hx hb dX5_bar_73 (by decide) ?_
      exact j88 x4 (v9 ||| (1 <<< (x1 &&& 31))) x2 v4 h3 sz _ _ _ hf hs (lv_sub hl [4] rfl)
  unfold fX5_bar at hf
  refine lv_aload_n hx hb dX5_bar_0 rfl (lv_at hl 0 rfl) ?_
  refine lv_iload_n hx hb dX5_bar_1 rfl (lv_at hl 1 rfl) ?_
  refine lv_iload_n hx hb dX5_bar_2 rfl (lv_at hl 2 rfl) ?_
  obtain ⟨_, p10, hf⟩ := tk_bi hf
  obtain ⟨o10, e10, hf⟩ := tk_bi hf
  refine tk_call0 (v := some (.int o10.1)) hs (va_runV (As := [.int x1, .int x2]) (rest := []) ⟨hx, hb, hml, hown, ht⟩ (cX5_areTwo_ok l hl0 G N x0 x1 x2 h sz o10.1 o10.2.1 o10.2.2 e10) (kwX5_areTwo ht wmX5_109 rfl rfl ⟨Nat.le_of_ble_eq_true rfl, Nat.le_of_ble_eq_true rfl⟩) (tk_preV hE hs (tk_ok_ok p10) rfl) rfl rfl hl.1 rfl (lv_room (Nat.le_of_ble_eq_true rfl)) dX5_bar_3 ⟨(Nat.le_of_ble_eq_true rfl), (Nat.le_of_ble_eq_true rfl)⟩) (fun H locs hs => ?_)
  refine W.eq (g2 := F0 m 6 ls [.int o10.1]) rfl ?_
  refine lv_if_ne (tgt := 11) hx hb dX5_bar_6 (by decide) (fun c12 => ?_) (fun c12 => ?_)
  · rw [if_neg c12] at hf
    refine lv_aload_n hx hb dX5_bar_11 rfl (lv_at hl 0 rfl) ?_
    refine lv_iload_n hx hb dX5_bar_12 rfl (lv_at hl 1 rfl) ?_
    refine lv_iload_n hx hb dX5_bar_13 rfl (lv_at hl 2 rfl) ?_
    obtain ⟨_, p13, hf⟩ := tk_bi hf
    obtain ⟨o13, e13, hf⟩ := tk_bi hf
    refine tk_call0 (v := some (.int o13.1)) hs (va_runV (As := [.int x1, .int x2]) (rest := []) ⟨hx, hb, hml, hown, ht⟩ (cX5_isBarred_ok l hl0 G N x0 x1 x2 o10.2.1 o10.2.2 o13.1 o13.2.1 o13.2.2 e13) (kwX5_isBarred ht wmX5_112 rfl rfl ⟨Nat.le_of_ble_eq_true rfl, Nat.le_of_ble_eq_true rfl⟩) (tk_preV hE hs (tk_ok_ok p13) rfl) rfl rfl hl.1 rfl (lv_room (Nat.le_of_ble_eq_true rfl)) dX5_bar_14 ⟨(Nat.le_of_ble_eq_true rfl), (Nat.le_of_ble_eq_true rfl)⟩) (fun H locs hs => ?_)
    refine W.eq (g2 := F0 m 17 ls [.int o13.1]) rfl ?_
    refine lv_istore (lv' := [(4, .int o13.1), (0, .ref x0), (1, .int x1), (2, .int x2), (3, .int x3)]) hx hb dX5_bar_17 hl (by decide) rfl (fun ls hl => ?_)
    refine lv_aload_n hx hb dX5_bar_19 rfl (lv_at hl 1 rfl) ?_
    obtain ⟨v15, e15, hf⟩ := tk_bi hf
    refine tk_getR hx hb ht inX5 hown hE hs rfl 13 (by decide) (ht _ wfX5_34) e15 dX5_bar_20 ?_
    refine lv_iload_n hx hb dX5_bar_23 rfl (lv_at hl 2 rfl) ?_
    refine lv_iload_n hx hb dX5_bar_24 rfl (lv_at hl 4 rfl) ?_
    refine lv_if_eq (tgt := 41) hx hb dX5_bar_25 (by decide) (fun c16 => ?_) (fun c16 => ?_)
    · rw [if_pos c16] at hf
      refine lv_aload_n hx hb dX5_bar_41 rfl (lv_at hl 1 rfl) ?_
      obtain ⟨v17, e17, hf⟩ := tk_bi hf
      refine tk_getR hx hb ht inX5 hown hE hs rfl 13 (by decide) (ht _ wfX5_34) e17 dX5_bar_42 ?_
      refine lv_iload_n hx hb dX5_bar_45 rfl (lv_at hl 2 rfl) ?_
      obtain ⟨v18, e18, hf⟩ := tk_bi hf
      refine tk_iald hx hb hE hs e18 dX5_bar_46 ?_
      refine lv_iconst (v := 1) hx hb dX5_bar_47 (by decide) ?_
      refine lv_iload_n hx hb dX5_bar_48 rfl (lv_at hl 3 rfl) ?_
      refine lv_ishl hx hb dX5_bar_49 ?_
      refine lv_iconst (v := (-1)) hx hb dX5_bar_50 (by decide) ?_
      refine lv_ixor hx hb dX5_bar_51 ?_
      refine lv_iand hx hb dX5_bar_52 ?_
      exact j53 x0 x1 x2 x3 o13.1 (v18 &&& ((1 <<< (x2 &&& 31)) ^^^ (-1))) x1 v15 o13.2.1 o13.2.2 _ _ _ hf hs (lv_sub hl [1, 2, 3, 4, 0] rfl)
    · rw [if_neg c16] at hf
      refine lv_aload_n hx hb dX5_bar_28 rfl (lv_at hl 1 rfl) ?_
      obtain ⟨v19, e19, hf⟩ := tk_bi hf
      refine tk_getR hx hb ht inX5 hown hE hs rfl 13 (by decide) (ht _ wfX5_34) e19 dX5_bar_29 ?_
      refine lv_iload_n hx hb dX5_bar_32 rfl (lv_at hl 2 rfl) ?_
      obtain ⟨v20, e20, hf⟩ := tk_bi hf
      refine tk_iald hx hb hE hs e20 dX5_bar_33 ?_
      refine lv_iconst (v := 1) hx hb dX5_bar_34 (by decide) ?_
      refine lv_iload_n hx hb dX5_bar_35 rfl (lv_at hl 3 rfl) ?_
      refine lv_ishl hx hb dX5_bar_36 ?_
      refine lv_ior hx hb dX5_bar_37 ?_
      refine lv_goto (tgt := 53) hx hb dX5_bar_38 (by decide) ?_
      exact j53 x0 x1 x2 x3 o13.1 (v20 ||| (1 <<< (x2 &&& 31))) x1 v15 o13.2.1 o13.2.2 _ _ _ hf hs (lv_sub hl [1, 2, 3, 4, 0] rfl)
  · rw [if_pos c12] at hf
    refine lv_iconst (v := 0) hx hb dX5_bar_9 (by decide) ?_
    obtain ⟨_, e21, hf⟩ := tk_bi hf
    have e21 := tk_bz_ok e21
    cases hf
    exact tk_zret hx hb hr hlocks e21 hs dX5_bar_10
def fX5_test_103 (N : Nat) (x0 : Nat) (x5 : Int32) (x6 : Int32) (y0 : Int32) (h : tk_AH) (sz : Nat) : Option (Int32 × tk_AH × Nat) :=
  if x6 ≤ y0 then (
  (tk_gR h 5 7 x0).bind fun v2 =>
  (tk_sI h 0 v2 x5 x6).bind fun h3 =>
  (tk_gR h3 5 8 x0).bind fun v4 =>
  (tk_sI h3 0 v4 x5 y0).bind fun h5 =>
  (tk_gR h5 5 9 x0).bind fun v6 =>
  (tk_aI h5 0 v6 x5).bind fun v7 =>
  (tk_sI h5 0 v6 x5 (v7 + 1)).bind fun h8 =>
  (tk_bz 1).bind fun _ =>
  some (1, h8, sz)) else (
  (tk_gR h 5 10 x0).bind fun v10 =>
  (tk_aI h 0 v10 x5).bind fun v11 =>
  (tk_sI h 0 v10 x5 (v11 + 1)).bind fun h12 =>
  (tk_bz 0).bind fun _ =>
  some (0, h12, sz))
def fX5_test_96 (N : Nat) (x0 : Nat) (x5 : Int32) (x6 : Int32) (h : tk_AH) (sz : Nat) : Option (Int32 × tk_AH × Nat) :=
  (tk_gR h 5 8 x0).bind fun v14 =>
  (tk_aI h 0 v14 x5).bind fun v15 =>
  fX5_test_103 N x0 x5 x6 v15 h sz
def fX5_test_74 (N : Nat) (x0 : Nat) (x3 : Int32) (x4 : Int32) (x5 : Int32) (y0 : Int32) (h : tk_AH) (sz : Nat) : Option (Int32 × tk_AH × Nat) :=
  if x4 = 0 then (
  (tk_gR h 5 8 x0).bind fun v17 =>
  (tk_aI h 0 v17 x5).bind fun v18 =>
  if v18 ≤ x3 then (
  fX5_test_96 N x0 x5 y0 h sz) else (
  fX5_test_103 N x0 x5 y0 x3 h sz)) else (
  fX5_test_96 N x0 x5 y0 h sz)
def fX5_test_67 (N : Nat) (x0 : Nat) (x3 : Int32) (x4 : Int32) (x5 : Int32) (h : tk_AH) (sz : Nat) : Option (Int32 × tk_AH × Nat) :=
  (tk_gR h 5 7 x0).bind fun v20 =>
  (tk_aI h 0 v20 x5).bind fun v21 =>
  fX5_test_74 N x0 x3 x4 x5 v21 h sz
def fX5_test_33 (N : Nat) (h : tk_AH) (sz : Nat) : Option (Int32 × tk_AH × Nat) :=
  (tk_bz 0).bind fun _ =>
  some (0, h, sz)
def fX5_test_26 (N : Nat) (x0 : Nat) (x1 : Int32) (x2 : Int32) (x3 : Int32) (x4 : Int32) (y0 : Int32) (y1 : Nat) (h : tk_AH) (sz : Nat) : Option (Int32 × tk_AH × Nat) :=
  (tk_ok h 5 y1).bind fun _ =>
  (fX5_right N y1 y0 2 h sz).bind fun o23 =>
  if o23.1 = 0 then (
  fX5_test_33 N o23.2.1 o23.2.2) else (
  if x4 = 0 then (
  fX5_test_67 N x0 x3 x4 ((8 * x1) + x2) o23.2.1 o23.2.2) else (
  (tk_gR o23.2.1 5 7 x0).bind fun v27 =>
  (tk_aI o23.2.1 0 v27 ((8 * x1) + x2)).bind fun v28 =>
  if (x3 - 1) ≤ v28 then (
  fX5_test_67 N x0 x3 x4 ((8 * x1) + x2) o23.2.1 o23.2.2) else (
  fX5_test_74 N x0 x3 x4 ((8 * x1) + x2) (x3 - 1) o23.2.1 o23.2.2)))
def fX5_test_25 (N : Nat) (x0 : Nat) (x1 : Int32) (x2 : Int32) (x3 : Int32) (x4 : Int32) (y0 : Nat) (h : tk_AH) (sz : Nat) : Option (Int32 × tk_AH × Nat) :=
  fX5_test_26 N x0 x1 x2 x3 x4 0 y0 h sz
def fX5_test (N : Nat) (x0 : Nat) (x1 : Int32) (x2 : Int32) (x3 : Int32) (x4 : Int32) (h : tk_AH) (sz : Nat) : Option (Int32 × tk_AH × Nat) :=
  (tk_ok h 5 x0).bind fun _ =>
  (fX5_isTongue N x0 x1 x2 h sz).bind fun o30 =>
  if o30.1 = 0 then (
  fX5_test_33 N o30.2.1 o30.2.2) else (
  if x3 < 1 then (
  fX5_test_25 N x0 x1 x2 x3 x4 x0 o30.2.1 o30.2.2) else (
  if 10 < x3 then (
  fX5_test_25 N x0 x1 x2 x3 x4 x0 o30.2.1 o30.2.2) else (
  fX5_test_26 N x0 x1 x2 x3 x4 1 x0 o30.2.1 o30.2.2)))
set_option maxHeartbeats 8000000 in
set_option maxRecDepth 100000 in
theorem cX5_test_ok (l : Launch) (hl0 : l.stackTraces = false) (G : tk_AG) (N : Nat) (x0 : Nat) (x1 : Int32) (x2 : Int32) (x3 : Int32) (x4 : Int32) (h : tk_AH) (sz : Nat) (r9 : Int32) (h9 : tk_AH) (sz9 : Nat) (hf : fX5_test N x0 x1 x2 x3 x4 h sz = some (r9, h9, sz9)) : Met l yX5_test (coX5_test :: tk_W) ({ frames := 3, cells := 0, slots := 0, locals := 65 }) (tk_pc G [.ref x0, .int x1, .int x2, .int x3, .int x4] h sz) (tk_qc G (some (.int r9)) h9 sz9) 0 0 (tk_ag G) := by
  refine Met.ofW (cc := cX5_test) (maxL := 8) (ret := (some .boolean)) (by decide) rfl ?_
  intro p e s m args below meth c s₁ B hml hv
  obtain ⟨hav, hE, hrp, hsz, hgs⟩ := hv
  have hx := B.exec
  have hb := B.bytes
  have hr := B.returns
  have hts := atoms_spec (ws := coX5_test :: tk_W) B.pre
  have ht : ∀ w ∈ tk_W, w.before args s = true := fun w h => hts w (List.mem_cons_of_mem _ h)
  have hown : s.vm.findClass RX5 = some m.cls := findClass_of_methodNamed B.named
  have hlocks := B.notSynchronized
  have hs : tk_sw G s h sz s.heap [] := ⟨hrp, hsz, by rw [hsz]; exact hgs, va_S.rf⟩
  have hl := lv_entry ([.ref x0, .int x1, .int x2, .int x3, .int x4]) (n := 8) (Nat.le_of_ble_eq_true rfl)
  have hent : entryFrame m args 8 = F0 m 0 (lg_sl ([.ref x0, .int x1, .int x2, .int x3, .int x4]) ++ List.replicate (8 - (lg_sl ([.ref x0, .int x1, .int x2, .int x3, .int x4])).length) Slot.unset).toArray [] := by rw [hav, lg_entry_eq]
  rw [hent]
  clear hent
  generalize (lg_sl ([.ref x0, .int x1, .int x2, .int x3, .int x4]) ++ List.replicate (8 - (lg_sl ([.ref x0, .int x1, .int x2, .int x3, .int x4])).length) Slot.unset).toArray = ls at hl ⊢
  have hl : lv_has ls 8 [(0, .ref x0), (1, .int x1), (2, .int x2), (3, .int x3), (4, .int x4)] := hl
  have j103 : ∀ (x0 : Nat) (x5 : Int32) (x6 : Int32) (y0 : Int32) (h : tk_AH) (sz : Nat) (H : Heap) (locs : List Loc) (ls : Array Slot), fX5_test_103 N x0 x5 x6 y0 h sz = some (r9, h9, sz9) → tk_sw G s h sz H locs → lv_has ls 8 [(0, .ref x0), (5, .int x5), (6, .int x6)] → W p l e (headSpec (coX5_test :: tk_W) ({ frames := 3, cells := 0, slots := 0, locals := 65 })).room s m args below meth c H locs 0 (0) (MQ below (tk_qc G (some (.int r9)) h9 sz9) args s 0 0 (tk_ag G)) (F0 m 103 ls [.int y0]) := by
    intro x0 x5 x6 y0 h sz H locs ls hf hs hl
    unfold fX5_test_103 at hf
    refine lv_istore (lv' := [(7, .int y0), (0, .ref x0), (5, .int x5), (6, .int x6)]) hx hb dX5_test_103 hl (by decide) rfl (fun ls hl => ?_)
    refine lv_iload hx hb dX5_test_105 (lv_at hl 3 rfl) ?_
    refine lv_iload hx hb dX5_test_107 (lv_at hl 0 rfl) ?_
    refine lv_icmp_le (tgt := 125) hx hb dX5_test_109 (by decide) (fun c1 => ?_) (fun c1 => ?_)
    · rw [if_pos c1] at hf
      refine lv_aload_n hx hb dX5_test_125 rfl (lv_at hl 1 rfl) ?_
      obtain ⟨v2, e2, hf⟩ := tk_bi hf
      refine tk_getR hx hb ht inX5 hown hE hs rfl 7 (by decide) (ht _ wfX5_16) e2 dX5_test_126 ?_
      refine lv_iload hx hb dX5_test_129 (lv_at hl 2 rfl) ?_
      refine lv_iload hx hb dX5_test_131 (lv_at hl 3 rfl) ?_
      obtain ⟨h3, e3, hf⟩ := tk_bi hf
      refine tk_iast hx hb hE hs e3 dX5_test_133 (fun H locs hs => ?_)
      refine lv_aload_n hx hb dX5_test_134 rfl (lv_at hl 1 rfl) ?_
      obtain ⟨v4, e4, hf⟩ := tk_bi hf
      refine tk_getR hx hb ht inX5 hown hE hs rfl 8 (by decide) (ht _ wfX5_19) e4 dX5_test_135 ?_
      refine lv_iload hx hb dX5_test_138 (lv_at hl 2 rfl) ?_
      refine lv_iload hx hb dX5_test_140 (lv_at hl 0 rfl) ?_
      obtain ⟨h5, e5, hf⟩ := tk_bi hf
      refine tk_iast hx hb hE hs e5 dX5_test_142 (fun H locs hs => ?_)
      refine lv_aload_n hx hb dX5_test_143 rfl (lv_at hl 1 rfl) ?_
      obtain ⟨v6, e6, hf⟩ := tk_bi hf
      refine tk_getR hx hb ht inX5 hown hE hs rfl 9 (by decide) (ht _ wfX5_22) e6 dX5_test_144 ?_
      refine lv_iload hx hb dX5_test_147 (lv_at hl 2 rfl) ?_
      refine lv_dup2_11 hx hb dX5_test_149 rfl rfl ?_
      obtain ⟨v7, e7, hf⟩ := tk_bi hf
      refine tk_iald hx hb hE hs e7 dX5_test_150 ?_
      refine lv_iconst (v := 1) hx hb dX5_test_151 (by decide) ?_
      refine lv_iadd hx hb dX5_test_152 ?_
      obtain ⟨h8, e8, hf⟩ := tk_bi hf
      refine tk_iast hx hb hE hs e8 dX5_test_153 (fun H locs hs => ?_)
      refine lv_iconst (v := 1) hx hb dX5_test_154 (by decide) ?_
      obtain ⟨_, e9, hf⟩ := tk_bi hf
      have e9 := tk_bz_ok e9
      cases hf
      exact tk_zret hx hb hr hlocks e9 hs dX5_test_155
    · rw [if_neg c1] at hf
      refine lv_aload_n hx hb dX5_test_112 rfl (lv_at hl 1 rfl) ?_
      obtain ⟨v10, e10, hf⟩ := tk_bi hf
      refine tk_getR hx hb ht inX5 hown hE hs rfl 10 (by decide) (ht _ wfX5_25) e10 dX5_test_113 ?_
      refine lv_iload hx hb dX5_test_116 (lv_at hl 2 rfl) ?_
      refine lv_dup2_11 hx hb dX5_test_118 rfl rfl ?_
      obtain ⟨v11, e11, hf⟩ := tk_bi hf
      refine tk_iald hx hb hE hs e11 dX5_test_119 ?_
      refine lv_iconst (v := 1) hx hb dX5_test_120 (by decide) ?_
      refine lv_iadd hx hb dX5_test_121 ?_
      obtain ⟨h12, e12, hf⟩ := tk_bi hf
      refine tk_iast hx hb hE hs e12 dX5_test_122 (fun H locs hs => ?_)
      refine lv_iconst (v := 0) hx hb dX5_test_123 (by decide) ?_
      obtain ⟨_, e13, hf⟩ := tk_bi hf
      have e13 := tk_bz_ok e13
      cases hf
      exact tk_zret hx hb hr hlocks e13 hs dX5_test_124
  have j96 : ∀ (x0 : Nat) (x5 : Int32) (x6 : Int32) (h : tk_AH) (sz : Nat) (H : Heap) (locs : List Loc) (ls : Array Slot), fX5_test_96 N x0 x5 x6 h sz = some (r9, h9, sz9) → tk_sw G s h sz H locs → lv_has ls 8 [(0, .ref x0), (5, .int x5), (6, .int x6)] → W p l e (headSpec (coX5_test :: tk_W) ({ frames := 3, cells := 0, slots := 0, locals := 65 })).room s m args below meth c H locs 0 (0) (MQ below (tk_qc G (some (.int r9)) h9 sz9) args s 0 0 (tk_ag G)) (F0 m 96 ls []) := by
    intro x0 x5 x6 h sz H locs ls hf hs hl
    unfold fX5_test_96 at hf
    refine lv_aload_n hx hb dX5_test_96 rfl (lv_at hl 0 rfl) ?_
    obtain ⟨v14, e14, hf⟩ := tk_bi hf
    refine tk_getR hx hb ht inX5 hown hE hs rfl 8 (by decide) (ht _ wfX5_19) e14 dX5_test_97 ?_
    refine lv_iload hx hb dX5_test_100 (lv_at hl 1 rfl) ?_
    obtain ⟨v15, e15, hf⟩ := tk_bi hf
    refine tk_iald hx hb hE hs e15 dX5_test_102 ?_
    exact j103 x0 x5 x6 v15 h sz _ _ _ hf hs (lv_sub hl [0, 1, 2] rfl)
  have j74 : ∀ (x0 : Nat) (x3 : Int32) (x4 : Int32) (x5 : Int32) (y0 : Int32) (h : tk_AH) (sz : Nat) (H : Heap) (locs : List Loc) (ls : Array Slot), fX5_test_74 N x0 x3 x4 x5 y0 h sz = some (r9, h9, sz9) → tk_sw G s h sz H locs → lv_has ls 8 [(0, .ref x0), (3, .int x3), (4, .int x4), (5, .int x5)] → W p l e (headSpec (coX5_test :: tk_W) ({ frames := 3, cells := 0, slots := 0, locals := 65 })).room s m args below meth c H locs 0 (0) (MQ below (tk_qc G (some (.int r9)) h9 sz9) args s 0 0 (tk_ag G)) (F0 m 74 ls [.int y0]) := by
    intro x0 x3 x4 x5 y0 h sz H locs ls hf hs hl
    unfold fX5_test_74 at hf
    refine lv_istore (lv' := [(6, .int y0), (0, .ref x0), (3, .int x3), (4, .int x4), (5, .int x5)]) hx hb dX5_test_74 hl (by decide) rfl (fun ls hl => ?_)
    refine lv_iload hx hb dX5_test_76 (lv_at hl 3 rfl) ?_
    refine lv_if_ne (tgt := 96) hx hb dX5_test_78 (by decide) (fun c16 => ?_) (fun c16 => ?_)
    · rw [if_neg c16] at hf
      exact j96 x0 x5 y0 h sz _ _ _ hf hs (lv_sub hl [1, 4, 0] rfl)
    · rw [if_pos c16] at hf
      refine lv_iload_n hx hb dX5_test_81 rfl (lv_at hl 2 rfl) ?_
      refine lv_aload_n hx hb dX5_test_82 rfl (lv_at hl 1 rfl) ?_
      obtain ⟨v17, e17, hf⟩ := tk_bi hf
      refine tk_getR hx hb ht inX5 hown hE hs rfl 8 (by decide) (ht _ wfX5_19) e17 dX5_test_83 ?_
      refine lv_iload hx hb dX5_test_86 (lv_at hl 4 rfl) ?_
      obtain ⟨v18, e18, hf⟩ := tk_bi hf
      refine tk_iald hx hb hE hs e18 dX5_test_88 ?_
      refine lv_icmp_ge (tgt := 96) hx hb dX5_test_89 (by decide) (fun c19 => ?_) (fun c19 => ?_)
      · rw [if_pos c19] at hf
        exact j96 x0 x5 y0 h sz _ _ _ hf hs (lv_sub hl [1, 4, 0] rfl)
      · rw [if_neg c19] at hf
        refine lv_iload_n hx hb dX5_test_92 rfl (lv_at hl 2 rfl) ?_
        refine lv_goto (tgt := 103) hx hb dX5_test_93 (by decide) ?_
        exact j103 x0 x5 y0 x3 h sz _ _ _ hf hs (lv_sub hl [1, 4, 0] rfl)
  have j67 : ∀ (x0 : Nat) (x3 : Int32) (x4 : Int32) (x5 : Int32) (h : tk_AH) (sz : Nat) (H : Heap) (locs : List Loc) (ls : Array Slot), fX5_test_67 N x0 x3 x4 x5 h sz = some (r9, h9, sz9) → tk_sw G s h sz H locs → lv_has ls 8 [(0, .ref x0), (3, .int x3), (4, .int x4), (5, .int x5)] → W p l e (headSpec (coX5_test :: tk_W) ({ frames := 3, cells := 0, slots := 0, locals := 65 })).room s m args below meth c H locs 0 (0) (MQ below (tk_qc G (some (.int r9)) h9 sz9) args s 0 0 (tk_ag G)) (F0 m 67 ls []) := by
    intro x0 x3 x4 x5 h sz H locs ls hf hs hl
    unfold fX5_test_67 at hf
    refine lv_aload_n hx hb dX5_test_67 rfl (lv_at hl 0 rfl) ?_
    obtain ⟨v20, e20, hf⟩ := tk_bi hf
    refine tk_getR hx hb ht inX5 hown hE hs rfl 7 (by decide) (ht _ wfX5_16) e20 dX5_test_68 ?_
    refine lv_iload hx hb dX5_test_71 (lv_at hl 3 rfl) ?_
    obtain ⟨v21, e21, hf⟩ := tk_bi hf
    refine tk_iald hx hb hE hs e21 dX5_test_73 ?_
    exact j74 x0 x3 x4 x5 v21 h sz _ _ _ hf hs (lv_sub hl [0, 1, 2, 3] rfl)
  have j33 : ∀ (h : tk_AH) (sz : Nat) (H : Heap) (locs : List Loc) (ls : Array Slot), fX5_test_33 N h sz = some (r9, h9, sz9) → tk_sw G s h sz H locs → lv_has ls 8 [] → W p l e (headSpec (coX5_test :: tk_W) ({ frames := 3, cells := 0, slots := 0, locals := 65 })).room s m args below meth c H locs 0 (0) (MQ below (tk_qc G (some (.int r9)) h9 sz9) args s 0 0 (tk_ag G)) (F0 m 33 ls []) := by
    intro h sz H locs ls hf hs hl
    unfold fX5_test_33 at hf
    refine lv_iconst (v := 0) hx hb dX5_test_33 (by decide) ?_
    obtain ⟨_, e22, hf⟩ := tk_bi hf
    have e22 := tk_bz_ok e22
    cases hf
    exact tk_zret hx hb hr hlocks e22 hs dX5_test_34
  have j26 : ∀ (x0 : Nat) (x1 : Int32) (x2 : Int32) (x3 : Int32) (x4 : Int32) (y0 : Int32) (y1 : Nat) (h : tk_AH) (sz : Nat) (H : Heap) (locs : List Loc) (ls : Array Slot), fX5_test_26 N x0 x1 x2 x3 x4 y0 y1 h sz = some (r9, h9, sz9) → tk_sw G s h sz H locs → lv_has ls 8 [(0, .ref x0), (1, .int x1), (2, .int x2), (3, .int x3), (4, .int x4)] → W p l e (headSpec (coX5_test :: tk_W) ({ frames := 3, cells := 0, slots := 0, locals := 65 })).room s m args below meth c H locs 0 (0) (MQ below (tk_qc G (some (.int r9)) h9 sz9) args s 0 0 (tk_ag G)) (F0 m 26 ls [.int y0, .ref y1]) := by
    intro x0 x1 x2 x3 x4 y0 y1 h sz H locs ls hf hs hl
    unfold fX5_test_26 at hf
    refine lv_iconst (v := 2) hx hb dX5_test_26 (by decide) ?_
    obtain ⟨_, p23, hf⟩ := tk_bi hf
    obtain ⟨o23, e23, hf⟩ := tk_bi hf
    refine tk_call0 (v := some (.int o23.1)) hs (va_runV (As := [.int y0, .int 2]) (rest := []) ⟨hx, hb, hml, hown, ht⟩ (cX5_right_ok l hl0 G N y1 y0 2 h sz o23.1 o23.2.1 o23.2.2 e23) (kwX5_right ht wmX5_96 rfl rfl ⟨Nat.le_of_ble_eq_true rfl, Nat.le_of_ble_eq_true rfl⟩) (tk_preV hE hs (tk_ok_ok p23) rfl) rfl rfl hl.1 rfl (lv_room (Nat.le_of_ble_eq_true rfl)) dX5_test_27 ⟨(Nat.le_of_ble_eq_true rfl), (Nat.le_of_ble_eq_true rfl)⟩) (fun H locs hs => ?_)
    refine W.eq (g2 := F0 m 30 ls [.int o23.1]) rfl ?_
    refine lv_if_ne (tgt := 35) hx hb dX5_test_30 (by decide) (fun c25 => ?_) (fun c25 => ?_)
    · rw [if_neg c25] at hf
      refine lv_bipush (v := 8) hx hb dX5_test_35 (by decide) ?_
      refine lv_iload_n hx hb dX5_test_37 rfl (lv_at hl 1 rfl) ?_
      refine lv_imul hx hb dX5_test_38 ?_
      refine lv_iload_n hx hb dX5_test_39 rfl (lv_at hl 2 rfl) ?_
      refine lv_iadd hx hb dX5_test_40 ?_
      refine lv_istore (lv' := [(5, .int ((8 * x1) + x2)), (0, .ref x0), (1, .int x1), (2, .int x2), (3, .int x3), (4, .int x4)]) hx hb dX5_test_41 hl (by decide) rfl (fun ls hl => ?_)
      refine lv_iload hx hb dX5_test_43 (lv_at hl 5 rfl) ?_
      refine lv_if_eq (tgt := 67) hx hb dX5_test_45 (by decide) (fun c26 => ?_) (fun c26 => ?_)
      · rw [if_pos c26] at hf
        exact j67 x0 x3 x4 ((8 * x1) + x2) o23.2.1 o23.2.2 _ _ _ hf hs (lv_sub hl [1, 4, 5, 0] rfl)
      · rw [if_neg c26] at hf
        refine lv_iload_n hx hb dX5_test_48 rfl (lv_at hl 4 rfl) ?_
        refine lv_iconst (v := 1) hx hb dX5_test_49 (by decide) ?_
        refine lv_isub hx hb dX5_test_50 ?_
        refine lv_aload_n hx hb dX5_test_51 rfl (lv_at hl 1 rfl) ?_
        obtain ⟨v27, e27, hf⟩ := tk_bi hf
        refine tk_getR hx hb ht inX5 hown hE hs rfl 7 (by decide) (ht _ wfX5_16) e27 dX5_test_52 ?_
        refine lv_iload hx hb dX5_test_55 (lv_at hl 0 rfl) ?_
        obtain ⟨v28, e28, hf⟩ := tk_bi hf
        refine tk_iald hx hb hE hs e28 dX5_test_57 ?_
        refine lv_icmp_le (tgt := 67) hx hb dX5_test_58 (by decide) (fun c29 => ?_) (fun c29 => ?_)
        · rw [if_pos c29] at hf
          exact j67 x0 x3 x4 ((8 * x1) + x2) o23.2.1 o23.2.2 _ _ _ hf hs (lv_sub hl [1, 4, 5, 0] rfl)
        · rw [if_neg c29] at hf
          refine lv_iload_n hx hb dX5_test_61 rfl (lv_at hl 4 rfl) ?_
          refine lv_iconst (v := 1) hx hb dX5_test_62 (by decide) ?_
          refine lv_isub hx hb dX5_test_63 ?_
          refine lv_goto (tgt := 74) hx hb dX5_test_64 (by decide) ?_
          exact j74 x0 x3 x4 ((8 * x1) + x2) (x3 - 1) o23.2.1 o23.2.2 _ _ _ hf hs (lv_sub hl [1, 4, 5, 0] rfl)
    · rw [if_pos c25] at hf
      exact j33 o23.2.1 o23.2.2 _ _ _ hf hs (lv_sub hl [] rfl)
  have j25 : ∀ (x0 : Nat) (x1 : Int32) (x2 : Int32) (x3 : Int32) (x4 : Int32) (y0 : Nat) (h : tk_AH) (sz : Nat) (H : Heap) (locs : List Loc) (ls : Array Slot), fX5_test_25 N x0 x1 x2 x3 x4 y0 h sz = some (r9, h9, sz9) → tk_sw G s h sz H locs → lv_has ls 8 [(0, .ref x0), (1, .int x1), (2, .int x2), (3, .int x3), (4, .int x4)] → W p l e (headSpec (coX5_test :: tk_W) ({ frames := 3, cells := 0, slots := 0, locals := 65 })).room s m args below meth c H locs 0 (0) (MQ below (tk_qc G (some (.int r9)) h9 sz9) args s 0 0 (tk_ag G)) (F0 m 25 ls [.ref y0]) := by
    intro x0 x1 x2 x3 x4 y0 h sz H locs ls hf hs hl
    unfold fX5_test_25 at hf
    refine lv_iconst (v := 0) hx hb dX5_test_25 (by decide) ?_
    exact j26 x0 x1 x2 x3 x4 0 y0 h sz _ _ _ hf hs (lv_sub hl [0, 1, 2, 3, 4] rfl)
  unfold fX5_test at hf
  refine lv_aload_n hx hb dX5_test_0 rfl (lv_at hl 0 rfl) ?_
  refine lv_iload_n hx hb dX5_test_1 rfl (lv_at hl 1 rfl) ?_
  refine lv_iload_n hx hb dX5_test_2 rfl (lv_at hl 2 rfl) ?_
  obtain ⟨_, p30, hf⟩ := tk_bi hf
  obtain ⟨o30, e30, hf⟩ := tk_bi hf
  refine tk_call0 (v := some (.int o30.1)) hs (va_runV (As := [.int x1, .int x2]) (rest := []) ⟨hx, hb, hml, hown, ht⟩ (cX5_isTongue_ok l hl0 G N x0 x1 x2 h sz o30.1 o30.2.1 o30.2.2 e30) (kwX5_isTongue ht wmX5_105 rfl rfl ⟨Nat.le_of_ble_eq_true rfl, Nat.le_of_ble_eq_true rfl⟩) (tk_preV hE hs (tk_ok_ok p30) rfl) rfl rfl hl.1 rfl (lv_room (Nat.le_of_ble_eq_true rfl)) dX5_test_3 ⟨(Nat.le_of_ble_eq_true rfl), (Nat.le_of_ble_eq_true rfl)⟩) (fun H locs hs => ?_)
  refine W.eq (g2 := F0 m 6 ls [.int o30.1]) rfl ?_
  refine lv_if_eq (tgt := 33) hx hb dX5_test_6 (by decide) (fun c32 => ?_) (fun c32 => ?_)
  · rw [if_pos c32] at hf
    exact j33 o30.2.1 o30.2.2 _ _ _ hf hs (lv_sub hl [] rfl)
  · rw [if_neg c32] at hf
    refine lv_aload_n hx hb dX5_test_9 rfl (lv_at hl 0 rfl) ?_
    refine lv_iload_n hx hb dX5_test_10 rfl (lv_at hl 3 rfl) ?_
    refine lv_iconst (v := 1) hx hb dX5_test_11 (by decide) ?_
    refine lv_icmp_lt (tgt := 25) hx hb dX5_test_12 (by decide) (fun c33 => ?_) (fun c33 => ?_)
    · rw [if_pos c33] at hf
      exact j25 x0 x1 x2 x3 x4 x0 o30.2.1 o30.2.2 _ _ _ hf hs (lv_sub hl [0, 1, 2, 3, 4] rfl)
    · rw [if_neg c33] at hf
      refine lv_iload_n hx hb dX5_test_15 rfl (lv_at hl 3 rfl) ?_
      refine lv_bipush (v := 10) hx hb dX5_test_16 (by decide) ?_
      refine lv_icmp_gt (tgt := 25) hx hb dX5_test_18 (by decide) (fun c34 => ?_) (fun c34 => ?_)
      · rw [if_pos c34] at hf
        exact j25 x0 x1 x2 x3 x4 x0 o30.2.1 o30.2.2 _ _ _ hf hs (lv_sub hl [0, 1, 2, 3, 4] rfl)
      · rw [if_neg c34] at hf
        refine lv_iconst (v := 1) hx hb dX5_test_21 (by decide) ?_
        refine lv_goto (tgt := 26) hx hb dX5_test_22 (by decide) ?_
        exact j26 x0 x1 x2 x3 x4 1 x0 o30.2.1 o30.2.2 _ _ _ hf hs (lv_sub hl [0, 1, 2, 3, 4] rfl)
def fX5_has_43 (N : Nat) (y0 : Int32) (h : tk_AH) (sz : Nat) : Option (Int32 × tk_AH × Nat) :=
  (tk_bz y0).bind fun _ =>
  some (y0, h, sz)
def fX5_has_38 (N : Nat) (h : tk_AH) (sz : Nat) : Option (Int32 × tk_AH × Nat) :=
  fX5_has_43 N 1 h sz
def fX5_has_42 (N : Nat) (h : tk_AH) (sz : Nat) : Option (Int32 × tk_AH × Nat) :=
  fX5_has_43 N 0 h sz
def fX5_has (N : Nat) (x0 : Nat) (x1 : Int32) (x2 : Int32) (h : tk_AH) (sz : Nat) : Option (Int32 × tk_AH × Nat) :=
  (tk_gR h 5 7 x0).bind fun v2 =>
  (tk_aI h 0 v2 ((8 * x1) + x2)).bind fun v3 =>
  if 7 ≤ v3 then (
  fX5_has_38 N h sz) else (
  (tk_gR h 5 9 x0).bind fun v5 =>
  (tk_aI h 0 v5 ((8 * x1) + x2)).bind fun v6 =>
  if v6 = 0 then (
  (tk_gR h 5 6 x0).bind fun v8 =>
  (tk_aI h 0 v8 ((8 * x1) + x2)).bind fun v9 =>
  if v9 < 8 then (
  fX5_has_42 N h sz) else (
  fX5_has_38 N h sz)) else (
  fX5_has_42 N h sz))
set_option maxHeartbeats 8000000 in
set_option maxRecDepth 100000 in
theorem cX5_has_ok (l : Launch) (hl0 : l.stackTraces = false) (G : tk_AG) (N : Nat) (x0 : Nat) (x1 : Int32) (x2 : Int32) (h : tk_AH) (sz : Nat) (r9 : Int32) (h9 : tk_AH) (sz9 : Nat) (hf : fX5_has N x0 x1 x2 h sz = some (r9, h9, sz9)) : Met l yX5_has (coX5_has :: tk_W) ({ frames := 0, cells := 0, slots := 0, locals := 0 }) (tk_pc G [.ref x0, .int x1, .int x2] h sz) (tk_qc G (some (.int r9)) h9 sz9) 0 0 (tk_ag G) := by
  refine Met.ofW (cc := cX5_has) (maxL := 4) (ret := (some .boolean)) (by decide) rfl ?_
  intro p e s m args below meth c s₁ B hml hv
  obtain ⟨hav, hE, hrp, hsz, hgs⟩ := hv
  have hx := B.exec
  have hb := B.bytes
  have hr := B.returns
  have hts := atoms_spec (ws := coX5_has :: tk_W) B.pre
  have ht : ∀ w ∈ tk_W, w.before args s = true := fun w h => hts w (List.mem_cons_of_mem _ h)
  have hown : s.vm.findClass RX5 = some m.cls := findClass_of_methodNamed B.named
  have hlocks := B.notSynchronized
  have hs : tk_sw G s h sz s.heap [] := ⟨hrp, hsz, by rw [hsz]; exact hgs, va_S.rf⟩
  have hl := lv_entry ([.ref x0, .int x1, .int x2]) (n := 4) (Nat.le_of_ble_eq_true rfl)
  have hent : entryFrame m args 4 = F0 m 0 (lg_sl ([.ref x0, .int x1, .int x2]) ++ List.replicate (4 - (lg_sl ([.ref x0, .int x1, .int x2])).length) Slot.unset).toArray [] := by rw [hav, lg_entry_eq]
  rw [hent]
  clear hent
  generalize (lg_sl ([.ref x0, .int x1, .int x2]) ++ List.replicate (4 - (lg_sl ([.ref x0, .int x1, .int x2])).length) Slot.unset).toArray = ls at hl ⊢
  have hl : lv_has ls 4 [(0, .ref x0), (1, .int x1), (2, .int x2)] := hl
  have j43 : ∀ (y0 : Int32) (h : tk_AH) (sz : Nat) (H : Heap) (locs : List Loc) (ls : Array Slot), fX5_has_43 N y0 h sz = some (r9, h9, sz9) → tk_sw G s h sz H locs → lv_has ls 4 [] → W p l e (headSpec (coX5_has :: tk_W) ({ frames := 0, cells := 0, slots := 0, locals := 0 })).room s m args below meth c H locs 0 (0) (MQ below (tk_qc G (some (.int r9)) h9 sz9) args s 0 0 (tk_ag G)) (F0 m 43 ls [.int y0]) := by
    intro y0 h sz H locs ls hf hs hl
    unfold fX5_has_43 at hf
    obtain ⟨_, e1, hf⟩ := tk_bi hf
    have e1 := tk_bz_ok e1
    cases hf
    exact tk_zret hx hb hr hlocks e1 hs dX5_has_43
  have j38 : ∀ (h : tk_AH) (sz : Nat) (H : Heap) (locs : List Loc) (ls : Array Slot), fX5_has_38 N h sz = some (r9, h9, sz9) → tk_sw G s h sz H locs → lv_has ls 4 [] → W p l e (headSpec (coX5_has :: tk_W) ({ frames := 0, cells := 0, slots := 0, locals := 0 })).room s m args below meth c H locs 0 (0) (MQ below (tk_qc G (some (.int r9)) h9 sz9) args s 0 0 (tk_ag G)) (F0 m 38 ls []) := by
    intro h sz H locs ls hf hs hl
    unfold fX5_has_38 at hf
    refine lv_iconst (v := 1) hx hb dX5_has_38 (by decide) ?_
    refine lv_goto (tgt := 43) hx hb dX5_has_39 (by decide) ?_
    exact j43 1 h sz _ _ _ hf hs (lv_sub hl [] rfl)
  have j42 : ∀ (h : tk_AH) (sz : Nat) (H : Heap) (locs : List Loc) (ls : Array Slot), fX5_has_42 N h sz = some (r9, h9, sz9) → tk_sw G s h sz H locs → lv_has ls 4 [] → W p l e (headSpec (coX5_has :: tk_W) ({ frames := 0, cells := 0, slots := 0, locals := 0 })).room s m args below meth c H locs 0 (0) (MQ below (tk_qc G (some (.int r9)) h9 sz9) args s 0 0 (tk_ag G)) (F0 m 42 ls []) := by
    intro h sz H locs ls hf hs hl
    unfold fX5_has_42 at hf
    refine lv_iconst (v := 0) hx hb dX5_has_42 (by decide) ?_
    exact j43 0 h sz _ _ _ hf hs (lv_sub hl [] rfl)
  unfold fX5_has at hf
  refine lv_bipush (v := 8) hx hb dX5_has_0 (by decide) ?_
  refine lv_iload_n hx hb dX5_has_2 rfl (lv_at hl 1 rfl) ?_
  refine lv_imul hx hb dX5_has_3 ?_
  refine lv_iload_n hx hb dX5_has_4 rfl (lv_at hl 2 rfl) ?_
  refine lv_iadd hx hb dX5_has_5 ?_
  refine lv_istore_n (lv' := [(3, .int ((8 * x1) + x2)), (0, .ref x0), (1, .int x1), (2, .int x2)]) hx hb dX5_has_6 rfl hl (by decide) rfl (fun ls hl => ?_)
  refine lv_aload_n hx hb dX5_has_7 rfl (lv_at hl 1 rfl) ?_
  obtain ⟨v2, e2, hf⟩ := tk_bi hf
  refine tk_getR hx hb ht inX5 hown hE hs rfl 7 (by decide) (ht _ wfX5_16) e2 dX5_has_8 ?_
  refine lv_iload_n hx hb dX5_has_11 rfl (lv_at hl 0 rfl) ?_
  obtain ⟨v3, e3, hf⟩ := tk_bi hf
  refine tk_iald hx hb hE hs e3 dX5_has_12 ?_
  refine lv_bipush (v := 7) hx hb dX5_has_13 (by decide) ?_
  refine lv_icmp_ge (tgt := 38) hx hb dX5_has_15 (by decide) (fun c4 => ?_) (fun c4 => ?_)
  · rw [if_pos c4] at hf
    exact j38 h sz _ _ _ hf hs (lv_sub hl [] rfl)
  · rw [if_neg c4] at hf
    refine lv_aload_n hx hb dX5_has_18 rfl (lv_at hl 1 rfl) ?_
    obtain ⟨v5, e5, hf⟩ := tk_bi hf
    refine tk_getR hx hb ht inX5 hown hE hs rfl 9 (by decide) (ht _ wfX5_22) e5 dX5_has_19 ?_
    refine lv_iload_n hx hb dX5_has_22 rfl (lv_at hl 0 rfl) ?_
    obtain ⟨v6, e6, hf⟩ := tk_bi hf
    refine tk_iald hx hb hE hs e6 dX5_has_23 ?_
    refine lv_if_ne (tgt := 42) hx hb dX5_has_24 (by decide) (fun c7 => ?_) (fun c7 => ?_)
    · rw [if_neg c7] at hf
      exact j42 h sz _ _ _ hf hs (lv_sub hl [] rfl)
    · rw [if_pos c7] at hf
      refine lv_aload_n hx hb dX5_has_27 rfl (lv_at hl 1 rfl) ?_
      obtain ⟨v8, e8, hf⟩ := tk_bi hf
      refine tk_getR hx hb ht inX5 hown hE hs rfl 6 (by decide) (ht _ wfX5_13) e8 dX5_has_28 ?_
      refine lv_iload_n hx hb dX5_has_31 rfl (lv_at hl 0 rfl) ?_
      obtain ⟨v9, e9, hf⟩ := tk_bi hf
      refine tk_iald hx hb hE hs e9 dX5_has_32 ?_
      refine lv_bipush (v := 8) hx hb dX5_has_33 (by decide) ?_
      refine lv_icmp_lt (tgt := 42) hx hb dX5_has_35 (by decide) (fun c10 => ?_) (fun c10 => ?_)
      · rw [if_pos c10] at hf
        exact j42 h sz _ _ _ hf hs (lv_sub hl [] rfl)
      · rw [if_neg c10] at hf
        exact j38 h sz _ _ _ hf hs (lv_sub hl [] rfl)
def fX5_level_130 (N : Nat) (y0 : Int32) (h : tk_AH) (sz : Nat) : Option (Int32 × tk_AH × Nat) :=
  some (y0, h, sz)
def fX5_level_31 (N : Nat) (h : tk_AH) (sz : Nat) : Option (Int32 × tk_AH × Nat) :=
  some (0, h, sz)
def fX5_level_24 (N : Nat) (x0 : Nat) (x1 : Int32) (x2 : Int32) (x3 : Int32) (y0 : Int32) (y1 : Nat) (h : tk_AH) (sz : Nat) : Option (Int32 × tk_AH × Nat) :=
  (tk_ok h 5 y1).bind fun _ =>
  (fX5_right N y1 y0 1 h sz).bind fun o1 =>
  if o1.1 = 0 then (
  fX5_level_31 N o1.2.1 o1.2.2) else (
  if x3 = 0 then (
  (tk_gR o1.2.1 5 7 x0).bind fun v5 =>
  (tk_aI o1.2.1 0 v5 ((8 * x1) + x2)).bind fun v6 =>
  some (v6, o1.2.1, o1.2.2)) else if x3 = 1 then (
  (tk_gR o1.2.1 5 8 x0).bind fun v8 =>
  (tk_aI o1.2.1 0 v8 ((8 * x1) + x2)).bind fun v9 =>
  some (v9, o1.2.1, o1.2.2)) else if x3 = 2 then (
  (tk_gR o1.2.1 5 6 x0).bind fun v11 =>
  (tk_aI o1.2.1 0 v11 ((8 * x1) + x2)).bind fun v12 =>
  some (v12, o1.2.1, o1.2.2)) else if x3 = 3 then (
  (tk_gR o1.2.1 5 9 x0).bind fun v14 =>
  (tk_aI o1.2.1 0 v14 ((8 * x1) + x2)).bind fun v15 =>
  some (v15, o1.2.1, o1.2.2)) else if x3 = 4 then (
  (tk_gR o1.2.1 5 10 x0).bind fun v17 =>
  (tk_aI o1.2.1 0 v17 ((8 * x1) + x2)).bind fun v18 =>
  some (v18, o1.2.1, o1.2.2)) else (
  (tk_ok o1.2.1 5 x0).bind fun _ =>
  (fX5_has N x0 x1 x2 o1.2.1 o1.2.2).bind fun o19 =>
  if o19.1 = 0 then (
  fX5_level_130 N 0 o19.2.1 o19.2.2) else (
  fX5_level_130 N 1 o19.2.1 o19.2.2)))
def fX5_level_23 (N : Nat) (x0 : Nat) (x1 : Int32) (x2 : Int32) (x3 : Int32) (y0 : Nat) (h : tk_AH) (sz : Nat) : Option (Int32 × tk_AH × Nat) :=
  fX5_level_24 N x0 x1 x2 x3 0 y0 h sz
def fX5_level (N : Nat) (x0 : Nat) (x1 : Int32) (x2 : Int32) (x3 : Int32) (h : tk_AH) (sz : Nat) : Option (Int32 × tk_AH × Nat) :=
  (tk_ok h 5 x0).bind fun _ =>
  (fX5_isTongue N x0 x1 x2 h sz).bind fun o22 =>
  if o22.1 = 0 then (
  fX5_level_31 N o22.2.1 o22.2.2) else (
  if x3 < 0 then (
  fX5_level_23 N x0 x1 x2 x3 x0 o22.2.1 o22.2.2) else (
  if 5 < x3 then (
  fX5_level_23 N x0 x1 x2 x3 x0 o22.2.1 o22.2.2) else (
  fX5_level_24 N x0 x1 x2 x3 1 x0 o22.2.1 o22.2.2)))
set_option maxHeartbeats 8000000 in
set_option maxRecDepth 100000 in
theorem cX5_level_ok (l : Launch) (hl0 : l.stackTraces = false) (G : tk_AG) (N : Nat) (x0 : Nat) (x1 : Int32) (x2 : Int32) (x3 : Int32) (h : tk_AH) (sz : Nat) (r9 : Int32) (h9 : tk_AH) (sz9 : Nat) (hf : fX5_level N x0 x1 x2 x3 h sz = some (r9, h9, sz9)) : Met l yX5_level (coX5_level :: tk_W) ({ frames := 3, cells := 0, slots := 0, locals := 65 }) (tk_pc G [.ref x0, .int x1, .int x2, .int x3] h sz) (tk_qc G (some (.int r9)) h9 sz9) 0 0 (tk_ag G) := by
  refine Met.ofW (cc := cX5_level) (maxL := 5) (ret := (some .int)) (by decide) rfl ?_
  intro p e s m args below meth c s₁ B hml hv
  obtain ⟨hav, hE, hrp, hsz, hgs⟩ := hv
  have hx := B.exec
  have hb := B.bytes
  have hr := B.returns
  have hts := atoms_spec (ws := coX5_level :: tk_W) B.pre
  have ht : ∀ w ∈ tk_W, w.before args s = true := fun w h => hts w (List.mem_cons_of_mem _ h)
  have hown : s.vm.findClass RX5 = some m.cls := findClass_of_methodNamed B.named
  have hlocks := B.notSynchronized
  have hs : tk_sw G s h sz s.heap [] := ⟨hrp, hsz, by rw [hsz]; exact hgs, va_S.rf⟩
  have hl := lv_entry ([.ref x0, .int x1, .int x2, .int x3]) (n := 5) (Nat.le_of_ble_eq_true rfl)
  have hent : entryFrame m args 5 = F0 m 0 (lg_sl ([.ref x0, .int x1, .int x2, .int x3]) ++ List.replicate (5 - (lg_sl ([.ref x0, .int x1, .int x2, .int x3])).length) Slot.unset).toArray [] := by rw [hav, lg_entry_eq]
  rw [hent]
  clear hent
  generalize (lg_sl ([.ref x0, .int x1, .int x2, .int x3]) ++ List.replicate (5 - (lg_sl ([.ref x0, .int x1, .int x2, .int x3])).length) Slot.unset).toArray = ls at hl ⊢
  have hl : lv_has ls 5 [(0, .ref x0), (1, .int x1), (2, .int x2), (3, .int x3)] := hl
  have j130 : ∀ (y0 : Int32) (h : tk_AH) (sz : Nat) (H : Heap) (locs : List Loc) (ls : Array Slot), fX5_level_130 N y0 h sz = some (r9, h9, sz9) → tk_sw G s h sz H locs → lv_has ls 5 [] → W p l e (headSpec (coX5_level :: tk_W) ({ frames := 3, cells := 0, slots := 0, locals := 65 })).room s m args below meth c H locs 0 (0) (MQ below (tk_qc G (some (.int r9)) h9 sz9) args s 0 0 (tk_ag G)) (F0 m 130 ls [.int y0]) := by
    intro y0 h sz H locs ls hf hs hl
    unfold fX5_level_130 at hf
    cases hf
    exact tk_iret hx hb hr hlocks hs dX5_level_130
  have j31 : ∀ (h : tk_AH) (sz : Nat) (H : Heap) (locs : List Loc) (ls : Array Slot), fX5_level_31 N h sz = some (r9, h9, sz9) → tk_sw G s h sz H locs → lv_has ls 5 [] → W p l e (headSpec (coX5_level :: tk_W) ({ frames := 3, cells := 0, slots := 0, locals := 65 })).room s m args below meth c H locs 0 (0) (MQ below (tk_qc G (some (.int r9)) h9 sz9) args s 0 0 (tk_ag G)) (F0 m 31 ls []) := by
    intro h sz H locs ls hf hs hl
    unfold fX5_level_31 at hf
    refine lv_iconst (v := 0) hx hb dX5_level_31 (by decide) ?_
    cases hf
    exact tk_iret hx hb hr hlocks hs dX5_level_32
  have j24 : ∀ (x0 : Nat) (x1 : Int32) (x2 : Int32) (x3 : Int32) (y0 : Int32) (y1 : Nat) (h : tk_AH) (sz : Nat) (H : Heap) (locs : List Loc) (ls : Array Slot), fX5_level_24 N x0 x1 x2 x3 y0 y1 h sz = some (r9, h9, sz9) → tk_sw G s h sz H locs → lv_has ls 5 [(0, .ref x0), (1, .int x1), (2, .int x2), (3, .int x3)] → W p l e (headSpec (coX5_level :: tk_W) ({ frames := 3, cells := 0, slots := 0, locals := 65 })).room s m args below meth c H locs 0 (0) (MQ below (tk_qc G (some (.int r9)) h9 sz9) args s 0 0 (tk_ag G)) (F0 m 24 ls [.int y0, .ref y1]) := by
    intro x0 x1 x2 x3 y0 y1 h sz H locs ls hf hs hl
    unfold fX5_level_24 at hf
    refine lv_iconst (v := 1) hx hb dX5_level_24 (by decide) ?_
    obtain ⟨_, p1, hf⟩ := tk_bi hf
    obtain ⟨o1, e1, hf⟩ := tk_bi hf
    refine tk_call0 (v := some (.int o1.1)) hs (va_runV (As := [.int y0, .int 1]) (rest := []) ⟨hx, hb, hml, hown, ht⟩ (cX5_right_ok l hl0 G N y1 y0 1 h sz o1.1 o1.2.1 o1.2.2 e1) (kwX5_right ht wmX5_96 rfl rfl ⟨Nat.le_of_ble_eq_true rfl, Nat.le_of_ble_eq_true rfl⟩) (tk_preV hE hs (tk_ok_ok p1) rfl) rfl rfl hl.1 rfl (lv_room (Nat.le_of_ble_eq_true rfl)) dX5_level_25 ⟨(Nat.le_of_ble_eq_true rfl), (Nat.le_of_ble_eq_true rfl)⟩) (fun H locs hs => ?_)
    refine W.eq (g2 := F0 m 28 ls [.int o1.1]) rfl ?_
    refine lv_if_ne (tgt := 33) hx hb dX5_level_28 (by decide) (fun c3 => ?_) (fun c3 => ?_)
    · rw [if_neg c3] at hf
      refine lv_bipush (v := 8) hx hb dX5_level_33 (by decide) ?_
      refine lv_iload_n hx hb dX5_level_35 rfl (lv_at hl 1 rfl) ?_
      refine lv_imul hx hb dX5_level_36 ?_
      refine lv_iload_n hx hb dX5_level_37 rfl (lv_at hl 2 rfl) ?_
      refine lv_iadd hx hb dX5_level_38 ?_
      refine lv_istore (lv' := [(4, .int ((8 * x1) + x2)), (0, .ref x0), (1, .int x1), (2, .int x2), (3, .int x3)]) hx hb dX5_level_39 hl (by decide) rfl (fun ls hl => ?_)
      refine lv_iload_n hx hb dX5_level_41 rfl (lv_at hl 4 rfl) ?_
      by_cases c4 : x3 = 0
      · rw [if_pos c4] at hf
        refine lv_tableIn (off := 34) (tgt := 76) hx hb dX5_level_42 (by rw [c4]; decide) (by rw [c4]; decide) (by rw [c4]; rfl) (by decide) ?_
        refine lv_aload_n hx hb dX5_level_76 rfl (lv_at hl 1 rfl) ?_
        obtain ⟨v5, e5, hf⟩ := tk_bi hf
        refine tk_getR hx hb ht inX5 hown hE hs rfl 7 (by decide) (ht _ wfX5_16) e5 dX5_level_77 ?_
        refine lv_iload hx hb dX5_level_80 (lv_at hl 0 rfl) ?_
        obtain ⟨v6, e6, hf⟩ := tk_bi hf
        refine tk_iald hx hb hE hs e6 dX5_level_82 ?_
        cases hf
        exact tk_iret hx hb hr hlocks hs dX5_level_83
      rw [if_neg c4] at hf
      by_cases c7 : x3 = 1
      · rw [if_pos c7] at hf
        refine lv_tableIn (off := 42) (tgt := 84) hx hb dX5_level_42 (by rw [c7]; decide) (by rw [c7]; decide) (by rw [c7]; rfl) (by decide) ?_
        refine lv_aload_n hx hb dX5_level_84 rfl (lv_at hl 1 rfl) ?_
        obtain ⟨v8, e8, hf⟩ := tk_bi hf
        refine tk_getR hx hb ht inX5 hown hE hs rfl 8 (by decide) (ht _ wfX5_19) e8 dX5_level_85 ?_
        refine lv_iload hx hb dX5_level_88 (lv_at hl 0 rfl) ?_
        obtain ⟨v9, e9, hf⟩ := tk_bi hf
        refine tk_iald hx hb hE hs e9 dX5_level_90 ?_
        cases hf
        exact tk_iret hx hb hr hlocks hs dX5_level_91
      rw [if_neg c7] at hf
      by_cases c10 : x3 = 2
      · rw [if_pos c10] at hf
        refine lv_tableIn (off := 50) (tgt := 92) hx hb dX5_level_42 (by rw [c10]; decide) (by rw [c10]; decide) (by rw [c10]; rfl) (by decide) ?_
        refine lv_aload_n hx hb dX5_level_92 rfl (lv_at hl 1 rfl) ?_
        obtain ⟨v11, e11, hf⟩ := tk_bi hf
        refine tk_getR hx hb ht inX5 hown hE hs rfl 6 (by decide) (ht _ wfX5_13) e11 dX5_level_93 ?_
        refine lv_iload hx hb dX5_level_96 (lv_at hl 0 rfl) ?_
        obtain ⟨v12, e12, hf⟩ := tk_bi hf
        refine tk_iald hx hb hE hs e12 dX5_level_98 ?_
        cases hf
        exact tk_iret hx hb hr hlocks hs dX5_level_99
      rw [if_neg c10] at hf
      by_cases c13 : x3 = 3
      · rw [if_pos c13] at hf
        refine lv_tableIn (off := 58) (tgt := 100) hx hb dX5_level_42 (by rw [c13]; decide) (by rw [c13]; decide) (by rw [c13]; rfl) (by decide) ?_
        refine lv_aload_n hx hb dX5_level_100 rfl (lv_at hl 1 rfl) ?_
        obtain ⟨v14, e14, hf⟩ := tk_bi hf
        refine tk_getR hx hb ht inX5 hown hE hs rfl 9 (by decide) (ht _ wfX5_22) e14 dX5_level_101 ?_
        refine lv_iload hx hb dX5_level_104 (lv_at hl 0 rfl) ?_
        obtain ⟨v15, e15, hf⟩ := tk_bi hf
        refine tk_iald hx hb hE hs e15 dX5_level_106 ?_
        cases hf
        exact tk_iret hx hb hr hlocks hs dX5_level_107
      rw [if_neg c13] at hf
      by_cases c16 : x3 = 4
      · rw [if_pos c16] at hf
        refine lv_tableIn (off := 66) (tgt := 108) hx hb dX5_level_42 (by rw [c16]; decide) (by rw [c16]; decide) (by rw [c16]; rfl) (by decide) ?_
        refine lv_aload_n hx hb dX5_level_108 rfl (lv_at hl 1 rfl) ?_
        obtain ⟨v17, e17, hf⟩ := tk_bi hf
        refine tk_getR hx hb ht inX5 hown hE hs rfl 10 (by decide) (ht _ wfX5_25) e17 dX5_level_109 ?_
        refine lv_iload hx hb dX5_level_112 (lv_at hl 0 rfl) ?_
        obtain ⟨v18, e18, hf⟩ := tk_bi hf
        refine tk_iald hx hb hE hs e18 dX5_level_114 ?_
        cases hf
        exact tk_iret hx hb hr hlocks hs dX5_level_115
      rw [if_neg c16] at hf
      refine lv_tableOut (tgt := 116) hx hb dX5_level_42 (tk_out 4 (fun k hk => match k, hk with | 0, _ => c4 | 1, _ => c7 | 2, _ => c10 | 3, _ => c13 | 4, _ => c16 | n9 + 5, h9 => absurd h9 (by omega)) (by decide)) (by decide) ?_
      refine lv_aload_n hx hb dX5_level_116 rfl (lv_at hl 1 rfl) ?_
      refine lv_iload_n hx hb dX5_level_117 rfl (lv_at hl 2 rfl) ?_
      refine lv_iload_n hx hb dX5_level_118 rfl (lv_at hl 3 rfl) ?_
      obtain ⟨_, p19, hf⟩ := tk_bi hf
      obtain ⟨o19, e19, hf⟩ := tk_bi hf
      refine tk_call0 (v := some (.int o19.1)) hs (va_runV (As := [.int x1, .int x2]) (rest := []) ⟨hx, hb, hml, hown, ht⟩ (cX5_has_ok l hl0 G N x0 x1 x2 o1.2.1 o1.2.2 o19.1 o19.2.1 o19.2.2 e19) (kwX5_has ht wmX5_115 rfl rfl ⟨Nat.le_of_ble_eq_true rfl, Nat.le_of_ble_eq_true rfl⟩) (tk_preV hE hs (tk_ok_ok p19) rfl) rfl rfl hl.1 rfl (lv_room (Nat.le_of_ble_eq_true rfl)) dX5_level_119 ⟨(Nat.le_of_ble_eq_true rfl), (Nat.le_of_ble_eq_true rfl)⟩) (fun H locs hs => ?_)
      refine W.eq (g2 := F0 m 122 ls [.int o19.1]) rfl ?_
      refine lv_if_eq (tgt := 129) hx hb dX5_level_122 (by decide) (fun c21 => ?_) (fun c21 => ?_)
      · rw [if_pos c21] at hf
        refine lv_iconst (v := 0) hx hb dX5_level_129 (by decide) ?_
        exact j130 0 o19.2.1 o19.2.2 _ _ _ hf hs (lv_sub hl [] rfl)
      · rw [if_neg c21] at hf
        refine lv_iconst (v := 1) hx hb dX5_level_125 (by decide) ?_
        refine lv_goto (tgt := 130) hx hb dX5_level_126 (by decide) ?_
        exact j130 1 o19.2.1 o19.2.2 _ _ _ hf hs (lv_sub hl [] rfl)
    · rw [if_pos c3] at hf
      exact j31 o1.2.1 o1.2.2 _ _ _ hf hs (lv_sub hl [] rfl)
  have j23 : ∀ (x0 : Nat) (x1 : Int32) (x2 : Int32) (x3 : Int32) (y0 : Nat) (h : tk_AH) (sz : Nat) (H : Heap) (locs : List Loc) (ls : Array Slot), fX5_level_23 N x0 x1 x2 x3 y0 h sz = some (r9, h9, sz9) → tk_sw G s h sz H locs → lv_has ls 5 [(0, .ref x0), (1, .int x1), (2, .int x2), (3, .int x3)] → W p l e (headSpec (coX5_level :: tk_W) ({ frames := 3, cells := 0, slots := 0, locals := 65 })).room s m args below meth c H locs 0 (0) (MQ below (tk_qc G (some (.int r9)) h9 sz9) args s 0 0 (tk_ag G)) (F0 m 23 ls [.ref y0]) := by
    intro x0 x1 x2 x3 y0 h sz H locs ls hf hs hl
    unfold fX5_level_23 at hf
    refine lv_iconst (v := 0) hx hb dX5_level_23 (by decide) ?_
    exact j24 x0 x1 x2 x3 0 y0 h sz _ _ _ hf hs (lv_sub hl [0, 1, 2, 3] rfl)
  unfold fX5_level at hf
  refine lv_aload_n hx hb dX5_level_0 rfl (lv_at hl 0 rfl) ?_
  refine lv_iload_n hx hb dX5_level_1 rfl (lv_at hl 1 rfl) ?_
  refine lv_iload_n hx hb dX5_level_2 rfl (lv_at hl 2 rfl) ?_
  obtain ⟨_, p22, hf⟩ := tk_bi hf
  obtain ⟨o22, e22, hf⟩ := tk_bi hf
  refine tk_call0 (v := some (.int o22.1)) hs (va_runV (As := [.int x1, .int x2]) (rest := []) ⟨hx, hb, hml, hown, ht⟩ (cX5_isTongue_ok l hl0 G N x0 x1 x2 h sz o22.1 o22.2.1 o22.2.2 e22) (kwX5_isTongue ht wmX5_105 rfl rfl ⟨Nat.le_of_ble_eq_true rfl, Nat.le_of_ble_eq_true rfl⟩) (tk_preV hE hs (tk_ok_ok p22) rfl) rfl rfl hl.1 rfl (lv_room (Nat.le_of_ble_eq_true rfl)) dX5_level_3 ⟨(Nat.le_of_ble_eq_true rfl), (Nat.le_of_ble_eq_true rfl)⟩) (fun H locs hs => ?_)
  refine W.eq (g2 := F0 m 6 ls [.int o22.1]) rfl ?_
  refine lv_if_eq (tgt := 31) hx hb dX5_level_6 (by decide) (fun c24 => ?_) (fun c24 => ?_)
  · rw [if_pos c24] at hf
    exact j31 o22.2.1 o22.2.2 _ _ _ hf hs (lv_sub hl [] rfl)
  · rw [if_neg c24] at hf
    refine lv_aload_n hx hb dX5_level_9 rfl (lv_at hl 0 rfl) ?_
    refine lv_iload_n hx hb dX5_level_10 rfl (lv_at hl 3 rfl) ?_
    refine lv_if_lt (tgt := 23) hx hb dX5_level_11 (by decide) (fun c25 => ?_) (fun c25 => ?_)
    · rw [if_pos c25] at hf
      exact j23 x0 x1 x2 x3 x0 o22.2.1 o22.2.2 _ _ _ hf hs (lv_sub hl [0, 1, 2, 3] rfl)
    · rw [if_neg c25] at hf
      refine lv_iload_n hx hb dX5_level_14 rfl (lv_at hl 3 rfl) ?_
      refine lv_iconst (v := 5) hx hb dX5_level_15 (by decide) ?_
      refine lv_icmp_gt (tgt := 23) hx hb dX5_level_16 (by decide) (fun c26 => ?_) (fun c26 => ?_)
      · rw [if_pos c26] at hf
        exact j23 x0 x1 x2 x3 x0 o22.2.1 o22.2.2 _ _ _ hf hs (lv_sub hl [0, 1, 2, 3] rfl)
      · rw [if_neg c26] at hf
        refine lv_iconst (v := 1) hx hb dX5_level_19 (by decide) ?_
        refine lv_goto (tgt := 24) hx hb dX5_level_20 (by decide) ?_
        exact j24 x0 x1 x2 x3 1 x0 o22.2.1 o22.2.2 _ _ _ hf hs (lv_sub hl [0, 1, 2, 3] rfl)
def fX5_giftOf_2 (N : Nat) : Nat → Nat → Int32 → Int32 → Int32 → tk_AH → Nat → Option (Int32 × tk_AH × Nat)
  | 0, _, _, _, _, _, _ => none
  | n + 1, x0, x1, x2, x3, h, sz =>
  (tk_gR h 5 12 x0).bind fun v1 =>
  (tk_aI h 0 v1 x2).bind fun v2 =>
  if v2 ≤ x3 then (
  some ((-1), h, sz)) else (
  (tk_gR h 5 11 x0).bind fun v4 =>
  (tk_aI h 0 v4 ((2 * x2) + x3)).bind fun v5 =>
  (tk_ok h 5 x0).bind fun _ =>
  (fX5_has N x0 x1 v5 h sz).bind fun o6 =>
  if o6.1 = 0 then (
  fX5_giftOf_2 N n x0 x1 x2 (x3 + 1) o6.2.1 o6.2.2) else (
  (tk_gR o6.2.1 5 11 x0).bind fun v9 =>
  (tk_aI o6.2.1 0 v9 ((2 * x2) + x3)).bind fun v10 =>
  some (v10, o6.2.1, o6.2.2)))
def fX5_giftOf (N : Nat) (x0 : Nat) (x1 : Int32) (x2 : Int32) (h : tk_AH) (sz : Nat) : Option (Int32 × tk_AH × Nat) :=
  fX5_giftOf_2 N N x0 x1 x2 0 h sz
set_option maxHeartbeats 8000000 in
set_option maxRecDepth 100000 in
theorem cX5_giftOf_ok (l : Launch) (hl0 : l.stackTraces = false) (G : tk_AG) (N : Nat) (x0 : Nat) (x1 : Int32) (x2 : Int32) (h : tk_AH) (sz : Nat) (r9 : Int32) (h9 : tk_AH) (sz9 : Nat) (hf : fX5_giftOf N x0 x1 x2 h sz = some (r9, h9, sz9)) : Met l yX5_giftOf (coX5_giftOf :: tk_W) ({ frames := 1, cells := 0, slots := 0, locals := 23 }) (tk_pc G [.ref x0, .int x1, .int x2] h sz) (tk_qc G (some (.int r9)) h9 sz9) 0 0 (tk_ag G) := by
  refine Met.ofW (cc := cX5_giftOf) (maxL := 4) (ret := (some .int)) (by decide) rfl ?_
  intro p e s m args below meth c s₁ B hml hv
  obtain ⟨hav, hE, hrp, hsz, hgs⟩ := hv
  have hx := B.exec
  have hb := B.bytes
  have hr := B.returns
  have hts := atoms_spec (ws := coX5_giftOf :: tk_W) B.pre
  have ht : ∀ w ∈ tk_W, w.before args s = true := fun w h => hts w (List.mem_cons_of_mem _ h)
  have hown : s.vm.findClass RX5 = some m.cls := findClass_of_methodNamed B.named
  have hlocks := B.notSynchronized
  have hs : tk_sw G s h sz s.heap [] := ⟨hrp, hsz, by rw [hsz]; exact hgs, va_S.rf⟩
  have hl := lv_entry ([.ref x0, .int x1, .int x2]) (n := 4) (Nat.le_of_ble_eq_true rfl)
  have hent : entryFrame m args 4 = F0 m 0 (lg_sl ([.ref x0, .int x1, .int x2]) ++ List.replicate (4 - (lg_sl ([.ref x0, .int x1, .int x2])).length) Slot.unset).toArray [] := by rw [hav, lg_entry_eq]
  rw [hent]
  clear hent
  generalize (lg_sl ([.ref x0, .int x1, .int x2]) ++ List.replicate (4 - (lg_sl ([.ref x0, .int x1, .int x2])).length) Slot.unset).toArray = ls at hl ⊢
  have hl : lv_has ls 4 [(0, .ref x0), (1, .int x1), (2, .int x2)] := hl
  have j2 : ∀ (n : Nat), ∀ (x0 : Nat) (x1 : Int32) (x2 : Int32) (x3 : Int32) (h : tk_AH) (sz : Nat) (H : Heap) (locs : List Loc) (ls : Array Slot), fX5_giftOf_2 N n x0 x1 x2 x3 h sz = some (r9, h9, sz9) → tk_sw G s h sz H locs → lv_has ls 4 [(0, .ref x0), (1, .int x1), (2, .int x2), (3, .int x3)] → W p l e (headSpec (coX5_giftOf :: tk_W) ({ frames := 1, cells := 0, slots := 0, locals := 23 })).room s m args below meth c H locs 0 (0) (MQ below (tk_qc G (some (.int r9)) h9 sz9) args s 0 0 (tk_ag G)) (F0 m 2 ls []) := by
    intro n
    induction n with
    | zero =>
      intro x0 x1 x2 x3 h sz H locs ls hf
      cases hf
    | succ n ih =>
      intro x0 x1 x2 x3 h sz H locs ls hf hs hl
      rw [fX5_giftOf_2] at hf
      refine lv_iload_n hx hb dX5_giftOf_2 rfl (lv_at hl 3 rfl) ?_
      refine lv_aload_n hx hb dX5_giftOf_3 rfl (lv_at hl 0 rfl) ?_
      obtain ⟨v1, e1, hf⟩ := tk_bi hf
      refine tk_getR hx hb ht inX5 hown hE hs rfl 12 (by decide) (ht _ wfX5_31) e1 dX5_giftOf_4 ?_
      refine lv_iload_n hx hb dX5_giftOf_7 rfl (lv_at hl 2 rfl) ?_
      obtain ⟨v2, e2, hf⟩ := tk_bi hf
      refine tk_iald hx hb hE hs e2 dX5_giftOf_8 ?_
      refine lv_icmp_ge (tgt := 47) hx hb dX5_giftOf_9 (by decide) (fun c3 => ?_) (fun c3 => ?_)
      · rw [if_pos c3] at hf
        refine lv_iconst (v := (-1)) hx hb dX5_giftOf_47 (by decide) ?_
        cases hf
        exact tk_iret hx hb hr hlocks hs dX5_giftOf_48
      · rw [if_neg c3] at hf
        refine lv_aload_n hx hb dX5_giftOf_12 rfl (lv_at hl 0 rfl) ?_
        refine lv_iload_n hx hb dX5_giftOf_13 rfl (lv_at hl 1 rfl) ?_
        refine lv_aload_n hx hb dX5_giftOf_14 rfl (lv_at hl 0 rfl) ?_
        obtain ⟨v4, e4, hf⟩ := tk_bi hf
        refine tk_getR hx hb ht inX5 hown hE hs rfl 11 (by decide) (ht _ wfX5_28) e4 dX5_giftOf_15 ?_
        refine lv_iconst (v := 2) hx hb dX5_giftOf_18 (by decide) ?_
        refine lv_iload_n hx hb dX5_giftOf_19 rfl (lv_at hl 2 rfl) ?_
        refine lv_imul hx hb dX5_giftOf_20 ?_
        refine lv_iload_n hx hb dX5_giftOf_21 rfl (lv_at hl 3 rfl) ?_
        refine lv_iadd hx hb dX5_giftOf_22 ?_
        obtain ⟨v5, e5, hf⟩ := tk_bi hf
        refine tk_iald hx hb hE hs e5 dX5_giftOf_23 ?_
        obtain ⟨_, p6, hf⟩ := tk_bi hf
        obtain ⟨o6, e6, hf⟩ := tk_bi hf
        refine tk_call0 (v := some (.int o6.1)) hs (va_runV (As := [.int x1, .int v5]) (rest := []) ⟨hx, hb, hml, hown, ht⟩ (cX5_has_ok l hl0 G N x0 x1 v5 h sz o6.1 o6.2.1 o6.2.2 e6) (kwX5_has ht wmX5_115 rfl rfl ⟨Nat.le_of_ble_eq_true rfl, Nat.le_of_ble_eq_true rfl⟩) (tk_preV hE hs (tk_ok_ok p6) rfl) rfl rfl hl.1 rfl (lv_room (Nat.le_of_ble_eq_true rfl)) dX5_giftOf_24 ⟨(Nat.le_of_ble_eq_true rfl), (Nat.le_of_ble_eq_true rfl)⟩) (fun H locs hs => ?_)
        refine W.eq (g2 := F0 m 27 ls [.int o6.1]) rfl ?_
        refine lv_if_eq (tgt := 41) hx hb dX5_giftOf_27 (by decide) (fun c8 => ?_) (fun c8 => ?_)
        · rw [if_pos c8] at hf
          refine lv_iinc (v := x3 + 1) (lv' := [(3, .int (x3 + 1)), (0, .ref x0), (1, .int x1), (2, .int x2)]) hx hb dX5_giftOf_41 hl (k := 3) rfl rfl (by decide) rfl (fun ls hl => ?_)
          refine lv_goto (tgt := 2) hx hb dX5_giftOf_44 (by decide) ?_
          exact ih x0 x1 x2 (x3 + 1) o6.2.1 o6.2.2 _ _ _ hf hs (lv_sub hl [1, 2, 3, 0] rfl)
        · rw [if_neg c8] at hf
          refine lv_aload_n hx hb dX5_giftOf_30 rfl (lv_at hl 0 rfl) ?_
          obtain ⟨v9, e9, hf⟩ := tk_bi hf
          refine tk_getR hx hb ht inX5 hown hE hs rfl 11 (by decide) (ht _ wfX5_28) e9 dX5_giftOf_31 ?_
          refine lv_iconst (v := 2) hx hb dX5_giftOf_34 (by decide) ?_
          refine lv_iload_n hx hb dX5_giftOf_35 rfl (lv_at hl 2 rfl) ?_
          refine lv_imul hx hb dX5_giftOf_36 ?_
          refine lv_iload_n hx hb dX5_giftOf_37 rfl (lv_at hl 3 rfl) ?_
          refine lv_iadd hx hb dX5_giftOf_38 ?_
          obtain ⟨v10, e10, hf⟩ := tk_bi hf
          refine tk_iald hx hb hE hs e10 dX5_giftOf_39 ?_
          cases hf
          exact tk_iret hx hb hr hlocks hs dX5_giftOf_40
  unfold fX5_giftOf at hf
  refine lv_iconst (v := 0) hx hb dX5_giftOf_0 (by decide) ?_
  refine lv_istore_n (lv' := [(3, .int 0), (0, .ref x0), (1, .int x1), (2, .int x2)]) hx hb dX5_giftOf_1 rfl hl (by decide) rfl (fun ls hl => ?_)
  exact j2 N x0 x1 x2 0 h sz _ _ _ hf hs (lv_sub hl [1, 2, 3, 0] rfl)
def fX5_gift_19 (N : Nat) (y0 : Int32) (h : tk_AH) (sz : Nat) : Option (Int32 × tk_AH × Nat) :=
  some (y0, h, sz)
def fX5_gift (N : Nat) (x0 : Nat) (x1 : Int32) (x2 : Int32) (h : tk_AH) (sz : Nat) : Option (Int32 × tk_AH × Nat) :=
  (tk_ok h 5 x0).bind fun _ =>
  (fX5_areTwo N x0 x1 x2 h sz).bind fun o1 =>
  if o1.1 = 0 then (
  fX5_gift_19 N 0 o1.2.1 o1.2.2) else (
  (tk_ok o1.2.1 5 x0).bind fun _ =>
  (fX5_giftOf N x0 x1 x2 o1.2.1 o1.2.2).bind fun o4 =>
  fX5_gift_19 N o4.1 o4.2.1 o4.2.2)
set_option maxHeartbeats 8000000 in
set_option maxRecDepth 100000 in
theorem cX5_gift_ok (l : Launch) (hl0 : l.stackTraces = false) (G : tk_AG) (N : Nat) (x0 : Nat) (x1 : Int32) (x2 : Int32) (h : tk_AH) (sz : Nat) (r9 : Int32) (h9 : tk_AH) (sz9 : Nat) (hf : fX5_gift N x0 x1 x2 h sz = some (r9, h9, sz9)) : Met l yX5_gift (coX5_gift :: tk_W) ({ frames := 3, cells := 0, slots := 0, locals := 65 }) (tk_pc G [.ref x0, .int x1, .int x2] h sz) (tk_qc G (some (.int r9)) h9 sz9) 0 0 (tk_ag G) := by
  refine Met.ofW (cc := cX5_gift) (maxL := 3) (ret := (some .int)) (by decide) rfl ?_
  intro p e s m args below meth c s₁ B hml hv
  obtain ⟨hav, hE, hrp, hsz, hgs⟩ := hv
  have hx := B.exec
  have hb := B.bytes
  have hr := B.returns
  have hts := atoms_spec (ws := coX5_gift :: tk_W) B.pre
  have ht : ∀ w ∈ tk_W, w.before args s = true := fun w h => hts w (List.mem_cons_of_mem _ h)
  have hown : s.vm.findClass RX5 = some m.cls := findClass_of_methodNamed B.named
  have hlocks := B.notSynchronized
  have hs : tk_sw G s h sz s.heap [] := ⟨hrp, hsz, by rw [hsz]; exact hgs, va_S.rf⟩
  have hl := lv_entry ([.ref x0, .int x1, .int x2]) (n := 3) (Nat.le_of_ble_eq_true rfl)
  have hent : entryFrame m args 3 = F0 m 0 (lg_sl ([.ref x0, .int x1, .int x2]) ++ List.replicate (3 - (lg_sl ([.ref x0, .int x1, .int x2])).length) Slot.unset).toArray [] := by rw [hav, lg_entry_eq]
  rw [hent]
  clear hent
  generalize (lg_sl ([.ref x0, .int x1, .int x2]) ++ List.replicate (3 - (lg_sl ([.ref x0, .int x1, .int x2])).length) Slot.unset).toArray = ls at hl ⊢
  have hl : lv_has ls 3 [(0, .ref x0), (1, .int x1), (2, .int x2)] := hl
  have j19 : ∀ (y0 : Int32) (h : tk_AH) (sz : Nat) (H : Heap) (locs : List Loc) (ls : Array Slot), fX5_gift_19 N y0 h sz = some (r9, h9, sz9) → tk_sw G s h sz H locs → lv_has ls 3 [] → W p l e (headSpec (coX5_gift :: tk_W) ({ frames := 3, cells := 0, slots := 0, locals := 65 })).room s m args below meth c H locs 0 (0) (MQ below (tk_qc G (some (.int r9)) h9 sz9) args s 0 0 (tk_ag G)) (F0 m 19 ls [.int y0]) := by
    intro y0 h sz H locs ls hf hs hl
    unfold fX5_gift_19 at hf
    cases hf
    exact tk_iret hx hb hr hlocks hs dX5_gift_19
  unfold fX5_gift at hf
  refine lv_aload_n hx hb dX5_gift_0 rfl (lv_at hl 0 rfl) ?_
  refine lv_iload_n hx hb dX5_gift_1 rfl (lv_at hl 1 rfl) ?_
  refine lv_iload_n hx hb dX5_gift_2 rfl (lv_at hl 2 rfl) ?_
  obtain ⟨_, p1, hf⟩ := tk_bi hf
  obtain ⟨o1, e1, hf⟩ := tk_bi hf
  refine tk_call0 (v := some (.int o1.1)) hs (va_runV (As := [.int x1, .int x2]) (rest := []) ⟨hx, hb, hml, hown, ht⟩ (cX5_areTwo_ok l hl0 G N x0 x1 x2 h sz o1.1 o1.2.1 o1.2.2 e1) (kwX5_areTwo ht wmX5_109 rfl rfl ⟨Nat.le_of_ble_eq_true rfl, Nat.le_of_ble_eq_true rfl⟩) (tk_preV hE hs (tk_ok_ok p1) rfl) rfl rfl hl.1 rfl (lv_room (Nat.le_of_ble_eq_true rfl)) dX5_gift_3 ⟨(Nat.le_of_ble_eq_true rfl), (Nat.le_of_ble_eq_true rfl)⟩) (fun H locs hs => ?_)
  refine W.eq (g2 := F0 m 6 ls [.int o1.1]) rfl ?_
  refine lv_if_eq (tgt := 18) hx hb dX5_gift_6 (by decide) (fun c3 => ?_) (fun c3 => ?_)
  · rw [if_pos c3] at hf
    refine lv_iconst (v := 0) hx hb dX5_gift_18 (by decide) ?_
    exact j19 0 o1.2.1 o1.2.2 _ _ _ hf hs (lv_sub hl [] rfl)
  · rw [if_neg c3] at hf
    refine lv_aload_n hx hb dX5_gift_9 rfl (lv_at hl 0 rfl) ?_
    refine lv_iload_n hx hb dX5_gift_10 rfl (lv_at hl 1 rfl) ?_
    refine lv_iload_n hx hb dX5_gift_11 rfl (lv_at hl 2 rfl) ?_
    obtain ⟨_, p4, hf⟩ := tk_bi hf
    obtain ⟨o4, e4, hf⟩ := tk_bi hf
    refine tk_call0 (v := some (.int o4.1)) hs (va_runV (As := [.int x1, .int x2]) (rest := []) ⟨hx, hb, hml, hown, ht⟩ (cX5_giftOf_ok l hl0 G N x0 x1 x2 o1.2.1 o1.2.2 o4.1 o4.2.1 o4.2.2 e4) (kwX5_giftOf ht wmX5_118 rfl rfl ⟨Nat.le_of_ble_eq_true rfl, Nat.le_of_ble_eq_true rfl⟩) (tk_preV hE hs (tk_ok_ok p4) rfl) rfl rfl hl.1 rfl (lv_room (Nat.le_of_ble_eq_true rfl)) dX5_gift_12 ⟨(Nat.le_of_ble_eq_true rfl), (Nat.le_of_ble_eq_true rfl)⟩) (fun H locs hs => ?_)
    refine W.eq (g2 := F0 m 15 ls [.int o4.1]) rfl ?_
    refine lv_goto (tgt := 19) hx hb dX5_gift_15 (by decide) ?_
    exact j19 o4.1 o4.2.1 o4.2.2 _ _ _ hf hs (lv_sub hl [] rfl)
def fX5_both_26 (N : Nat) (y0 : Int32) (h : tk_AH) (sz : Nat) : Option (Int32 × tk_AH × Nat) :=
  some (y0, h, sz)
def fX5_both (N : Nat) (x0 : Nat) (x1 : Int32) (x2 : Int32) (h : tk_AH) (sz : Nat) : Option (Int32 × tk_AH × Nat) :=
  (tk_ok h 5 x0).bind fun _ =>
  (fX5_isBarred N x0 x1 x2 h sz).bind fun o1 =>
  if o1.1 = 0 then (
  (tk_gR o1.2.1 5 5 x0).bind fun v4 =>
  (tk_aI o1.2.1 0 v4 x1).bind fun v5 =>
  (tk_gR o1.2.1 5 5 x0).bind fun v6 =>
  (tk_aI o1.2.1 0 v6 x2).bind fun v7 =>
  fX5_both_26 N (v5 &&& v7) o1.2.1 o1.2.2) else (
  fX5_both_26 N 0 o1.2.1 o1.2.2)
set_option maxHeartbeats 8000000 in
set_option maxRecDepth 100000 in
theorem cX5_both_ok (l : Launch) (hl0 : l.stackTraces = false) (G : tk_AG) (N : Nat) (x0 : Nat) (x1 : Int32) (x2 : Int32) (h : tk_AH) (sz : Nat) (r9 : Int32) (h9 : tk_AH) (sz9 : Nat) (hf : fX5_both N x0 x1 x2 h sz = some (r9, h9, sz9)) : Met l yX5_both (coX5_both :: tk_W) ({ frames := 1, cells := 0, slots := 0, locals := 22 }) (tk_pc G [.ref x0, .int x1, .int x2] h sz) (tk_qc G (some (.int r9)) h9 sz9) 0 0 (tk_ag G) := by
  refine Met.ofW (cc := cX5_both) (maxL := 3) (ret := (some .int)) (by decide) rfl ?_
  intro p e s m args below meth c s₁ B hml hv
  obtain ⟨hav, hE, hrp, hsz, hgs⟩ := hv
  have hx := B.exec
  have hb := B.bytes
  have hr := B.returns
  have hts := atoms_spec (ws := coX5_both :: tk_W) B.pre
  have ht : ∀ w ∈ tk_W, w.before args s = true := fun w h => hts w (List.mem_cons_of_mem _ h)
  have hown : s.vm.findClass RX5 = some m.cls := findClass_of_methodNamed B.named
  have hlocks := B.notSynchronized
  have hs : tk_sw G s h sz s.heap [] := ⟨hrp, hsz, by rw [hsz]; exact hgs, va_S.rf⟩
  have hl := lv_entry ([.ref x0, .int x1, .int x2]) (n := 3) (Nat.le_of_ble_eq_true rfl)
  have hent : entryFrame m args 3 = F0 m 0 (lg_sl ([.ref x0, .int x1, .int x2]) ++ List.replicate (3 - (lg_sl ([.ref x0, .int x1, .int x2])).length) Slot.unset).toArray [] := by rw [hav, lg_entry_eq]
  rw [hent]
  clear hent
  generalize (lg_sl ([.ref x0, .int x1, .int x2]) ++ List.replicate (3 - (lg_sl ([.ref x0, .int x1, .int x2])).length) Slot.unset).toArray = ls at hl ⊢
  have hl : lv_has ls 3 [(0, .ref x0), (1, .int x1), (2, .int x2)] := hl
  have j26 : ∀ (y0 : Int32) (h : tk_AH) (sz : Nat) (H : Heap) (locs : List Loc) (ls : Array Slot), fX5_both_26 N y0 h sz = some (r9, h9, sz9) → tk_sw G s h sz H locs → lv_has ls 3 [] → W p l e (headSpec (coX5_both :: tk_W) ({ frames := 1, cells := 0, slots := 0, locals := 22 })).room s m args below meth c H locs 0 (0) (MQ below (tk_qc G (some (.int r9)) h9 sz9) args s 0 0 (tk_ag G)) (F0 m 26 ls [.int y0]) := by
    intro y0 h sz H locs ls hf hs hl
    unfold fX5_both_26 at hf
    cases hf
    exact tk_iret hx hb hr hlocks hs dX5_both_26
  unfold fX5_both at hf
  refine lv_aload_n hx hb dX5_both_0 rfl (lv_at hl 0 rfl) ?_
  refine lv_iload_n hx hb dX5_both_1 rfl (lv_at hl 1 rfl) ?_
  refine lv_iload_n hx hb dX5_both_2 rfl (lv_at hl 2 rfl) ?_
  obtain ⟨_, p1, hf⟩ := tk_bi hf
  obtain ⟨o1, e1, hf⟩ := tk_bi hf
  refine tk_call0 (v := some (.int o1.1)) hs (va_runV (As := [.int x1, .int x2]) (rest := []) ⟨hx, hb, hml, hown, ht⟩ (cX5_isBarred_ok l hl0 G N x0 x1 x2 h sz o1.1 o1.2.1 o1.2.2 e1) (kwX5_isBarred ht wmX5_112 rfl rfl ⟨Nat.le_of_ble_eq_true rfl, Nat.le_of_ble_eq_true rfl⟩) (tk_preV hE hs (tk_ok_ok p1) rfl) rfl rfl hl.1 rfl (lv_room (Nat.le_of_ble_eq_true rfl)) dX5_both_3 ⟨(Nat.le_of_ble_eq_true rfl), (Nat.le_of_ble_eq_true rfl)⟩) (fun H locs hs => ?_)
  refine W.eq (g2 := F0 m 6 ls [.int o1.1]) rfl ?_
  refine lv_if_eq (tgt := 13) hx hb dX5_both_6 (by decide) (fun c3 => ?_) (fun c3 => ?_)
  · rw [if_pos c3] at hf
    refine lv_aload_n hx hb dX5_both_13 rfl (lv_at hl 0 rfl) ?_
    obtain ⟨v4, e4, hf⟩ := tk_bi hf
    refine tk_getR hx hb ht inX5 hown hE hs rfl 5 (by decide) (ht _ wfX5_7) e4 dX5_both_14 ?_
    refine lv_iload_n hx hb dX5_both_17 rfl (lv_at hl 1 rfl) ?_
    obtain ⟨v5, e5, hf⟩ := tk_bi hf
    refine tk_iald hx hb hE hs e5 dX5_both_18 ?_
    refine lv_aload_n hx hb dX5_both_19 rfl (lv_at hl 0 rfl) ?_
    obtain ⟨v6, e6, hf⟩ := tk_bi hf
    refine tk_getR hx hb ht inX5 hown hE hs rfl 5 (by decide) (ht _ wfX5_7) e6 dX5_both_20 ?_
    refine lv_iload_n hx hb dX5_both_23 rfl (lv_at hl 2 rfl) ?_
    obtain ⟨v7, e7, hf⟩ := tk_bi hf
    refine tk_iald hx hb hE hs e7 dX5_both_24 ?_
    refine lv_iand hx hb dX5_both_25 ?_
    exact j26 (v5 &&& v7) o1.2.1 o1.2.2 _ _ _ hf hs (lv_sub hl [] rfl)
  · rw [if_neg c3] at hf
    refine lv_iconst (v := 0) hx hb dX5_both_9 (by decide) ?_
    refine lv_goto (tgt := 26) hx hb dX5_both_10 (by decide) ?_
    exact j26 0 o1.2.1 o1.2.2 _ _ _ hf hs (lv_sub hl [] rfl)
def fX5_hour_29 (N : Nat) (k2 : Int32 → Int32 → Int32 → Int32 → tk_AH → Nat → Option (Int32 × tk_AH × Nat)) (x0 : Int32) (x1 : Int32) (x2 : Int32) (x3 : Int32) (h : tk_AH) (sz : Nat) : Option (Int32 × tk_AH × Nat) :=
  k2 x0 x1 x2 (x3 + 1) h sz
def fX5_hour_2 (N : Nat) : Nat → Int32 → Int32 → Int32 → Int32 → tk_AH → Nat → Option (Int32 × tk_AH × Nat)
  | 0, _, _, _, _, _, _ => none
  | n + 1, x0, x1, x2, x3, h, sz =>
  if 24 ≤ x3 then (
  some ((-1), h, sz)) else (
  if ((x0 >>> (x3 &&& 31)) &&& 1) = 1 then (
  if x3 = x1 then (
  fX5_hour_29 N (fX5_hour_2 N n) x0 x1 x2 x3 h sz) else (
  if x3 = x2 then (
  fX5_hour_29 N (fX5_hour_2 N n) x0 x1 x2 x3 h sz) else (
  some (x3, h, sz)))) else (
  fX5_hour_29 N (fX5_hour_2 N n) x0 x1 x2 x3 h sz))
def fX5_hour (N : Nat) (x0 : Int32) (x1 : Int32) (x2 : Int32) (h : tk_AH) (sz : Nat) : Option (Int32 × tk_AH × Nat) :=
  fX5_hour_2 N N x0 x1 x2 0 h sz
set_option maxHeartbeats 8000000 in
set_option maxRecDepth 100000 in
theorem cX5_hour_ok (l : Launch) (hl0 : l.stackTraces = false) (G : tk_AG) (N : Nat) (x0 : Int32) (x1 : Int32) (x2 : Int32) (h : tk_AH) (sz : Nat) (r9 : Int32) (h9 : tk_AH) (sz9 : Nat) (hf : fX5_hour N x0 x1 x2 h sz = some (r9, h9, sz9)) : Met l yX5_hour (coX5_hour :: tk_W) ({ frames := 0, cells := 0, slots := 0, locals := 0 }) (tk_pc G [.int x0, .int x1, .int x2] h sz) (tk_qc G (some (.int r9)) h9 sz9) 0 0 (tk_ag G) := by
  refine Met.ofW (cc := cX5_hour) (maxL := 4) (ret := (some .int)) (by decide) rfl ?_
  intro p e s m args below meth c s₁ B hml hv
  obtain ⟨hav, hE, hrp, hsz, hgs⟩ := hv
  have hx := B.exec
  have hb := B.bytes
  have hr := B.returns
  have hts := atoms_spec (ws := coX5_hour :: tk_W) B.pre
  have ht : ∀ w ∈ tk_W, w.before args s = true := fun w h => hts w (List.mem_cons_of_mem _ h)
  have hown : s.vm.findClass RX5 = some m.cls := findClass_of_methodNamed B.named
  have hlocks := B.notSynchronized
  have hs : tk_sw G s h sz s.heap [] := ⟨hrp, hsz, by rw [hsz]; exact hgs, va_S.rf⟩
  have hl := lv_entry ([.int x0, .int x1, .int x2]) (n := 4) (Nat.le_of_ble_eq_true rfl)
  have hent : entryFrame m args 4 = F0 m 0 (lg_sl ([.int x0, .int x1, .int x2]) ++ List.replicate (4 - (lg_sl ([.int x0, .int x1, .int x2])).length) Slot.unset).toArray [] := by rw [hav, lg_entry_eq]
  rw [hent]
  clear hent
  generalize (lg_sl ([.int x0, .int x1, .int x2]) ++ List.replicate (4 - (lg_sl ([.int x0, .int x1, .int x2])).length) Slot.unset).toArray = ls at hl ⊢
  have hl : lv_has ls 4 [(0, .int x0), (1, .int x1), (2, .int x2)] := hl
  have j29 : ∀ (k2 : Int32 → Int32 → Int32 → Int32 → tk_AH → Nat → Option (Int32 × tk_AH × Nat)), (∀ (x0 : Int32) (x1 : Int32) (x2 : Int32) (x3 : Int32) (h : tk_AH) (sz : Nat) (H : Heap) (locs : List Loc) (ls : Array Slot), k2 x0 x1 x2 x3 h sz = some (r9, h9, sz9) → tk_sw G s h sz H locs → lv_has ls 4 [(0, .int x0), (1, .int x1), (2, .int x2), (3, .int x3)] → W p l e (headSpec (coX5_hour :: tk_W) ({ frames := 0, cells := 0, slots := 0, locals := 0 })).room s m args below meth c H locs 0 (0) (MQ below (tk_qc G (some (.int r9)) h9 sz9) args s 0 0 (tk_ag G)) (F0 m 2 ls [])) → ∀ (x0 : Int32) (x1 : Int32) (x2 : Int32) (x3 : Int32) (h : tk_AH) (sz : Nat) (H : Heap) (locs : List Loc) (ls : Array Slot), fX5_hour_29 N k2 x0 x1 x2 x3 h sz = some (r9, h9, sz9) → tk_sw G s h sz H locs → lv_has ls 4 [(0, .int x0), (1, .int x1), (2, .int x2), (3, .int x3)] → W p l e (headSpec (coX5_hour :: tk_W) ({ frames := 0, cells := 0, slots := 0, locals := 0 })).room s m args below meth c H locs 0 (0) (MQ below (tk_qc G (some (.int r9)) h9 sz9) args s 0 0 (tk_ag G)) (F0 m 29 ls []) := by
    intro k2 hk2 x0 x1 x2 x3 h sz H locs ls hf hs hl
    unfold fX5_hour_29 at hf
    refine lv_iinc (v := x3 + 1) (lv' := [(3, .int (x3 + 1)), (0, .int x0), (1, .int x1), (2, .int x2)]) hx hb dX5_hour_29 hl (k := 3) rfl rfl (by decide) rfl (fun ls hl => ?_)
    refine lv_goto (tgt := 2) hx hb dX5_hour_32 (by decide) ?_
    exact hk2 x0 x1 x2 (x3 + 1) h sz _ _ _ hf hs (lv_sub hl [1, 2, 3, 0] rfl)
  have j2 : ∀ (n : Nat), ∀ (x0 : Int32) (x1 : Int32) (x2 : Int32) (x3 : Int32) (h : tk_AH) (sz : Nat) (H : Heap) (locs : List Loc) (ls : Array Slot), fX5_hour_2 N n x0 x1 x2 x3 h sz = some (r9, h9, sz9) → tk_sw G s h sz H locs → lv_has ls 4 [(0, .int x0), (1, .int x1), (2, .int x2), (3, .int x3)] → W p l e (headSpec (coX5_hour :: tk_W) ({ frames := 0, cells := 0, slots := 0, locals := 0 })).room s m args below meth c H locs 0 (0) (MQ below (tk_qc G (some (.int r9)) h9 sz9) args s 0 0 (tk_ag G)) (F0 m 2 ls []) := by
    intro n
    induction n with
    | zero =>
      intro x0 x1 x2 x3 h sz H locs ls hf
      cases hf
    | succ n ih =>
      intro x0 x1 x2 x3 h sz H locs ls hf hs hl
      rw [fX5_hour_2] at hf
      refine lv_iload_n hx hb dX5_hour_2 rfl (lv_at hl 3 rfl) ?_
      refine lv_bipush (v := 24) hx hb dX5_hour_3 (by decide) ?_
      refine lv_icmp_ge (tgt := 35) hx hb dX5_hour_5 (by decide) (fun c1 => ?_) (fun c1 => ?_)
      · rw [if_pos c1] at hf
        refine lv_iconst (v := (-1)) hx hb dX5_hour_35 (by decide) ?_
        cases hf
        exact tk_iret hx hb hr hlocks hs dX5_hour_36
      · rw [if_neg c1] at hf
        refine lv_iload_n hx hb dX5_hour_8 rfl (lv_at hl 0 rfl) ?_
        refine lv_iload_n hx hb dX5_hour_9 rfl (lv_at hl 3 rfl) ?_
        refine lv_ishr hx hb dX5_hour_10 ?_
        refine lv_iconst (v := 1) hx hb dX5_hour_11 (by decide) ?_
        refine lv_iand hx hb dX5_hour_12 ?_
        refine lv_iconst (v := 1) hx hb dX5_hour_13 (by decide) ?_
        refine lv_icmp_ne (tgt := 29) hx hb dX5_hour_14 (by decide) (fun c2 => ?_) (fun c2 => ?_)
        · rw [if_neg c2] at hf
          exact j29 (fX5_hour_2 N n) ih x0 x1 x2 x3 h sz _ _ _ hf hs (lv_sub hl [0, 1, 2, 3] rfl)
        · rw [if_pos c2] at hf
          refine lv_iload_n hx hb dX5_hour_17 rfl (lv_at hl 3 rfl) ?_
          refine lv_iload_n hx hb dX5_hour_18 rfl (lv_at hl 1 rfl) ?_
          refine lv_icmp_eq (tgt := 29) hx hb dX5_hour_19 (by decide) (fun c3 => ?_) (fun c3 => ?_)
          · rw [if_pos c3] at hf
            exact j29 (fX5_hour_2 N n) ih x0 x1 x2 x3 h sz _ _ _ hf hs (lv_sub hl [0, 1, 2, 3] rfl)
          · rw [if_neg c3] at hf
            refine lv_iload_n hx hb dX5_hour_22 rfl (lv_at hl 3 rfl) ?_
            refine lv_iload_n hx hb dX5_hour_23 rfl (lv_at hl 2 rfl) ?_
            refine lv_icmp_eq (tgt := 29) hx hb dX5_hour_24 (by decide) (fun c4 => ?_) (fun c4 => ?_)
            · rw [if_pos c4] at hf
              exact j29 (fX5_hour_2 N n) ih x0 x1 x2 x3 h sz _ _ _ hf hs (lv_sub hl [0, 1, 2, 3] rfl)
            · rw [if_neg c4] at hf
              refine lv_iload_n hx hb dX5_hour_27 rfl (lv_at hl 3 rfl) ?_
              cases hf
              exact tk_iret hx hb hr hlocks hs dX5_hour_28
  unfold fX5_hour at hf
  refine lv_iconst (v := 0) hx hb dX5_hour_0 (by decide) ?_
  refine lv_istore_n (lv' := [(3, .int 0), (0, .int x0), (1, .int x1), (2, .int x2)]) hx hb dX5_hour_1 rfl hl (by decide) rfl (fun ls hl => ?_)
  exact j2 N x0 x1 x2 0 h sz _ _ _ hf hs (lv_sub hl [1, 2, 3, 0] rfl)
def fX5_meet_24 (N : Nat) (y0 : Int32) (h : tk_AH) (sz : Nat) : Option (Int32 × tk_AH × Nat) :=
  some (y0, h, sz)
def fX5_meet (N : Nat) (x0 : Nat) (x1 : Int32) (x2 : Int32) (h : tk_AH) (sz : Nat) : Option (Int32 × tk_AH × Nat) :=
  (tk_ok h 5 x0).bind fun _ =>
  (fX5_areTwo N x0 x1 x2 h sz).bind fun o1 =>
  if o1.1 = 0 then (
  fX5_meet_24 N 0 o1.2.1 o1.2.2) else (
  (tk_ok o1.2.1 5 x0).bind fun _ =>
  (fX5_both N x0 x1 x2 o1.2.1 o1.2.2).bind fun o4 =>
  (fX5_hour N o4.1 (-1) (-1) o4.2.1 o4.2.2).bind fun o6 =>
  fX5_meet_24 N o6.1 o6.2.1 o6.2.2)
set_option maxHeartbeats 8000000 in
set_option maxRecDepth 100000 in
theorem cX5_meet_ok (l : Launch) (hl0 : l.stackTraces = false) (G : tk_AG) (N : Nat) (x0 : Nat) (x1 : Int32) (x2 : Int32) (h : tk_AH) (sz : Nat) (r9 : Int32) (h9 : tk_AH) (sz9 : Nat) (hf : fX5_meet N x0 x1 x2 h sz = some (r9, h9, sz9)) : Met l yX5_meet (coX5_meet :: tk_W) ({ frames := 3, cells := 0, slots := 0, locals := 65 }) (tk_pc G [.ref x0, .int x1, .int x2] h sz) (tk_qc G (some (.int r9)) h9 sz9) 0 0 (tk_ag G) := by
  refine Met.ofW (cc := cX5_meet) (maxL := 3) (ret := (some .int)) (by decide) rfl ?_
  intro p e s m args below meth c s₁ B hml hv
  obtain ⟨hav, hE, hrp, hsz, hgs⟩ := hv
  have hx := B.exec
  have hb := B.bytes
  have hr := B.returns
  have hts := atoms_spec (ws := coX5_meet :: tk_W) B.pre
  have ht : ∀ w ∈ tk_W, w.before args s = true := fun w h => hts w (List.mem_cons_of_mem _ h)
  have hown : s.vm.findClass RX5 = some m.cls := findClass_of_methodNamed B.named
  have hlocks := B.notSynchronized
  have hs : tk_sw G s h sz s.heap [] := ⟨hrp, hsz, by rw [hsz]; exact hgs, va_S.rf⟩
  have hl := lv_entry ([.ref x0, .int x1, .int x2]) (n := 3) (Nat.le_of_ble_eq_true rfl)
  have hent : entryFrame m args 3 = F0 m 0 (lg_sl ([.ref x0, .int x1, .int x2]) ++ List.replicate (3 - (lg_sl ([.ref x0, .int x1, .int x2])).length) Slot.unset).toArray [] := by rw [hav, lg_entry_eq]
  rw [hent]
  clear hent
  generalize (lg_sl ([.ref x0, .int x1, .int x2]) ++ List.replicate (3 - (lg_sl ([.ref x0, .int x1, .int x2])).length) Slot.unset).toArray = ls at hl ⊢
  have hl : lv_has ls 3 [(0, .ref x0), (1, .int x1), (2, .int x2)] := hl
  have j24 : ∀ (y0 : Int32) (h : tk_AH) (sz : Nat) (H : Heap) (locs : List Loc) (ls : Array Slot), fX5_meet_24 N y0 h sz = some (r9, h9, sz9) → tk_sw G s h sz H locs → lv_has ls 3 [] → W p l e (headSpec (coX5_meet :: tk_W) ({ frames := 3, cells := 0, slots := 0, locals := 65 })).room s m args below meth c H locs 0 (0) (MQ below (tk_qc G (some (.int r9)) h9 sz9) args s 0 0 (tk_ag G)) (F0 m 24 ls [.int y0]) := by
    intro y0 h sz H locs ls hf hs hl
    unfold fX5_meet_24 at hf
    cases hf
    exact tk_iret hx hb hr hlocks hs dX5_meet_24
  unfold fX5_meet at hf
  refine lv_aload_n hx hb dX5_meet_0 rfl (lv_at hl 0 rfl) ?_
  refine lv_iload_n hx hb dX5_meet_1 rfl (lv_at hl 1 rfl) ?_
  refine lv_iload_n hx hb dX5_meet_2 rfl (lv_at hl 2 rfl) ?_
  obtain ⟨_, p1, hf⟩ := tk_bi hf
  obtain ⟨o1, e1, hf⟩ := tk_bi hf
  refine tk_call0 (v := some (.int o1.1)) hs (va_runV (As := [.int x1, .int x2]) (rest := []) ⟨hx, hb, hml, hown, ht⟩ (cX5_areTwo_ok l hl0 G N x0 x1 x2 h sz o1.1 o1.2.1 o1.2.2 e1) (kwX5_areTwo ht wmX5_109 rfl rfl ⟨Nat.le_of_ble_eq_true rfl, Nat.le_of_ble_eq_true rfl⟩) (tk_preV hE hs (tk_ok_ok p1) rfl) rfl rfl hl.1 rfl (lv_room (Nat.le_of_ble_eq_true rfl)) dX5_meet_3 ⟨(Nat.le_of_ble_eq_true rfl), (Nat.le_of_ble_eq_true rfl)⟩) (fun H locs hs => ?_)
  refine W.eq (g2 := F0 m 6 ls [.int o1.1]) rfl ?_
  refine lv_if_eq (tgt := 23) hx hb dX5_meet_6 (by decide) (fun c3 => ?_) (fun c3 => ?_)
  · rw [if_pos c3] at hf
    refine lv_iconst (v := 0) hx hb dX5_meet_23 (by decide) ?_
    exact j24 0 o1.2.1 o1.2.2 _ _ _ hf hs (lv_sub hl [] rfl)
  · rw [if_neg c3] at hf
    refine lv_aload_n hx hb dX5_meet_9 rfl (lv_at hl 0 rfl) ?_
    refine lv_iload_n hx hb dX5_meet_10 rfl (lv_at hl 1 rfl) ?_
    refine lv_iload_n hx hb dX5_meet_11 rfl (lv_at hl 2 rfl) ?_
    obtain ⟨_, p4, hf⟩ := tk_bi hf
    obtain ⟨o4, e4, hf⟩ := tk_bi hf
    refine tk_call0 (v := some (.int o4.1)) hs (va_runV (As := [.int x1, .int x2]) (rest := []) ⟨hx, hb, hml, hown, ht⟩ (cX5_both_ok l hl0 G N x0 x1 x2 o1.2.1 o1.2.2 o4.1 o4.2.1 o4.2.2 e4) (kwX5_both ht wmX5_122 rfl rfl ⟨Nat.le_of_ble_eq_true rfl, Nat.le_of_ble_eq_true rfl⟩) (tk_preV hE hs (tk_ok_ok p4) rfl) rfl rfl hl.1 rfl (lv_room (Nat.le_of_ble_eq_true rfl)) dX5_meet_12 ⟨(Nat.le_of_ble_eq_true rfl), (Nat.le_of_ble_eq_true rfl)⟩) (fun H locs hs => ?_)
    refine W.eq (g2 := F0 m 15 ls [.int o4.1]) rfl ?_
    refine lv_iconst (v := (-1)) hx hb dX5_meet_15 (by decide) ?_
    refine lv_iconst (v := (-1)) hx hb dX5_meet_16 (by decide) ?_
    obtain ⟨o6, e6, hf⟩ := tk_bi hf
    refine tk_call0 (v := some (.int o6.1)) hs (va_runS (As := [.int o4.1, .int (-1), .int (-1)]) (rest := []) ⟨hx, hb, hml, hown, ht⟩ (cX5_hour_ok l hl0 G N o4.1 (-1) (-1) o4.2.1 o4.2.2 o6.1 o6.2.1 o6.2.2 e6) (kwX5_hour ht wmX5_125 rfl rfl ⟨Nat.le_of_ble_eq_true rfl, Nat.le_of_ble_eq_true rfl⟩) (tk_preS hE hs) rfl rfl hl.1 rfl (lv_room (Nat.le_of_ble_eq_true rfl)) dX5_meet_17 ⟨(Nat.le_of_ble_eq_true rfl), (Nat.le_of_ble_eq_true rfl)⟩) (fun H locs hs => ?_)
    refine W.eq (g2 := F0 m 20 ls [.int o6.1]) rfl ?_
    refine lv_goto (tgt := 24) hx hb dX5_meet_20 (by decide) ?_
    exact j24 o6.1 o6.2.1 o6.2.2 _ _ _ hf hs (lv_sub hl [] rfl)
def fX5_isPair_25 (N : Nat) (h : tk_AH) (sz : Nat) : Option (Int32 × tk_AH × Nat) :=
  (tk_bz 0).bind fun _ =>
  some (0, h, sz)
def fX5_isPair_59 (N : Nat) (y0 : Int32) (h : tk_AH) (sz : Nat) : Option (Int32 × tk_AH × Nat) :=
  (tk_bz y0).bind fun _ =>
  some (y0, h, sz)
def fX5_isPair (N : Nat) (x0 : Nat) (x1 : Int32) (x2 : Int32) (h : tk_AH) (sz : Nat) : Option (Int32 × tk_AH × Nat) :=
  if x2 ≤ x1 then (
  fX5_isPair_25 N h sz) else (
  (tk_ok h 5 x0).bind fun _ =>
  (fX5_giftOf N x0 x1 x2 h sz).bind fun o4 =>
  if o4.1 = (-1) then (
  fX5_isPair_25 N o4.2.1 o4.2.2) else (
  (tk_ok o4.2.1 5 x0).bind fun _ =>
  (fX5_giftOf N x0 x2 x1 o4.2.1 o4.2.2).bind fun o7 =>
  if o7.1 = (-1) then (
  fX5_isPair_25 N o7.2.1 o7.2.2) else (
  (tk_gR o7.2.1 5 26 x0).bind fun v10 =>
  (tk_ok o7.2.1 5 x0).bind fun _ =>
  (fX5_both N x0 x1 x2 o7.2.1 o7.2.2).bind fun o11 =>
  (fX5_hour N o11.1 (-1) (-1) o11.2.1 o11.2.2).bind fun o13 =>
  (tk_sI o13.2.1 0 v10 0 o13.1).bind fun h14 =>
  (tk_gR h14 5 26 x0).bind fun v15 =>
  (tk_aI h14 0 v15 0).bind fun v16 =>
  if v16 = (-1) then (
  fX5_isPair_59 N 0 h14 o13.2.2) else (
  fX5_isPair_59 N 1 h14 o13.2.2))))
set_option maxHeartbeats 8000000 in
set_option maxRecDepth 100000 in
theorem cX5_isPair_ok (l : Launch) (hl0 : l.stackTraces = false) (G : tk_AG) (N : Nat) (x0 : Nat) (x1 : Int32) (x2 : Int32) (h : tk_AH) (sz : Nat) (r9 : Int32) (h9 : tk_AH) (sz9 : Nat) (hf : fX5_isPair N x0 x1 x2 h sz = some (r9, h9, sz9)) : Met l yX5_isPair (coX5_isPair :: tk_W) ({ frames := 2, cells := 0, slots := 0, locals := 46 }) (tk_pc G [.ref x0, .int x1, .int x2] h sz) (tk_qc G (some (.int r9)) h9 sz9) 0 0 (tk_ag G) := by
  refine Met.ofW (cc := cX5_isPair) (maxL := 3) (ret := (some .boolean)) (by decide) rfl ?_
  intro p e s m args below meth c s₁ B hml hv
  obtain ⟨hav, hE, hrp, hsz, hgs⟩ := hv
  have hx := B.exec
  have hb := B.bytes
  have hr := B.returns
  have hts := atoms_spec (ws := coX5_isPair :: tk_W) B.pre
  have ht : ∀ w ∈ tk_W, w.before args s = true := fun w h => hts w (List.mem_cons_of_mem _ h)
  have hown : s.vm.findClass RX5 = some m.cls := findClass_of_methodNamed B.named
  have hlocks := B.notSynchronized
  have hs : tk_sw G s h sz s.heap [] := ⟨hrp, hsz, by rw [hsz]; exact hgs, va_S.rf⟩
  have hl := lv_entry ([.ref x0, .int x1, .int x2]) (n := 3) (Nat.le_of_ble_eq_true rfl)
  have hent : entryFrame m args 3 = F0 m 0 (lg_sl ([.ref x0, .int x1, .int x2]) ++ List.replicate (3 - (lg_sl ([.ref x0, .int x1, .int x2])).length) Slot.unset).toArray [] := by rw [hav, lg_entry_eq]
  rw [hent]
  clear hent
  generalize (lg_sl ([.ref x0, .int x1, .int x2]) ++ List.replicate (3 - (lg_sl ([.ref x0, .int x1, .int x2])).length) Slot.unset).toArray = ls at hl ⊢
  have hl : lv_has ls 3 [(0, .ref x0), (1, .int x1), (2, .int x2)] := hl
  have j25 : ∀ (h : tk_AH) (sz : Nat) (H : Heap) (locs : List Loc) (ls : Array Slot), fX5_isPair_25 N h sz = some (r9, h9, sz9) → tk_sw G s h sz H locs → lv_has ls 3 [] → W p l e (headSpec (coX5_isPair :: tk_W) ({ frames := 2, cells := 0, slots := 0, locals := 46 })).room s m args below meth c H locs 0 (0) (MQ below (tk_qc G (some (.int r9)) h9 sz9) args s 0 0 (tk_ag G)) (F0 m 25 ls []) := by
    intro h sz H locs ls hf hs hl
    unfold fX5_isPair_25 at hf
    refine lv_iconst (v := 0) hx hb dX5_isPair_25 (by decide) ?_
    obtain ⟨_, e1, hf⟩ := tk_bi hf
    have e1 := tk_bz_ok e1
    cases hf
    exact tk_zret hx hb hr hlocks e1 hs dX5_isPair_26
  have j59 : ∀ (y0 : Int32) (h : tk_AH) (sz : Nat) (H : Heap) (locs : List Loc) (ls : Array Slot), fX5_isPair_59 N y0 h sz = some (r9, h9, sz9) → tk_sw G s h sz H locs → lv_has ls 3 [] → W p l e (headSpec (coX5_isPair :: tk_W) ({ frames := 2, cells := 0, slots := 0, locals := 46 })).room s m args below meth c H locs 0 (0) (MQ below (tk_qc G (some (.int r9)) h9 sz9) args s 0 0 (tk_ag G)) (F0 m 59 ls [.int y0]) := by
    intro y0 h sz H locs ls hf hs hl
    unfold fX5_isPair_59 at hf
    obtain ⟨_, e2, hf⟩ := tk_bi hf
    have e2 := tk_bz_ok e2
    cases hf
    exact tk_zret hx hb hr hlocks e2 hs dX5_isPair_59
  unfold fX5_isPair at hf
  refine lv_iload_n hx hb dX5_isPair_0 rfl (lv_at hl 1 rfl) ?_
  refine lv_iload_n hx hb dX5_isPair_1 rfl (lv_at hl 2 rfl) ?_
  refine lv_icmp_ge (tgt := 25) hx hb dX5_isPair_2 (by decide) (fun c3 => ?_) (fun c3 => ?_)
  · rw [if_pos c3] at hf
    exact j25 h sz _ _ _ hf hs (lv_sub hl [] rfl)
  · rw [if_neg c3] at hf
    refine lv_aload_n hx hb dX5_isPair_5 rfl (lv_at hl 0 rfl) ?_
    refine lv_iload_n hx hb dX5_isPair_6 rfl (lv_at hl 1 rfl) ?_
    refine lv_iload_n hx hb dX5_isPair_7 rfl (lv_at hl 2 rfl) ?_
    obtain ⟨_, p4, hf⟩ := tk_bi hf
    obtain ⟨o4, e4, hf⟩ := tk_bi hf
    refine tk_call0 (v := some (.int o4.1)) hs (va_runV (As := [.int x1, .int x2]) (rest := []) ⟨hx, hb, hml, hown, ht⟩ (cX5_giftOf_ok l hl0 G N x0 x1 x2 h sz o4.1 o4.2.1 o4.2.2 e4) (kwX5_giftOf ht wmX5_118 rfl rfl ⟨Nat.le_of_ble_eq_true rfl, Nat.le_of_ble_eq_true rfl⟩) (tk_preV hE hs (tk_ok_ok p4) rfl) rfl rfl hl.1 rfl (lv_room (Nat.le_of_ble_eq_true rfl)) dX5_isPair_8 ⟨(Nat.le_of_ble_eq_true rfl), (Nat.le_of_ble_eq_true rfl)⟩) (fun H locs hs => ?_)
    refine W.eq (g2 := F0 m 11 ls [.int o4.1]) rfl ?_
    refine lv_iconst (v := (-1)) hx hb dX5_isPair_11 (by decide) ?_
    refine lv_icmp_eq (tgt := 25) hx hb dX5_isPair_12 (by decide) (fun c6 => ?_) (fun c6 => ?_)
    · rw [if_pos c6] at hf
      exact j25 o4.2.1 o4.2.2 _ _ _ hf hs (lv_sub hl [] rfl)
    · rw [if_neg c6] at hf
      refine lv_aload_n hx hb dX5_isPair_15 rfl (lv_at hl 0 rfl) ?_
      refine lv_iload_n hx hb dX5_isPair_16 rfl (lv_at hl 2 rfl) ?_
      refine lv_iload_n hx hb dX5_isPair_17 rfl (lv_at hl 1 rfl) ?_
      obtain ⟨_, p7, hf⟩ := tk_bi hf
      obtain ⟨o7, e7, hf⟩ := tk_bi hf
      refine tk_call0 (v := some (.int o7.1)) hs (va_runV (As := [.int x2, .int x1]) (rest := []) ⟨hx, hb, hml, hown, ht⟩ (cX5_giftOf_ok l hl0 G N x0 x2 x1 o4.2.1 o4.2.2 o7.1 o7.2.1 o7.2.2 e7) (kwX5_giftOf ht wmX5_118 rfl rfl ⟨Nat.le_of_ble_eq_true rfl, Nat.le_of_ble_eq_true rfl⟩) (tk_preV hE hs (tk_ok_ok p7) rfl) rfl rfl hl.1 rfl (lv_room (Nat.le_of_ble_eq_true rfl)) dX5_isPair_18 ⟨(Nat.le_of_ble_eq_true rfl), (Nat.le_of_ble_eq_true rfl)⟩) (fun H locs hs => ?_)
      refine W.eq (g2 := F0 m 21 ls [.int o7.1]) rfl ?_
      refine lv_iconst (v := (-1)) hx hb dX5_isPair_21 (by decide) ?_
      refine lv_icmp_ne (tgt := 27) hx hb dX5_isPair_22 (by decide) (fun c9 => ?_) (fun c9 => ?_)
      · rw [if_neg c9] at hf
        refine lv_aload_n hx hb dX5_isPair_27 rfl (lv_at hl 0 rfl) ?_
        obtain ⟨v10, e10, hf⟩ := tk_bi hf
        refine tk_getR hx hb ht inX5 hown hE hs rfl 26 (by decide) (ht _ wfX5_65) e10 dX5_isPair_28 ?_
        refine lv_iconst (v := 0) hx hb dX5_isPair_31 (by decide) ?_
        refine lv_aload_n hx hb dX5_isPair_32 rfl (lv_at hl 0 rfl) ?_
        refine lv_iload_n hx hb dX5_isPair_33 rfl (lv_at hl 1 rfl) ?_
        refine lv_iload_n hx hb dX5_isPair_34 rfl (lv_at hl 2 rfl) ?_
        obtain ⟨_, p11, hf⟩ := tk_bi hf
        obtain ⟨o11, e11, hf⟩ := tk_bi hf
        refine tk_call0 (v := some (.int o11.1)) hs (va_runV (As := [.int x1, .int x2]) (rest := [.int 0, .ref v10]) ⟨hx, hb, hml, hown, ht⟩ (cX5_both_ok l hl0 G N x0 x1 x2 o7.2.1 o7.2.2 o11.1 o11.2.1 o11.2.2 e11) (kwX5_both ht wmX5_122 rfl rfl ⟨Nat.le_of_ble_eq_true rfl, Nat.le_of_ble_eq_true rfl⟩) (tk_preV hE hs (tk_ok_ok p11) rfl) rfl rfl hl.1 rfl (lv_room (Nat.le_of_ble_eq_true rfl)) dX5_isPair_35 ⟨(Nat.le_of_ble_eq_true rfl), (Nat.le_of_ble_eq_true rfl)⟩) (fun H locs hs => ?_)
        refine W.eq (g2 := F0 m 38 ls [.int o11.1, .int 0, .ref v10]) rfl ?_
        refine lv_iconst (v := (-1)) hx hb dX5_isPair_38 (by decide) ?_
        refine lv_iconst (v := (-1)) hx hb dX5_isPair_39 (by decide) ?_
        obtain ⟨o13, e13, hf⟩ := tk_bi hf
        refine tk_call0 (v := some (.int o13.1)) hs (va_runS (As := [.int o11.1, .int (-1), .int (-1)]) (rest := [.int 0, .ref v10]) ⟨hx, hb, hml, hown, ht⟩ (cX5_hour_ok l hl0 G N o11.1 (-1) (-1) o11.2.1 o11.2.2 o13.1 o13.2.1 o13.2.2 e13) (kwX5_hour ht wmX5_125 rfl rfl ⟨Nat.le_of_ble_eq_true rfl, Nat.le_of_ble_eq_true rfl⟩) (tk_preS hE hs) rfl rfl hl.1 rfl (lv_room (Nat.le_of_ble_eq_true rfl)) dX5_isPair_40 ⟨(Nat.le_of_ble_eq_true rfl), (Nat.le_of_ble_eq_true rfl)⟩) (fun H locs hs => ?_)
        refine W.eq (g2 := F0 m 43 ls [.int o13.1, .int 0, .ref v10]) rfl ?_
        obtain ⟨h14, e14, hf⟩ := tk_bi hf
        refine tk_iast hx hb hE hs e14 dX5_isPair_43 (fun H locs hs => ?_)
        refine lv_aload_n hx hb dX5_isPair_44 rfl (lv_at hl 0 rfl) ?_
        obtain ⟨v15, e15, hf⟩ := tk_bi hf
        refine tk_getR hx hb ht inX5 hown hE hs rfl 26 (by decide) (ht _ wfX5_65) e15 dX5_isPair_45 ?_
        refine lv_iconst (v := 0) hx hb dX5_isPair_48 (by decide) ?_
        obtain ⟨v16, e16, hf⟩ := tk_bi hf
        refine tk_iald hx hb hE hs e16 dX5_isPair_49 ?_
        refine lv_iconst (v := (-1)) hx hb dX5_isPair_50 (by decide) ?_
        refine lv_icmp_eq (tgt := 58) hx hb dX5_isPair_51 (by decide) (fun c17 => ?_) (fun c17 => ?_)
        · rw [if_pos c17] at hf
          refine lv_iconst (v := 0) hx hb dX5_isPair_58 (by decide) ?_
          exact j59 0 h14 o13.2.2 _ _ _ hf hs (lv_sub hl [] rfl)
        · rw [if_neg c17] at hf
          refine lv_iconst (v := 1) hx hb dX5_isPair_54 (by decide) ?_
          refine lv_goto (tgt := 59) hx hb dX5_isPair_55 (by decide) ?_
          exact j59 1 h14 o13.2.2 _ _ _ hf hs (lv_sub hl [] rfl)
      · rw [if_pos c9] at hf
        exact j25 o7.2.1 o7.2.2 _ _ _ hf hs (lv_sub hl [] rfl)
def fX5_isThree_45 (N : Nat) (h : tk_AH) (sz : Nat) : Option (Int32 × tk_AH × Nat) :=
  (tk_bz 0).bind fun _ =>
  some (0, h, sz)
def fX5_isThree_164 (N : Nat) (k50 : Nat → Int32 → Int32 → Int32 → Int32 → tk_AH → Nat → Option (Int32 × tk_AH × Nat)) (x0 : Nat) (x1 : Int32) (x2 : Int32) (x3 : Int32) (x4 : Int32) (h : tk_AH) (sz : Nat) : Option (Int32 × tk_AH × Nat) :=
  k50 x0 x1 x2 x3 (x4 + 1) h sz
def fX5_isThree_158 (N : Nat) (k77 : Nat → Int32 → Int32 → Int32 → Int32 → Int32 → tk_AH → Nat → Option (Int32 × tk_AH × Nat)) (x0 : Nat) (x1 : Int32) (x2 : Int32) (x3 : Int32) (x4 : Int32) (x5 : Int32) (h : tk_AH) (sz : Nat) : Option (Int32 × tk_AH × Nat) :=
  k77 x0 x1 x2 x3 x4 (x5 + 1) h sz
def fX5_isThree_77 (N : Nat) (k164 : Nat → Int32 → Int32 → Int32 → Int32 → tk_AH → Nat → Option (Int32 × tk_AH × Nat)) : Nat → Nat → Int32 → Int32 → Int32 → Int32 → Int32 → tk_AH → Nat → Option (Int32 × tk_AH × Nat)
  | 0, _, _, _, _, _, _, _, _ => none
  | n + 1, x0, x1, x2, x3, x4, x5, h, sz =>
  if 24 ≤ x5 then (
  k164 x0 x1 x2 x3 x4 h sz) else (
  if x5 = x4 then (
  fX5_isThree_158 N (fX5_isThree_77 N k164 n) x0 x1 x2 x3 x4 x5 h sz) else (
  (tk_ok h 5 x0).bind fun _ =>
  (fX5_both N x0 x2 x3 h sz).bind fun o4 =>
  if ((o4.1 >>> (x5 &&& 31)) &&& 1) = 0 then (
  fX5_isThree_158 N (fX5_isThree_77 N k164 n) x0 x1 x2 x3 x4 x5 o4.2.1 o4.2.2) else (
  (tk_ok o4.2.1 5 x0).bind fun _ =>
  (fX5_both N x0 x3 x1 o4.2.1 o4.2.2).bind fun o7 =>
  (fX5_hour N o7.1 x4 x5 o7.2.1 o7.2.2).bind fun o9 =>
  if o9.1 = (-1) then (
  fX5_isThree_158 N (fX5_isThree_77 N k164 n) x0 x1 x2 x3 x4 x5 o9.2.1 o9.2.2) else (
  (tk_gR o9.2.1 5 26 x0).bind fun v11 =>
  (tk_sI o9.2.1 0 v11 0 x4).bind fun h12 =>
  (tk_gR h12 5 26 x0).bind fun v13 =>
  (tk_sI h12 0 v13 1 x5).bind fun h14 =>
  (tk_gR h14 5 26 x0).bind fun v15 =>
  (tk_sI h14 0 v15 2 o9.1).bind fun h16 =>
  (tk_bz 1).bind fun _ =>
  some (1, h16, o9.2.2)))))
def fX5_isThree_50 (N : Nat) : Nat → Nat → Int32 → Int32 → Int32 → Int32 → tk_AH → Nat → Option (Int32 × tk_AH × Nat)
  | 0, _, _, _, _, _, _, _ => none
  | n + 1, x0, x1, x2, x3, x4, h, sz =>
  if 24 ≤ x4 then (
  (tk_bz 0).bind fun _ =>
  some (0, h, sz)) else (
  (tk_ok h 5 x0).bind fun _ =>
  (fX5_both N x0 x1 x2 h sz).bind fun o20 =>
  if ((o20.1 >>> (x4 &&& 31)) &&& 1) = 0 then (
  fX5_isThree_164 N (fX5_isThree_50 N n) x0 x1 x2 x3 x4 o20.2.1 o20.2.2) else (
  fX5_isThree_77 N (fX5_isThree_164 N (fX5_isThree_50 N n)) N x0 x1 x2 x3 x4 0 o20.2.1 o20.2.2))
def fX5_isThree (N : Nat) (x0 : Nat) (x1 : Int32) (x2 : Int32) (x3 : Int32) (h : tk_AH) (sz : Nat) : Option (Int32 × tk_AH × Nat) :=
  if x2 ≤ x1 then (
  fX5_isThree_45 N h sz) else (
  if x3 ≤ x1 then (
  fX5_isThree_45 N h sz) else (
  if x2 = x3 then (
  fX5_isThree_45 N h sz) else (
  (tk_ok h 5 x0).bind fun _ =>
  (fX5_giftOf N x0 x1 x2 h sz).bind fun o26 =>
  if o26.1 = (-1) then (
  fX5_isThree_45 N o26.2.1 o26.2.2) else (
  (tk_ok o26.2.1 5 x0).bind fun _ =>
  (fX5_giftOf N x0 x2 x3 o26.2.1 o26.2.2).bind fun o29 =>
  if o29.1 = (-1) then (
  fX5_isThree_45 N o29.2.1 o29.2.2) else (
  (tk_ok o29.2.1 5 x0).bind fun _ =>
  (fX5_giftOf N x0 x3 x1 o29.2.1 o29.2.2).bind fun o32 =>
  if o32.1 = (-1) then (
  fX5_isThree_45 N o32.2.1 o32.2.2) else (
  fX5_isThree_50 N N x0 x1 x2 x3 0 o32.2.1 o32.2.2))))))
set_option maxHeartbeats 8000000 in
set_option maxRecDepth 100000 in
theorem cX5_isThree_ok (l : Launch) (hl0 : l.stackTraces = false) (G : tk_AG) (N : Nat) (x0 : Nat) (x1 : Int32) (x2 : Int32) (x3 : Int32) (h : tk_AH) (sz : Nat) (r9 : Int32) (h9 : tk_AH) (sz9 : Nat) (hf : fX5_isThree N x0 x1 x2 x3 h sz = some (r9, h9, sz9)) : Met l yX5_isThree (coX5_isThree :: tk_W) ({ frames := 2, cells := 0, slots := 0, locals := 46 }) (tk_pc G [.ref x0, .int x1, .int x2, .int x3] h sz) (tk_qc G (some (.int r9)) h9 sz9) 0 0 (tk_ag G) := by
  refine Met.ofW (cc := cX5_isThree) (maxL := 7) (ret := (some .boolean)) (by decide) rfl ?_
  intro p e s m args below meth c s₁ B hml hv
  obtain ⟨hav, hE, hrp, hsz, hgs⟩ := hv
  have hx := B.exec
  have hb := B.bytes
  have hr := B.returns
  have hts := atoms_spec (ws := coX5_isThree :: tk_W) B.pre
  have ht : ∀ w ∈ tk_W, w.before args s = true := fun w h => hts w (List.mem_cons_of_mem _ h)
  have hown : s.vm.findClass RX5 = some m.cls := findClass_of_methodNamed B.named
  have hlocks := B.notSynchronized
  have hs : tk_sw G s h sz s.heap [] := ⟨hrp, hsz, by rw [hsz]; exact hgs, va_S.rf⟩
  have hl := lv_entry ([.ref x0, .int x1, .int x2, .int x3]) (n := 7) (Nat.le_of_ble_eq_true rfl)
  have hent : entryFrame m args 7 = F0 m 0 (lg_sl ([.ref x0, .int x1, .int x2, .int x3]) ++ List.replicate (7 - (lg_sl ([.ref x0, .int x1, .int x2, .int x3])).length) Slot.unset).toArray [] := by rw [hav, lg_entry_eq]
  rw [hent]
  clear hent
  generalize (lg_sl ([.ref x0, .int x1, .int x2, .int x3]) ++ List.replicate (7 - (lg_sl ([.ref x0, .int x1, .int x2, .int x3])).length) Slot.unset).toArray = ls at hl ⊢
  have hl : lv_has ls 7 [(0, .ref x0), (1, .int x1), (2, .int x2), (3, .int x3)] := hl
  have j45 : ∀ (h : tk_AH) (sz : Nat) (H : Heap) (locs : List Loc) (ls : Array Slot), fX5_isThree_45 N h sz = some (r9, h9, sz9) → tk_sw G s h sz H locs → lv_has ls 7 [] → W p l e (headSpec (coX5_isThree :: tk_W) ({ frames := 2, cells := 0, slots := 0, locals := 46 })).room s m args below meth c H locs 0 (0) (MQ below (tk_qc G (some (.int r9)) h9 sz9) args s 0 0 (tk_ag G)) (F0 m 45 ls []) := by
    intro h sz H locs ls hf hs hl
    unfold fX5_isThree_45 at hf
    refine lv_iconst (v := 0) hx hb dX5_isThree_45 (by decide) ?_
    obtain ⟨_, e1, hf⟩ := tk_bi hf
    have e1 := tk_bz_ok e1
    cases hf
    exact tk_zret hx hb hr hlocks e1 hs dX5_isThree_46
  have j164 : ∀ (k50 : Nat → Int32 → Int32 → Int32 → Int32 → tk_AH → Nat → Option (Int32 × tk_AH × Nat)), (∀ (x0 : Nat) (x1 : Int32) (x2 : Int32) (x3 : Int32) (x4 : Int32) (h : tk_AH) (sz : Nat) (H : Heap) (locs : List Loc) (ls : Array Slot), k50 x0 x1 x2 x3 x4 h sz = some (r9, h9, sz9) → tk_sw G s h sz H locs → lv_has ls 7 [(0, .ref x0), (1, .int x1), (2, .int x2), (3, .int x3), (4, .int x4)] → W p l e (headSpec (coX5_isThree :: tk_W) ({ frames := 2, cells := 0, slots := 0, locals := 46 })).room s m args below meth c H locs 0 (0) (MQ below (tk_qc G (some (.int r9)) h9 sz9) args s 0 0 (tk_ag G)) (F0 m 50 ls [])) → ∀ (x0 : Nat) (x1 : Int32) (x2 : Int32) (x3 : Int32) (x4 : Int32) (h : tk_AH) (sz : Nat) (H : Heap) (locs : List Loc) (ls : Array Slot), fX5_isThree_164 N k50 x0 x1 x2 x3 x4 h sz = some (r9, h9, sz9) → tk_sw G s h sz H locs → lv_has ls 7 [(0, .ref x0), (1, .int x1), (2, .int x2), (3, .int x3), (4, .int x4)] → W p l e (headSpec (coX5_isThree :: tk_W) ({ frames := 2, cells := 0, slots := 0, locals := 46 })).room s m args below meth c H locs 0 (0) (MQ below (tk_qc G (some (.int r9)) h9 sz9) args s 0 0 (tk_ag G)) (F0 m 164 ls []) := by
    intro k50 hk50 x0 x1 x2 x3 x4 h sz H locs ls hf hs hl
    unfold fX5_isThree_164 at hf
    refine lv_iinc (v := x4 + 1) (lv' := [(4, .int (x4 + 1)), (0, .ref x0), (1, .int x1), (2, .int x2), (3, .int x3)]) hx hb dX5_isThree_164 hl (k := 4) rfl rfl (by decide) rfl (fun ls hl => ?_)
    refine lv_goto (tgt := 50) hx hb dX5_isThree_167 (by decide) ?_
    exact hk50 x0 x1 x2 x3 (x4 + 1) h sz _ _ _ hf hs (lv_sub hl [1, 2, 3, 4, 0] rfl)
  have j158 : ∀ (k77 : Nat → Int32 → Int32 → Int32 → Int32 → Int32 → tk_AH → Nat → Option (Int32 × tk_AH × Nat)), (∀ (x0 : Nat) (x1 : Int32) (x2 : Int32) (x3 : Int32) (x4 : Int32) (x5 : Int32) (h : tk_AH) (sz : Nat) (H : Heap) (locs : List Loc) (ls : Array Slot), k77 x0 x1 x2 x3 x4 x5 h sz = some (r9, h9, sz9) → tk_sw G s h sz H locs → lv_has ls 7 [(0, .ref x0), (1, .int x1), (2, .int x2), (3, .int x3), (4, .int x4), (5, .int x5)] → W p l e (headSpec (coX5_isThree :: tk_W) ({ frames := 2, cells := 0, slots := 0, locals := 46 })).room s m args below meth c H locs 0 (0) (MQ below (tk_qc G (some (.int r9)) h9 sz9) args s 0 0 (tk_ag G)) (F0 m 77 ls [])) → ∀ (x0 : Nat) (x1 : Int32) (x2 : Int32) (x3 : Int32) (x4 : Int32) (x5 : Int32) (h : tk_AH) (sz : Nat) (H : Heap) (locs : List Loc) (ls : Array Slot), fX5_isThree_158 N k77 x0 x1 x2 x3 x4 x5 h sz = some (r9, h9, sz9) → tk_sw G s h sz H locs → lv_has ls 7 [(0, .ref x0), (1, .int x1), (2, .int x2), (3, .int x3), (4, .int x4), (5, .int x5)] → W p l e (headSpec (coX5_isThree :: tk_W) ({ frames := 2, cells := 0, slots := 0, locals := 46 })).room s m args below meth c H locs 0 (0) (MQ below (tk_qc G (some (.int r9)) h9 sz9) args s 0 0 (tk_ag G)) (F0 m 158 ls []) := by
    intro k77 hk77 x0 x1 x2 x3 x4 x5 h sz H locs ls hf hs hl
    unfold fX5_isThree_158 at hf
    refine lv_iinc (v := x5 + 1) (lv' := [(5, .int (x5 + 1)), (0, .ref x0), (1, .int x1), (2, .int x2), (3, .int x3), (4, .int x4)]) hx hb dX5_isThree_158 hl (k := 5) rfl rfl (by decide) rfl (fun ls hl => ?_)
    refine lv_goto (tgt := 77) hx hb dX5_isThree_161 (by decide) ?_
    exact hk77 x0 x1 x2 x3 x4 (x5 + 1) h sz _ _ _ hf hs (lv_sub hl [1, 2, 3, 4, 5, 0] rfl)
  have j77 : ∀ (k164 : Nat → Int32 → Int32 → Int32 → Int32 → tk_AH → Nat → Option (Int32 × tk_AH × Nat)), (∀ (x0 : Nat) (x1 : Int32) (x2 : Int32) (x3 : Int32) (x4 : Int32) (h : tk_AH) (sz : Nat) (H : Heap) (locs : List Loc) (ls : Array Slot), k164 x0 x1 x2 x3 x4 h sz = some (r9, h9, sz9) → tk_sw G s h sz H locs → lv_has ls 7 [(0, .ref x0), (1, .int x1), (2, .int x2), (3, .int x3), (4, .int x4)] → W p l e (headSpec (coX5_isThree :: tk_W) ({ frames := 2, cells := 0, slots := 0, locals := 46 })).room s m args below meth c H locs 0 (0) (MQ below (tk_qc G (some (.int r9)) h9 sz9) args s 0 0 (tk_ag G)) (F0 m 164 ls [])) → ∀ (n : Nat), ∀ (x0 : Nat) (x1 : Int32) (x2 : Int32) (x3 : Int32) (x4 : Int32) (x5 : Int32) (h : tk_AH) (sz : Nat) (H : Heap) (locs : List Loc) (ls : Array Slot), fX5_isThree_77 N k164 n x0 x1 x2 x3 x4 x5 h sz = some (r9, h9, sz9) → tk_sw G s h sz H locs → lv_has ls 7 [(0, .ref x0), (1, .int x1), (2, .int x2), (3, .int x3), (4, .int x4), (5, .int x5)] → W p l e (headSpec (coX5_isThree :: tk_W) ({ frames := 2, cells := 0, slots := 0, locals := 46 })).room s m args below meth c H locs 0 (0) (MQ below (tk_qc G (some (.int r9)) h9 sz9) args s 0 0 (tk_ag G)) (F0 m 77 ls []) := by
    intro k164 hk164 n
    induction n with
    | zero =>
      intro x0 x1 x2 x3 x4 x5 h sz H locs ls hf
      cases hf
    | succ n ih =>
      intro x0 x1 x2 x3 x4 x5 h sz H locs ls hf hs hl
      rw [fX5_isThree_77] at hf
      refine lv_iload hx hb dX5_isThree_77 (lv_at hl 5 rfl) ?_
      refine lv_bipush (v := 24) hx hb dX5_isThree_79 (by decide) ?_
      refine lv_icmp_ge (tgt := 164) hx hb dX5_isThree_81 (by decide) (fun c2 => ?_) (fun c2 => ?_)
      · rw [if_pos c2] at hf
        exact hk164 x0 x1 x2 x3 x4 h sz _ _ _ hf hs (lv_sub hl [0, 1, 2, 3, 4] rfl)
      · rw [if_neg c2] at hf
        refine lv_iload hx hb dX5_isThree_84 (lv_at hl 5 rfl) ?_
        refine lv_iload hx hb dX5_isThree_86 (lv_at hl 4 rfl) ?_
        refine lv_icmp_eq (tgt := 158) hx hb dX5_isThree_88 (by decide) (fun c3 => ?_) (fun c3 => ?_)
        · rw [if_pos c3] at hf
          exact j158 (fX5_isThree_77 N k164 n) ih x0 x1 x2 x3 x4 x5 h sz _ _ _ hf hs (lv_sub hl [0, 1, 2, 3, 4, 5] rfl)
        · rw [if_neg c3] at hf
          refine lv_aload_n hx hb dX5_isThree_91 rfl (lv_at hl 0 rfl) ?_
          refine lv_iload_n hx hb dX5_isThree_92 rfl (lv_at hl 2 rfl) ?_
          refine lv_iload_n hx hb dX5_isThree_93 rfl (lv_at hl 3 rfl) ?_
          obtain ⟨_, p4, hf⟩ := tk_bi hf
          obtain ⟨o4, e4, hf⟩ := tk_bi hf
          refine tk_call0 (v := some (.int o4.1)) hs (va_runV (As := [.int x2, .int x3]) (rest := []) ⟨hx, hb, hml, hown, ht⟩ (cX5_both_ok l hl0 G N x0 x2 x3 h sz o4.1 o4.2.1 o4.2.2 e4) (kwX5_both ht wmX5_122 rfl rfl ⟨Nat.le_of_ble_eq_true rfl, Nat.le_of_ble_eq_true rfl⟩) (tk_preV hE hs (tk_ok_ok p4) rfl) rfl rfl hl.1 rfl (lv_room (Nat.le_of_ble_eq_true rfl)) dX5_isThree_94 ⟨(Nat.le_of_ble_eq_true rfl), (Nat.le_of_ble_eq_true rfl)⟩) (fun H locs hs => ?_)
          refine W.eq (g2 := F0 m 97 ls [.int o4.1]) rfl ?_
          refine lv_iload hx hb dX5_isThree_97 (lv_at hl 5 rfl) ?_
          refine lv_ishr hx hb dX5_isThree_99 ?_
          refine lv_iconst (v := 1) hx hb dX5_isThree_100 (by decide) ?_
          refine lv_iand hx hb dX5_isThree_101 ?_
          refine lv_if_ne (tgt := 108) hx hb dX5_isThree_102 (by decide) (fun c6 => ?_) (fun c6 => ?_)
          · rw [if_neg c6] at hf
            refine lv_aload_n hx hb dX5_isThree_108 rfl (lv_at hl 0 rfl) ?_
            refine lv_iload_n hx hb dX5_isThree_109 rfl (lv_at hl 3 rfl) ?_
            refine lv_iload_n hx hb dX5_isThree_110 rfl (lv_at hl 1 rfl) ?_
            obtain ⟨_, p7, hf⟩ := tk_bi hf
            obtain ⟨o7, e7, hf⟩ := tk_bi hf
            refine tk_call0 (v := some (.int o7.1)) hs (va_runV (As := [.int x3, .int x1]) (rest := []) ⟨hx, hb, hml, hown, ht⟩ (cX5_both_ok l hl0 G N x0 x3 x1 o4.2.1 o4.2.2 o7.1 o7.2.1 o7.2.2 e7) (kwX5_both ht wmX5_122 rfl rfl ⟨Nat.le_of_ble_eq_true rfl, Nat.le_of_ble_eq_true rfl⟩) (tk_preV hE hs (tk_ok_ok p7) rfl) rfl rfl hl.1 rfl (lv_room (Nat.le_of_ble_eq_true rfl)) dX5_isThree_111 ⟨(Nat.le_of_ble_eq_true rfl), (Nat.le_of_ble_eq_true rfl)⟩) (fun H locs hs => ?_)
            refine W.eq (g2 := F0 m 114 ls [.int o7.1]) rfl ?_
            refine lv_iload hx hb dX5_isThree_114 (lv_at hl 4 rfl) ?_
            refine lv_iload hx hb dX5_isThree_116 (lv_at hl 5 rfl) ?_
            obtain ⟨o9, e9, hf⟩ := tk_bi hf
            refine tk_call0 (v := some (.int o9.1)) hs (va_runS (As := [.int o7.1, .int x4, .int x5]) (rest := []) ⟨hx, hb, hml, hown, ht⟩ (cX5_hour_ok l hl0 G N o7.1 x4 x5 o7.2.1 o7.2.2 o9.1 o9.2.1 o9.2.2 e9) (kwX5_hour ht wmX5_125 rfl rfl ⟨Nat.le_of_ble_eq_true rfl, Nat.le_of_ble_eq_true rfl⟩) (tk_preS hE hs) rfl rfl hl.1 rfl (lv_room (Nat.le_of_ble_eq_true rfl)) dX5_isThree_118 ⟨(Nat.le_of_ble_eq_true rfl), (Nat.le_of_ble_eq_true rfl)⟩) (fun H locs hs => ?_)
            refine W.eq (g2 := F0 m 121 ls [.int o9.1]) rfl ?_
            refine lv_istore (lv' := [(6, .int o9.1), (0, .ref x0), (1, .int x1), (2, .int x2), (3, .int x3), (4, .int x4), (5, .int x5)]) hx hb dX5_isThree_121 hl (by decide) rfl (fun ls hl => ?_)
            refine lv_iload hx hb dX5_isThree_123 (lv_at hl 0 rfl) ?_
            refine lv_iconst (v := (-1)) hx hb dX5_isThree_125 (by decide) ?_
            refine lv_icmp_ne (tgt := 132) hx hb dX5_isThree_126 (by decide) (fun c10 => ?_) (fun c10 => ?_)
            · rw [if_neg c10] at hf
              refine lv_aload_n hx hb dX5_isThree_132 rfl (lv_at hl 1 rfl) ?_
              obtain ⟨v11, e11, hf⟩ := tk_bi hf
              refine tk_getR hx hb ht inX5 hown hE hs rfl 26 (by decide) (ht _ wfX5_65) e11 dX5_isThree_133 ?_
              refine lv_iconst (v := 0) hx hb dX5_isThree_136 (by decide) ?_
              refine lv_iload hx hb dX5_isThree_137 (lv_at hl 5 rfl) ?_
              obtain ⟨h12, e12, hf⟩ := tk_bi hf
              refine tk_iast hx hb hE hs e12 dX5_isThree_139 (fun H locs hs => ?_)
              refine lv_aload_n hx hb dX5_isThree_140 rfl (lv_at hl 1 rfl) ?_
              obtain ⟨v13, e13, hf⟩ := tk_bi hf
              refine tk_getR hx hb ht inX5 hown hE hs rfl 26 (by decide) (ht _ wfX5_65) e13 dX5_isThree_141 ?_
              refine lv_iconst (v := 1) hx hb dX5_isThree_144 (by decide) ?_
              refine lv_iload hx hb dX5_isThree_145 (lv_at hl 6 rfl) ?_
              obtain ⟨h14, e14, hf⟩ := tk_bi hf
              refine tk_iast hx hb hE hs e14 dX5_isThree_147 (fun H locs hs => ?_)
              refine lv_aload_n hx hb dX5_isThree_148 rfl (lv_at hl 1 rfl) ?_
              obtain ⟨v15, e15, hf⟩ := tk_bi hf
              refine tk_getR hx hb ht inX5 hown hE hs rfl 26 (by decide) (ht _ wfX5_65) e15 dX5_isThree_149 ?_
              refine lv_iconst (v := 2) hx hb dX5_isThree_152 (by decide) ?_
              refine lv_iload hx hb dX5_isThree_153 (lv_at hl 0 rfl) ?_
              obtain ⟨h16, e16, hf⟩ := tk_bi hf
              refine tk_iast hx hb hE hs e16 dX5_isThree_155 (fun H locs hs => ?_)
              refine lv_iconst (v := 1) hx hb dX5_isThree_156 (by decide) ?_
              obtain ⟨_, e17, hf⟩ := tk_bi hf
              have e17 := tk_bz_ok e17
              cases hf
              exact tk_zret hx hb hr hlocks e17 hs dX5_isThree_157
            · rw [if_pos c10] at hf
              refine lv_goto (tgt := 158) hx hb dX5_isThree_129 (by decide) ?_
              exact j158 (fX5_isThree_77 N k164 n) ih x0 x1 x2 x3 x4 x5 o9.2.1 o9.2.2 _ _ _ hf hs (lv_sub hl [1, 2, 3, 4, 5, 6] rfl)
          · rw [if_pos c6] at hf
            refine lv_goto (tgt := 158) hx hb dX5_isThree_105 (by decide) ?_
            exact j158 (fX5_isThree_77 N k164 n) ih x0 x1 x2 x3 x4 x5 o4.2.1 o4.2.2 _ _ _ hf hs (lv_sub hl [0, 1, 2, 3, 4, 5] rfl)
  have j50 : ∀ (n : Nat), ∀ (x0 : Nat) (x1 : Int32) (x2 : Int32) (x3 : Int32) (x4 : Int32) (h : tk_AH) (sz : Nat) (H : Heap) (locs : List Loc) (ls : Array Slot), fX5_isThree_50 N n x0 x1 x2 x3 x4 h sz = some (r9, h9, sz9) → tk_sw G s h sz H locs → lv_has ls 7 [(0, .ref x0), (1, .int x1), (2, .int x2), (3, .int x3), (4, .int x4)] → W p l e (headSpec (coX5_isThree :: tk_W) ({ frames := 2, cells := 0, slots := 0, locals := 46 })).room s m args below meth c H locs 0 (0) (MQ below (tk_qc G (some (.int r9)) h9 sz9) args s 0 0 (tk_ag G)) (F0 m 50 ls []) := by
    intro n
    induction n with
    | zero =>
      intro x0 x1 x2 x3 x4 h sz H locs ls hf
      cases hf
    | succ n ih =>
      intro x0 x1 x2 x3 x4 h sz H locs ls hf hs hl
      rw [fX5_isThree_50] at hf
      refine lv_iload hx hb dX5_isThree_50 (lv_at hl 4 rfl) ?_
      refine lv_bipush (v := 24) hx hb dX5_isThree_52 (by decide) ?_
      refine lv_icmp_ge (tgt := 170) hx hb dX5_isThree_54 (by decide) (fun c18 => ?_) (fun c18 => ?_)
      · rw [if_pos c18] at hf
        refine lv_iconst (v := 0) hx hb dX5_isThree_170 (by decide) ?_
        obtain ⟨_, e19, hf⟩ := tk_bi hf
        have e19 := tk_bz_ok e19
        cases hf
        exact tk_zret hx hb hr hlocks e19 hs dX5_isThree_171
      · rw [if_neg c18] at hf
        refine lv_aload_n hx hb dX5_isThree_57 rfl (lv_at hl 0 rfl) ?_
        refine lv_iload_n hx hb dX5_isThree_58 rfl (lv_at hl 1 rfl) ?_
        refine lv_iload_n hx hb dX5_isThree_59 rfl (lv_at hl 2 rfl) ?_
        obtain ⟨_, p20, hf⟩ := tk_bi hf
        obtain ⟨o20, e20, hf⟩ := tk_bi hf
        refine tk_call0 (v := some (.int o20.1)) hs (va_runV (As := [.int x1, .int x2]) (rest := []) ⟨hx, hb, hml, hown, ht⟩ (cX5_both_ok l hl0 G N x0 x1 x2 h sz o20.1 o20.2.1 o20.2.2 e20) (kwX5_both ht wmX5_122 rfl rfl ⟨Nat.le_of_ble_eq_true rfl, Nat.le_of_ble_eq_true rfl⟩) (tk_preV hE hs (tk_ok_ok p20) rfl) rfl rfl hl.1 rfl (lv_room (Nat.le_of_ble_eq_true rfl)) dX5_isThree_60 ⟨(Nat.le_of_ble_eq_true rfl), (Nat.le_of_ble_eq_true rfl)⟩) (fun H locs hs => ?_)
        refine W.eq (g2 := F0 m 63 ls [.int o20.1]) rfl ?_
        refine lv_iload hx hb dX5_isThree_63 (lv_at hl 4 rfl) ?_
        refine lv_ishr hx hb dX5_isThree_65 ?_
        refine lv_iconst (v := 1) hx hb dX5_isThree_66 (by decide) ?_
        refine lv_iand hx hb dX5_isThree_67 ?_
        refine lv_if_ne (tgt := 74) hx hb dX5_isThree_68 (by decide) (fun c22 => ?_) (fun c22 => ?_)
        · rw [if_neg c22] at hf
          refine lv_iconst (v := 0) hx hb dX5_isThree_74 (by decide) ?_
          refine lv_istore (lv' := [(5, .int 0), (0, .ref x0), (1, .int x1), (2, .int x2), (3, .int x3), (4, .int x4)]) hx hb dX5_isThree_75 hl (by decide) rfl (fun ls hl => ?_)
          exact j77 (fX5_isThree_164 N (fX5_isThree_50 N n)) (j164 (fX5_isThree_50 N n) ih) N x0 x1 x2 x3 x4 0 o20.2.1 o20.2.2 _ _ _ hf hs (lv_sub hl [1, 2, 3, 4, 5, 0] rfl)
        · rw [if_pos c22] at hf
          refine lv_goto (tgt := 164) hx hb dX5_isThree_71 (by decide) ?_
          exact j164 (fX5_isThree_50 N n) ih x0 x1 x2 x3 x4 o20.2.1 o20.2.2 _ _ _ hf hs (lv_sub hl [0, 1, 2, 3, 4] rfl)
  unfold fX5_isThree at hf
  refine lv_iload_n hx hb dX5_isThree_0 rfl (lv_at hl 1 rfl) ?_
  refine lv_iload_n hx hb dX5_isThree_1 rfl (lv_at hl 2 rfl) ?_
  refine lv_icmp_ge (tgt := 45) hx hb dX5_isThree_2 (by decide) (fun c23 => ?_) (fun c23 => ?_)
  · rw [if_pos c23] at hf
    exact j45 h sz _ _ _ hf hs (lv_sub hl [] rfl)
  · rw [if_neg c23] at hf
    refine lv_iload_n hx hb dX5_isThree_5 rfl (lv_at hl 1 rfl) ?_
    refine lv_iload_n hx hb dX5_isThree_6 rfl (lv_at hl 3 rfl) ?_
    refine lv_icmp_ge (tgt := 45) hx hb dX5_isThree_7 (by decide) (fun c24 => ?_) (fun c24 => ?_)
    · rw [if_pos c24] at hf
      exact j45 h sz _ _ _ hf hs (lv_sub hl [] rfl)
    · rw [if_neg c24] at hf
      refine lv_iload_n hx hb dX5_isThree_10 rfl (lv_at hl 2 rfl) ?_
      refine lv_iload_n hx hb dX5_isThree_11 rfl (lv_at hl 3 rfl) ?_
      refine lv_icmp_eq (tgt := 45) hx hb dX5_isThree_12 (by decide) (fun c25 => ?_) (fun c25 => ?_)
      · rw [if_pos c25] at hf
        exact j45 h sz _ _ _ hf hs (lv_sub hl [] rfl)
      · rw [if_neg c25] at hf
        refine lv_aload_n hx hb dX5_isThree_15 rfl (lv_at hl 0 rfl) ?_
        refine lv_iload_n hx hb dX5_isThree_16 rfl (lv_at hl 1 rfl) ?_
        refine lv_iload_n hx hb dX5_isThree_17 rfl (lv_at hl 2 rfl) ?_
        obtain ⟨_, p26, hf⟩ := tk_bi hf
        obtain ⟨o26, e26, hf⟩ := tk_bi hf
        refine tk_call0 (v := some (.int o26.1)) hs (va_runV (As := [.int x1, .int x2]) (rest := []) ⟨hx, hb, hml, hown, ht⟩ (cX5_giftOf_ok l hl0 G N x0 x1 x2 h sz o26.1 o26.2.1 o26.2.2 e26) (kwX5_giftOf ht wmX5_118 rfl rfl ⟨Nat.le_of_ble_eq_true rfl, Nat.le_of_ble_eq_true rfl⟩) (tk_preV hE hs (tk_ok_ok p26) rfl) rfl rfl hl.1 rfl (lv_room (Nat.le_of_ble_eq_true rfl)) dX5_isThree_18 ⟨(Nat.le_of_ble_eq_true rfl), (Nat.le_of_ble_eq_true rfl)⟩) (fun H locs hs => ?_)
        refine W.eq (g2 := F0 m 21 ls [.int o26.1]) rfl ?_
        refine lv_iconst (v := (-1)) hx hb dX5_isThree_21 (by decide) ?_
        refine lv_icmp_eq (tgt := 45) hx hb dX5_isThree_22 (by decide) (fun c28 => ?_) (fun c28 => ?_)
        · rw [if_pos c28] at hf
          exact j45 o26.2.1 o26.2.2 _ _ _ hf hs (lv_sub hl [] rfl)
        · rw [if_neg c28] at hf
          refine lv_aload_n hx hb dX5_isThree_25 rfl (lv_at hl 0 rfl) ?_
          refine lv_iload_n hx hb dX5_isThree_26 rfl (lv_at hl 2 rfl) ?_
          refine lv_iload_n hx hb dX5_isThree_27 rfl (lv_at hl 3 rfl) ?_
          obtain ⟨_, p29, hf⟩ := tk_bi hf
          obtain ⟨o29, e29, hf⟩ := tk_bi hf
          refine tk_call0 (v := some (.int o29.1)) hs (va_runV (As := [.int x2, .int x3]) (rest := []) ⟨hx, hb, hml, hown, ht⟩ (cX5_giftOf_ok l hl0 G N x0 x2 x3 o26.2.1 o26.2.2 o29.1 o29.2.1 o29.2.2 e29) (kwX5_giftOf ht wmX5_118 rfl rfl ⟨Nat.le_of_ble_eq_true rfl, Nat.le_of_ble_eq_true rfl⟩) (tk_preV hE hs (tk_ok_ok p29) rfl) rfl rfl hl.1 rfl (lv_room (Nat.le_of_ble_eq_true rfl)) dX5_isThree_28 ⟨(Nat.le_of_ble_eq_true rfl), (Nat.le_of_ble_eq_true rfl)⟩) (fun H locs hs => ?_)
          refine W.eq (g2 := F0 m 31 ls [.int o29.1]) rfl ?_
          refine lv_iconst (v := (-1)) hx hb dX5_isThree_31 (by decide) ?_
          refine lv_icmp_eq (tgt := 45) hx hb dX5_isThree_32 (by decide) (fun c31 => ?_) (fun c31 => ?_)
          · rw [if_pos c31] at hf
            exact j45 o29.2.1 o29.2.2 _ _ _ hf hs (lv_sub hl [] rfl)
          · rw [if_neg c31] at hf
            refine lv_aload_n hx hb dX5_isThree_35 rfl (lv_at hl 0 rfl) ?_
            refine lv_iload_n hx hb dX5_isThree_36 rfl (lv_at hl 3 rfl) ?_
            refine lv_iload_n hx hb dX5_isThree_37 rfl (lv_at hl 1 rfl) ?_
            obtain ⟨_, p32, hf⟩ := tk_bi hf
            obtain ⟨o32, e32, hf⟩ := tk_bi hf
            refine tk_call0 (v := some (.int o32.1)) hs (va_runV (As := [.int x3, .int x1]) (rest := []) ⟨hx, hb, hml, hown, ht⟩ (cX5_giftOf_ok l hl0 G N x0 x3 x1 o29.2.1 o29.2.2 o32.1 o32.2.1 o32.2.2 e32) (kwX5_giftOf ht wmX5_118 rfl rfl ⟨Nat.le_of_ble_eq_true rfl, Nat.le_of_ble_eq_true rfl⟩) (tk_preV hE hs (tk_ok_ok p32) rfl) rfl rfl hl.1 rfl (lv_room (Nat.le_of_ble_eq_true rfl)) dX5_isThree_38 ⟨(Nat.le_of_ble_eq_true rfl), (Nat.le_of_ble_eq_true rfl)⟩) (fun H locs hs => ?_)
            refine W.eq (g2 := F0 m 41 ls [.int o32.1]) rfl ?_
            refine lv_iconst (v := (-1)) hx hb dX5_isThree_41 (by decide) ?_
            refine lv_icmp_ne (tgt := 47) hx hb dX5_isThree_42 (by decide) (fun c34 => ?_) (fun c34 => ?_)
            · rw [if_neg c34] at hf
              refine lv_iconst (v := 0) hx hb dX5_isThree_47 (by decide) ?_
              refine lv_istore (lv' := [(4, .int 0), (0, .ref x0), (1, .int x1), (2, .int x2), (3, .int x3)]) hx hb dX5_isThree_48 hl (by decide) rfl (fun ls hl => ?_)
              exact j50 N x0 x1 x2 x3 0 o32.2.1 o32.2.2 _ _ _ hf hs (lv_sub hl [1, 2, 3, 4, 0] rfl)
            · rw [if_pos c34] at hf
              exact j45 o32.2.1 o32.2.2 _ _ _ hf hs (lv_sub hl [] rfl)
def fX5_ring_129 (N : Nat) (y0 : Int32) (h : tk_AH) (sz : Nat) : Option (Int32 × tk_AH × Nat) :=
  some (y0, h, sz)
def fX5_ring_128 (N : Nat) (h : tk_AH) (sz : Nat) : Option (Int32 × tk_AH × Nat) :=
  fX5_ring_129 N (-1) h sz
def fX5_ring_118 (N : Nat) (x0 : Nat) (x4 : Int32) (h : tk_AH) (sz : Nat) : Option (Int32 × tk_AH × Nat) :=
  (tk_gR h 5 26 x0).bind fun v1 =>
  (tk_aI h 0 v1 x4).bind fun v2 =>
  fX5_ring_129 N v2 h sz
def fX5_ring_82 (N : Nat) (x0 : Nat) (x1 : Int32) (x2 : Int32) (x3 : Int32) (x4 : Int32) (y0 : Int32) (y1 : Nat) (h : tk_AH) (sz : Nat) : Option (Int32 × tk_AH × Nat) :=
  (tk_ok h 5 y1).bind fun _ =>
  (fX5_right N y1 y0 1 h sz).bind fun o3 =>
  if o3.1 = 0 then (
  some (0, o3.2.1, o3.2.2)) else (
  if x3 = (-1) then (
  (tk_ok o3.2.1 5 x0).bind fun _ =>
  (fX5_isPair N x0 x1 x2 o3.2.1 o3.2.2).bind fun o10 =>
  if o10.1 = 0 then (
  fX5_ring_128 N o10.2.1 o10.2.2) else (
  fX5_ring_118 N x0 x4 o10.2.1 o10.2.2)) else (
  (tk_ok o3.2.1 5 x0).bind fun _ =>
  (fX5_isThree N x0 x1 x2 x3 o3.2.1 o3.2.2).bind fun o7 =>
  if o7.1 = 0 then (
  fX5_ring_128 N o7.2.1 o7.2.2) else (
  fX5_ring_118 N x0 x4 o7.2.1 o7.2.2)))
def fX5_ring_81 (N : Nat) (x0 : Nat) (x1 : Int32) (x2 : Int32) (x3 : Int32) (x4 : Int32) (y0 : Nat) (h : tk_AH) (sz : Nat) : Option (Int32 × tk_AH × Nat) :=
  fX5_ring_82 N x0 x1 x2 x3 x4 0 y0 h sz
def fX5_ring_77 (N : Nat) (x0 : Nat) (x1 : Int32) (x2 : Int32) (x3 : Int32) (x4 : Int32) (y0 : Nat) (h : tk_AH) (sz : Nat) : Option (Int32 × tk_AH × Nat) :=
  fX5_ring_82 N x0 x1 x2 x3 x4 1 y0 h sz
def fX5_ring_47 (N : Nat) (x0 : Nat) (x1 : Int32) (x2 : Int32) (x3 : Int32) (x4 : Int32) (y0 : Int32) (h : tk_AH) (sz : Nat) : Option (Int32 × tk_AH × Nat) :=
  if y0 = 0 then (
  fX5_ring_81 N x0 x1 x2 x3 x4 x0 h sz) else (
  if x4 = 0 then (
  fX5_ring_77 N x0 x1 x2 x3 x4 x0 h sz) else (
  if x3 = (-1) then (
  fX5_ring_81 N x0 x1 x2 x3 x4 x0 h sz) else (
  if x4 = 1 then (
  fX5_ring_77 N x0 x1 x2 x3 x4 x0 h sz) else (
  if x4 = 2 then (
  fX5_ring_77 N x0 x1 x2 x3 x4 x0 h sz) else (
  fX5_ring_81 N x0 x1 x2 x3 x4 x0 h sz)))))
def fX5_ring_46 (N : Nat) (x0 : Nat) (x1 : Int32) (x2 : Int32) (x3 : Int32) (x4 : Int32) (h : tk_AH) (sz : Nat) : Option (Int32 × tk_AH × Nat) :=
  fX5_ring_47 N x0 x1 x2 x3 x4 0 h sz
def fX5_ring (N : Nat) (x0 : Nat) (x1 : Int32) (x2 : Int32) (x3 : Int32) (x4 : Int32) (h : tk_AH) (sz : Nat) : Option (Int32 × tk_AH × Nat) :=
  (tk_pF h 5 0 x0 (.int 0)).bind fun h18 =>
  if x1 < 0 then (
  fX5_ring_46 N x0 x1 x2 x3 x4 h18 sz) else (
  (tk_gI h18 5 1 x0).bind fun v20 =>
  if v20 ≤ x1 then (
  fX5_ring_46 N x0 x1 x2 x3 x4 h18 sz) else (
  if x2 < 0 then (
  fX5_ring_46 N x0 x1 x2 x3 x4 h18 sz) else (
  (tk_gI h18 5 1 x0).bind fun v23 =>
  if v23 ≤ x2 then (
  fX5_ring_46 N x0 x1 x2 x3 x4 h18 sz) else (
  if x3 < (-1) then (
  fX5_ring_46 N x0 x1 x2 x3 x4 h18 sz) else (
  (tk_gI h18 5 1 x0).bind fun v26 =>
  if v26 ≤ x3 then (
  fX5_ring_46 N x0 x1 x2 x3 x4 h18 sz) else (
  fX5_ring_47 N x0 x1 x2 x3 x4 1 h18 sz))))))
set_option maxHeartbeats 8000000 in
set_option maxRecDepth 100000 in
theorem cX5_ring_ok (l : Launch) (hl0 : l.stackTraces = false) (G : tk_AG) (N : Nat) (x0 : Nat) (x1 : Int32) (x2 : Int32) (x3 : Int32) (x4 : Int32) (h : tk_AH) (sz : Nat) (r9 : Int32) (h9 : tk_AH) (sz9 : Nat) (hf : fX5_ring N x0 x1 x2 x3 x4 h sz = some (r9, h9, sz9)) : Met l yX5_ring (coX5_ring :: tk_W) ({ frames := 3, cells := 0, slots := 0, locals := 72 }) (tk_pc G [.ref x0, .int x1, .int x2, .int x3, .int x4] h sz) (tk_qc G (some (.int r9)) h9 sz9) 0 0 (tk_ag G) := by
  refine Met.ofW (cc := cX5_ring) (maxL := 6) (ret := (some .int)) (by decide) rfl ?_
  intro p e s m args below meth c s₁ B hml hv
  obtain ⟨hav, hE, hrp, hsz, hgs⟩ := hv
  have hx := B.exec
  have hb := B.bytes
  have hr := B.returns
  have hts := atoms_spec (ws := coX5_ring :: tk_W) B.pre
  have ht : ∀ w ∈ tk_W, w.before args s = true := fun w h => hts w (List.mem_cons_of_mem _ h)
  have hown : s.vm.findClass RX5 = some m.cls := findClass_of_methodNamed B.named
  have hlocks := B.notSynchronized
  have hs : tk_sw G s h sz s.heap [] := ⟨hrp, hsz, by rw [hsz]; exact hgs, va_S.rf⟩
  have hl := lv_entry ([.ref x0, .int x1, .int x2, .int x3, .int x4]) (n := 6) (Nat.le_of_ble_eq_true rfl)
  have hent : entryFrame m args 6 = F0 m 0 (lg_sl ([.ref x0, .int x1, .int x2, .int x3, .int x4]) ++ List.replicate (6 - (lg_sl ([.ref x0, .int x1, .int x2, .int x3, .int x4])).length) Slot.unset).toArray [] := by rw [hav, lg_entry_eq]
  rw [hent]
  clear hent
  generalize (lg_sl ([.ref x0, .int x1, .int x2, .int x3, .int x4]) ++ List.replicate (6 - (lg_sl ([.ref x0, .int x1, .int x2, .int x3, .int x4])).length) Slot.unset).toArray = ls at hl ⊢
  have hl : lv_has ls 6 [(0, .ref x0), (1, .int x1), (2, .int x2), (3, .int x3), (4, .int x4)] := hl
  have j129 : ∀ (y0 : Int32) (h : tk_AH) (sz : Nat) (H : Heap) (locs : List Loc) (ls : Array Slot), fX5_ring_129 N y0 h sz = some (r9, h9, sz9) → tk_sw G s h sz H locs → lv_has ls 6 [] → W p l e (headSpec (coX5_ring :: tk_W) ({ frames := 3, cells := 0, slots := 0, locals := 72 })).room s m args below meth c H locs 0 (0) (MQ below (tk_qc G (some (.int r9)) h9 sz9) args s 0 0 (tk_ag G)) (F0 m 129 ls [.int y0]) := by
    intro y0 h sz H locs ls hf hs hl
    unfold fX5_ring_129 at hf
    cases hf
    exact tk_iret hx hb hr hlocks hs dX5_ring_129
  have j128 : ∀ (h : tk_AH) (sz : Nat) (H : Heap) (locs : List Loc) (ls : Array Slot), fX5_ring_128 N h sz = some (r9, h9, sz9) → tk_sw G s h sz H locs → lv_has ls 6 [] → W p l e (headSpec (coX5_ring :: tk_W) ({ frames := 3, cells := 0, slots := 0, locals := 72 })).room s m args below meth c H locs 0 (0) (MQ below (tk_qc G (some (.int r9)) h9 sz9) args s 0 0 (tk_ag G)) (F0 m 128 ls []) := by
    intro h sz H locs ls hf hs hl
    unfold fX5_ring_128 at hf
    refine lv_iconst (v := (-1)) hx hb dX5_ring_128 (by decide) ?_
    exact j129 (-1) h sz _ _ _ hf hs (lv_sub hl [] rfl)
  have j118 : ∀ (x0 : Nat) (x4 : Int32) (h : tk_AH) (sz : Nat) (H : Heap) (locs : List Loc) (ls : Array Slot), fX5_ring_118 N x0 x4 h sz = some (r9, h9, sz9) → tk_sw G s h sz H locs → lv_has ls 6 [(0, .ref x0), (4, .int x4)] → W p l e (headSpec (coX5_ring :: tk_W) ({ frames := 3, cells := 0, slots := 0, locals := 72 })).room s m args below meth c H locs 0 (0) (MQ below (tk_qc G (some (.int r9)) h9 sz9) args s 0 0 (tk_ag G)) (F0 m 118 ls []) := by
    intro x0 x4 h sz H locs ls hf hs hl
    unfold fX5_ring_118 at hf
    refine lv_aload_n hx hb dX5_ring_118 rfl (lv_at hl 0 rfl) ?_
    obtain ⟨v1, e1, hf⟩ := tk_bi hf
    refine tk_getR hx hb ht inX5 hown hE hs rfl 26 (by decide) (ht _ wfX5_65) e1 dX5_ring_119 ?_
    refine lv_iload hx hb dX5_ring_122 (lv_at hl 1 rfl) ?_
    obtain ⟨v2, e2, hf⟩ := tk_bi hf
    refine tk_iald hx hb hE hs e2 dX5_ring_124 ?_
    refine lv_goto (tgt := 129) hx hb dX5_ring_125 (by decide) ?_
    exact j129 v2 h sz _ _ _ hf hs (lv_sub hl [] rfl)
  have j82 : ∀ (x0 : Nat) (x1 : Int32) (x2 : Int32) (x3 : Int32) (x4 : Int32) (y0 : Int32) (y1 : Nat) (h : tk_AH) (sz : Nat) (H : Heap) (locs : List Loc) (ls : Array Slot), fX5_ring_82 N x0 x1 x2 x3 x4 y0 y1 h sz = some (r9, h9, sz9) → tk_sw G s h sz H locs → lv_has ls 6 [(0, .ref x0), (1, .int x1), (2, .int x2), (3, .int x3), (4, .int x4)] → W p l e (headSpec (coX5_ring :: tk_W) ({ frames := 3, cells := 0, slots := 0, locals := 72 })).room s m args below meth c H locs 0 (0) (MQ below (tk_qc G (some (.int r9)) h9 sz9) args s 0 0 (tk_ag G)) (F0 m 82 ls [.int y0, .ref y1]) := by
    intro x0 x1 x2 x3 x4 y0 y1 h sz H locs ls hf hs hl
    unfold fX5_ring_82 at hf
    refine lv_iconst (v := 1) hx hb dX5_ring_82 (by decide) ?_
    obtain ⟨_, p3, hf⟩ := tk_bi hf
    obtain ⟨o3, e3, hf⟩ := tk_bi hf
    refine tk_call0 (v := some (.int o3.1)) hs (va_runV (As := [.int y0, .int 1]) (rest := []) ⟨hx, hb, hml, hown, ht⟩ (cX5_right_ok l hl0 G N y1 y0 1 h sz o3.1 o3.2.1 o3.2.2 e3) (kwX5_right ht wmX5_96 rfl rfl ⟨Nat.le_of_ble_eq_true rfl, Nat.le_of_ble_eq_true rfl⟩) (tk_preV hE hs (tk_ok_ok p3) rfl) rfl rfl hl.1 rfl (lv_room (Nat.le_of_ble_eq_true rfl)) dX5_ring_83 ⟨(Nat.le_of_ble_eq_true rfl), (Nat.le_of_ble_eq_true rfl)⟩) (fun H locs hs => ?_)
    refine W.eq (g2 := F0 m 86 ls [.int o3.1]) rfl ?_
    refine lv_if_ne (tgt := 91) hx hb dX5_ring_86 (by decide) (fun c5 => ?_) (fun c5 => ?_)
    · rw [if_neg c5] at hf
      refine lv_iload_n hx hb dX5_ring_91 rfl (lv_at hl 3 rfl) ?_
      refine lv_iconst (v := (-1)) hx hb dX5_ring_92 (by decide) ?_
      refine lv_icmp_ne (tgt := 108) hx hb dX5_ring_93 (by decide) (fun c6 => ?_) (fun c6 => ?_)
      · rw [if_neg c6] at hf
        refine lv_aload_n hx hb dX5_ring_108 rfl (lv_at hl 0 rfl) ?_
        refine lv_iload_n hx hb dX5_ring_109 rfl (lv_at hl 1 rfl) ?_
        refine lv_iload_n hx hb dX5_ring_110 rfl (lv_at hl 2 rfl) ?_
        refine lv_iload_n hx hb dX5_ring_111 rfl (lv_at hl 3 rfl) ?_
        obtain ⟨_, p7, hf⟩ := tk_bi hf
        obtain ⟨o7, e7, hf⟩ := tk_bi hf
        refine tk_call0 (v := some (.int o7.1)) hs (va_runV (As := [.int x1, .int x2, .int x3]) (rest := []) ⟨hx, hb, hml, hown, ht⟩ (cX5_isThree_ok l hl0 G N x0 x1 x2 x3 o3.2.1 o3.2.2 o7.1 o7.2.1 o7.2.2 e7) (kwX5_isThree ht wmX5_132 rfl rfl ⟨Nat.le_of_ble_eq_true rfl, Nat.le_of_ble_eq_true rfl⟩) (tk_preV hE hs (tk_ok_ok p7) rfl) rfl rfl hl.1 rfl (lv_room (Nat.le_of_ble_eq_true rfl)) dX5_ring_112 ⟨(Nat.le_of_ble_eq_true rfl), (Nat.le_of_ble_eq_true rfl)⟩) (fun H locs hs => ?_)
        refine W.eq (g2 := F0 m 115 ls [.int o7.1]) rfl ?_
        refine lv_if_eq (tgt := 128) hx hb dX5_ring_115 (by decide) (fun c9 => ?_) (fun c9 => ?_)
        · rw [if_pos c9] at hf
          exact j128 o7.2.1 o7.2.2 _ _ _ hf hs (lv_sub hl [] rfl)
        · rw [if_neg c9] at hf
          exact j118 x0 x4 o7.2.1 o7.2.2 _ _ _ hf hs (lv_sub hl [0, 4] rfl)
      · rw [if_pos c6] at hf
        refine lv_aload_n hx hb dX5_ring_96 rfl (lv_at hl 0 rfl) ?_
        refine lv_iload_n hx hb dX5_ring_97 rfl (lv_at hl 1 rfl) ?_
        refine lv_iload_n hx hb dX5_ring_98 rfl (lv_at hl 2 rfl) ?_
        obtain ⟨_, p10, hf⟩ := tk_bi hf
        obtain ⟨o10, e10, hf⟩ := tk_bi hf
        refine tk_call0 (v := some (.int o10.1)) hs (va_runV (As := [.int x1, .int x2]) (rest := []) ⟨hx, hb, hml, hown, ht⟩ (cX5_isPair_ok l hl0 G N x0 x1 x2 o3.2.1 o3.2.2 o10.1 o10.2.1 o10.2.2 e10) (kwX5_isPair ht wmX5_129 rfl rfl ⟨Nat.le_of_ble_eq_true rfl, Nat.le_of_ble_eq_true rfl⟩) (tk_preV hE hs (tk_ok_ok p10) rfl) rfl rfl hl.1 rfl (lv_room (Nat.le_of_ble_eq_true rfl)) dX5_ring_99 ⟨(Nat.le_of_ble_eq_true rfl), (Nat.le_of_ble_eq_true rfl)⟩) (fun H locs hs => ?_)
        refine W.eq (g2 := F0 m 102 ls [.int o10.1]) rfl ?_
        refine lv_if_eq (tgt := 128) hx hb dX5_ring_102 (by decide) (fun c12 => ?_) (fun c12 => ?_)
        · rw [if_pos c12] at hf
          exact j128 o10.2.1 o10.2.2 _ _ _ hf hs (lv_sub hl [] rfl)
        · rw [if_neg c12] at hf
          refine lv_goto (tgt := 118) hx hb dX5_ring_105 (by decide) ?_
          exact j118 x0 x4 o10.2.1 o10.2.2 _ _ _ hf hs (lv_sub hl [0, 4] rfl)
    · rw [if_pos c5] at hf
      refine lv_iconst (v := 0) hx hb dX5_ring_89 (by decide) ?_
      cases hf
      exact tk_iret hx hb hr hlocks hs dX5_ring_90
  have j81 : ∀ (x0 : Nat) (x1 : Int32) (x2 : Int32) (x3 : Int32) (x4 : Int32) (y0 : Nat) (h : tk_AH) (sz : Nat) (H : Heap) (locs : List Loc) (ls : Array Slot), fX5_ring_81 N x0 x1 x2 x3 x4 y0 h sz = some (r9, h9, sz9) → tk_sw G s h sz H locs → lv_has ls 6 [(0, .ref x0), (1, .int x1), (2, .int x2), (3, .int x3), (4, .int x4)] → W p l e (headSpec (coX5_ring :: tk_W) ({ frames := 3, cells := 0, slots := 0, locals := 72 })).room s m args below meth c H locs 0 (0) (MQ below (tk_qc G (some (.int r9)) h9 sz9) args s 0 0 (tk_ag G)) (F0 m 81 ls [.ref y0]) := by
    intro x0 x1 x2 x3 x4 y0 h sz H locs ls hf hs hl
    unfold fX5_ring_81 at hf
    refine lv_iconst (v := 0) hx hb dX5_ring_81 (by decide) ?_
    exact j82 x0 x1 x2 x3 x4 0 y0 h sz _ _ _ hf hs (lv_sub hl [0, 1, 2, 3, 4] rfl)
  have j77 : ∀ (x0 : Nat) (x1 : Int32) (x2 : Int32) (x3 : Int32) (x4 : Int32) (y0 : Nat) (h : tk_AH) (sz : Nat) (H : Heap) (locs : List Loc) (ls : Array Slot), fX5_ring_77 N x0 x1 x2 x3 x4 y0 h sz = some (r9, h9, sz9) → tk_sw G s h sz H locs → lv_has ls 6 [(0, .ref x0), (1, .int x1), (2, .int x2), (3, .int x3), (4, .int x4)] → W p l e (headSpec (coX5_ring :: tk_W) ({ frames := 3, cells := 0, slots := 0, locals := 72 })).room s m args below meth c H locs 0 (0) (MQ below (tk_qc G (some (.int r9)) h9 sz9) args s 0 0 (tk_ag G)) (F0 m 77 ls [.ref y0]) := by
    intro x0 x1 x2 x3 x4 y0 h sz H locs ls hf hs hl
    unfold fX5_ring_77 at hf
    refine lv_iconst (v := 1) hx hb dX5_ring_77 (by decide) ?_
    refine lv_goto (tgt := 82) hx hb dX5_ring_78 (by decide) ?_
    exact j82 x0 x1 x2 x3 x4 1 y0 h sz _ _ _ hf hs (lv_sub hl [0, 1, 2, 3, 4] rfl)
  have j47 : ∀ (x0 : Nat) (x1 : Int32) (x2 : Int32) (x3 : Int32) (x4 : Int32) (y0 : Int32) (h : tk_AH) (sz : Nat) (H : Heap) (locs : List Loc) (ls : Array Slot), fX5_ring_47 N x0 x1 x2 x3 x4 y0 h sz = some (r9, h9, sz9) → tk_sw G s h sz H locs → lv_has ls 6 [(0, .ref x0), (1, .int x1), (2, .int x2), (3, .int x3), (4, .int x4)] → W p l e (headSpec (coX5_ring :: tk_W) ({ frames := 3, cells := 0, slots := 0, locals := 72 })).room s m args below meth c H locs 0 (0) (MQ below (tk_qc G (some (.int r9)) h9 sz9) args s 0 0 (tk_ag G)) (F0 m 47 ls [.int y0]) := by
    intro x0 x1 x2 x3 x4 y0 h sz H locs ls hf hs hl
    unfold fX5_ring_47 at hf
    refine lv_istore (lv' := [(5, .int y0), (0, .ref x0), (1, .int x1), (2, .int x2), (3, .int x3), (4, .int x4)]) hx hb dX5_ring_47 hl (by decide) rfl (fun ls hl => ?_)
    refine lv_aload_n hx hb dX5_ring_49 rfl (lv_at hl 1 rfl) ?_
    refine lv_iload hx hb dX5_ring_50 (lv_at hl 0 rfl) ?_
    refine lv_if_eq (tgt := 81) hx hb dX5_ring_52 (by decide) (fun c13 => ?_) (fun c13 => ?_)
    · rw [if_pos c13] at hf
      exact j81 x0 x1 x2 x3 x4 x0 h sz _ _ _ hf hs (lv_sub hl [1, 2, 3, 4, 5] rfl)
    · rw [if_neg c13] at hf
      refine lv_iload hx hb dX5_ring_55 (lv_at hl 5 rfl) ?_
      refine lv_if_eq (tgt := 77) hx hb dX5_ring_57 (by decide) (fun c14 => ?_) (fun c14 => ?_)
      · rw [if_pos c14] at hf
        exact j77 x0 x1 x2 x3 x4 x0 h sz _ _ _ hf hs (lv_sub hl [1, 2, 3, 4, 5] rfl)
      · rw [if_neg c14] at hf
        refine lv_iload_n hx hb dX5_ring_60 rfl (lv_at hl 4 rfl) ?_
        refine lv_iconst (v := (-1)) hx hb dX5_ring_61 (by decide) ?_
        refine lv_icmp_eq (tgt := 81) hx hb dX5_ring_62 (by decide) (fun c15 => ?_) (fun c15 => ?_)
        · rw [if_pos c15] at hf
          exact j81 x0 x1 x2 x3 x4 x0 h sz _ _ _ hf hs (lv_sub hl [1, 2, 3, 4, 5] rfl)
        · rw [if_neg c15] at hf
          refine lv_iload hx hb dX5_ring_65 (lv_at hl 5 rfl) ?_
          refine lv_iconst (v := 1) hx hb dX5_ring_67 (by decide) ?_
          refine lv_icmp_eq (tgt := 77) hx hb dX5_ring_68 (by decide) (fun c16 => ?_) (fun c16 => ?_)
          · rw [if_pos c16] at hf
            exact j77 x0 x1 x2 x3 x4 x0 h sz _ _ _ hf hs (lv_sub hl [1, 2, 3, 4, 5] rfl)
          · rw [if_neg c16] at hf
            refine lv_iload hx hb dX5_ring_71 (lv_at hl 5 rfl) ?_
            refine lv_iconst (v := 2) hx hb dX5_ring_73 (by decide) ?_
            refine lv_icmp_ne (tgt := 81) hx hb dX5_ring_74 (by decide) (fun c17 => ?_) (fun c17 => ?_)
            · rw [if_neg c17] at hf
              exact j81 x0 x1 x2 x3 x4 x0 h sz _ _ _ hf hs (lv_sub hl [1, 2, 3, 4, 5] rfl)
            · rw [if_pos c17] at hf
              exact j77 x0 x1 x2 x3 x4 x0 h sz _ _ _ hf hs (lv_sub hl [1, 2, 3, 4, 5] rfl)
  have j46 : ∀ (x0 : Nat) (x1 : Int32) (x2 : Int32) (x3 : Int32) (x4 : Int32) (h : tk_AH) (sz : Nat) (H : Heap) (locs : List Loc) (ls : Array Slot), fX5_ring_46 N x0 x1 x2 x3 x4 h sz = some (r9, h9, sz9) → tk_sw G s h sz H locs → lv_has ls 6 [(0, .ref x0), (1, .int x1), (2, .int x2), (3, .int x3), (4, .int x4)] → W p l e (headSpec (coX5_ring :: tk_W) ({ frames := 3, cells := 0, slots := 0, locals := 72 })).room s m args below meth c H locs 0 (0) (MQ below (tk_qc G (some (.int r9)) h9 sz9) args s 0 0 (tk_ag G)) (F0 m 46 ls []) := by
    intro x0 x1 x2 x3 x4 h sz H locs ls hf hs hl
    unfold fX5_ring_46 at hf
    refine lv_iconst (v := 0) hx hb dX5_ring_46 (by decide) ?_
    exact j47 x0 x1 x2 x3 x4 0 h sz _ _ _ hf hs (lv_sub hl [0, 1, 2, 3, 4] rfl)
  unfold fX5_ring at hf
  refine lv_aload_n hx hb dX5_ring_0 rfl (lv_at hl 0 rfl) ?_
  refine lv_iconst (v := 0) hx hb dX5_ring_1 (by decide) ?_
  obtain ⟨h18, e18, hf⟩ := tk_bi hf
  refine tk_put hx hb ht inX5 tyX5 tyX5_ok nmX5 hown hE hs rfl 0 (by decide) (ht _ wfX5_89) rfl rfl rfl e18 dX5_ring_2 (fun H locs hs => ?_)
  refine lv_iload_n hx hb dX5_ring_5 rfl (lv_at hl 1 rfl) ?_
  refine lv_if_lt (tgt := 46) hx hb dX5_ring_6 (by decide) (fun c19 => ?_) (fun c19 => ?_)
  · rw [if_pos c19] at hf
    exact j46 x0 x1 x2 x3 x4 h18 sz _ _ _ hf hs (lv_sub hl [0, 1, 2, 3, 4] rfl)
  · rw [if_neg c19] at hf
    refine lv_iload_n hx hb dX5_ring_9 rfl (lv_at hl 1 rfl) ?_
    refine lv_aload_n hx hb dX5_ring_10 rfl (lv_at hl 0 rfl) ?_
    obtain ⟨v20, e20, hf⟩ := tk_bi hf
    refine tk_getI hx hb ht inX5 hown hE hs rfl 1 (by decide) (ht _ wfX5_93) e20 dX5_ring_11 ?_
    refine lv_icmp_ge (tgt := 46) hx hb dX5_ring_14 (by decide) (fun c21 => ?_) (fun c21 => ?_)
    · rw [if_pos c21] at hf
      exact j46 x0 x1 x2 x3 x4 h18 sz _ _ _ hf hs (lv_sub hl [0, 1, 2, 3, 4] rfl)
    · rw [if_neg c21] at hf
      refine lv_iload_n hx hb dX5_ring_17 rfl (lv_at hl 2 rfl) ?_
      refine lv_if_lt (tgt := 46) hx hb dX5_ring_18 (by decide) (fun c22 => ?_) (fun c22 => ?_)
      · rw [if_pos c22] at hf
        exact j46 x0 x1 x2 x3 x4 h18 sz _ _ _ hf hs (lv_sub hl [0, 1, 2, 3, 4] rfl)
      · rw [if_neg c22] at hf
        refine lv_iload_n hx hb dX5_ring_21 rfl (lv_at hl 2 rfl) ?_
        refine lv_aload_n hx hb dX5_ring_22 rfl (lv_at hl 0 rfl) ?_
        obtain ⟨v23, e23, hf⟩ := tk_bi hf
        refine tk_getI hx hb ht inX5 hown hE hs rfl 1 (by decide) (ht _ wfX5_93) e23 dX5_ring_23 ?_
        refine lv_icmp_ge (tgt := 46) hx hb dX5_ring_26 (by decide) (fun c24 => ?_) (fun c24 => ?_)
        · rw [if_pos c24] at hf
          exact j46 x0 x1 x2 x3 x4 h18 sz _ _ _ hf hs (lv_sub hl [0, 1, 2, 3, 4] rfl)
        · rw [if_neg c24] at hf
          refine lv_iload_n hx hb dX5_ring_29 rfl (lv_at hl 3 rfl) ?_
          refine lv_iconst (v := (-1)) hx hb dX5_ring_30 (by decide) ?_
          refine lv_icmp_lt (tgt := 46) hx hb dX5_ring_31 (by decide) (fun c25 => ?_) (fun c25 => ?_)
          · rw [if_pos c25] at hf
            exact j46 x0 x1 x2 x3 x4 h18 sz _ _ _ hf hs (lv_sub hl [0, 1, 2, 3, 4] rfl)
          · rw [if_neg c25] at hf
            refine lv_iload_n hx hb dX5_ring_34 rfl (lv_at hl 3 rfl) ?_
            refine lv_aload_n hx hb dX5_ring_35 rfl (lv_at hl 0 rfl) ?_
            obtain ⟨v26, e26, hf⟩ := tk_bi hf
            refine tk_getI hx hb ht inX5 hown hE hs rfl 1 (by decide) (ht _ wfX5_93) e26 dX5_ring_36 ?_
            refine lv_icmp_ge (tgt := 46) hx hb dX5_ring_39 (by decide) (fun c27 => ?_) (fun c27 => ?_)
            · rw [if_pos c27] at hf
              exact j46 x0 x1 x2 x3 x4 h18 sz _ _ _ hf hs (lv_sub hl [0, 1, 2, 3, 4] rfl)
            · rw [if_neg c27] at hf
              refine lv_iconst (v := 1) hx hb dX5_ring_42 (by decide) ?_
              refine lv_goto (tgt := 47) hx hb dX5_ring_43 (by decide) ?_
              exact j47 x0 x1 x2 x3 x4 1 h18 sz _ _ _ hf hs (lv_sub hl [0, 1, 2, 3, 4] rfl)
def fX5_comes_109 (N : Nat) (x0 : Nat) (y0 : Int32) (y1 : Int32) (y2 : Int32) (y3 : Nat) (h : tk_AH) (sz : Nat) : Option (tk_AH × Nat) :=
  (tk_sI h 0 y3 y2 (y1 + y0)).bind fun h1 =>
  (tk_gI h1 5 27 x0).bind fun v2 =>
  (tk_pF h1 5 27 x0 (.int (v2 + 1))).bind fun h3 =>
  some (h3, sz)
def fX5_comes_67 (N : Nat) (x0 : Nat) (x1 : Int32) (x2 : Int32) (x3 : Int32) (y0 : Int32) (y1 : Int32) (y2 : Int32) (y3 : Nat) (h : tk_AH) (sz : Nat) : Option (tk_AH × Nat) :=
  (tk_sI h 0 y3 y2 (y1 ||| y0)).bind fun h4 =>
  (tk_gR h4 5 30 x0).bind fun v5 =>
  (tk_gI h4 5 27 x0).bind fun v6 =>
  (tk_gR h4 5 14 x0).bind fun v7 =>
  (tk_aI h4 0 v7 x1).bind fun v8 =>
  (tk_gR h4 5 14 x0).bind fun v9 =>
  (tk_aI h4 0 v9 x2).bind fun v10 =>
  if x3 = (-1) then (
  fX5_comes_109 N x0 0 ((2 + v8) + v10) v6 v5 h4 sz) else (
  (tk_gR h4 5 14 x0).bind fun v12 =>
  (tk_aI h4 0 v12 x3).bind fun v13 =>
  fX5_comes_109 N x0 (1 + v13) ((2 + v8) + v10) v6 v5 h4 sz)
def fX5_comes (N : Nat) (x0 : Nat) (x1 : Int32) (x2 : Int32) (x3 : Int32) (h : tk_AH) (sz : Nat) : Option (tk_AH × Nat) :=
  (tk_gR h 5 28 x0).bind fun v14 =>
  (tk_gI h 5 27 x0).bind fun v15 =>
  (tk_sI h 0 v14 (3 * v15) x1).bind fun h16 =>
  (tk_gR h16 5 28 x0).bind fun v17 =>
  (tk_gI h16 5 27 x0).bind fun v18 =>
  (tk_sI h16 0 v17 ((3 * v18) + 1) x2).bind fun h19 =>
  (tk_gR h19 5 28 x0).bind fun v20 =>
  (tk_gI h19 5 27 x0).bind fun v21 =>
  (tk_sI h19 0 v20 ((3 * v21) + 2) x3).bind fun h22 =>
  (tk_gR h22 5 29 x0).bind fun v23 =>
  (tk_gI h22 5 27 x0).bind fun v24 =>
  if x3 = (-1) then (
  fX5_comes_67 N x0 x1 x2 x3 0 ((1 <<< (x1 &&& 31)) ||| (1 <<< (x2 &&& 31))) v24 v23 h22 sz) else (
  fX5_comes_67 N x0 x1 x2 x3 (1 <<< (x3 &&& 31)) ((1 <<< (x1 &&& 31)) ||| (1 <<< (x2 &&& 31))) v24 v23 h22 sz)
set_option maxHeartbeats 8000000 in
set_option maxRecDepth 100000 in
theorem cX5_comes_ok (l : Launch) (hl0 : l.stackTraces = false) (G : tk_AG) (N : Nat) (x0 : Nat) (x1 : Int32) (x2 : Int32) (x3 : Int32) (h : tk_AH) (sz : Nat) (h9 : tk_AH) (sz9 : Nat) (hf : fX5_comes N x0 x1 x2 x3 h sz = some (h9, sz9)) : Met l yX5_comes (coX5_comes :: tk_W) ({ frames := 0, cells := 0, slots := 0, locals := 0 }) (tk_pc G [.ref x0, .int x1, .int x2, .int x3] h sz) (tk_qc G none h9 sz9) 0 0 (tk_ag G) := by
  refine Met.ofW (cc := cX5_comes) (maxL := 4) (ret := none) (by decide) rfl ?_
  intro p e s m args below meth c s₁ B hml hv
  obtain ⟨hav, hE, hrp, hsz, hgs⟩ := hv
  have hx := B.exec
  have hb := B.bytes
  have hr := B.returns
  have hts := atoms_spec (ws := coX5_comes :: tk_W) B.pre
  have ht : ∀ w ∈ tk_W, w.before args s = true := fun w h => hts w (List.mem_cons_of_mem _ h)
  have hown : s.vm.findClass RX5 = some m.cls := findClass_of_methodNamed B.named
  have hlocks := B.notSynchronized
  have hs : tk_sw G s h sz s.heap [] := ⟨hrp, hsz, by rw [hsz]; exact hgs, va_S.rf⟩
  have hl := lv_entry ([.ref x0, .int x1, .int x2, .int x3]) (n := 4) (Nat.le_of_ble_eq_true rfl)
  have hent : entryFrame m args 4 = F0 m 0 (lg_sl ([.ref x0, .int x1, .int x2, .int x3]) ++ List.replicate (4 - (lg_sl ([.ref x0, .int x1, .int x2, .int x3])).length) Slot.unset).toArray [] := by rw [hav, lg_entry_eq]
  rw [hent]
  clear hent
  generalize (lg_sl ([.ref x0, .int x1, .int x2, .int x3]) ++ List.replicate (4 - (lg_sl ([.ref x0, .int x1, .int x2, .int x3])).length) Slot.unset).toArray = ls at hl ⊢
  have hl : lv_has ls 4 [(0, .ref x0), (1, .int x1), (2, .int x2), (3, .int x3)] := hl
  have j109 : ∀ (x0 : Nat) (y0 : Int32) (y1 : Int32) (y2 : Int32) (y3 : Nat) (h : tk_AH) (sz : Nat) (H : Heap) (locs : List Loc) (ls : Array Slot), fX5_comes_109 N x0 y0 y1 y2 y3 h sz = some (h9, sz9) → tk_sw G s h sz H locs → lv_has ls 4 [(0, .ref x0)] → W p l e (headSpec (coX5_comes :: tk_W) ({ frames := 0, cells := 0, slots := 0, locals := 0 })).room s m args below meth c H locs 0 (0) (MQ below (tk_qc G none h9 sz9) args s 0 0 (tk_ag G)) (F0 m 109 ls [.int y0, .int y1, .int y2, .ref y3]) := by
    intro x0 y0 y1 y2 y3 h sz H locs ls hf hs hl
    unfold fX5_comes_109 at hf
    refine lv_iadd hx hb dX5_comes_109 ?_
    obtain ⟨h1, e1, hf⟩ := tk_bi hf
    refine tk_iast hx hb hE hs e1 dX5_comes_110 (fun H locs hs => ?_)
    refine lv_aload_n hx hb dX5_comes_111 rfl (lv_at hl 0 rfl) ?_
    refine lv_dup hx hb dX5_comes_112 rfl ?_
    obtain ⟨v2, e2, hf⟩ := tk_bi hf
    refine tk_getI hx hb ht inX5 hown hE hs rfl 27 (by decide) (ht _ wfX5_136) e2 dX5_comes_113 ?_
    refine lv_iconst (v := 1) hx hb dX5_comes_116 (by decide) ?_
    refine lv_iadd hx hb dX5_comes_117 ?_
    obtain ⟨h3, e3, hf⟩ := tk_bi hf
    refine tk_put hx hb ht inX5 tyX5 tyX5_ok nmX5 hown hE hs rfl 27 (by decide) (ht _ wfX5_136) rfl rfl rfl e3 dX5_comes_118 (fun H locs hs => ?_)
    cases hf
    exact tk_vret hx hb hr hlocks hs dX5_comes_121
  have j67 : ∀ (x0 : Nat) (x1 : Int32) (x2 : Int32) (x3 : Int32) (y0 : Int32) (y1 : Int32) (y2 : Int32) (y3 : Nat) (h : tk_AH) (sz : Nat) (H : Heap) (locs : List Loc) (ls : Array Slot), fX5_comes_67 N x0 x1 x2 x3 y0 y1 y2 y3 h sz = some (h9, sz9) → tk_sw G s h sz H locs → lv_has ls 4 [(0, .ref x0), (1, .int x1), (2, .int x2), (3, .int x3)] → W p l e (headSpec (coX5_comes :: tk_W) ({ frames := 0, cells := 0, slots := 0, locals := 0 })).room s m args below meth c H locs 0 (0) (MQ below (tk_qc G none h9 sz9) args s 0 0 (tk_ag G)) (F0 m 67 ls [.int y0, .int y1, .int y2, .ref y3]) := by
    intro x0 x1 x2 x3 y0 y1 y2 y3 h sz H locs ls hf hs hl
    unfold fX5_comes_67 at hf
    refine lv_ior hx hb dX5_comes_67 ?_
    obtain ⟨h4, e4, hf⟩ := tk_bi hf
    refine tk_iast hx hb hE hs e4 dX5_comes_68 (fun H locs hs => ?_)
    refine lv_aload_n hx hb dX5_comes_69 rfl (lv_at hl 0 rfl) ?_
    obtain ⟨v5, e5, hf⟩ := tk_bi hf
    refine tk_getR hx hb ht inX5 hown hE hs rfl 30 (by decide) (ht _ wfX5_74) e5 dX5_comes_70 ?_
    refine lv_aload_n hx hb dX5_comes_73 rfl (lv_at hl 0 rfl) ?_
    obtain ⟨v6, e6, hf⟩ := tk_bi hf
    refine tk_getI hx hb ht inX5 hown hE hs rfl 27 (by decide) (ht _ wfX5_136) e6 dX5_comes_74 ?_
    refine lv_iconst (v := 2) hx hb dX5_comes_77 (by decide) ?_
    refine lv_aload_n hx hb dX5_comes_78 rfl (lv_at hl 0 rfl) ?_
    obtain ⟨v7, e7, hf⟩ := tk_bi hf
    refine tk_getR hx hb ht inX5 hown hE hs rfl 14 (by decide) (ht _ wfX5_37) e7 dX5_comes_79 ?_
    refine lv_iload_n hx hb dX5_comes_82 rfl (lv_at hl 1 rfl) ?_
    obtain ⟨v8, e8, hf⟩ := tk_bi hf
    refine tk_iald hx hb hE hs e8 dX5_comes_83 ?_
    refine lv_iadd hx hb dX5_comes_84 ?_
    refine lv_aload_n hx hb dX5_comes_85 rfl (lv_at hl 0 rfl) ?_
    obtain ⟨v9, e9, hf⟩ := tk_bi hf
    refine tk_getR hx hb ht inX5 hown hE hs rfl 14 (by decide) (ht _ wfX5_37) e9 dX5_comes_86 ?_
    refine lv_iload_n hx hb dX5_comes_89 rfl (lv_at hl 2 rfl) ?_
    obtain ⟨v10, e10, hf⟩ := tk_bi hf
    refine tk_iald hx hb hE hs e10 dX5_comes_90 ?_
    refine lv_iadd hx hb dX5_comes_91 ?_
    refine lv_iload_n hx hb dX5_comes_92 rfl (lv_at hl 3 rfl) ?_
    refine lv_iconst (v := (-1)) hx hb dX5_comes_93 (by decide) ?_
    refine lv_icmp_ne (tgt := 101) hx hb dX5_comes_94 (by decide) (fun c11 => ?_) (fun c11 => ?_)
    · rw [if_neg c11] at hf
      refine lv_iconst (v := 1) hx hb dX5_comes_101 (by decide) ?_
      refine lv_aload_n hx hb dX5_comes_102 rfl (lv_at hl 0 rfl) ?_
      obtain ⟨v12, e12, hf⟩ := tk_bi hf
      refine tk_getR hx hb ht inX5 hown hE hs rfl 14 (by decide) (ht _ wfX5_37) e12 dX5_comes_103 ?_
      refine lv_iload_n hx hb dX5_comes_106 rfl (lv_at hl 3 rfl) ?_
      obtain ⟨v13, e13, hf⟩ := tk_bi hf
      refine tk_iald hx hb hE hs e13 dX5_comes_107 ?_
      refine lv_iadd hx hb dX5_comes_108 ?_
      exact j109 x0 (1 + v13) ((2 + v8) + v10) v6 v5 h4 sz _ _ _ hf hs (lv_sub hl [0] rfl)
    · rw [if_pos c11] at hf
      refine lv_iconst (v := 0) hx hb dX5_comes_97 (by decide) ?_
      refine lv_goto (tgt := 109) hx hb dX5_comes_98 (by decide) ?_
      exact j109 x0 0 ((2 + v8) + v10) v6 v5 h4 sz _ _ _ hf hs (lv_sub hl [0] rfl)
  unfold fX5_comes at hf
  refine lv_aload_n hx hb dX5_comes_0 rfl (lv_at hl 0 rfl) ?_
  obtain ⟨v14, e14, hf⟩ := tk_bi hf
  refine tk_getR hx hb ht inX5 hown hE hs rfl 28 (by decide) (ht _ wfX5_68) e14 dX5_comes_1 ?_
  refine lv_iconst (v := 3) hx hb dX5_comes_4 (by decide) ?_
  refine lv_aload_n hx hb dX5_comes_5 rfl (lv_at hl 0 rfl) ?_
  obtain ⟨v15, e15, hf⟩ := tk_bi hf
  refine tk_getI hx hb ht inX5 hown hE hs rfl 27 (by decide) (ht _ wfX5_136) e15 dX5_comes_6 ?_
  refine lv_imul hx hb dX5_comes_9 ?_
  refine lv_iload_n hx hb dX5_comes_10 rfl (lv_at hl 1 rfl) ?_
  obtain ⟨h16, e16, hf⟩ := tk_bi hf
  refine tk_iast hx hb hE hs e16 dX5_comes_11 (fun H locs hs => ?_)
  refine lv_aload_n hx hb dX5_comes_12 rfl (lv_at hl 0 rfl) ?_
  obtain ⟨v17, e17, hf⟩ := tk_bi hf
  refine tk_getR hx hb ht inX5 hown hE hs rfl 28 (by decide) (ht _ wfX5_68) e17 dX5_comes_13 ?_
  refine lv_iconst (v := 3) hx hb dX5_comes_16 (by decide) ?_
  refine lv_aload_n hx hb dX5_comes_17 rfl (lv_at hl 0 rfl) ?_
  obtain ⟨v18, e18, hf⟩ := tk_bi hf
  refine tk_getI hx hb ht inX5 hown hE hs rfl 27 (by decide) (ht _ wfX5_136) e18 dX5_comes_18 ?_
  refine lv_imul hx hb dX5_comes_21 ?_
  refine lv_iconst (v := 1) hx hb dX5_comes_22 (by decide) ?_
  refine lv_iadd hx hb dX5_comes_23 ?_
  refine lv_iload_n hx hb dX5_comes_24 rfl (lv_at hl 2 rfl) ?_
  obtain ⟨h19, e19, hf⟩ := tk_bi hf
  refine tk_iast hx hb hE hs e19 dX5_comes_25 (fun H locs hs => ?_)
  refine lv_aload_n hx hb dX5_comes_26 rfl (lv_at hl 0 rfl) ?_
  obtain ⟨v20, e20, hf⟩ := tk_bi hf
  refine tk_getR hx hb ht inX5 hown hE hs rfl 28 (by decide) (ht _ wfX5_68) e20 dX5_comes_27 ?_
  refine lv_iconst (v := 3) hx hb dX5_comes_30 (by decide) ?_
  refine lv_aload_n hx hb dX5_comes_31 rfl (lv_at hl 0 rfl) ?_
  obtain ⟨v21, e21, hf⟩ := tk_bi hf
  refine tk_getI hx hb ht inX5 hown hE hs rfl 27 (by decide) (ht _ wfX5_136) e21 dX5_comes_32 ?_
  refine lv_imul hx hb dX5_comes_35 ?_
  refine lv_iconst (v := 2) hx hb dX5_comes_36 (by decide) ?_
  refine lv_iadd hx hb dX5_comes_37 ?_
  refine lv_iload_n hx hb dX5_comes_38 rfl (lv_at hl 3 rfl) ?_
  obtain ⟨h22, e22, hf⟩ := tk_bi hf
  refine tk_iast hx hb hE hs e22 dX5_comes_39 (fun H locs hs => ?_)
  refine lv_aload_n hx hb dX5_comes_40 rfl (lv_at hl 0 rfl) ?_
  obtain ⟨v23, e23, hf⟩ := tk_bi hf
  refine tk_getR hx hb ht inX5 hown hE hs rfl 29 (by decide) (ht _ wfX5_71) e23 dX5_comes_41 ?_
  refine lv_aload_n hx hb dX5_comes_44 rfl (lv_at hl 0 rfl) ?_
  obtain ⟨v24, e24, hf⟩ := tk_bi hf
  refine tk_getI hx hb ht inX5 hown hE hs rfl 27 (by decide) (ht _ wfX5_136) e24 dX5_comes_45 ?_
  refine lv_iconst (v := 1) hx hb dX5_comes_48 (by decide) ?_
  refine lv_iload_n hx hb dX5_comes_49 rfl (lv_at hl 1 rfl) ?_
  refine lv_ishl hx hb dX5_comes_50 ?_
  refine lv_iconst (v := 1) hx hb dX5_comes_51 (by decide) ?_
  refine lv_iload_n hx hb dX5_comes_52 rfl (lv_at hl 2 rfl) ?_
  refine lv_ishl hx hb dX5_comes_53 ?_
  refine lv_ior hx hb dX5_comes_54 ?_
  refine lv_iload_n hx hb dX5_comes_55 rfl (lv_at hl 3 rfl) ?_
  refine lv_iconst (v := (-1)) hx hb dX5_comes_56 (by decide) ?_
  refine lv_icmp_ne (tgt := 64) hx hb dX5_comes_57 (by decide) (fun c25 => ?_) (fun c25 => ?_)
  · rw [if_neg c25] at hf
    refine lv_iconst (v := 1) hx hb dX5_comes_64 (by decide) ?_
    refine lv_iload_n hx hb dX5_comes_65 rfl (lv_at hl 3 rfl) ?_
    refine lv_ishl hx hb dX5_comes_66 ?_
    exact j67 x0 x1 x2 x3 (1 <<< (x3 &&& 31)) ((1 <<< (x1 &&& 31)) ||| (1 <<< (x2 &&& 31))) v24 v23 h22 sz _ _ _ hf hs (lv_sub hl [0, 1, 2, 3] rfl)
  · rw [if_pos c25] at hf
    refine lv_iconst (v := 0) hx hb dX5_comes_60 (by decide) ?_
    refine lv_goto (tgt := 67) hx hb dX5_comes_61 (by decide) ?_
    exact j67 x0 x1 x2 x3 0 ((1 <<< (x1 &&& 31)) ||| (1 <<< (x2 &&& 31))) v24 v23 h22 sz _ _ _ hf hs (lv_sub hl [0, 1, 2, 3] rfl)
def fX5_finds_82 (N : Nat) (k57 : Nat → Int32 → Int32 → Int32 → tk_AH → Nat → Option (tk_AH × Nat)) (x0 : Nat) (x1 : Int32) (x2 : Int32) (x3 : Int32) (h : tk_AH) (sz : Nat) : Option (tk_AH × Nat) :=
  k57 x0 x1 x2 (x3 + 1) h sz
def fX5_finds_57 (N : Nat) (k29 : Nat → Int32 → Int32 → tk_AH → Nat → Option (tk_AH × Nat)) : Nat → Nat → Int32 → Int32 → Int32 → tk_AH → Nat → Option (tk_AH × Nat)
  | 0, _, _, _, _, _, _ => none
  | n + 1, x0, x1, x2, x3, h, sz =>
  (tk_gI h 5 1 x0).bind fun v1 =>
  if v1 ≤ x3 then (
  k29 x0 x1 (x2 + 1) h sz) else (
  (tk_ok h 5 x0).bind fun _ =>
  (fX5_isThree N x0 x1 x2 x3 h sz).bind fun o3 =>
  if o3.1 = 0 then (
  fX5_finds_82 N (fX5_finds_57 N k29 n) x0 x1 x2 x3 o3.2.1 o3.2.2) else (
  (tk_ok o3.2.1 5 x0).bind fun _ =>
  (fX5_comes N x0 x1 x2 x3 o3.2.1 o3.2.2).bind fun o6 =>
  fX5_finds_82 N (fX5_finds_57 N k29 n) x0 x1 x2 x3 o6.1 o6.2))
def fX5_finds_53 (N : Nat) (k29 : Nat → Int32 → Int32 → tk_AH → Nat → Option (tk_AH × Nat)) (x0 : Nat) (x1 : Int32) (x2 : Int32) (h : tk_AH) (sz : Nat) : Option (tk_AH × Nat) :=
  fX5_finds_57 N k29 N x0 x1 x2 (x1 + 1) h sz
def fX5_finds_29 (N : Nat) (k7 : Nat → Int32 → tk_AH → Nat → Option (tk_AH × Nat)) : Nat → Nat → Int32 → Int32 → tk_AH → Nat → Option (tk_AH × Nat)
  | 0, _, _, _, _, _ => none
  | n + 1, x0, x1, x2, h, sz =>
  (tk_gI h 5 1 x0).bind fun v8 =>
  if v8 ≤ x2 then (
  k7 x0 (x1 + 1) h sz) else (
  (tk_ok h 5 x0).bind fun _ =>
  (fX5_isPair N x0 x1 x2 h sz).bind fun o10 =>
  if o10.1 = 0 then (
  fX5_finds_53 N (fX5_finds_29 N k7 n) x0 x1 x2 o10.2.1 o10.2.2) else (
  (tk_ok o10.2.1 5 x0).bind fun _ =>
  (fX5_comes N x0 x1 x2 (-1) o10.2.1 o10.2.2).bind fun o13 =>
  fX5_finds_53 N (fX5_finds_29 N k7 n) x0 x1 x2 o13.1 o13.2))
def fX5_finds_7 (N : Nat) : Nat → Nat → Int32 → tk_AH → Nat → Option (tk_AH × Nat)
  | 0, _, _, _, _ => none
  | n + 1, x0, x1, h, sz =>
  (tk_gI h 5 1 x0).bind fun v15 =>
  if v15 ≤ x1 then (
  (tk_gR h 5 31 x0).bind fun v17 =>
  (tk_gI h 5 1 x0).bind fun v18 =>
  (tk_gI h 5 27 x0).bind fun v19 =>
  (tk_sI h 0 v17 v18 v19).bind fun h20 =>
  some (h20, sz)) else (
  (tk_gR h 5 31 x0).bind fun v21 =>
  (tk_gI h 5 27 x0).bind fun v22 =>
  (tk_sI h 0 v21 x1 v22).bind fun h23 =>
  fX5_finds_29 N (fX5_finds_7 N n) N x0 x1 (x1 + 1) h23 sz)
def fX5_finds (N : Nat) (x0 : Nat) (h : tk_AH) (sz : Nat) : Option (tk_AH × Nat) :=
  (tk_pF h 5 27 x0 (.int 0)).bind fun h24 =>
  fX5_finds_7 N N x0 0 h24 sz
set_option maxHeartbeats 8000000 in
set_option maxRecDepth 100000 in
theorem cX5_finds_ok (l : Launch) (hl0 : l.stackTraces = false) (G : tk_AG) (N : Nat) (x0 : Nat) (h : tk_AH) (sz : Nat) (h9 : tk_AH) (sz9 : Nat) (hf : fX5_finds N x0 h sz = some (h9, sz9)) : Met l yX5_finds (coX5_finds :: tk_W) ({ frames := 3, cells := 0, slots := 0, locals := 72 }) (tk_pc G [.ref x0] h sz) (tk_qc G none h9 sz9) 0 0 (tk_ag G) := by
  refine Met.ofW (cc := cX5_finds) (maxL := 4) (ret := none) (by decide) rfl ?_
  intro p e s m args below meth c s₁ B hml hv
  obtain ⟨hav, hE, hrp, hsz, hgs⟩ := hv
  have hx := B.exec
  have hb := B.bytes
  have hr := B.returns
  have hts := atoms_spec (ws := coX5_finds :: tk_W) B.pre
  have ht : ∀ w ∈ tk_W, w.before args s = true := fun w h => hts w (List.mem_cons_of_mem _ h)
  have hown : s.vm.findClass RX5 = some m.cls := findClass_of_methodNamed B.named
  have hlocks := B.notSynchronized
  have hs : tk_sw G s h sz s.heap [] := ⟨hrp, hsz, by rw [hsz]; exact hgs, va_S.rf⟩
  have hl := lv_entry ([.ref x0]) (n := 4) (Nat.le_of_ble_eq_true rfl)
  have hent : entryFrame m args 4 = F0 m 0 (lg_sl ([.ref x0]) ++ List.replicate (4 - (lg_sl ([.ref x0])).length) Slot.unset).toArray [] := by rw [hav, lg_entry_eq]
  rw [hent]
  clear hent
  generalize (lg_sl ([.ref x0]) ++ List.replicate (4 - (lg_sl ([.ref x0])).length) Slot.unset).toArray = ls at hl ⊢
  have hl : lv_has ls 4 [(0, .ref x0)] := hl
  have j82 : ∀ (k57 : Nat → Int32 → Int32 → Int32 → tk_AH → Nat → Option (tk_AH × Nat)), (∀ (x0 : Nat) (x1 : Int32) (x2 : Int32) (x3 : Int32) (h : tk_AH) (sz : Nat) (H : Heap) (locs : List Loc) (ls : Array Slot), k57 x0 x1 x2 x3 h sz = some (h9, sz9) → tk_sw G s h sz H locs → lv_has ls 4 [(0, .ref x0), (1, .int x1), (2, .int x2), (3, .int x3)] → W p l e (headSpec (coX5_finds :: tk_W) ({ frames := 3, cells := 0, slots := 0, locals := 72 })).room s m args below meth c H locs 0 (0) (MQ below (tk_qc G none h9 sz9) args s 0 0 (tk_ag G)) (F0 m 57 ls [])) → ∀ (x0 : Nat) (x1 : Int32) (x2 : Int32) (x3 : Int32) (h : tk_AH) (sz : Nat) (H : Heap) (locs : List Loc) (ls : Array Slot), fX5_finds_82 N k57 x0 x1 x2 x3 h sz = some (h9, sz9) → tk_sw G s h sz H locs → lv_has ls 4 [(0, .ref x0), (1, .int x1), (2, .int x2), (3, .int x3)] → W p l e (headSpec (coX5_finds :: tk_W) ({ frames := 3, cells := 0, slots := 0, locals := 72 })).room s m args below meth c H locs 0 (0) (MQ below (tk_qc G none h9 sz9) args s 0 0 (tk_ag G)) (F0 m 82 ls []) := by
    intro k57 hk57 x0 x1 x2 x3 h sz H locs ls hf hs hl
    unfold fX5_finds_82 at hf
    refine lv_iinc (v := x3 + 1) (lv' := [(3, .int (x3 + 1)), (0, .ref x0), (1, .int x1), (2, .int x2)]) hx hb dX5_finds_82 hl (k := 3) rfl rfl (by decide) rfl (fun ls hl => ?_)
    refine lv_goto (tgt := 57) hx hb dX5_finds_85 (by decide) ?_
    exact hk57 x0 x1 x2 (x3 + 1) h sz _ _ _ hf hs (lv_sub hl [1, 2, 3, 0] rfl)
  have j57 : ∀ (k29 : Nat → Int32 → Int32 → tk_AH → Nat → Option (tk_AH × Nat)), (∀ (x0 : Nat) (x1 : Int32) (x2 : Int32) (h : tk_AH) (sz : Nat) (H : Heap) (locs : List Loc) (ls : Array Slot), k29 x0 x1 x2 h sz = some (h9, sz9) → tk_sw G s h sz H locs → lv_has ls 4 [(0, .ref x0), (1, .int x1), (2, .int x2)] → W p l e (headSpec (coX5_finds :: tk_W) ({ frames := 3, cells := 0, slots := 0, locals := 72 })).room s m args below meth c H locs 0 (0) (MQ below (tk_qc G none h9 sz9) args s 0 0 (tk_ag G)) (F0 m 29 ls [])) → ∀ (n : Nat), ∀ (x0 : Nat) (x1 : Int32) (x2 : Int32) (x3 : Int32) (h : tk_AH) (sz : Nat) (H : Heap) (locs : List Loc) (ls : Array Slot), fX5_finds_57 N k29 n x0 x1 x2 x3 h sz = some (h9, sz9) → tk_sw G s h sz H locs → lv_has ls 4 [(0, .ref x0), (1, .int x1), (2, .int x2), (3, .int x3)] → W p l e (headSpec (coX5_finds :: tk_W) ({ frames := 3, cells := 0, slots := 0, locals := 72 })).room s m args below meth c H locs 0 (0) (MQ below (tk_qc G none h9 sz9) args s 0 0 (tk_ag G)) (F0 m 57 ls []) := by
    intro k29 hk29 n
    induction n with
    | zero =>
      intro x0 x1 x2 x3 h sz H locs ls hf
      cases hf
    | succ n ih =>
      intro x0 x1 x2 x3 h sz H locs ls hf hs hl
      rw [fX5_finds_57] at hf
      refine lv_iload_n hx hb dX5_finds_57 rfl (lv_at hl 3 rfl) ?_
      refine lv_aload_n hx hb dX5_finds_58 rfl (lv_at hl 0 rfl) ?_
      obtain ⟨v1, e1, hf⟩ := tk_bi hf
      refine tk_getI hx hb ht inX5 hown hE hs rfl 1 (by decide) (ht _ wfX5_93) e1 dX5_finds_59 ?_
      refine lv_icmp_ge (tgt := 88) hx hb dX5_finds_62 (by decide) (fun c2 => ?_) (fun c2 => ?_)
      · rw [if_pos c2] at hf
        refine lv_iinc (v := x2 + 1) (lv' := [(2, .int (x2 + 1)), (0, .ref x0), (1, .int x1), (3, .int x3)]) hx hb dX5_finds_88 hl (k := 2) rfl rfl (by decide) rfl (fun ls hl => ?_)
        refine lv_goto (tgt := 29) hx hb dX5_finds_91 (by decide) ?_
        exact hk29 x0 x1 (x2 + 1) h sz _ _ _ hf hs (lv_sub hl [1, 2, 0] rfl)
      · rw [if_neg c2] at hf
        refine lv_aload_n hx hb dX5_finds_65 rfl (lv_at hl 0 rfl) ?_
        refine lv_iload_n hx hb dX5_finds_66 rfl (lv_at hl 1 rfl) ?_
        refine lv_iload_n hx hb dX5_finds_67 rfl (lv_at hl 2 rfl) ?_
        refine lv_iload_n hx hb dX5_finds_68 rfl (lv_at hl 3 rfl) ?_
        obtain ⟨_, p3, hf⟩ := tk_bi hf
        obtain ⟨o3, e3, hf⟩ := tk_bi hf
        refine tk_call0 (v := some (.int o3.1)) hs (va_runV (As := [.int x1, .int x2, .int x3]) (rest := []) ⟨hx, hb, hml, hown, ht⟩ (cX5_isThree_ok l hl0 G N x0 x1 x2 x3 h sz o3.1 o3.2.1 o3.2.2 e3) (kwX5_isThree ht wmX5_132 rfl rfl ⟨Nat.le_of_ble_eq_true rfl, Nat.le_of_ble_eq_true rfl⟩) (tk_preV hE hs (tk_ok_ok p3) rfl) rfl rfl hl.1 rfl (lv_room (Nat.le_of_ble_eq_true rfl)) dX5_finds_69 ⟨(Nat.le_of_ble_eq_true rfl), (Nat.le_of_ble_eq_true rfl)⟩) (fun H locs hs => ?_)
        refine W.eq (g2 := F0 m 72 ls [.int o3.1]) rfl ?_
        refine lv_if_eq (tgt := 82) hx hb dX5_finds_72 (by decide) (fun c5 => ?_) (fun c5 => ?_)
        · rw [if_pos c5] at hf
          exact j82 (fX5_finds_57 N k29 n) ih x0 x1 x2 x3 o3.2.1 o3.2.2 _ _ _ hf hs (lv_sub hl [0, 1, 2, 3] rfl)
        · rw [if_neg c5] at hf
          refine lv_aload_n hx hb dX5_finds_75 rfl (lv_at hl 0 rfl) ?_
          refine lv_iload_n hx hb dX5_finds_76 rfl (lv_at hl 1 rfl) ?_
          refine lv_iload_n hx hb dX5_finds_77 rfl (lv_at hl 2 rfl) ?_
          refine lv_iload_n hx hb dX5_finds_78 rfl (lv_at hl 3 rfl) ?_
          obtain ⟨_, p6, hf⟩ := tk_bi hf
          obtain ⟨o6, e6, hf⟩ := tk_bi hf
          refine tk_call0 (v := none) hs (va_runV (As := [.int x1, .int x2, .int x3]) (rest := []) ⟨hx, hb, hml, hown, ht⟩ (cX5_comes_ok l hl0 G N x0 x1 x2 x3 o3.2.1 o3.2.2 o6.1 o6.2 e6) (kwX5_comes ht wmX5_139 rfl rfl ⟨Nat.le_of_ble_eq_true rfl, Nat.le_of_ble_eq_true rfl⟩) (tk_preV hE hs (tk_ok_ok p6) rfl) rfl rfl hl.1 rfl (lv_room (Nat.le_of_ble_eq_true rfl)) dX5_finds_79 ⟨(Nat.le_of_ble_eq_true rfl), (Nat.le_of_ble_eq_true rfl)⟩) (fun H locs hs => ?_)
          refine W.eq (g2 := F0 m 82 ls []) rfl ?_
          exact j82 (fX5_finds_57 N k29 n) ih x0 x1 x2 x3 o6.1 o6.2 _ _ _ hf hs (lv_sub hl [0, 1, 2, 3] rfl)
  have j53 : ∀ (k29 : Nat → Int32 → Int32 → tk_AH → Nat → Option (tk_AH × Nat)), (∀ (x0 : Nat) (x1 : Int32) (x2 : Int32) (h : tk_AH) (sz : Nat) (H : Heap) (locs : List Loc) (ls : Array Slot), k29 x0 x1 x2 h sz = some (h9, sz9) → tk_sw G s h sz H locs → lv_has ls 4 [(0, .ref x0), (1, .int x1), (2, .int x2)] → W p l e (headSpec (coX5_finds :: tk_W) ({ frames := 3, cells := 0, slots := 0, locals := 72 })).room s m args below meth c H locs 0 (0) (MQ below (tk_qc G none h9 sz9) args s 0 0 (tk_ag G)) (F0 m 29 ls [])) → ∀ (x0 : Nat) (x1 : Int32) (x2 : Int32) (h : tk_AH) (sz : Nat) (H : Heap) (locs : List Loc) (ls : Array Slot), fX5_finds_53 N k29 x0 x1 x2 h sz = some (h9, sz9) → tk_sw G s h sz H locs → lv_has ls 4 [(0, .ref x0), (1, .int x1), (2, .int x2)] → W p l e (headSpec (coX5_finds :: tk_W) ({ frames := 3, cells := 0, slots := 0, locals := 72 })).room s m args below meth c H locs 0 (0) (MQ below (tk_qc G none h9 sz9) args s 0 0 (tk_ag G)) (F0 m 53 ls []) := by
    intro k29 hk29 x0 x1 x2 h sz H locs ls hf hs hl
    unfold fX5_finds_53 at hf
    refine lv_iload_n hx hb dX5_finds_53 rfl (lv_at hl 1 rfl) ?_
    refine lv_iconst (v := 1) hx hb dX5_finds_54 (by decide) ?_
    refine lv_iadd hx hb dX5_finds_55 ?_
    refine lv_istore_n (lv' := [(3, .int (x1 + 1)), (0, .ref x0), (1, .int x1), (2, .int x2)]) hx hb dX5_finds_56 rfl hl (by decide) rfl (fun ls hl => ?_)
    exact j57 k29 hk29 N x0 x1 x2 (x1 + 1) h sz _ _ _ hf hs (lv_sub hl [1, 2, 3, 0] rfl)
  have j29 : ∀ (k7 : Nat → Int32 → tk_AH → Nat → Option (tk_AH × Nat)), (∀ (x0 : Nat) (x1 : Int32) (h : tk_AH) (sz : Nat) (H : Heap) (locs : List Loc) (ls : Array Slot), k7 x0 x1 h sz = some (h9, sz9) → tk_sw G s h sz H locs → lv_has ls 4 [(0, .ref x0), (1, .int x1)] → W p l e (headSpec (coX5_finds :: tk_W) ({ frames := 3, cells := 0, slots := 0, locals := 72 })).room s m args below meth c H locs 0 (0) (MQ below (tk_qc G none h9 sz9) args s 0 0 (tk_ag G)) (F0 m 7 ls [])) → ∀ (n : Nat), ∀ (x0 : Nat) (x1 : Int32) (x2 : Int32) (h : tk_AH) (sz : Nat) (H : Heap) (locs : List Loc) (ls : Array Slot), fX5_finds_29 N k7 n x0 x1 x2 h sz = some (h9, sz9) → tk_sw G s h sz H locs → lv_has ls 4 [(0, .ref x0), (1, .int x1), (2, .int x2)] → W p l e (headSpec (coX5_finds :: tk_W) ({ frames := 3, cells := 0, slots := 0, locals := 72 })).room s m args below meth c H locs 0 (0) (MQ below (tk_qc G none h9 sz9) args s 0 0 (tk_ag G)) (F0 m 29 ls []) := by
    intro k7 hk7 n
    induction n with
    | zero =>
      intro x0 x1 x2 h sz H locs ls hf
      cases hf
    | succ n ih =>
      intro x0 x1 x2 h sz H locs ls hf hs hl
      rw [fX5_finds_29] at hf
      refine lv_iload_n hx hb dX5_finds_29 rfl (lv_at hl 2 rfl) ?_
      refine lv_aload_n hx hb dX5_finds_30 rfl (lv_at hl 0 rfl) ?_
      obtain ⟨v8, e8, hf⟩ := tk_bi hf
      refine tk_getI hx hb ht inX5 hown hE hs rfl 1 (by decide) (ht _ wfX5_93) e8 dX5_finds_31 ?_
      refine lv_icmp_ge (tgt := 94) hx hb dX5_finds_34 (by decide) (fun c9 => ?_) (fun c9 => ?_)
      · rw [if_pos c9] at hf
        refine lv_iinc (v := x1 + 1) (lv' := [(1, .int (x1 + 1)), (0, .ref x0), (2, .int x2)]) hx hb dX5_finds_94 hl (k := 1) rfl rfl (by decide) rfl (fun ls hl => ?_)
        refine lv_goto (tgt := 7) hx hb dX5_finds_97 (by decide) ?_
        exact hk7 x0 (x1 + 1) h sz _ _ _ hf hs (lv_sub hl [1, 0] rfl)
      · rw [if_neg c9] at hf
        refine lv_aload_n hx hb dX5_finds_37 rfl (lv_at hl 0 rfl) ?_
        refine lv_iload_n hx hb dX5_finds_38 rfl (lv_at hl 1 rfl) ?_
        refine lv_iload_n hx hb dX5_finds_39 rfl (lv_at hl 2 rfl) ?_
        obtain ⟨_, p10, hf⟩ := tk_bi hf
        obtain ⟨o10, e10, hf⟩ := tk_bi hf
        refine tk_call0 (v := some (.int o10.1)) hs (va_runV (As := [.int x1, .int x2]) (rest := []) ⟨hx, hb, hml, hown, ht⟩ (cX5_isPair_ok l hl0 G N x0 x1 x2 h sz o10.1 o10.2.1 o10.2.2 e10) (kwX5_isPair ht wmX5_129 rfl rfl ⟨Nat.le_of_ble_eq_true rfl, Nat.le_of_ble_eq_true rfl⟩) (tk_preV hE hs (tk_ok_ok p10) rfl) rfl rfl hl.1 rfl (lv_room (Nat.le_of_ble_eq_true rfl)) dX5_finds_40 ⟨(Nat.le_of_ble_eq_true rfl), (Nat.le_of_ble_eq_true rfl)⟩) (fun H locs hs => ?_)
        refine W.eq (g2 := F0 m 43 ls [.int o10.1]) rfl ?_
        refine lv_if_eq (tgt := 53) hx hb dX5_finds_43 (by decide) (fun c12 => ?_) (fun c12 => ?_)
        · rw [if_pos c12] at hf
          exact j53 (fX5_finds_29 N k7 n) ih x0 x1 x2 o10.2.1 o10.2.2 _ _ _ hf hs (lv_sub hl [0, 1, 2] rfl)
        · rw [if_neg c12] at hf
          refine lv_aload_n hx hb dX5_finds_46 rfl (lv_at hl 0 rfl) ?_
          refine lv_iload_n hx hb dX5_finds_47 rfl (lv_at hl 1 rfl) ?_
          refine lv_iload_n hx hb dX5_finds_48 rfl (lv_at hl 2 rfl) ?_
          refine lv_iconst (v := (-1)) hx hb dX5_finds_49 (by decide) ?_
          obtain ⟨_, p13, hf⟩ := tk_bi hf
          obtain ⟨o13, e13, hf⟩ := tk_bi hf
          refine tk_call0 (v := none) hs (va_runV (As := [.int x1, .int x2, .int (-1)]) (rest := []) ⟨hx, hb, hml, hown, ht⟩ (cX5_comes_ok l hl0 G N x0 x1 x2 (-1) o10.2.1 o10.2.2 o13.1 o13.2 e13) (kwX5_comes ht wmX5_139 rfl rfl ⟨Nat.le_of_ble_eq_true rfl, Nat.le_of_ble_eq_true rfl⟩) (tk_preV hE hs (tk_ok_ok p13) rfl) rfl rfl hl.1 rfl (lv_room (Nat.le_of_ble_eq_true rfl)) dX5_finds_50 ⟨(Nat.le_of_ble_eq_true rfl), (Nat.le_of_ble_eq_true rfl)⟩) (fun H locs hs => ?_)
          refine W.eq (g2 := F0 m 53 ls []) rfl ?_
          exact j53 (fX5_finds_29 N k7 n) ih x0 x1 x2 o13.1 o13.2 _ _ _ hf hs (lv_sub hl [0, 1, 2] rfl)
  have j7 : ∀ (n : Nat), ∀ (x0 : Nat) (x1 : Int32) (h : tk_AH) (sz : Nat) (H : Heap) (locs : List Loc) (ls : Array Slot), fX5_finds_7 N n x0 x1 h sz = some (h9, sz9) → tk_sw G s h sz H locs → lv_has ls 4 [(0, .ref x0), (1, .int x1)] → W p l e (headSpec (coX5_finds :: tk_W) ({ frames := 3, cells := 0, slots := 0, locals := 72 })).room s m args below meth c H locs 0 (0) (MQ below (tk_qc G none h9 sz9) args s 0 0 (tk_ag G)) (F0 m 7 ls []) := by
    intro n
    induction n with
    | zero =>
      intro x0 x1 h sz H locs ls hf
      cases hf
    | succ n ih =>
      intro x0 x1 h sz H locs ls hf hs hl
      rw [fX5_finds_7] at hf
      refine lv_iload_n hx hb dX5_finds_7 rfl (lv_at hl 1 rfl) ?_
      refine lv_aload_n hx hb dX5_finds_8 rfl (lv_at hl 0 rfl) ?_
      obtain ⟨v15, e15, hf⟩ := tk_bi hf
      refine tk_getI hx hb ht inX5 hown hE hs rfl 1 (by decide) (ht _ wfX5_93) e15 dX5_finds_9 ?_
      refine lv_icmp_ge (tgt := 100) hx hb dX5_finds_12 (by decide) (fun c16 => ?_) (fun c16 => ?_)
      · rw [if_pos c16] at hf
        refine lv_aload_n hx hb dX5_finds_100 rfl (lv_at hl 0 rfl) ?_
        obtain ⟨v17, e17, hf⟩ := tk_bi hf
        refine tk_getR hx hb ht inX5 hown hE hs rfl 31 (by decide) (ht _ wfX5_77) e17 dX5_finds_101 ?_
        refine lv_aload_n hx hb dX5_finds_104 rfl (lv_at hl 0 rfl) ?_
        obtain ⟨v18, e18, hf⟩ := tk_bi hf
        refine tk_getI hx hb ht inX5 hown hE hs rfl 1 (by decide) (ht _ wfX5_93) e18 dX5_finds_105 ?_
        refine lv_aload_n hx hb dX5_finds_108 rfl (lv_at hl 0 rfl) ?_
        obtain ⟨v19, e19, hf⟩ := tk_bi hf
        refine tk_getI hx hb ht inX5 hown hE hs rfl 27 (by decide) (ht _ wfX5_136) e19 dX5_finds_109 ?_
        obtain ⟨h20, e20, hf⟩ := tk_bi hf
        refine tk_iast hx hb hE hs e20 dX5_finds_112 (fun H locs hs => ?_)
        cases hf
        exact tk_vret hx hb hr hlocks hs dX5_finds_113
      · rw [if_neg c16] at hf
        refine lv_aload_n hx hb dX5_finds_15 rfl (lv_at hl 0 rfl) ?_
        obtain ⟨v21, e21, hf⟩ := tk_bi hf
        refine tk_getR hx hb ht inX5 hown hE hs rfl 31 (by decide) (ht _ wfX5_77) e21 dX5_finds_16 ?_
        refine lv_iload_n hx hb dX5_finds_19 rfl (lv_at hl 1 rfl) ?_
        refine lv_aload_n hx hb dX5_finds_20 rfl (lv_at hl 0 rfl) ?_
        obtain ⟨v22, e22, hf⟩ := tk_bi hf
        refine tk_getI hx hb ht inX5 hown hE hs rfl 27 (by decide) (ht _ wfX5_136) e22 dX5_finds_21 ?_
        obtain ⟨h23, e23, hf⟩ := tk_bi hf
        refine tk_iast hx hb hE hs e23 dX5_finds_24 (fun H locs hs => ?_)
        refine lv_iload_n hx hb dX5_finds_25 rfl (lv_at hl 1 rfl) ?_
        refine lv_iconst (v := 1) hx hb dX5_finds_26 (by decide) ?_
        refine lv_iadd hx hb dX5_finds_27 ?_
        refine lv_istore_n (lv' := [(2, .int (x1 + 1)), (0, .ref x0), (1, .int x1)]) hx hb dX5_finds_28 rfl hl (by decide) rfl (fun ls hl => ?_)
        exact j29 (fX5_finds_7 N n) ih N x0 x1 (x1 + 1) h23 sz _ _ _ hf hs (lv_sub hl [1, 2, 0] rfl)
  unfold fX5_finds at hf
  refine lv_aload_n hx hb dX5_finds_0 rfl (lv_at hl 0 rfl) ?_
  refine lv_iconst (v := 0) hx hb dX5_finds_1 (by decide) ?_
  obtain ⟨h24, e24, hf⟩ := tk_bi hf
  refine tk_put hx hb ht inX5 tyX5 tyX5_ok nmX5 hown hE hs rfl 27 (by decide) (ht _ wfX5_136) rfl rfl rfl e24 dX5_finds_2 (fun H locs hs => ?_)
  refine lv_iconst (v := 0) hx hb dX5_finds_5 (by decide) ?_
  refine lv_istore_n (lv' := [(1, .int 0), (0, .ref x0)]) hx hb dX5_finds_6 rfl hl (by decide) rfl (fun ls hl => ?_)
  exact j7 N x0 0 h24 sz _ _ _ hf hs (lv_sub hl [1, 0] rfl)
def fX5_least_2 (N : Nat) : Nat → Int32 → Int32 → tk_AH → Nat → Option (Int32 × tk_AH × Nat)
  | 0, _, _, _, _ => none
  | n + 1, x1, x2, h, sz =>
  if ((x1 >>> (x2 &&& 31)) &&& 1) = 0 then (
  fX5_least_2 N n x1 (x2 + 1) h sz) else (
  some (x2, h, sz))
def fX5_least (N : Nat) (x0 : Nat) (x1 : Int32) (h : tk_AH) (sz : Nat) : Option (Int32 × tk_AH × Nat) :=
  fX5_least_2 N N x1 0 h sz
set_option maxHeartbeats 8000000 in
set_option maxRecDepth 100000 in
theorem cX5_least_ok (l : Launch) (hl0 : l.stackTraces = false) (G : tk_AG) (N : Nat) (x0 : Nat) (x1 : Int32) (h : tk_AH) (sz : Nat) (r9 : Int32) (h9 : tk_AH) (sz9 : Nat) (hf : fX5_least N x0 x1 h sz = some (r9, h9, sz9)) : Met l yX5_least (coX5_least :: tk_W) ({ frames := 0, cells := 0, slots := 0, locals := 0 }) (tk_pc G [.ref x0, .int x1] h sz) (tk_qc G (some (.int r9)) h9 sz9) 0 0 (tk_ag G) := by
  refine Met.ofW (cc := cX5_least) (maxL := 3) (ret := (some .int)) (by decide) rfl ?_
  intro p e s m args below meth c s₁ B hml hv
  obtain ⟨hav, hE, hrp, hsz, hgs⟩ := hv
  have hx := B.exec
  have hb := B.bytes
  have hr := B.returns
  have hts := atoms_spec (ws := coX5_least :: tk_W) B.pre
  have ht : ∀ w ∈ tk_W, w.before args s = true := fun w h => hts w (List.mem_cons_of_mem _ h)
  have hown : s.vm.findClass RX5 = some m.cls := findClass_of_methodNamed B.named
  have hlocks := B.notSynchronized
  have hs : tk_sw G s h sz s.heap [] := ⟨hrp, hsz, by rw [hsz]; exact hgs, va_S.rf⟩
  have hl := lv_entry ([.ref x0, .int x1]) (n := 3) (Nat.le_of_ble_eq_true rfl)
  have hent : entryFrame m args 3 = F0 m 0 (lg_sl ([.ref x0, .int x1]) ++ List.replicate (3 - (lg_sl ([.ref x0, .int x1])).length) Slot.unset).toArray [] := by rw [hav, lg_entry_eq]
  rw [hent]
  clear hent
  generalize (lg_sl ([.ref x0, .int x1]) ++ List.replicate (3 - (lg_sl ([.ref x0, .int x1])).length) Slot.unset).toArray = ls at hl ⊢
  have hl : lv_has ls 3 [(0, .ref x0), (1, .int x1)] := hl
  have j2 : ∀ (n : Nat), ∀ (x1 : Int32) (x2 : Int32) (h : tk_AH) (sz : Nat) (H : Heap) (locs : List Loc) (ls : Array Slot), fX5_least_2 N n x1 x2 h sz = some (r9, h9, sz9) → tk_sw G s h sz H locs → lv_has ls 3 [(1, .int x1), (2, .int x2)] → W p l e (headSpec (coX5_least :: tk_W) ({ frames := 0, cells := 0, slots := 0, locals := 0 })).room s m args below meth c H locs 0 (0) (MQ below (tk_qc G (some (.int r9)) h9 sz9) args s 0 0 (tk_ag G)) (F0 m 2 ls []) := by
    intro n
    induction n with
    | zero =>
      intro x1 x2 h sz H locs ls hf
      cases hf
    | succ n ih =>
      intro x1 x2 h sz H locs ls hf hs hl
      rw [fX5_least_2] at hf
      refine lv_iload_n hx hb dX5_least_2 rfl (lv_at hl 0 rfl) ?_
      refine lv_iload_n hx hb dX5_least_3 rfl (lv_at hl 1 rfl) ?_
      refine lv_ishr hx hb dX5_least_4 ?_
      refine lv_iconst (v := 1) hx hb dX5_least_5 (by decide) ?_
      refine lv_iand hx hb dX5_least_6 ?_
      refine lv_if_ne (tgt := 16) hx hb dX5_least_7 (by decide) (fun c1 => ?_) (fun c1 => ?_)
      · rw [if_neg c1] at hf
        refine lv_iload_n hx hb dX5_least_16 rfl (lv_at hl 1 rfl) ?_
        cases hf
        exact tk_iret hx hb hr hlocks hs dX5_least_17
      · rw [if_pos c1] at hf
        refine lv_iinc (v := x2 + 1) (lv' := [(2, .int (x2 + 1)), (1, .int x1)]) hx hb dX5_least_10 hl (k := 1) rfl rfl (by decide) rfl (fun ls hl => ?_)
        refine lv_goto (tgt := 2) hx hb dX5_least_13 (by decide) ?_
        exact ih x1 (x2 + 1) h sz _ _ _ hf hs (lv_sub hl [1, 0] rfl)
  unfold fX5_least at hf
  refine lv_iconst (v := 0) hx hb dX5_least_0 (by decide) ?_
  refine lv_istore_n (lv' := [(2, .int 0), (0, .ref x0), (1, .int x1)]) hx hb dX5_least_1 rfl hl (by decide) rfl (fun ls hl => ?_)
  exact j2 N x1 0 h sz _ _ _ hf hs (lv_sub hl [2, 0] rfl)
