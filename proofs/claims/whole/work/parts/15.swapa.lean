def fX4_init (N : Nat) (x0 : Nat) (h : tk_AH) (sz : Nat) : Option (tk_AH × Nat) :=
  (tk_pF (tk_nQ h sz 14) 4 0 x0 (.ref sz)).bind fun h1 =>
  (fX3_init N (sz + 1) (tk_nO h1 (sz + 1) 3 [.null, .null]) ((sz + 1) + 1)).bind fun o2 =>
  (tk_pF o2.1 4 1 x0 (.ref (sz + 1))).bind fun h3 =>
  (fX1_init N o2.2 (tk_nO h3 o2.2 1 [.null, .null, .null, .null, .null, .null, .null, .long 0, .int 0, .int 0]) (o2.2 + 1)).bind fun o4 =>
  (tk_pF o4.1 4 2 x0 (.ref o2.2)).bind fun h5 =>
  (fX2_init N o4.2 (tk_nO h5 o4.2 2 [.null, .null, .null, .null, .int 0, .int 0, .int 0, .int 0]) (o4.2 + 1)).bind fun o6 =>
  (tk_pF o6.1 4 3 x0 (.ref o4.2)).bind fun h7 =>
  (tk_pF (tk_nI h7 o6.2 42) 4 4 x0 (.ref o6.2)).bind fun h8 =>
  some (h8, o6.2 + 1)
set_option maxHeartbeats 8000000 in
set_option maxRecDepth 100000 in
theorem cX4_init_ok (l : Launch) (hl0 : l.stackTraces = false) (G : tk_AG) (N : Nat) (x0 : Nat) (h : tk_AH) (sz : Nat) (h9 : tk_AH) (sz9 : Nat) (hf : fX4_init N x0 h sz = some (h9, sz9)) : Met l yX4_init (coX4_init :: tk_W) ({ frames := 2, cells := 18, slots := 3981, locals := 44 }) (tk_pc G [.ref x0] h sz) (tk_qc G none h9 sz9) 18 3981 (tk_ag G) := by
  refine Met.ofW (cc := cX4_init) (maxL := 1) (ret := none) (by decide) rfl ?_
  intro p e s m args below meth c s₁ B hml hv
  obtain ⟨hav, hE, hrp, hsz, hgs⟩ := hv
  have hx := B.exec
  have hb := B.bytes
  have hr := B.returns
  have hts := atoms_spec (ws := coX4_init :: tk_W) B.pre
  have ht : ∀ w ∈ tk_W, w.before args s = true := fun w h => hts w (List.mem_cons_of_mem _ h)
  have hown : s.vm.findClass RX4 = some m.cls := findClass_of_methodNamed B.named
  have hlocks := B.notSynchronized
  have hin : meth.name = "<init>" := (name_of_methodNamed B.named B.method).1
  have hs : tk_sw G s h sz s.heap [] := ⟨hrp, hsz, by rw [hsz]; exact hgs, va_S.rf⟩
  have hl := lv_entry ([.ref x0]) (n := 1) (Nat.le_of_ble_eq_true rfl)
  have hent : entryFrame m args 1 = F0 m 0 (lg_sl ([.ref x0]) ++ List.replicate (1 - (lg_sl ([.ref x0])).length) Slot.unset).toArray [] := by rw [hav, lg_entry_eq]
  rw [hent]
  clear hent
  generalize (lg_sl ([.ref x0]) ++ List.replicate (1 - (lg_sl ([.ref x0])).length) Slot.unset).toArray = ls at hl ⊢
  have hl : lv_has ls 1 [(0, .ref x0)] := hl
  unfold fX4_init at hf
  refine lv_aload_n hx hb dX4_init_0 rfl (lv_at hl 0 rfl) ?_
  refine W.objInit hx hb hown (ht _ wmX4_3) (ht _ wiOb) (ht _ wcOb) rfl (by rw [hml]; exact hl.1) rfl dX4_init_1 (Nat.le_of_ble_eq_true rfl) (Nat.le_of_ble_eq_true rfl) ?_
  refine W.eq (g2 := F0 m 4 ls []) rfl ?_
  refine lv_aload_n hx hb dX4_init_4 rfl (lv_at hl 0 rfl) ?_
  refine lv_bipush (v := 14) hx hb dX4_init_5 (by decide) ?_
  refine tk_newQ hx hb hown (ht _ wlX4_9) hE hs (N := 14) (by decide) (by decide) (by decide) (Nat.le_of_ble_eq_true rfl) (Nat.le_of_ble_eq_true rfl) dX4_init_7 (fun H hs => ?_)
  refine W.widen (k := 1) (n := 14) (by omega) (by omega) ?_
  obtain ⟨h1, e1, hf⟩ := tk_bi hf
  refine tk_putF hx hb ht inX4 tyX4 tyX4_ok nmX4 hown hE hs rfl 0 (by decide) (ht _ wfX4_11) rfl hin rfl rfl rfl e1 dX4_init_10 (fun H locs hs => ?_)
  refine lv_aload_n hx hb dX4_init_13 rfl (lv_at hl 0 rfl) ?_
  refine tk_new hx hb ht inX3 tyX3 tyX3_ok hown (ht _ wlX4_15) (ht _ wbX3) (ht _ wnX3) hE hs (ci := 3) rfl (fs := [.null, .null]) (by decide +kernel) (Nat.le_of_ble_eq_true rfl) (Nat.le_of_ble_eq_true rfl) dX4_init_14 (fun H hs => ?_)
  refine W.widen (k := 2) (n := 16) (by omega) (by omega) ?_
  refine lv_dup hx hb dX4_init_17 rfl ?_
  obtain ⟨o2, e2, hf⟩ := tk_bi hf
  refine tk_call (v := none) hs (va_runIN (As := []) (rest := [.ref (sz + 1), .ref x0]) ⟨hx, hb, hml, hown, ht⟩ (cX3_init_ok l hl0 G N (sz + 1) (tk_nO h1 (sz + 1) 3 [.null, .null]) ((sz + 1) + 1) o2.1 o2.2 e2) ⟨knX3_init (own := RX4) (index := 17) (host := "TongueSwap") ht (hE.2.2.1 _ (by decide +kernel)) rfl rfl ⟨Nat.le_of_ble_eq_true rfl, Nat.le_of_ble_eq_true rfl⟩, rfl, ht _ wiX3_init⟩ (tk_preS hE hs) rfl rfl hl.1 rfl (lv_room (Nat.le_of_ble_eq_true rfl)) dX4_init_18 ⟨(Nat.le_of_ble_eq_true rfl), (Nat.le_of_ble_eq_true rfl)⟩) (fun H locs hs => ?_)
  refine W.eq (g2 := F0 m 21 ls [.ref (sz + 1), .ref x0]) rfl ?_
  refine W.widen (k := 4) (n := 226) (by omega) (by omega) ?_
  obtain ⟨h3, e3, hf⟩ := tk_bi hf
  refine tk_putF hx hb ht inX4 tyX4 tyX4_ok nmX4 hown hE hs rfl 1 (by decide) (ht _ wfX4_18) rfl hin rfl rfl rfl e3 dX4_init_21 (fun H locs hs => ?_)
  refine lv_aload_n hx hb dX4_init_24 rfl (lv_at hl 0 rfl) ?_
  refine tk_new hx hb ht inX1 tyX1 tyX1_ok hown (ht _ wlX4_22) (ht _ wbX1) (ht _ wnX1) hE hs (ci := 1) rfl (fs := [.null, .null, .null, .null, .null, .null, .null, .long 0, .int 0, .int 0]) (by decide +kernel) (Nat.le_of_ble_eq_true rfl) (Nat.le_of_ble_eq_true rfl) dX4_init_25 (fun H hs => ?_)
  refine W.widen (k := 5) (n := 236) (by omega) (by omega) ?_
  refine lv_dup hx hb dX4_init_28 rfl ?_
  obtain ⟨o4, e4, hf⟩ := tk_bi hf
  refine tk_call (v := none) hs (va_runIN (As := []) (rest := [.ref o2.2, .ref x0]) ⟨hx, hb, hml, hown, ht⟩ (cX1_init_ok l hl0 G N o2.2 (tk_nO h3 o2.2 1 [.null, .null, .null, .null, .null, .null, .null, .long 0, .int 0, .int 0]) (o2.2 + 1) o4.1 o4.2 e4) ⟨knX1_init (own := RX4) (index := 24) (host := "TongueSwap") ht (hE.2.2.1 _ (by decide +kernel)) rfl rfl ⟨Nat.le_of_ble_eq_true rfl, Nat.le_of_ble_eq_true rfl⟩, rfl, ht _ wiX1_init⟩ (tk_preS hE hs) rfl rfl hl.1 rfl (lv_room (Nat.le_of_ble_eq_true rfl)) dX4_init_29 ⟨(Nat.le_of_ble_eq_true rfl), (Nat.le_of_ble_eq_true rfl)⟩) (fun H locs hs => ?_)
  refine W.eq (g2 := F0 m 32 ls [.ref o2.2, .ref x0]) rfl ?_
  refine W.widen (k := 12) (n := 2085) (by omega) (by omega) ?_
  obtain ⟨h5, e5, hf⟩ := tk_bi hf
  refine tk_putF hx hb ht inX4 tyX4 tyX4_ok nmX4 hown hE hs rfl 2 (by decide) (ht _ wfX4_25) rfl hin rfl rfl rfl e5 dX4_init_32 (fun H locs hs => ?_)
  refine lv_aload_n hx hb dX4_init_35 rfl (lv_at hl 0 rfl) ?_
  refine tk_new hx hb ht inX2 tyX2 tyX2_ok hown (ht _ wlX4_29) (ht _ wbX2) (ht _ wnX2) hE hs (ci := 2) rfl (fs := [.null, .null, .null, .null, .int 0, .int 0, .int 0, .int 0]) (by decide +kernel) (Nat.le_of_ble_eq_true rfl) (Nat.le_of_ble_eq_true rfl) dX4_init_36 (fun H hs => ?_)
  refine W.widen (k := 13) (n := 2093) (by omega) (by omega) ?_
  refine lv_dup hx hb dX4_init_39 rfl ?_
  obtain ⟨o6, e6, hf⟩ := tk_bi hf
  refine tk_call (v := none) hs (va_runIN (As := []) (rest := [.ref o4.2, .ref x0]) ⟨hx, hb, hml, hown, ht⟩ (cX2_init_ok l hl0 G N o4.2 (tk_nO h5 o4.2 2 [.null, .null, .null, .null, .int 0, .int 0, .int 0, .int 0]) (o4.2 + 1) o6.1 o6.2 e6) ⟨knX2_init (own := RX4) (index := 31) (host := "TongueSwap") ht (hE.2.2.1 _ (by decide +kernel)) rfl rfl ⟨Nat.le_of_ble_eq_true rfl, Nat.le_of_ble_eq_true rfl⟩, rfl, ht _ wiX2_init⟩ (tk_preS hE hs) rfl rfl hl.1 rfl (lv_room (Nat.le_of_ble_eq_true rfl)) dX4_init_40 ⟨(Nat.le_of_ble_eq_true rfl), (Nat.le_of_ble_eq_true rfl)⟩) (fun H locs hs => ?_)
  refine W.eq (g2 := F0 m 43 ls [.ref o4.2, .ref x0]) rfl ?_
  refine W.widen (k := 17) (n := 3939) (by omega) (by omega) ?_
  obtain ⟨h7, e7, hf⟩ := tk_bi hf
  refine tk_putF hx hb ht inX4 tyX4 tyX4_ok nmX4 hown hE hs rfl 3 (by decide) (ht _ wfX4_32) rfl hin rfl rfl rfl e7 dX4_init_43 (fun H locs hs => ?_)
  refine lv_aload_n hx hb dX4_init_46 rfl (lv_at hl 0 rfl) ?_
  refine lv_bipush (v := 42) hx hb dX4_init_47 (by decide) ?_
  refine tk_newI hx hb (ht _ waint) hE hs (N := 42) (by decide) (by decide) (by decide) (Nat.le_of_ble_eq_true rfl) (Nat.le_of_ble_eq_true rfl) dX4_init_49 (fun H hs => ?_)
  refine W.widen (k := 18) (n := 3981) (by omega) (by omega) ?_
  obtain ⟨h8, e8, hf⟩ := tk_bi hf
  refine tk_putF hx hb ht inX4 tyX4 tyX4_ok nmX4 hown hE hs rfl 4 (by decide) (ht _ wfX4_36) rfl hin rfl rfl rfl e8 dX4_init_51 (fun H locs hs => ?_)
  cases hf
  exact tk_vret hx hb hr hlocks hs dX4_init_54
def fX4_learner (N : Nat) (x0 : Nat) (x1 : Int32) (h : tk_AH) (sz : Nat) : Option (Int32 × tk_AH × Nat) :=
  (tk_gI h 4 6 x0).bind fun v1 =>
  if v1 < 14 then (
  (tk_gR h 4 0 x0).bind fun v3 =>
  (tk_gI h 4 6 x0).bind fun v4 =>
  (fX0_init N sz (x1 &&& 16777215) (tk_nO h sz 0 [.null, .null, .null, .null, .null, .null, .null, .null, .int 0, .int 0, .int 0, .int 0, .int 0, .int 0, .int 0]) (sz + 1)).bind fun o5 =>
  (tk_ok o5.1 0 sz).bind fun _ =>
  (tk_sQ o5.1 3 v3 v4 sz).bind fun h6 =>
  (tk_gI h6 4 6 x0).bind fun v8 =>
  (tk_pF h6 4 6 x0 (.int (v8 + 1))).bind fun h9 =>
  (tk_gI h9 4 6 x0).bind fun v10 =>
  some (v10 - 1, h9, o5.2)) else (
  some ((-1), h, sz))
set_option maxHeartbeats 8000000 in
set_option maxRecDepth 100000 in
theorem cX4_learner_ok (l : Launch) (hl0 : l.stackTraces = false) (G : tk_AG) (N : Nat) (x0 : Nat) (x1 : Int32) (h : tk_AH) (sz : Nat) (r9 : Int32) (h9 : tk_AH) (sz9 : Nat) (hf : fX4_learner N x0 x1 h sz = some (r9, h9, sz9)) : Met l yX4_learner (coX4_learner :: tk_W) ({ frames := 2, cells := 9, slots := 137, locals := 46 }) (tk_pc G [.ref x0, .int x1] h sz) (tk_qc G (some (.int r9)) h9 sz9) 9 137 (tk_ag G) := by
  refine Met.ofW (cc := cX4_learner) (maxL := 2) (ret := (some .int)) (by decide) rfl ?_
  intro p e s m args below meth c s₁ B hml hv
  obtain ⟨hav, hE, hrp, hsz, hgs⟩ := hv
  have hx := B.exec
  have hb := B.bytes
  have hr := B.returns
  have hts := atoms_spec (ws := coX4_learner :: tk_W) B.pre
  have ht : ∀ w ∈ tk_W, w.before args s = true := fun w h => hts w (List.mem_cons_of_mem _ h)
  have hown : s.vm.findClass RX4 = some m.cls := findClass_of_methodNamed B.named
  have hlocks := B.notSynchronized
  have hs : tk_sw G s h sz s.heap [] := ⟨hrp, hsz, by rw [hsz]; exact hgs, va_S.rf⟩
  have hl := lv_entry ([.ref x0, .int x1]) (n := 2) (Nat.le_of_ble_eq_true rfl)
  have hent : entryFrame m args 2 = F0 m 0 (lg_sl ([.ref x0, .int x1]) ++ List.replicate (2 - (lg_sl ([.ref x0, .int x1])).length) Slot.unset).toArray [] := by rw [hav, lg_entry_eq]
  rw [hent]
  clear hent
  generalize (lg_sl ([.ref x0, .int x1]) ++ List.replicate (2 - (lg_sl ([.ref x0, .int x1])).length) Slot.unset).toArray = ls at hl ⊢
  have hl : lv_has ls 2 [(0, .ref x0), (1, .int x1)] := hl
  unfold fX4_learner at hf
  refine lv_aload_n hx hb dX4_learner_0 rfl (lv_at hl 0 rfl) ?_
  obtain ⟨v1, e1, hf⟩ := tk_bi hf
  refine tk_getI hx hb ht inX4 hown hE hs rfl 6 (by decide) (ht _ wfX4_40) e1 dX4_learner_1 ?_
  refine lv_bipush (v := 14) hx hb dX4_learner_4 (by decide) ?_
  refine lv_icmp_lt (tgt := 11) hx hb dX4_learner_6 (by decide) (fun c2 => ?_) (fun c2 => ?_)
  · rw [if_pos c2] at hf
    refine lv_aload_n hx hb dX4_learner_11 rfl (lv_at hl 0 rfl) ?_
    obtain ⟨v3, e3, hf⟩ := tk_bi hf
    refine tk_getR hx hb ht inX4 hown hE hs rfl 0 (by decide) (ht _ wfX4_11) e3 dX4_learner_12 ?_
    refine lv_aload_n hx hb dX4_learner_15 rfl (lv_at hl 0 rfl) ?_
    obtain ⟨v4, e4, hf⟩ := tk_bi hf
    refine tk_getI hx hb ht inX4 hown hE hs rfl 6 (by decide) (ht _ wfX4_40) e4 dX4_learner_16 ?_
    refine tk_new hx hb ht inX0 tyX0 tyX0_ok hown (ht _ wlX4_9) (ht _ wbX0) (ht _ wnX0) hE hs (ci := 0) rfl (fs := [.null, .null, .null, .null, .null, .null, .null, .null, .int 0, .int 0, .int 0, .int 0, .int 0, .int 0, .int 0]) (by decide +kernel) (Nat.le_of_ble_eq_true rfl) (Nat.le_of_ble_eq_true rfl) dX4_learner_19 (fun H hs => ?_)
    refine W.widen (k := 1) (n := 15) (by omega) (by omega) ?_
    refine lv_dup hx hb dX4_learner_22 rfl ?_
    refine lv_iload_n hx hb dX4_learner_23 rfl (lv_at hl 1 rfl) ?_
    refine lv_ldc (v := 16777215) hx hb hown (ht _ wkX4_44) dX4_learner_24 ?_
    refine lv_iand hx hb dX4_learner_26 ?_
    obtain ⟨o5, e5, hf⟩ := tk_bi hf
    refine tk_call (v := none) hs (va_runI (As := [.int (x1 &&& 16777215)]) (rest := [.ref sz, .int v4, .ref v3]) ⟨hx, hb, hml, hown, ht⟩ (cX0_init_ok l hl0 G N sz (x1 &&& 16777215) (tk_nO h sz 0 [.null, .null, .null, .null, .null, .null, .null, .null, .int 0, .int 0, .int 0, .int 0, .int 0, .int 0, .int 0]) (sz + 1) o5.1 o5.2 e5) (kwX0_init ht wmX4_45 rfl rfl ⟨Nat.le_of_ble_eq_true rfl, Nat.le_of_ble_eq_true rfl⟩) (tk_preS hE hs) rfl rfl hl.1 rfl (lv_room (Nat.le_of_ble_eq_true rfl)) dX4_learner_27 ⟨(Nat.le_of_ble_eq_true rfl), (Nat.le_of_ble_eq_true rfl)⟩) (fun H locs hs => ?_)
    refine W.eq (g2 := F0 m 30 ls [.ref sz, .int v4, .ref v3]) rfl ?_
    refine W.widen (k := 9) (n := 137) (by omega) (by omega) ?_
    obtain ⟨_, e7, hf⟩ := tk_bi hf
    obtain ⟨h6, e6, hf⟩ := tk_bi hf
    refine tk_aast hx hb hE hs (tk_ok_ok e7) e6 dX4_learner_30 (fun H locs hs => ?_)
    refine lv_aload_n hx hb dX4_learner_31 rfl (lv_at hl 0 rfl) ?_
    refine lv_dup hx hb dX4_learner_32 rfl ?_
    obtain ⟨v8, e8, hf⟩ := tk_bi hf
    refine tk_getI hx hb ht inX4 hown hE hs rfl 6 (by decide) (ht _ wfX4_40) e8 dX4_learner_33 ?_
    refine lv_iconst (v := 1) hx hb dX4_learner_36 (by decide) ?_
    refine lv_iadd hx hb dX4_learner_37 ?_
    obtain ⟨h9, e9, hf⟩ := tk_bi hf
    refine tk_put hx hb ht inX4 tyX4 tyX4_ok nmX4 hown hE hs rfl 6 (by decide) (ht _ wfX4_40) rfl rfl rfl e9 dX4_learner_38 (fun H locs hs => ?_)
    refine lv_aload_n hx hb dX4_learner_41 rfl (lv_at hl 0 rfl) ?_
    obtain ⟨v10, e10, hf⟩ := tk_bi hf
    refine tk_getI hx hb ht inX4 hown hE hs rfl 6 (by decide) (ht _ wfX4_40) e10 dX4_learner_42 ?_
    refine lv_iconst (v := 1) hx hb dX4_learner_45 (by decide) ?_
    refine lv_isub hx hb dX4_learner_46 ?_
    cases hf
    exact tk_iret hx hb hr hlocks hs dX4_learner_47
  · rw [if_neg c2] at hf
    refine lv_iconst (v := (-1)) hx hb dX4_learner_9 (by decide) ?_
    cases hf
    refine W.widen (k := 9) (n := 137) (by omega) (by omega) ?_
    exact tk_iret hx hb hr hlocks hs dX4_learner_10
def fX4_find_12 (N : Nat) (h : tk_AH) (sz : Nat) : Option ((Nat ⊕ String) × tk_AH × Nat) :=
  some (Sum.inr "java/util/NoSuchElementException", h, sz + 1)
def fX4_find (N : Nat) (x0 : Nat) (x1 : Int32) (h : tk_AH) (sz : Nat) : Option ((Nat ⊕ String) × tk_AH × Nat) :=
  if x1 < 0 then (
  fX4_find_12 N h sz) else (
  (tk_gI h 4 6 x0).bind fun v2 =>
  if x1 < v2 then (
  (tk_gR h 4 0 x0).bind fun v4 =>
  (tk_aQ h 3 v4 x1).bind fun v5 => tk_cs v5 (
  some (Sum.inr "java/util/NoSuchElementException", h, sz + 1)) (fun q5 =>
  some (Sum.inl q5, h, sz))) else (
  fX4_find_12 N h sz))
set_option maxHeartbeats 8000000 in
set_option maxRecDepth 100000 in
theorem cX4_find_ok (l : Launch) (hl0 : l.stackTraces = false) (G : tk_AG) (N : Nat) (x0 : Nat) (x1 : Int32) (h : tk_AH) (sz : Nat) (o9 : Nat ⊕ String) (h9 : tk_AH) (sz9 : Nat) (hf : fX4_find N x0 x1 h sz = some (o9, h9, sz9)) : vx_Met l yX4_find (coX4_find :: tk_W) ({ frames := 6, cells := tk_xc o9 0, slots := tk_xs o9 0, locals := 100 }) (tk_pc G [.ref x0, .int x1] h sz) (tk_qx G (tk_oa o9) h9 sz9) (tk_xx G (tk_oa o9) h9 sz9) (tk_xc o9 0) (tk_xs o9 0) (tk_ag G) := by
  refine vx_ofW (cc := cX4_find) (maxL := 3) (ret := (some (.object "TongueSwap$Learner"))) (by decide) rfl ?_
  intro p e s m args below meth c s₁ B hml hout hv
  obtain ⟨hav, hE, hrp, hsz, hgs⟩ := hv
  have hx := B.exec
  have hb := B.bytes
  have hr := B.returns
  have hts := atoms_spec (ws := coX4_find :: tk_W) B.pre
  have ht : ∀ w ∈ tk_W, w.before args s = true := fun w h => hts w (List.mem_cons_of_mem _ h)
  have hown : s.vm.findClass RX4 = some m.cls := findClass_of_methodNamed B.named
  have hlocks := B.notSynchronized
  have hs : tk_sw G s h sz s.heap [] := ⟨hrp, hsz, by rw [hsz]; exact hgs, va_S.rf⟩
  have hl := lv_entry ([.ref x0, .int x1]) (n := 3) (Nat.le_of_ble_eq_true rfl)
  have hent : entryFrame m args 3 = F0 m 0 (lg_sl ([.ref x0, .int x1]) ++ List.replicate (3 - (lg_sl ([.ref x0, .int x1])).length) Slot.unset).toArray [] := by rw [hav, lg_entry_eq]
  rw [hent]
  clear hent
  generalize (lg_sl ([.ref x0, .int x1]) ++ List.replicate (3 - (lg_sl ([.ref x0, .int x1])).length) Slot.unset).toArray = ls at hl ⊢
  have hl : lv_has ls 3 [(0, .ref x0), (1, .int x1)] := hl
  have j12 : ∀ (h : tk_AH) (sz : Nat) (H : Heap) (locs : List Loc) (ls : Array Slot), fX4_find_12 N h sz = some (o9, h9, sz9) → tk_sw G s h sz H locs → lv_has ls 3 [] → W p l e (headSpec (coX4_find :: tk_W) ({ frames := 6, cells := tk_xc o9 0, slots := tk_xs o9 0, locals := 100 })).room s m args below meth c H locs 0 (0) (vx_MQ below (tk_qx G (tk_oa o9) h9 sz9) (tk_xx G (tk_oa o9) h9 sz9) args s (tk_xc o9 0) (tk_xs o9 0) (tk_ag G)) (F0 m 12 ls []) := by
    intro h sz H locs ls hf hs hl
    unfold fX4_find_12 at hf
    cases hf
    exact tk_throwNSE hx hb hml hl0 hown ht hE hs hl (by decide : ("TongueSwap", 245, "no such learner") ∈ tk_strs) dX4_find_12 dX4_find_15 dX4_find_16 dX4_find_18 dX4_find_21 hout (Nat.le_of_ble_eq_true rfl) (Nat.le_of_ble_eq_true rfl) (Nat.le_of_ble_eq_true rfl) (Nat.le_of_ble_eq_true rfl) (Nat.le_refl _) (Nat.le_refl _) hlocks
  unfold fX4_find at hf
  refine lv_iload_n hx hb dX4_find_0 rfl (lv_at hl 1 rfl) ?_
  refine lv_if_lt (tgt := 12) hx hb dX4_find_1 (by decide) (fun c1 => ?_) (fun c1 => ?_)
  · rw [if_pos c1] at hf
    exact j12 h sz _ _ _ hf hs (lv_sub hl [] rfl)
  · rw [if_neg c1] at hf
    refine lv_iload_n hx hb dX4_find_4 rfl (lv_at hl 1 rfl) ?_
    refine lv_aload_n hx hb dX4_find_5 rfl (lv_at hl 0 rfl) ?_
    obtain ⟨v2, e2, hf⟩ := tk_bi hf
    refine tk_getI hx hb ht inX4 hown hE hs rfl 6 (by decide) (ht _ wfX4_40) e2 dX4_find_6 ?_
    refine lv_icmp_lt (tgt := 22) hx hb dX4_find_9 (by decide) (fun c3 => ?_) (fun c3 => ?_)
    · rw [if_pos c3] at hf
      refine lv_aload_n hx hb dX4_find_22 rfl (lv_at hl 0 rfl) ?_
      obtain ⟨v4, e4, hf⟩ := tk_bi hf
      refine tk_getR hx hb ht inX4 hown hE hs rfl 0 (by decide) (ht _ wfX4_11) e4 dX4_find_23 ?_
      refine lv_iload_n hx hb dX4_find_26 rfl (lv_at hl 1 rfl) ?_
      obtain ⟨v5, e5, hf⟩ := tk_bi hf
      refine tk_aald hx hb hE hs e5 dX4_find_27 ?_
      rcases v5 with _ | q5
      · rw [tk_cs_n] at hf
        refine W.eq (g2 := F0 m 28 ls [.null]) rfl ?_
        refine lv_astore_nN (lv' := [(2, .null), (0, .ref x0), (1, .int x1)]) hx hb dX4_find_28 rfl hl (by decide) rfl (fun ls hl => ?_)
        refine lv_aload_nN hx hb dX4_find_29 rfl (lv_at hl 0 rfl) ?_
        refine lv_ifnonnullN hx hb dX4_find_30 ?_
        cases hf
        exact tk_throwNSE hx hb hml hl0 hown ht hE hs hl (by decide : ("TongueSwap", 245, "no such learner") ∈ tk_strs) dX4_find_33 dX4_find_36 dX4_find_37 dX4_find_39 dX4_find_42 hout (Nat.le_of_ble_eq_true rfl) (Nat.le_of_ble_eq_true rfl) (Nat.le_of_ble_eq_true rfl) (Nat.le_of_ble_eq_true rfl) (Nat.le_refl _) (Nat.le_refl _) hlocks
      · rw [tk_cs_s] at hf
        refine W.eq (g2 := F0 m 28 ls [.ref q5]) rfl ?_
        refine lv_astore_n (lv' := [(2, .ref q5), (0, .ref x0), (1, .int x1)]) hx hb dX4_find_28 rfl hl (by decide) rfl (fun ls hl => ?_)
        refine lv_aload_n hx hb dX4_find_29 rfl (lv_at hl 0 rfl) ?_
        refine lv_ifnonnull (tgt := 43) hx hb dX4_find_30 (by decide) ?_
        refine lv_aload_n hx hb dX4_find_43 rfl (lv_at hl 0 rfl) ?_
        cases hf
        exact tk_xaret hx hb hr hlocks hs dX4_find_44
    · rw [if_neg c3] at hf
      exact j12 h sz _ _ _ hf hs (lv_sub hl [] rfl)
def fX4_hours (N : Nat) (x0 : Nat) (x1 : Int32) (x2 : Int32) (h : tk_AH) (sz : Nat) : Option ((Int32 ⊕ String) × tk_AH × Nat) :=
  (tk_ok h 4 x0).bind fun _ =>
  (fX4_find N x0 x1 h sz).bind fun o1 =>
  Sum.elim (fun r1 =>
  (tk_gI o1.2.1 0 8 r1).bind fun v3 =>
  (tk_pF o1.2.1 0 8 r1 (.int (x2 &&& 16777215))).bind fun h4 =>
  some (Sum.inl v3, h4, o1.2.2)) (fun E1 => some (Sum.inr E1, o1.2.1, o1.2.2)) o1.1
set_option maxHeartbeats 8000000 in
set_option maxRecDepth 100000 in
theorem cX4_hours_ok (l : Launch) (hl0 : l.stackTraces = false) (G : tk_AG) (N : Nat) (x0 : Nat) (x1 : Int32) (x2 : Int32) (h : tk_AH) (sz : Nat) (o9 : Int32 ⊕ String) (h9 : tk_AH) (sz9 : Nat) (hf : fX4_hours N x0 x1 x2 h sz = some (o9, h9, sz9)) : vx_Met l yX4_hours (coX4_hours :: tk_W) ({ frames := 7, cells := tk_xc o9 0, slots := tk_xs o9 0, locals := 122 }) (tk_pc G [.ref x0, .int x1, .int x2] h sz) (tk_qx G (tk_oi o9) h9 sz9) (tk_xx G (tk_oi o9) h9 sz9) (tk_xc o9 0) (tk_xs o9 0) (tk_ag G) := by
  refine vx_ofW (cc := cX4_hours) (maxL := 5) (ret := (some .int)) (by decide) rfl ?_
  intro p e s m args below meth c s₁ B hml hout hv
  obtain ⟨hav, hE, hrp, hsz, hgs⟩ := hv
  have hx := B.exec
  have hb := B.bytes
  have hr := B.returns
  have hts := atoms_spec (ws := coX4_hours :: tk_W) B.pre
  have ht : ∀ w ∈ tk_W, w.before args s = true := fun w h => hts w (List.mem_cons_of_mem _ h)
  have hown : s.vm.findClass RX4 = some m.cls := findClass_of_methodNamed B.named
  have hlocks := B.notSynchronized
  have hs : tk_sw G s h sz s.heap [] := ⟨hrp, hsz, by rw [hsz]; exact hgs, va_S.rf⟩
  have hl := lv_entry ([.ref x0, .int x1, .int x2]) (n := 5) (Nat.le_of_ble_eq_true rfl)
  have hent : entryFrame m args 5 = F0 m 0 (lg_sl ([.ref x0, .int x1, .int x2]) ++ List.replicate (5 - (lg_sl ([.ref x0, .int x1, .int x2])).length) Slot.unset).toArray [] := by rw [hav, lg_entry_eq]
  rw [hent]
  clear hent
  generalize (lg_sl ([.ref x0, .int x1, .int x2]) ++ List.replicate (5 - (lg_sl ([.ref x0, .int x1, .int x2])).length) Slot.unset).toArray = ls at hl ⊢
  have hl : lv_has ls 5 [(0, .ref x0), (1, .int x1), (2, .int x2)] := hl
  unfold fX4_hours at hf
  refine lv_aload_n hx hb dX4_hours_0 rfl (lv_at hl 0 rfl) ?_
  refine lv_iload_n hx hb dX4_hours_1 rfl (lv_at hl 1 rfl) ?_
  obtain ⟨_, p1, hf⟩ := tk_bi hf
  obtain ⟨o1, e1, hf⟩ := tk_bi hf
  rcases w1 : o1.1 with r1 | E1
  · rw [w1, Sum.elim_inl] at hf
    refine tk_xret0 (v := some (.ref r1)) hs (vx_runV (As := [.int x1]) (rest := []) ⟨hx, hb, hml, hown, ht⟩ (cX4_find_ok l hl0 G N x0 x1 h sz (Sum.inl r1) o1.2.1 o1.2.2 (by rw [e1, ← w1])) (kwX4_find ht wmX4_48 rfl rfl ⟨Nat.le_of_ble_eq_true rfl, Nat.le_of_ble_eq_true rfl⟩) (tk_preV hE hs (tk_ok_ok p1) rfl) rfl rfl hl.1 rfl (lv_room (Nat.le_of_ble_eq_true rfl)) dX4_hours_2 ⟨(Nat.zero_le _), (Nat.zero_le _)⟩) rfl rfl (fun H locs hs => ?_)
    refine W.eq (g2 := F0 m 5 ls [.ref r1]) rfl ?_
    refine lv_astore_n (lv' := [(3, .ref r1), (0, .ref x0), (1, .int x1), (2, .int x2)]) hx hb dX4_hours_5 rfl hl (by decide) rfl (fun ls hl => ?_)
    refine lv_aload_n hx hb dX4_hours_6 rfl (lv_at hl 0 rfl) ?_
    obtain ⟨v3, e3, hf⟩ := tk_bi hf
    refine tk_getNI (host := "TongueSwap") hx hb ht inX0 hown hE hs rfl 8 (by decide) (by decide +kernel) e3 dX4_hours_7 ?_
    refine lv_istore (lv' := [(4, .int v3), (3, .ref r1), (0, .ref x0), (1, .int x1), (2, .int x2)]) hx hb dX4_hours_10 hl (by decide) rfl (fun ls hl => ?_)
    refine lv_aload_n hx hb dX4_hours_12 rfl (lv_at hl 1 rfl) ?_
    refine lv_iload_n hx hb dX4_hours_13 rfl (lv_at hl 4 rfl) ?_
    refine lv_ldc (v := 16777215) hx hb hown (ht _ wkX4_44) dX4_hours_14 ?_
    refine lv_iand hx hb dX4_hours_16 ?_
    obtain ⟨h4, e4, hf⟩ := tk_bi hf
    refine tk_putN (host := "TongueSwap") hx hb ht inX0 tyX0 tyX0_ok nmX0 hown hE hs rfl 8 (by decide) (by decide +kernel) rfl rfl rfl e4 dX4_hours_17 (fun H locs hs => ?_)
    refine lv_iload hx hb dX4_hours_20 (lv_at hl 0 rfl) ?_
    cases hf
    exact tk_xiret hx hb hr hlocks hs dX4_hours_22
  · rw [w1, Sum.elim_inr] at hf
    cases hf
    exact tk_xthr hs (vx_runV (As := [.int x1]) (rest := []) ⟨hx, hb, hml, hown, ht⟩ (cX4_find_ok l hl0 G N x0 x1 h sz (Sum.inr E1) o1.2.1 o1.2.2 (by rw [e1, ← w1])) (kwX4_find ht wmX4_48 rfl rfl ⟨Nat.le_of_ble_eq_true rfl, Nat.le_of_ble_eq_true rfl⟩) (tk_preV hE hs (tk_ok_ok p1) rfl) rfl rfl hl.1 rfl (lv_room (Nat.le_of_ble_eq_true rfl)) dX4_hours_2 ⟨Nat.le_of_ble_eq_true rfl, Nat.le_of_ble_eq_true rfl⟩) (fun H locs ce q9 hs hce hcv hcl => tk_xout hout hlocks hs hce hcv hcl (Nat.le_refl _) (Nat.le_refl _))
def fX4_requireTongue_10 (N : Nat) (h : tk_AH) (sz : Nat) : Option ((Unit ⊕ String) × tk_AH × Nat) :=
  some (Sum.inr "java/util/NoSuchElementException", h, sz + 1)
def fX4_requireTongue (N : Nat) (x0 : Int32) (h : tk_AH) (sz : Nat) : Option ((Unit ⊕ String) × tk_AH × Nat) :=
  if x0 < 0 then (
  fX4_requireTongue_10 N h sz) else (
  if x0 < 8 then (
  some (Sum.inl (), h, sz)) else (
  fX4_requireTongue_10 N h sz))
set_option maxHeartbeats 8000000 in
set_option maxRecDepth 100000 in
theorem cX4_requireTongue_ok (l : Launch) (hl0 : l.stackTraces = false) (G : tk_AG) (N : Nat) (x0 : Int32) (h : tk_AH) (sz : Nat) (o9 : Unit ⊕ String) (h9 : tk_AH) (sz9 : Nat) (hf : fX4_requireTongue N x0 h sz = some (o9, h9, sz9)) : vx_Met l yX4_requireTongue (coX4_requireTongue :: tk_W) ({ frames := 6, cells := tk_xc o9 0, slots := tk_xs o9 0, locals := 100 }) (tk_pc G [.int x0] h sz) (tk_qx G (tk_ov o9) h9 sz9) (tk_xx G (tk_ov o9) h9 sz9) (tk_xc o9 0) (tk_xs o9 0) (tk_ag G) := by
  refine vx_ofW (cc := cX4_requireTongue) (maxL := 1) (ret := none) (by decide) rfl ?_
  intro p e s m args below meth c s₁ B hml hout hv
  obtain ⟨hav, hE, hrp, hsz, hgs⟩ := hv
  have hx := B.exec
  have hb := B.bytes
  have hr := B.returns
  have hts := atoms_spec (ws := coX4_requireTongue :: tk_W) B.pre
  have ht : ∀ w ∈ tk_W, w.before args s = true := fun w h => hts w (List.mem_cons_of_mem _ h)
  have hown : s.vm.findClass RX4 = some m.cls := findClass_of_methodNamed B.named
  have hlocks := B.notSynchronized
  have hs : tk_sw G s h sz s.heap [] := ⟨hrp, hsz, by rw [hsz]; exact hgs, va_S.rf⟩
  have hl := lv_entry ([.int x0]) (n := 1) (Nat.le_of_ble_eq_true rfl)
  have hent : entryFrame m args 1 = F0 m 0 (lg_sl ([.int x0]) ++ List.replicate (1 - (lg_sl ([.int x0])).length) Slot.unset).toArray [] := by rw [hav, lg_entry_eq]
  rw [hent]
  clear hent
  generalize (lg_sl ([.int x0]) ++ List.replicate (1 - (lg_sl ([.int x0])).length) Slot.unset).toArray = ls at hl ⊢
  have hl : lv_has ls 1 [(0, .int x0)] := hl
  have j10 : ∀ (h : tk_AH) (sz : Nat) (H : Heap) (locs : List Loc) (ls : Array Slot), fX4_requireTongue_10 N h sz = some (o9, h9, sz9) → tk_sw G s h sz H locs → lv_has ls 1 [] → W p l e (headSpec (coX4_requireTongue :: tk_W) ({ frames := 6, cells := tk_xc o9 0, slots := tk_xs o9 0, locals := 100 })).room s m args below meth c H locs 0 (0) (vx_MQ below (tk_qx G (tk_ov o9) h9 sz9) (tk_xx G (tk_ov o9) h9 sz9) args s (tk_xc o9 0) (tk_xs o9 0) (tk_ag G)) (F0 m 10 ls []) := by
    intro h sz H locs ls hf hs hl
    unfold fX4_requireTongue_10 at hf
    cases hf
    exact tk_throwNSE hx hb hml hl0 hown ht hE hs hl (by decide : ("TongueSwap", 249, "no such tongue") ∈ tk_strs) dX4_requireTongue_10 dX4_requireTongue_13 dX4_requireTongue_14 dX4_requireTongue_16 dX4_requireTongue_19 hout (Nat.le_of_ble_eq_true rfl) (Nat.le_of_ble_eq_true rfl) (Nat.le_of_ble_eq_true rfl) (Nat.le_of_ble_eq_true rfl) (Nat.le_refl _) (Nat.le_refl _) hlocks
  unfold fX4_requireTongue at hf
  refine lv_iload_n hx hb dX4_requireTongue_0 rfl (lv_at hl 0 rfl) ?_
  refine lv_if_lt (tgt := 10) hx hb dX4_requireTongue_1 (by decide) (fun c1 => ?_) (fun c1 => ?_)
  · rw [if_pos c1] at hf
    exact j10 h sz _ _ _ hf hs (lv_sub hl [] rfl)
  · rw [if_neg c1] at hf
    refine lv_iload_n hx hb dX4_requireTongue_4 rfl (lv_at hl 0 rfl) ?_
    refine lv_bipush (v := 8) hx hb dX4_requireTongue_5 (by decide) ?_
    refine lv_icmp_lt (tgt := 20) hx hb dX4_requireTongue_7 (by decide) (fun c2 => ?_) (fun c2 => ?_)
    · rw [if_pos c2] at hf
      cases hf
      exact tk_xvret hx hb hr hlocks hs dX4_requireTongue_20
    · rw [if_neg c2] at hf
      exact j10 h sz _ _ _ hf hs (lv_sub hl [] rfl)
def fX4_claim_21 (N : Nat) (h : tk_AH) (sz : Nat) : Option ((Int32 ⊕ String) × tk_AH × Nat) :=
  some (Sum.inr "java/lang/IllegalArgumentException", h, sz + 1)
def fX4_claim (N : Nat) (x0 : Nat) (x1 : Int32) (x2 : Int32) (x3 : Int32) (h : tk_AH) (sz : Nat) : Option ((Int32 ⊕ String) × tk_AH × Nat) :=
  (tk_ok h 4 x0).bind fun _ =>
  (fX4_find N x0 x1 h sz).bind fun o1 =>
  Sum.elim (fun r1 =>
  (fX4_requireTongue N x2 o1.2.1 o1.2.2).bind fun o3 =>
  Sum.elim (fun r3 =>
  if x3 < 0 then (
  fX4_claim_21 N o3.2.1 o3.2.2) else (
  if x3 ≤ 10 then (
  (tk_gR o3.2.1 0 0 r1).bind fun v6 =>
  (tk_aI o3.2.1 0 v6 x2).bind fun v7 =>
  (tk_gR o3.2.1 0 0 r1).bind fun v8 =>
  (tk_sI o3.2.1 0 v8 x2 x3).bind fun h9 =>
  some (Sum.inl v7, h9, o3.2.2)) else (
  fX4_claim_21 N o3.2.1 o3.2.2))) (fun E3 => some (Sum.inr E3, o3.2.1, o3.2.2)) o3.1) (fun E1 => some (Sum.inr E1, o1.2.1, o1.2.2)) o1.1
set_option maxHeartbeats 8000000 in
set_option maxRecDepth 100000 in
theorem cX4_claim_ok (l : Launch) (hl0 : l.stackTraces = false) (G : tk_AG) (N : Nat) (x0 : Nat) (x1 : Int32) (x2 : Int32) (x3 : Int32) (h : tk_AH) (sz : Nat) (o9 : Int32 ⊕ String) (h9 : tk_AH) (sz9 : Nat) (hf : fX4_claim N x0 x1 x2 x3 h sz = some (o9, h9, sz9)) : vx_Met l yX4_claim (coX4_claim :: tk_W) ({ frames := 7, cells := tk_xc o9 0, slots := tk_xs o9 0, locals := 122 }) (tk_pc G [.ref x0, .int x1, .int x2, .int x3] h sz) (tk_qx G (tk_oi o9) h9 sz9) (tk_xx G (tk_oi o9) h9 sz9) (tk_xc o9 0) (tk_xs o9 0) (tk_ag G) := by
  refine vx_ofW (cc := cX4_claim) (maxL := 6) (ret := (some .int)) (by decide) rfl ?_
  intro p e s m args below meth c s₁ B hml hout hv
  obtain ⟨hav, hE, hrp, hsz, hgs⟩ := hv
  have hx := B.exec
  have hb := B.bytes
  have hr := B.returns
  have hts := atoms_spec (ws := coX4_claim :: tk_W) B.pre
  have ht : ∀ w ∈ tk_W, w.before args s = true := fun w h => hts w (List.mem_cons_of_mem _ h)
  have hown : s.vm.findClass RX4 = some m.cls := findClass_of_methodNamed B.named
  have hlocks := B.notSynchronized
  have hs : tk_sw G s h sz s.heap [] := ⟨hrp, hsz, by rw [hsz]; exact hgs, va_S.rf⟩
  have hl := lv_entry ([.ref x0, .int x1, .int x2, .int x3]) (n := 6) (Nat.le_of_ble_eq_true rfl)
  have hent : entryFrame m args 6 = F0 m 0 (lg_sl ([.ref x0, .int x1, .int x2, .int x3]) ++ List.replicate (6 - (lg_sl ([.ref x0, .int x1, .int x2, .int x3])).length) Slot.unset).toArray [] := by rw [hav, lg_entry_eq]
  rw [hent]
  clear hent
  generalize (lg_sl ([.ref x0, .int x1, .int x2, .int x3]) ++ List.replicate (6 - (lg_sl ([.ref x0, .int x1, .int x2, .int x3])).length) Slot.unset).toArray = ls at hl ⊢
  have hl : lv_has ls 6 [(0, .ref x0), (1, .int x1), (2, .int x2), (3, .int x3)] := hl
  have j21 : ∀ (h : tk_AH) (sz : Nat) (H : Heap) (locs : List Loc) (ls : Array Slot), fX4_claim_21 N h sz = some (o9, h9, sz9) → tk_sw G s h sz H locs → lv_has ls 6 [] → W p l e (headSpec (coX4_claim :: tk_W) ({ frames := 7, cells := tk_xc o9 0, slots := tk_xs o9 0, locals := 122 })).room s m args below meth c H locs 0 (0) (vx_MQ below (tk_qx G (tk_oi o9) h9 sz9) (tk_xx G (tk_oi o9) h9 sz9) args s (tk_xc o9 0) (tk_xs o9 0) (tk_ag G)) (F0 m 21 ls []) := by
    intro h sz H locs ls hf hs hl
    unfold fX4_claim_21 at hf
    cases hf
    exact tk_throwIAE hx hb hml hl0 hown ht hE hs hl (by decide : ("TongueSwap", 60, "a claim is 0 to 10") ∈ tk_strs) dX4_claim_21 dX4_claim_24 dX4_claim_25 dX4_claim_27 dX4_claim_30 hout (Nat.le_of_ble_eq_true rfl) (Nat.le_of_ble_eq_true rfl) (Nat.le_of_ble_eq_true rfl) (Nat.le_of_ble_eq_true rfl) (Nat.le_refl _) (Nat.le_refl _) hlocks
  unfold fX4_claim at hf
  refine lv_aload_n hx hb dX4_claim_0 rfl (lv_at hl 0 rfl) ?_
  refine lv_iload_n hx hb dX4_claim_1 rfl (lv_at hl 1 rfl) ?_
  obtain ⟨_, p1, hf⟩ := tk_bi hf
  obtain ⟨o1, e1, hf⟩ := tk_bi hf
  rcases w1 : o1.1 with r1 | E1
  · rw [w1, Sum.elim_inl] at hf
    refine tk_xret0 (v := some (.ref r1)) hs (vx_runV (As := [.int x1]) (rest := []) ⟨hx, hb, hml, hown, ht⟩ (cX4_find_ok l hl0 G N x0 x1 h sz (Sum.inl r1) o1.2.1 o1.2.2 (by rw [e1, ← w1])) (kwX4_find ht wmX4_48 rfl rfl ⟨Nat.le_of_ble_eq_true rfl, Nat.le_of_ble_eq_true rfl⟩) (tk_preV hE hs (tk_ok_ok p1) rfl) rfl rfl hl.1 rfl (lv_room (Nat.le_of_ble_eq_true rfl)) dX4_claim_2 ⟨(Nat.zero_le _), (Nat.zero_le _)⟩) rfl rfl (fun H locs hs => ?_)
    refine W.eq (g2 := F0 m 5 ls [.ref r1]) rfl ?_
    refine lv_astore (lv' := [(4, .ref r1), (0, .ref x0), (1, .int x1), (2, .int x2), (3, .int x3)]) hx hb dX4_claim_5 hl (by decide) rfl (fun ls hl => ?_)
    refine lv_iload_n hx hb dX4_claim_7 rfl (lv_at hl 3 rfl) ?_
    obtain ⟨o3, e3, hf⟩ := tk_bi hf
    rcases w3 : o3.1 with r3 | E3
    · rw [w3, Sum.elim_inl] at hf
      refine tk_xret0 (v := none) hs (vx_runS (As := [.int x2]) (rest := []) ⟨hx, hb, hml, hown, ht⟩ (cX4_requireTongue_ok l hl0 G N x2 o1.2.1 o1.2.2 (Sum.inl r3) o3.2.1 o3.2.2 (by rw [e3, ← w3])) (kwX4_requireTongue ht wmX4_55 rfl rfl ⟨Nat.le_of_ble_eq_true rfl, Nat.le_of_ble_eq_true rfl⟩) (tk_preS hE hs) rfl rfl hl.1 rfl (lv_room (Nat.le_of_ble_eq_true rfl)) dX4_claim_8 ⟨(Nat.zero_le _), (Nat.zero_le _)⟩) rfl rfl (fun H locs hs => ?_)
      refine W.eq (g2 := F0 m 11 ls []) rfl ?_
      refine lv_iload_n hx hb dX4_claim_11 rfl (lv_at hl 4 rfl) ?_
      refine lv_if_lt (tgt := 21) hx hb dX4_claim_12 (by decide) (fun c4 => ?_) (fun c4 => ?_)
      · rw [if_pos c4] at hf
        exact j21 o3.2.1 o3.2.2 _ _ _ hf hs (lv_sub hl [] rfl)
      · rw [if_neg c4] at hf
        refine lv_iload_n hx hb dX4_claim_15 rfl (lv_at hl 4 rfl) ?_
        refine lv_bipush (v := 10) hx hb dX4_claim_16 (by decide) ?_
        refine lv_icmp_le (tgt := 31) hx hb dX4_claim_18 (by decide) (fun c5 => ?_) (fun c5 => ?_)
        · rw [if_pos c5] at hf
          refine lv_aload hx hb dX4_claim_31 (lv_at hl 0 rfl) ?_
          obtain ⟨v6, e6, hf⟩ := tk_bi hf
          refine tk_getNR (host := "TongueSwap") hx hb ht inX0 hown hE hs rfl 0 (by decide) (by decide +kernel) e6 dX4_claim_33 ?_
          refine lv_iload_n hx hb dX4_claim_36 rfl (lv_at hl 3 rfl) ?_
          obtain ⟨v7, e7, hf⟩ := tk_bi hf
          refine tk_iald hx hb hE hs e7 dX4_claim_37 ?_
          refine lv_istore (lv' := [(5, .int v7), (4, .ref r1), (0, .ref x0), (1, .int x1), (2, .int x2), (3, .int x3)]) hx hb dX4_claim_38 hl (by decide) rfl (fun ls hl => ?_)
          refine lv_aload hx hb dX4_claim_40 (lv_at hl 1 rfl) ?_
          obtain ⟨v8, e8, hf⟩ := tk_bi hf
          refine tk_getNR (host := "TongueSwap") hx hb ht inX0 hown hE hs rfl 0 (by decide) (by decide +kernel) e8 dX4_claim_42 ?_
          refine lv_iload_n hx hb dX4_claim_45 rfl (lv_at hl 4 rfl) ?_
          refine lv_iload_n hx hb dX4_claim_46 rfl (lv_at hl 5 rfl) ?_
          obtain ⟨h9, e9, hf⟩ := tk_bi hf
          refine tk_iast hx hb hE hs e9 dX4_claim_47 (fun H locs hs => ?_)
          refine lv_iload hx hb dX4_claim_48 (lv_at hl 0 rfl) ?_
          cases hf
          exact tk_xiret hx hb hr hlocks hs dX4_claim_50
        · rw [if_neg c5] at hf
          exact j21 o3.2.1 o3.2.2 _ _ _ hf hs (lv_sub hl [] rfl)
    · rw [w3, Sum.elim_inr] at hf
      cases hf
      exact tk_xthr hs (vx_runS (As := [.int x2]) (rest := []) ⟨hx, hb, hml, hown, ht⟩ (cX4_requireTongue_ok l hl0 G N x2 o1.2.1 o1.2.2 (Sum.inr E3) o3.2.1 o3.2.2 (by rw [e3, ← w3])) (kwX4_requireTongue ht wmX4_55 rfl rfl ⟨Nat.le_of_ble_eq_true rfl, Nat.le_of_ble_eq_true rfl⟩) (tk_preS hE hs) rfl rfl hl.1 rfl (lv_room (Nat.le_of_ble_eq_true rfl)) dX4_claim_8 ⟨Nat.le_of_ble_eq_true rfl, Nat.le_of_ble_eq_true rfl⟩) (fun H locs ce q9 hs hce hcv hcl => tk_xout hout hlocks hs hce hcv hcl (Nat.le_refl _) (Nat.le_refl _))
  · rw [w1, Sum.elim_inr] at hf
    cases hf
    exact tk_xthr hs (vx_runV (As := [.int x1]) (rest := []) ⟨hx, hb, hml, hown, ht⟩ (cX4_find_ok l hl0 G N x0 x1 h sz (Sum.inr E1) o1.2.1 o1.2.2 (by rw [e1, ← w1])) (kwX4_find ht wmX4_48 rfl rfl ⟨Nat.le_of_ble_eq_true rfl, Nat.le_of_ble_eq_true rfl⟩) (tk_preV hE hs (tk_ok_ok p1) rfl) rfl rfl hl.1 rfl (lv_room (Nat.le_of_ble_eq_true rfl)) dX4_claim_2 ⟨Nat.le_of_ble_eq_true rfl, Nat.le_of_ble_eq_true rfl⟩) (fun H locs ce q9 hs hce hcv hcl => tk_xout hout hlocks hs hce hcv hcl (Nat.le_refl _) (Nat.le_refl _))
def fX4_want (N : Nat) (x0 : Nat) (x1 : Int32) (x2 : Int32) (h : tk_AH) (sz : Nat) : Option ((Int32 ⊕ String) × tk_AH × Nat) :=
  (tk_ok h 4 x0).bind fun _ =>
  (fX4_find N x0 x1 h sz).bind fun o1 =>
  Sum.elim (fun r1 =>
  (fX4_requireTongue N x2 o1.2.1 o1.2.2).bind fun o3 =>
  Sum.elim (fun r3 =>
  (tk_ok o3.2.1 0 r1).bind fun _ =>
  (fX0_addWant N r1 x2 o3.2.1 o3.2.2).bind fun o4 =>
  some (Sum.inl o4.1, o4.2.1, o4.2.2)) (fun E3 => some (Sum.inr E3, o3.2.1, o3.2.2)) o3.1) (fun E1 => some (Sum.inr E1, o1.2.1, o1.2.2)) o1.1
set_option maxHeartbeats 8000000 in
set_option maxRecDepth 100000 in
theorem cX4_want_ok (l : Launch) (hl0 : l.stackTraces = false) (G : tk_AG) (N : Nat) (x0 : Nat) (x1 : Int32) (x2 : Int32) (h : tk_AH) (sz : Nat) (o9 : Int32 ⊕ String) (h9 : tk_AH) (sz9 : Nat) (hf : fX4_want N x0 x1 x2 h sz = some (o9, h9, sz9)) : vx_Met l yX4_want (coX4_want :: tk_W) ({ frames := 7, cells := tk_xc o9 0, slots := tk_xs o9 0, locals := 122 }) (tk_pc G [.ref x0, .int x1, .int x2] h sz) (tk_qx G (tk_oi o9) h9 sz9) (tk_xx G (tk_oi o9) h9 sz9) (tk_xc o9 0) (tk_xs o9 0) (tk_ag G) := by
  refine vx_ofW (cc := cX4_want) (maxL := 4) (ret := (some .int)) (by decide) rfl ?_
  intro p e s m args below meth c s₁ B hml hout hv
  obtain ⟨hav, hE, hrp, hsz, hgs⟩ := hv
  have hx := B.exec
  have hb := B.bytes
  have hr := B.returns
  have hts := atoms_spec (ws := coX4_want :: tk_W) B.pre
  have ht : ∀ w ∈ tk_W, w.before args s = true := fun w h => hts w (List.mem_cons_of_mem _ h)
  have hown : s.vm.findClass RX4 = some m.cls := findClass_of_methodNamed B.named
  have hlocks := B.notSynchronized
  have hs : tk_sw G s h sz s.heap [] := ⟨hrp, hsz, by rw [hsz]; exact hgs, va_S.rf⟩
  have hl := lv_entry ([.ref x0, .int x1, .int x2]) (n := 4) (Nat.le_of_ble_eq_true rfl)
  have hent : entryFrame m args 4 = F0 m 0 (lg_sl ([.ref x0, .int x1, .int x2]) ++ List.replicate (4 - (lg_sl ([.ref x0, .int x1, .int x2])).length) Slot.unset).toArray [] := by rw [hav, lg_entry_eq]
  rw [hent]
  clear hent
  generalize (lg_sl ([.ref x0, .int x1, .int x2]) ++ List.replicate (4 - (lg_sl ([.ref x0, .int x1, .int x2])).length) Slot.unset).toArray = ls at hl ⊢
  have hl : lv_has ls 4 [(0, .ref x0), (1, .int x1), (2, .int x2)] := hl
  unfold fX4_want at hf
  refine lv_aload_n hx hb dX4_want_0 rfl (lv_at hl 0 rfl) ?_
  refine lv_iload_n hx hb dX4_want_1 rfl (lv_at hl 1 rfl) ?_
  obtain ⟨_, p1, hf⟩ := tk_bi hf
  obtain ⟨o1, e1, hf⟩ := tk_bi hf
  rcases w1 : o1.1 with r1 | E1
  · rw [w1, Sum.elim_inl] at hf
    refine tk_xret0 (v := some (.ref r1)) hs (vx_runV (As := [.int x1]) (rest := []) ⟨hx, hb, hml, hown, ht⟩ (cX4_find_ok l hl0 G N x0 x1 h sz (Sum.inl r1) o1.2.1 o1.2.2 (by rw [e1, ← w1])) (kwX4_find ht wmX4_48 rfl rfl ⟨Nat.le_of_ble_eq_true rfl, Nat.le_of_ble_eq_true rfl⟩) (tk_preV hE hs (tk_ok_ok p1) rfl) rfl rfl hl.1 rfl (lv_room (Nat.le_of_ble_eq_true rfl)) dX4_want_2 ⟨(Nat.zero_le _), (Nat.zero_le _)⟩) rfl rfl (fun H locs hs => ?_)
    refine W.eq (g2 := F0 m 5 ls [.ref r1]) rfl ?_
    refine lv_astore_n (lv' := [(3, .ref r1), (0, .ref x0), (1, .int x1), (2, .int x2)]) hx hb dX4_want_5 rfl hl (by decide) rfl (fun ls hl => ?_)
    refine lv_iload_n hx hb dX4_want_6 rfl (lv_at hl 3 rfl) ?_
    obtain ⟨o3, e3, hf⟩ := tk_bi hf
    rcases w3 : o3.1 with r3 | E3
    · rw [w3, Sum.elim_inl] at hf
      refine tk_xret0 (v := none) hs (vx_runS (As := [.int x2]) (rest := []) ⟨hx, hb, hml, hown, ht⟩ (cX4_requireTongue_ok l hl0 G N x2 o1.2.1 o1.2.2 (Sum.inl r3) o3.2.1 o3.2.2 (by rw [e3, ← w3])) (kwX4_requireTongue ht wmX4_55 rfl rfl ⟨Nat.le_of_ble_eq_true rfl, Nat.le_of_ble_eq_true rfl⟩) (tk_preS hE hs) rfl rfl hl.1 rfl (lv_room (Nat.le_of_ble_eq_true rfl)) dX4_want_7 ⟨(Nat.zero_le _), (Nat.zero_le _)⟩) rfl rfl (fun H locs hs => ?_)
      refine W.eq (g2 := F0 m 10 ls []) rfl ?_
      refine lv_aload_n hx hb dX4_want_10 rfl (lv_at hl 0 rfl) ?_
      refine lv_iload_n hx hb dX4_want_11 rfl (lv_at hl 3 rfl) ?_
      obtain ⟨_, p4, hf⟩ := tk_bi hf
      obtain ⟨o4, e4, hf⟩ := tk_bi hf
      refine tk_call0 (v := some (.int o4.1)) hs (va_runV (As := [.int x2]) (rest := []) ⟨hx, hb, hml, hown, ht⟩ (cX0_addWant_ok l hl0 G N r1 x2 o3.2.1 o3.2.2 o4.1 o4.2.1 o4.2.2 e4) (kwX0_addWant ht wmX4_68 rfl rfl ⟨Nat.le_of_ble_eq_true rfl, Nat.le_of_ble_eq_true rfl⟩) (tk_preV hE hs (tk_ok_ok p4) rfl) rfl rfl hl.1 rfl (lv_room (Nat.le_of_ble_eq_true rfl)) dX4_want_12 ⟨(Nat.zero_le _), (Nat.zero_le _)⟩) (fun H locs hs => ?_)
      refine W.eq (g2 := F0 m 15 ls [.int o4.1]) rfl ?_
      cases hf
      exact tk_xiret hx hb hr hlocks hs dX4_want_15
    · rw [w3, Sum.elim_inr] at hf
      cases hf
      exact tk_xthr hs (vx_runS (As := [.int x2]) (rest := []) ⟨hx, hb, hml, hown, ht⟩ (cX4_requireTongue_ok l hl0 G N x2 o1.2.1 o1.2.2 (Sum.inr E3) o3.2.1 o3.2.2 (by rw [e3, ← w3])) (kwX4_requireTongue ht wmX4_55 rfl rfl ⟨Nat.le_of_ble_eq_true rfl, Nat.le_of_ble_eq_true rfl⟩) (tk_preS hE hs) rfl rfl hl.1 rfl (lv_room (Nat.le_of_ble_eq_true rfl)) dX4_want_7 ⟨Nat.le_of_ble_eq_true rfl, Nat.le_of_ble_eq_true rfl⟩) (fun H locs ce q9 hs hce hcv hcl => tk_xout hout hlocks hs hce hcv hcl (Nat.le_refl _) (Nat.le_refl _))
  · rw [w1, Sum.elim_inr] at hf
    cases hf
    exact tk_xthr hs (vx_runV (As := [.int x1]) (rest := []) ⟨hx, hb, hml, hown, ht⟩ (cX4_find_ok l hl0 G N x0 x1 h sz (Sum.inr E1) o1.2.1 o1.2.2 (by rw [e1, ← w1])) (kwX4_find ht wmX4_48 rfl rfl ⟨Nat.le_of_ble_eq_true rfl, Nat.le_of_ble_eq_true rfl⟩) (tk_preV hE hs (tk_ok_ok p1) rfl) rfl rfl hl.1 rfl (lv_room (Nat.le_of_ble_eq_true rfl)) dX4_want_2 ⟨Nat.le_of_ble_eq_true rfl, Nat.le_of_ble_eq_true rfl⟩) (fun H locs ce q9 hs hce hcv hcl => tk_xout hout hlocks hs hce hcv hcl (Nat.le_refl _) (Nat.le_refl _))
def fX4_unwant (N : Nat) (x0 : Nat) (x1 : Int32) (h : tk_AH) (sz : Nat) : Option ((Int32 ⊕ String) × tk_AH × Nat) :=
  (tk_ok h 4 x0).bind fun _ =>
  (fX4_find N x0 x1 h sz).bind fun o1 =>
  Sum.elim (fun r1 =>
  (tk_gI o1.2.1 0 9 r1).bind fun v3 =>
  (tk_pF o1.2.1 0 9 r1 (.int 0)).bind fun h4 =>
  some (Sum.inl v3, h4, o1.2.2)) (fun E1 => some (Sum.inr E1, o1.2.1, o1.2.2)) o1.1
set_option maxHeartbeats 8000000 in
set_option maxRecDepth 100000 in
theorem cX4_unwant_ok (l : Launch) (hl0 : l.stackTraces = false) (G : tk_AG) (N : Nat) (x0 : Nat) (x1 : Int32) (h : tk_AH) (sz : Nat) (o9 : Int32 ⊕ String) (h9 : tk_AH) (sz9 : Nat) (hf : fX4_unwant N x0 x1 h sz = some (o9, h9, sz9)) : vx_Met l yX4_unwant (coX4_unwant :: tk_W) ({ frames := 7, cells := tk_xc o9 0, slots := tk_xs o9 0, locals := 122 }) (tk_pc G [.ref x0, .int x1] h sz) (tk_qx G (tk_oi o9) h9 sz9) (tk_xx G (tk_oi o9) h9 sz9) (tk_xc o9 0) (tk_xs o9 0) (tk_ag G) := by
  refine vx_ofW (cc := cX4_unwant) (maxL := 4) (ret := (some .int)) (by decide) rfl ?_
  intro p e s m args below meth c s₁ B hml hout hv
  obtain ⟨hav, hE, hrp, hsz, hgs⟩ := hv
  have hx := B.exec
  have hb := B.bytes
  have hr := B.returns
  have hts := atoms_spec (ws := coX4_unwant :: tk_W) B.pre
  have ht : ∀ w ∈ tk_W, w.before args s = true := fun w h => hts w (List.mem_cons_of_mem _ h)
  have hown : s.vm.findClass RX4 = some m.cls := findClass_of_methodNamed B.named
  have hlocks := B.notSynchronized
  have hs : tk_sw G s h sz s.heap [] := ⟨hrp, hsz, by rw [hsz]; exact hgs, va_S.rf⟩
  have hl := lv_entry ([.ref x0, .int x1]) (n := 4) (Nat.le_of_ble_eq_true rfl)
  have hent : entryFrame m args 4 = F0 m 0 (lg_sl ([.ref x0, .int x1]) ++ List.replicate (4 - (lg_sl ([.ref x0, .int x1])).length) Slot.unset).toArray [] := by rw [hav, lg_entry_eq]
  rw [hent]
  clear hent
  generalize (lg_sl ([.ref x0, .int x1]) ++ List.replicate (4 - (lg_sl ([.ref x0, .int x1])).length) Slot.unset).toArray = ls at hl ⊢
  have hl : lv_has ls 4 [(0, .ref x0), (1, .int x1)] := hl
  unfold fX4_unwant at hf
  refine lv_aload_n hx hb dX4_unwant_0 rfl (lv_at hl 0 rfl) ?_
  refine lv_iload_n hx hb dX4_unwant_1 rfl (lv_at hl 1 rfl) ?_
  obtain ⟨_, p1, hf⟩ := tk_bi hf
  obtain ⟨o1, e1, hf⟩ := tk_bi hf
  rcases w1 : o1.1 with r1 | E1
  · rw [w1, Sum.elim_inl] at hf
    refine tk_xret0 (v := some (.ref r1)) hs (vx_runV (As := [.int x1]) (rest := []) ⟨hx, hb, hml, hown, ht⟩ (cX4_find_ok l hl0 G N x0 x1 h sz (Sum.inl r1) o1.2.1 o1.2.2 (by rw [e1, ← w1])) (kwX4_find ht wmX4_48 rfl rfl ⟨Nat.le_of_ble_eq_true rfl, Nat.le_of_ble_eq_true rfl⟩) (tk_preV hE hs (tk_ok_ok p1) rfl) rfl rfl hl.1 rfl (lv_room (Nat.le_of_ble_eq_true rfl)) dX4_unwant_2 ⟨(Nat.zero_le _), (Nat.zero_le _)⟩) rfl rfl (fun H locs hs => ?_)
    refine W.eq (g2 := F0 m 5 ls [.ref r1]) rfl ?_
    refine lv_astore_n (lv' := [(2, .ref r1), (0, .ref x0), (1, .int x1)]) hx hb dX4_unwant_5 rfl hl (by decide) rfl (fun ls hl => ?_)
    refine lv_aload_n hx hb dX4_unwant_6 rfl (lv_at hl 0 rfl) ?_
    obtain ⟨v3, e3, hf⟩ := tk_bi hf
    refine tk_getNI (host := "TongueSwap") hx hb ht inX0 hown hE hs rfl 9 (by decide) (by decide +kernel) e3 dX4_unwant_7 ?_
    refine lv_istore_n (lv' := [(3, .int v3), (2, .ref r1), (0, .ref x0), (1, .int x1)]) hx hb dX4_unwant_10 rfl hl (by decide) rfl (fun ls hl => ?_)
    refine lv_aload_n hx hb dX4_unwant_11 rfl (lv_at hl 1 rfl) ?_
    refine lv_iconst (v := 0) hx hb dX4_unwant_12 (by decide) ?_
    obtain ⟨h4, e4, hf⟩ := tk_bi hf
    refine tk_putN (host := "TongueSwap") hx hb ht inX0 tyX0 tyX0_ok nmX0 hown hE hs rfl 9 (by decide) (by decide +kernel) rfl rfl rfl e4 dX4_unwant_13 (fun H locs hs => ?_)
    refine lv_iload_n hx hb dX4_unwant_16 rfl (lv_at hl 0 rfl) ?_
    cases hf
    exact tk_xiret hx hb hr hlocks hs dX4_unwant_17
  · rw [w1, Sum.elim_inr] at hf
    cases hf
    exact tk_xthr hs (vx_runV (As := [.int x1]) (rest := []) ⟨hx, hb, hml, hown, ht⟩ (cX4_find_ok l hl0 G N x0 x1 h sz (Sum.inr E1) o1.2.1 o1.2.2 (by rw [e1, ← w1])) (kwX4_find ht wmX4_48 rfl rfl ⟨Nat.le_of_ble_eq_true rfl, Nat.le_of_ble_eq_true rfl⟩) (tk_preV hE hs (tk_ok_ok p1) rfl) rfl rfl hl.1 rfl (lv_room (Nat.le_of_ble_eq_true rfl)) dX4_unwant_2 ⟨Nat.le_of_ble_eq_true rfl, Nat.le_of_ble_eq_true rfl⟩) (fun H locs ce q9 hs hce hcv hcl => tk_xout hout hlocks hs hce hcv hcl (Nat.le_refl _) (Nat.le_refl _))
def fX4_requireTwo (N : Nat) (x0 : Nat) (x1 : Int32) (x2 : Int32) (h : tk_AH) (sz : Nat) : Option ((Unit ⊕ String) × tk_AH × Nat) :=
  (tk_ok h 4 x0).bind fun _ =>
  (fX4_find N x0 x1 h sz).bind fun o1 =>
  Sum.elim (fun r1 =>
  (tk_ok o1.2.1 4 x0).bind fun _ =>
  (fX4_find N x0 x2 o1.2.1 o1.2.2).bind fun o3 =>
  Sum.elim (fun r3 =>
  if x1 = x2 then (
  some (Sum.inr "java/util/NoSuchElementException", o3.2.1, o3.2.2 + 1)) else (
  some (Sum.inl (), o3.2.1, o3.2.2))) (fun E3 => some (Sum.inr E3, o3.2.1, o3.2.2)) o3.1) (fun E1 => some (Sum.inr E1, o1.2.1, o1.2.2)) o1.1
set_option maxHeartbeats 8000000 in
set_option maxRecDepth 100000 in
theorem cX4_requireTwo_ok (l : Launch) (hl0 : l.stackTraces = false) (G : tk_AG) (N : Nat) (x0 : Nat) (x1 : Int32) (x2 : Int32) (h : tk_AH) (sz : Nat) (o9 : Unit ⊕ String) (h9 : tk_AH) (sz9 : Nat) (hf : fX4_requireTwo N x0 x1 x2 h sz = some (o9, h9, sz9)) : vx_Met l yX4_requireTwo (coX4_requireTwo :: tk_W) ({ frames := 7, cells := tk_xc o9 0, slots := tk_xs o9 0, locals := 122 }) (tk_pc G [.ref x0, .int x1, .int x2] h sz) (tk_qx G (tk_ov o9) h9 sz9) (tk_xx G (tk_ov o9) h9 sz9) (tk_xc o9 0) (tk_xs o9 0) (tk_ag G) := by
  refine vx_ofW (cc := cX4_requireTwo) (maxL := 3) (ret := none) (by decide) rfl ?_
  intro p e s m args below meth c s₁ B hml hout hv
  obtain ⟨hav, hE, hrp, hsz, hgs⟩ := hv
  have hx := B.exec
  have hb := B.bytes
  have hr := B.returns
  have hts := atoms_spec (ws := coX4_requireTwo :: tk_W) B.pre
  have ht : ∀ w ∈ tk_W, w.before args s = true := fun w h => hts w (List.mem_cons_of_mem _ h)
  have hown : s.vm.findClass RX4 = some m.cls := findClass_of_methodNamed B.named
  have hlocks := B.notSynchronized
  have hs : tk_sw G s h sz s.heap [] := ⟨hrp, hsz, by rw [hsz]; exact hgs, va_S.rf⟩
  have hl := lv_entry ([.ref x0, .int x1, .int x2]) (n := 3) (Nat.le_of_ble_eq_true rfl)
  have hent : entryFrame m args 3 = F0 m 0 (lg_sl ([.ref x0, .int x1, .int x2]) ++ List.replicate (3 - (lg_sl ([.ref x0, .int x1, .int x2])).length) Slot.unset).toArray [] := by rw [hav, lg_entry_eq]
  rw [hent]
  clear hent
  generalize (lg_sl ([.ref x0, .int x1, .int x2]) ++ List.replicate (3 - (lg_sl ([.ref x0, .int x1, .int x2])).length) Slot.unset).toArray = ls at hl ⊢
  have hl : lv_has ls 3 [(0, .ref x0), (1, .int x1), (2, .int x2)] := hl
  unfold fX4_requireTwo at hf
  refine lv_aload_n hx hb dX4_requireTwo_0 rfl (lv_at hl 0 rfl) ?_
  refine lv_iload_n hx hb dX4_requireTwo_1 rfl (lv_at hl 1 rfl) ?_
  obtain ⟨_, p1, hf⟩ := tk_bi hf
  obtain ⟨o1, e1, hf⟩ := tk_bi hf
  rcases w1 : o1.1 with r1 | E1
  · rw [w1, Sum.elim_inl] at hf
    refine tk_xret0 (v := some (.ref r1)) hs (vx_runV (As := [.int x1]) (rest := []) ⟨hx, hb, hml, hown, ht⟩ (cX4_find_ok l hl0 G N x0 x1 h sz (Sum.inl r1) o1.2.1 o1.2.2 (by rw [e1, ← w1])) (kwX4_find ht wmX4_48 rfl rfl ⟨Nat.le_of_ble_eq_true rfl, Nat.le_of_ble_eq_true rfl⟩) (tk_preV hE hs (tk_ok_ok p1) rfl) rfl rfl hl.1 rfl (lv_room (Nat.le_of_ble_eq_true rfl)) dX4_requireTwo_2 ⟨(Nat.zero_le _), (Nat.zero_le _)⟩) rfl rfl (fun H locs hs => ?_)
    refine W.eq (g2 := F0 m 5 ls [.ref r1]) rfl ?_
    refine lv_pop hx hb dX4_requireTwo_5 rfl ?_
    refine lv_aload_n hx hb dX4_requireTwo_6 rfl (lv_at hl 0 rfl) ?_
    refine lv_iload_n hx hb dX4_requireTwo_7 rfl (lv_at hl 2 rfl) ?_
    obtain ⟨_, p3, hf⟩ := tk_bi hf
    obtain ⟨o3, e3, hf⟩ := tk_bi hf
    rcases w3 : o3.1 with r3 | E3
    · rw [w3, Sum.elim_inl] at hf
      refine tk_xret0 (v := some (.ref r3)) hs (vx_runV (As := [.int x2]) (rest := []) ⟨hx, hb, hml, hown, ht⟩ (cX4_find_ok l hl0 G N x0 x2 o1.2.1 o1.2.2 (Sum.inl r3) o3.2.1 o3.2.2 (by rw [e3, ← w3])) (kwX4_find ht wmX4_48 rfl rfl ⟨Nat.le_of_ble_eq_true rfl, Nat.le_of_ble_eq_true rfl⟩) (tk_preV hE hs (tk_ok_ok p3) rfl) rfl rfl hl.1 rfl (lv_room (Nat.le_of_ble_eq_true rfl)) dX4_requireTwo_8 ⟨(Nat.zero_le _), (Nat.zero_le _)⟩) rfl rfl (fun H locs hs => ?_)
      refine W.eq (g2 := F0 m 11 ls [.ref r3]) rfl ?_
      refine lv_pop hx hb dX4_requireTwo_11 rfl ?_
      refine lv_iload_n hx hb dX4_requireTwo_12 rfl (lv_at hl 1 rfl) ?_
      refine lv_iload_n hx hb dX4_requireTwo_13 rfl (lv_at hl 2 rfl) ?_
      refine lv_icmp_ne (tgt := 27) hx hb dX4_requireTwo_14 (by decide) (fun c5 => ?_) (fun c5 => ?_)
      · rw [if_neg c5] at hf
        cases hf
        exact tk_xvret hx hb hr hlocks hs dX4_requireTwo_27
      · rw [if_pos c5] at hf
        cases hf
        exact tk_throwNSE hx hb hml hl0 hown ht hE hs hl (by decide : ("TongueSwap", 247, "both are one") ∈ tk_strs) dX4_requireTwo_17 dX4_requireTwo_20 dX4_requireTwo_21 dX4_requireTwo_23 dX4_requireTwo_26 hout (Nat.le_of_ble_eq_true rfl) (Nat.le_of_ble_eq_true rfl) (Nat.le_of_ble_eq_true rfl) (Nat.le_of_ble_eq_true rfl) (Nat.le_refl _) (Nat.le_refl _) hlocks
    · rw [w3, Sum.elim_inr] at hf
      cases hf
      exact tk_xthr hs (vx_runV (As := [.int x2]) (rest := []) ⟨hx, hb, hml, hown, ht⟩ (cX4_find_ok l hl0 G N x0 x2 o1.2.1 o1.2.2 (Sum.inr E3) o3.2.1 o3.2.2 (by rw [e3, ← w3])) (kwX4_find ht wmX4_48 rfl rfl ⟨Nat.le_of_ble_eq_true rfl, Nat.le_of_ble_eq_true rfl⟩) (tk_preV hE hs (tk_ok_ok p3) rfl) rfl rfl hl.1 rfl (lv_room (Nat.le_of_ble_eq_true rfl)) dX4_requireTwo_8 ⟨Nat.le_of_ble_eq_true rfl, Nat.le_of_ble_eq_true rfl⟩) (fun H locs ce q9 hs hce hcv hcl => tk_xout hout hlocks hs hce hcv hcl (Nat.le_refl _) (Nat.le_refl _))
  · rw [w1, Sum.elim_inr] at hf
    cases hf
    exact tk_xthr hs (vx_runV (As := [.int x1]) (rest := []) ⟨hx, hb, hml, hown, ht⟩ (cX4_find_ok l hl0 G N x0 x1 h sz (Sum.inr E1) o1.2.1 o1.2.2 (by rw [e1, ← w1])) (kwX4_find ht wmX4_48 rfl rfl ⟨Nat.le_of_ble_eq_true rfl, Nat.le_of_ble_eq_true rfl⟩) (tk_preV hE hs (tk_ok_ok p1) rfl) rfl rfl hl.1 rfl (lv_room (Nat.le_of_ble_eq_true rfl)) dX4_requireTwo_2 ⟨Nat.le_of_ble_eq_true rfl, Nat.le_of_ble_eq_true rfl⟩) (fun H locs ce q9 hs hce hcv hcl => tk_xout hout hlocks hs hce hcv hcl (Nat.le_refl _) (Nat.le_refl _))
def fX4_bar (N : Nat) (x0 : Nat) (x1 : Int32) (x2 : Int32) (x3 : Int32) (h : tk_AH) (sz : Nat) : Option ((Int32 ⊕ String) × tk_AH × Nat) :=
  (tk_ok h 4 x0).bind fun _ =>
  (fX4_requireTwo N x0 x1 x2 h sz).bind fun o1 =>
  Sum.elim (fun r1 =>
  (tk_ok o1.2.1 4 x0).bind fun _ =>
  (fX4_find N x0 x1 o1.2.1 o1.2.2).bind fun o3 =>
  Sum.elim (fun r3 =>
  (tk_ok o3.2.1 4 x0).bind fun _ =>
  (fX4_find N x0 x2 o3.2.1 o3.2.2).bind fun o5 =>
  Sum.elim (fun r5 =>
  (tk_ok o5.2.1 0 r3).bind fun _ =>
  (fX0_isBarred N r3 x2 o5.2.1 o5.2.2).bind fun o7 =>
  (tk_ok o7.2.1 0 r3).bind fun _ =>
  (fX0_setBar N r3 x2 x3 o7.2.1 o7.2.2).bind fun o9 =>
  (tk_ok o9.1 0 r5).bind fun _ =>
  (fX0_setBar N r5 x1 x3 o9.1 o9.2).bind fun o11 =>
  (tk_bz o7.1).bind fun _ =>
  some (Sum.inl o7.1, o11.1, o11.2)) (fun E5 => some (Sum.inr E5, o5.2.1, o5.2.2)) o5.1) (fun E3 => some (Sum.inr E3, o3.2.1, o3.2.2)) o3.1) (fun E1 => some (Sum.inr E1, o1.2.1, o1.2.2)) o1.1
set_option maxHeartbeats 8000000 in
set_option maxRecDepth 100000 in
theorem cX4_bar_ok (l : Launch) (hl0 : l.stackTraces = false) (G : tk_AG) (N : Nat) (x0 : Nat) (x1 : Int32) (x2 : Int32) (x3 : Int32) (h : tk_AH) (sz : Nat) (o9 : Int32 ⊕ String) (h9 : tk_AH) (sz9 : Nat) (hf : fX4_bar N x0 x1 x2 x3 h sz = some (o9, h9, sz9)) : vx_Met l yX4_bar (coX4_bar :: tk_W) ({ frames := 8, cells := tk_xc o9 0, slots := tk_xs o9 0, locals := 144 }) (tk_pc G [.ref x0, .int x1, .int x2, .int x3] h sz) (tk_qx G (tk_oz o9) h9 sz9) (tk_xx G (tk_oz o9) h9 sz9) (tk_xc o9 0) (tk_xs o9 0) (tk_ag G) := by
  refine vx_ofW (cc := cX4_bar) (maxL := 7) (ret := (some .boolean)) (by decide) rfl ?_
  intro p e s m args below meth c s₁ B hml hout hv
  obtain ⟨hav, hE, hrp, hsz, hgs⟩ := hv
  have hx := B.exec
  have hb := B.bytes
  have hr := B.returns
  have hts := atoms_spec (ws := coX4_bar :: tk_W) B.pre
  have ht : ∀ w ∈ tk_W, w.before args s = true := fun w h => hts w (List.mem_cons_of_mem _ h)
  have hown : s.vm.findClass RX4 = some m.cls := findClass_of_methodNamed B.named
  have hlocks := B.notSynchronized
  have hs : tk_sw G s h sz s.heap [] := ⟨hrp, hsz, by rw [hsz]; exact hgs, va_S.rf⟩
  have hl := lv_entry ([.ref x0, .int x1, .int x2, .int x3]) (n := 7) (Nat.le_of_ble_eq_true rfl)
  have hent : entryFrame m args 7 = F0 m 0 (lg_sl ([.ref x0, .int x1, .int x2, .int x3]) ++ List.replicate (7 - (lg_sl ([.ref x0, .int x1, .int x2, .int x3])).length) Slot.unset).toArray [] := by rw [hav, lg_entry_eq]
  rw [hent]
  clear hent
  generalize (lg_sl ([.ref x0, .int x1, .int x2, .int x3]) ++ List.replicate (7 - (lg_sl ([.ref x0, .int x1, .int x2, .int x3])).length) Slot.unset).toArray = ls at hl ⊢
  have hl : lv_has ls 7 [(0, .ref x0), (1, .int x1), (2, .int x2), (3, .int x3)] := hl
  unfold fX4_bar at hf
  refine lv_aload_n hx hb dX4_bar_0 rfl (lv_at hl 0 rfl) ?_
  refine lv_iload_n hx hb dX4_bar_1 rfl (lv_at hl 1 rfl) ?_
  refine lv_iload_n hx hb dX4_bar_2 rfl (lv_at hl 2 rfl) ?_
  obtain ⟨_, p1, hf⟩ := tk_bi hf
  obtain ⟨o1, e1, hf⟩ := tk_bi hf
  rcases w1 : o1.1 with r1 | E1
  · rw [w1, Sum.elim_inl] at hf
    refine tk_xret0 (v := none) hs (vx_runV (As := [.int x1, .int x2]) (rest := []) ⟨hx, hb, hml, hown, ht⟩ (cX4_requireTwo_ok l hl0 G N x0 x1 x2 h sz (Sum.inl r1) o1.2.1 o1.2.2 (by rw [e1, ← w1])) (kwX4_requireTwo ht wmX4_75 rfl rfl ⟨Nat.le_of_ble_eq_true rfl, Nat.le_of_ble_eq_true rfl⟩) (tk_preV hE hs (tk_ok_ok p1) rfl) rfl rfl hl.1 rfl (lv_room (Nat.le_of_ble_eq_true rfl)) dX4_bar_3 ⟨(Nat.zero_le _), (Nat.zero_le _)⟩) rfl rfl (fun H locs hs => ?_)
    refine W.eq (g2 := F0 m 6 ls []) rfl ?_
    refine lv_aload_n hx hb dX4_bar_6 rfl (lv_at hl 0 rfl) ?_
    refine lv_iload_n hx hb dX4_bar_7 rfl (lv_at hl 1 rfl) ?_
    obtain ⟨_, p3, hf⟩ := tk_bi hf
    obtain ⟨o3, e3, hf⟩ := tk_bi hf
    rcases w3 : o3.1 with r3 | E3
    · rw [w3, Sum.elim_inl] at hf
      refine tk_xret0 (v := some (.ref r3)) hs (vx_runV (As := [.int x1]) (rest := []) ⟨hx, hb, hml, hown, ht⟩ (cX4_find_ok l hl0 G N x0 x1 o1.2.1 o1.2.2 (Sum.inl r3) o3.2.1 o3.2.2 (by rw [e3, ← w3])) (kwX4_find ht wmX4_48 rfl rfl ⟨Nat.le_of_ble_eq_true rfl, Nat.le_of_ble_eq_true rfl⟩) (tk_preV hE hs (tk_ok_ok p3) rfl) rfl rfl hl.1 rfl (lv_room (Nat.le_of_ble_eq_true rfl)) dX4_bar_8 ⟨(Nat.zero_le _), (Nat.zero_le _)⟩) rfl rfl (fun H locs hs => ?_)
      refine W.eq (g2 := F0 m 11 ls [.ref r3]) rfl ?_
      refine lv_astore (lv' := [(4, .ref r3), (0, .ref x0), (1, .int x1), (2, .int x2), (3, .int x3)]) hx hb dX4_bar_11 hl (by decide) rfl (fun ls hl => ?_)
      refine lv_aload_n hx hb dX4_bar_13 rfl (lv_at hl 1 rfl) ?_
      refine lv_iload_n hx hb dX4_bar_14 rfl (lv_at hl 3 rfl) ?_
      obtain ⟨_, p5, hf⟩ := tk_bi hf
      obtain ⟨o5, e5, hf⟩ := tk_bi hf
      rcases w5 : o5.1 with r5 | E5
      · rw [w5, Sum.elim_inl] at hf
        refine tk_xret0 (v := some (.ref r5)) hs (vx_runV (As := [.int x2]) (rest := []) ⟨hx, hb, hml, hown, ht⟩ (cX4_find_ok l hl0 G N x0 x2 o3.2.1 o3.2.2 (Sum.inl r5) o5.2.1 o5.2.2 (by rw [e5, ← w5])) (kwX4_find ht wmX4_48 rfl rfl ⟨Nat.le_of_ble_eq_true rfl, Nat.le_of_ble_eq_true rfl⟩) (tk_preV hE hs (tk_ok_ok p5) rfl) rfl rfl hl.1 rfl (lv_room (Nat.le_of_ble_eq_true rfl)) dX4_bar_15 ⟨(Nat.zero_le _), (Nat.zero_le _)⟩) rfl rfl (fun H locs hs => ?_)
        refine W.eq (g2 := F0 m 18 ls [.ref r5]) rfl ?_
        refine lv_astore (lv' := [(5, .ref r5), (4, .ref r3), (0, .ref x0), (1, .int x1), (2, .int x2), (3, .int x3)]) hx hb dX4_bar_18 hl (by decide) rfl (fun ls hl => ?_)
        refine lv_aload hx hb dX4_bar_20 (lv_at hl 1 rfl) ?_
        refine lv_iload_n hx hb dX4_bar_22 rfl (lv_at hl 4 rfl) ?_
        obtain ⟨_, p7, hf⟩ := tk_bi hf
        obtain ⟨o7, e7, hf⟩ := tk_bi hf
        refine tk_call0 (v := some (.int o7.1)) hs (va_runV (As := [.int x2]) (rest := []) ⟨hx, hb, hml, hown, ht⟩ (cX0_isBarred_ok l hl0 G N r3 x2 o5.2.1 o5.2.2 o7.1 o7.2.1 o7.2.2 e7) (kwX0_isBarred ht wmX4_79 rfl rfl ⟨Nat.le_of_ble_eq_true rfl, Nat.le_of_ble_eq_true rfl⟩) (tk_preV hE hs (tk_ok_ok p7) rfl) rfl rfl hl.1 rfl (lv_room (Nat.le_of_ble_eq_true rfl)) dX4_bar_23 ⟨(Nat.zero_le _), (Nat.zero_le _)⟩) (fun H locs hs => ?_)
        refine W.eq (g2 := F0 m 26 ls [.int o7.1]) rfl ?_
        refine lv_istore (lv' := [(6, .int o7.1), (5, .ref r5), (4, .ref r3), (0, .ref x0), (1, .int x1), (2, .int x2), (3, .int x3)]) hx hb dX4_bar_26 hl (by decide) rfl (fun ls hl => ?_)
        refine lv_aload hx hb dX4_bar_28 (lv_at hl 2 rfl) ?_
        refine lv_iload_n hx hb dX4_bar_30 rfl (lv_at hl 5 rfl) ?_
        refine lv_iload_n hx hb dX4_bar_31 rfl (lv_at hl 6 rfl) ?_
        obtain ⟨_, p9, hf⟩ := tk_bi hf
        obtain ⟨o9, e9, hf⟩ := tk_bi hf
        refine tk_call0 (v := none) hs (va_runV (As := [.int x2, .int x3]) (rest := []) ⟨hx, hb, hml, hown, ht⟩ (cX0_setBar_ok l hl0 G N r3 x2 x3 o7.2.1 o7.2.2 o9.1 o9.2 e9) (kwX0_setBar ht wmX4_83 rfl rfl ⟨Nat.le_of_ble_eq_true rfl, Nat.le_of_ble_eq_true rfl⟩) (tk_preV hE hs (tk_ok_ok p9) rfl) rfl rfl hl.1 rfl (lv_room (Nat.le_of_ble_eq_true rfl)) dX4_bar_32 ⟨(Nat.zero_le _), (Nat.zero_le _)⟩) (fun H locs hs => ?_)
        refine W.eq (g2 := F0 m 35 ls []) rfl ?_
        refine lv_aload hx hb dX4_bar_35 (lv_at hl 1 rfl) ?_
        refine lv_iload_n hx hb dX4_bar_37 rfl (lv_at hl 4 rfl) ?_
        refine lv_iload_n hx hb dX4_bar_38 rfl (lv_at hl 6 rfl) ?_
        obtain ⟨_, p11, hf⟩ := tk_bi hf
        obtain ⟨o11, e11, hf⟩ := tk_bi hf
        refine tk_call0 (v := none) hs (va_runV (As := [.int x1, .int x3]) (rest := []) ⟨hx, hb, hml, hown, ht⟩ (cX0_setBar_ok l hl0 G N r5 x1 x3 o9.1 o9.2 o11.1 o11.2 e11) (kwX0_setBar ht wmX4_83 rfl rfl ⟨Nat.le_of_ble_eq_true rfl, Nat.le_of_ble_eq_true rfl⟩) (tk_preV hE hs (tk_ok_ok p11) rfl) rfl rfl hl.1 rfl (lv_room (Nat.le_of_ble_eq_true rfl)) dX4_bar_39 ⟨(Nat.zero_le _), (Nat.zero_le _)⟩) (fun H locs hs => ?_)
        refine W.eq (g2 := F0 m 42 ls []) rfl ?_
        refine lv_iload hx hb dX4_bar_42 (lv_at hl 0 rfl) ?_
        obtain ⟨_, e13, hf⟩ := tk_bi hf
        have e13 := tk_bz_ok e13
        cases hf
        exact tk_xzret hx hb hr hlocks e13 hs dX4_bar_44
      · rw [w5, Sum.elim_inr] at hf
        cases hf
        exact tk_xthr hs (vx_runV (As := [.int x2]) (rest := []) ⟨hx, hb, hml, hown, ht⟩ (cX4_find_ok l hl0 G N x0 x2 o3.2.1 o3.2.2 (Sum.inr E5) o5.2.1 o5.2.2 (by rw [e5, ← w5])) (kwX4_find ht wmX4_48 rfl rfl ⟨Nat.le_of_ble_eq_true rfl, Nat.le_of_ble_eq_true rfl⟩) (tk_preV hE hs (tk_ok_ok p5) rfl) rfl rfl hl.1 rfl (lv_room (Nat.le_of_ble_eq_true rfl)) dX4_bar_15 ⟨Nat.le_of_ble_eq_true rfl, Nat.le_of_ble_eq_true rfl⟩) (fun H locs ce q9 hs hce hcv hcl => tk_xout hout hlocks hs hce hcv hcl (Nat.le_refl _) (Nat.le_refl _))
    · rw [w3, Sum.elim_inr] at hf
      cases hf
      exact tk_xthr hs (vx_runV (As := [.int x1]) (rest := []) ⟨hx, hb, hml, hown, ht⟩ (cX4_find_ok l hl0 G N x0 x1 o1.2.1 o1.2.2 (Sum.inr E3) o3.2.1 o3.2.2 (by rw [e3, ← w3])) (kwX4_find ht wmX4_48 rfl rfl ⟨Nat.le_of_ble_eq_true rfl, Nat.le_of_ble_eq_true rfl⟩) (tk_preV hE hs (tk_ok_ok p3) rfl) rfl rfl hl.1 rfl (lv_room (Nat.le_of_ble_eq_true rfl)) dX4_bar_8 ⟨Nat.le_of_ble_eq_true rfl, Nat.le_of_ble_eq_true rfl⟩) (fun H locs ce q9 hs hce hcv hcl => tk_xout hout hlocks hs hce hcv hcl (Nat.le_refl _) (Nat.le_refl _))
  · rw [w1, Sum.elim_inr] at hf
    cases hf
    exact tk_xthr hs (vx_runV (As := [.int x1, .int x2]) (rest := []) ⟨hx, hb, hml, hown, ht⟩ (cX4_requireTwo_ok l hl0 G N x0 x1 x2 h sz (Sum.inr E1) o1.2.1 o1.2.2 (by rw [e1, ← w1])) (kwX4_requireTwo ht wmX4_75 rfl rfl ⟨Nat.le_of_ble_eq_true rfl, Nat.le_of_ble_eq_true rfl⟩) (tk_preV hE hs (tk_ok_ok p1) rfl) rfl rfl hl.1 rfl (lv_room (Nat.le_of_ble_eq_true rfl)) dX4_bar_3 ⟨Nat.le_of_ble_eq_true rfl, Nat.le_of_ble_eq_true rfl⟩) (fun H locs ce q9 hs hce hcv hcl => tk_xout hout hlocks hs hce hcv hcl (Nat.le_refl _) (Nat.le_refl _))
def fX4_test_22 (N : Nat) (h : tk_AH) (sz : Nat) : Option ((Int32 ⊕ String) × tk_AH × Nat) :=
  some (Sum.inr "java/lang/IllegalArgumentException", h, sz + 1)
def fX4_test (N : Nat) (x0 : Nat) (x1 : Int32) (x2 : Int32) (x3 : Int32) (x4 : Int32) (h : tk_AH) (sz : Nat) : Option ((Int32 ⊕ String) × tk_AH × Nat) :=
  (tk_ok h 4 x0).bind fun _ =>
  (fX4_find N x0 x1 h sz).bind fun o1 =>
  Sum.elim (fun r1 =>
  (fX4_requireTongue N x2 o1.2.1 o1.2.2).bind fun o3 =>
  Sum.elim (fun r3 =>
  if x3 < 1 then (
  fX4_test_22 N o3.2.1 o3.2.2) else (
  if x3 ≤ 10 then (
  (tk_ok o3.2.1 0 r1).bind fun _ =>
  (fX0_takeTest N r1 x2 x3 x4 o3.2.1 o3.2.2).bind fun o6 =>
  (tk_bz o6.1).bind fun _ =>
  some (Sum.inl o6.1, o6.2.1, o6.2.2)) else (
  fX4_test_22 N o3.2.1 o3.2.2))) (fun E3 => some (Sum.inr E3, o3.2.1, o3.2.2)) o3.1) (fun E1 => some (Sum.inr E1, o1.2.1, o1.2.2)) o1.1
set_option maxHeartbeats 8000000 in
set_option maxRecDepth 100000 in
theorem cX4_test_ok (l : Launch) (hl0 : l.stackTraces = false) (G : tk_AG) (N : Nat) (x0 : Nat) (x1 : Int32) (x2 : Int32) (x3 : Int32) (x4 : Int32) (h : tk_AH) (sz : Nat) (o9 : Int32 ⊕ String) (h9 : tk_AH) (sz9 : Nat) (hf : fX4_test N x0 x1 x2 x3 x4 h sz = some (o9, h9, sz9)) : vx_Met l yX4_test (coX4_test :: tk_W) ({ frames := 7, cells := tk_xc o9 0, slots := tk_xs o9 0, locals := 122 }) (tk_pc G [.ref x0, .int x1, .int x2, .int x3, .int x4] h sz) (tk_qx G (tk_oz o9) h9 sz9) (tk_xx G (tk_oz o9) h9 sz9) (tk_xc o9 0) (tk_xs o9 0) (tk_ag G) := by
  refine vx_ofW (cc := cX4_test) (maxL := 6) (ret := (some .boolean)) (by decide) rfl ?_
  intro p e s m args below meth c s₁ B hml hout hv
  obtain ⟨hav, hE, hrp, hsz, hgs⟩ := hv
  have hx := B.exec
  have hb := B.bytes
  have hr := B.returns
  have hts := atoms_spec (ws := coX4_test :: tk_W) B.pre
  have ht : ∀ w ∈ tk_W, w.before args s = true := fun w h => hts w (List.mem_cons_of_mem _ h)
  have hown : s.vm.findClass RX4 = some m.cls := findClass_of_methodNamed B.named
  have hlocks := B.notSynchronized
  have hs : tk_sw G s h sz s.heap [] := ⟨hrp, hsz, by rw [hsz]; exact hgs, va_S.rf⟩
  have hl := lv_entry ([.ref x0, .int x1, .int x2, .int x3, .int x4]) (n := 6) (Nat.le_of_ble_eq_true rfl)
  have hent : entryFrame m args 6 = F0 m 0 (lg_sl ([.ref x0, .int x1, .int x2, .int x3, .int x4]) ++ List.replicate (6 - (lg_sl ([.ref x0, .int x1, .int x2, .int x3, .int x4])).length) Slot.unset).toArray [] := by rw [hav, lg_entry_eq]
  rw [hent]
  clear hent
  generalize (lg_sl ([.ref x0, .int x1, .int x2, .int x3, .int x4]) ++ List.replicate (6 - (lg_sl ([.ref x0, .int x1, .int x2, .int x3, .int x4])).length) Slot.unset).toArray = ls at hl ⊢
  have hl : lv_has ls 6 [(0, .ref x0), (1, .int x1), (2, .int x2), (3, .int x3), (4, .int x4)] := hl
  have j22 : ∀ (h : tk_AH) (sz : Nat) (H : Heap) (locs : List Loc) (ls : Array Slot), fX4_test_22 N h sz = some (o9, h9, sz9) → tk_sw G s h sz H locs → lv_has ls 6 [] → W p l e (headSpec (coX4_test :: tk_W) ({ frames := 7, cells := tk_xc o9 0, slots := tk_xs o9 0, locals := 122 })).room s m args below meth c H locs 0 (0) (vx_MQ below (tk_qx G (tk_oz o9) h9 sz9) (tk_xx G (tk_oz o9) h9 sz9) args s (tk_xc o9 0) (tk_xs o9 0) (tk_ag G)) (F0 m 22 ls []) := by
    intro h sz H locs ls hf hs hl
    unfold fX4_test_22 at hf
    cases hf
    exact tk_throwIAE hx hb hml hl0 hown ht hE hs hl (by decide : ("TongueSwap", 87, "a grade is 1 to 10") ∈ tk_strs) dX4_test_22 dX4_test_25 dX4_test_26 dX4_test_28 dX4_test_31 hout (Nat.le_of_ble_eq_true rfl) (Nat.le_of_ble_eq_true rfl) (Nat.le_of_ble_eq_true rfl) (Nat.le_of_ble_eq_true rfl) (Nat.le_refl _) (Nat.le_refl _) hlocks
  unfold fX4_test at hf
  refine lv_aload_n hx hb dX4_test_0 rfl (lv_at hl 0 rfl) ?_
  refine lv_iload_n hx hb dX4_test_1 rfl (lv_at hl 1 rfl) ?_
  obtain ⟨_, p1, hf⟩ := tk_bi hf
  obtain ⟨o1, e1, hf⟩ := tk_bi hf
  rcases w1 : o1.1 with r1 | E1
  · rw [w1, Sum.elim_inl] at hf
    refine tk_xret0 (v := some (.ref r1)) hs (vx_runV (As := [.int x1]) (rest := []) ⟨hx, hb, hml, hown, ht⟩ (cX4_find_ok l hl0 G N x0 x1 h sz (Sum.inl r1) o1.2.1 o1.2.2 (by rw [e1, ← w1])) (kwX4_find ht wmX4_48 rfl rfl ⟨Nat.le_of_ble_eq_true rfl, Nat.le_of_ble_eq_true rfl⟩) (tk_preV hE hs (tk_ok_ok p1) rfl) rfl rfl hl.1 rfl (lv_room (Nat.le_of_ble_eq_true rfl)) dX4_test_2 ⟨(Nat.zero_le _), (Nat.zero_le _)⟩) rfl rfl (fun H locs hs => ?_)
    refine W.eq (g2 := F0 m 5 ls [.ref r1]) rfl ?_
    refine lv_astore (lv' := [(5, .ref r1), (0, .ref x0), (1, .int x1), (2, .int x2), (3, .int x3), (4, .int x4)]) hx hb dX4_test_5 hl (by decide) rfl (fun ls hl => ?_)
    refine lv_iload_n hx hb dX4_test_7 rfl (lv_at hl 3 rfl) ?_
    obtain ⟨o3, e3, hf⟩ := tk_bi hf
    rcases w3 : o3.1 with r3 | E3
    · rw [w3, Sum.elim_inl] at hf
      refine tk_xret0 (v := none) hs (vx_runS (As := [.int x2]) (rest := []) ⟨hx, hb, hml, hown, ht⟩ (cX4_requireTongue_ok l hl0 G N x2 o1.2.1 o1.2.2 (Sum.inl r3) o3.2.1 o3.2.2 (by rw [e3, ← w3])) (kwX4_requireTongue ht wmX4_55 rfl rfl ⟨Nat.le_of_ble_eq_true rfl, Nat.le_of_ble_eq_true rfl⟩) (tk_preS hE hs) rfl rfl hl.1 rfl (lv_room (Nat.le_of_ble_eq_true rfl)) dX4_test_8 ⟨(Nat.zero_le _), (Nat.zero_le _)⟩) rfl rfl (fun H locs hs => ?_)
      refine W.eq (g2 := F0 m 11 ls []) rfl ?_
      refine lv_iload_n hx hb dX4_test_11 rfl (lv_at hl 4 rfl) ?_
      refine lv_iconst (v := 1) hx hb dX4_test_12 (by decide) ?_
      refine lv_icmp_lt (tgt := 22) hx hb dX4_test_13 (by decide) (fun c4 => ?_) (fun c4 => ?_)
      · rw [if_pos c4] at hf
        exact j22 o3.2.1 o3.2.2 _ _ _ hf hs (lv_sub hl [] rfl)
      · rw [if_neg c4] at hf
        refine lv_iload_n hx hb dX4_test_16 rfl (lv_at hl 4 rfl) ?_
        refine lv_bipush (v := 10) hx hb dX4_test_17 (by decide) ?_
        refine lv_icmp_le (tgt := 32) hx hb dX4_test_19 (by decide) (fun c5 => ?_) (fun c5 => ?_)
        · rw [if_pos c5] at hf
          refine lv_aload hx hb dX4_test_32 (lv_at hl 0 rfl) ?_
          refine lv_iload_n hx hb dX4_test_34 rfl (lv_at hl 3 rfl) ?_
          refine lv_iload_n hx hb dX4_test_35 rfl (lv_at hl 4 rfl) ?_
          refine lv_iload hx hb dX4_test_36 (lv_at hl 5 rfl) ?_
          obtain ⟨_, p6, hf⟩ := tk_bi hf
          obtain ⟨o6, e6, hf⟩ := tk_bi hf
          refine tk_call0 (v := some (.int o6.1)) hs (va_runV (As := [.int x2, .int x3, .int x4]) (rest := []) ⟨hx, hb, hml, hown, ht⟩ (cX0_takeTest_ok l hl0 G N r1 x2 x3 x4 o3.2.1 o3.2.2 o6.1 o6.2.1 o6.2.2 e6) (kwX0_takeTest ht wmX4_89 rfl rfl ⟨Nat.le_of_ble_eq_true rfl, Nat.le_of_ble_eq_true rfl⟩) (tk_preV hE hs (tk_ok_ok p6) rfl) rfl rfl hl.1 rfl (lv_room (Nat.le_of_ble_eq_true rfl)) dX4_test_38 ⟨(Nat.zero_le _), (Nat.zero_le _)⟩) (fun H locs hs => ?_)
          refine W.eq (g2 := F0 m 41 ls [.int o6.1]) rfl ?_
          obtain ⟨_, e8, hf⟩ := tk_bi hf
          have e8 := tk_bz_ok e8
          cases hf
          exact tk_xzret hx hb hr hlocks e8 hs dX4_test_41
        · rw [if_neg c5] at hf
          exact j22 o3.2.1 o3.2.2 _ _ _ hf hs (lv_sub hl [] rfl)
    · rw [w3, Sum.elim_inr] at hf
      cases hf
      exact tk_xthr hs (vx_runS (As := [.int x2]) (rest := []) ⟨hx, hb, hml, hown, ht⟩ (cX4_requireTongue_ok l hl0 G N x2 o1.2.1 o1.2.2 (Sum.inr E3) o3.2.1 o3.2.2 (by rw [e3, ← w3])) (kwX4_requireTongue ht wmX4_55 rfl rfl ⟨Nat.le_of_ble_eq_true rfl, Nat.le_of_ble_eq_true rfl⟩) (tk_preS hE hs) rfl rfl hl.1 rfl (lv_room (Nat.le_of_ble_eq_true rfl)) dX4_test_8 ⟨Nat.le_of_ble_eq_true rfl, Nat.le_of_ble_eq_true rfl⟩) (fun H locs ce q9 hs hce hcv hcl => tk_xout hout hlocks hs hce hcv hcl (Nat.le_refl _) (Nat.le_refl _))
  · rw [w1, Sum.elim_inr] at hf
    cases hf
    exact tk_xthr hs (vx_runV (As := [.int x1]) (rest := []) ⟨hx, hb, hml, hown, ht⟩ (cX4_find_ok l hl0 G N x0 x1 h sz (Sum.inr E1) o1.2.1 o1.2.2 (by rw [e1, ← w1])) (kwX4_find ht wmX4_48 rfl rfl ⟨Nat.le_of_ble_eq_true rfl, Nat.le_of_ble_eq_true rfl⟩) (tk_preV hE hs (tk_ok_ok p1) rfl) rfl rfl hl.1 rfl (lv_room (Nat.le_of_ble_eq_true rfl)) dX4_test_2 ⟨Nat.le_of_ble_eq_true rfl, Nat.le_of_ble_eq_true rfl⟩) (fun H locs ce q9 hs hce hcv hcl => tk_xout hout hlocks hs hce hcv hcl (Nat.le_refl _) (Nat.le_refl _))
def fX4_level_106 (N : Nat) (y0 : Int32) (h : tk_AH) (sz : Nat) : Option ((Int32 ⊕ String) × tk_AH × Nat) :=
  some (Sum.inl y0, h, sz)
def fX4_level (N : Nat) (x0 : Nat) (x1 : Int32) (x2 : Int32) (x3 : Int32) (h : tk_AH) (sz : Nat) : Option ((Int32 ⊕ String) × tk_AH × Nat) :=
  (tk_ok h 4 x0).bind fun _ =>
  (fX4_find N x0 x1 h sz).bind fun o1 =>
  Sum.elim (fun r1 =>
  (fX4_requireTongue N x2 o1.2.1 o1.2.2).bind fun o3 =>
  Sum.elim (fun r3 =>
  if x3 = 0 then (
  (tk_gR o3.2.1 0 1 r1).bind fun v5 =>
  (tk_aI o3.2.1 0 v5 x2).bind fun v6 =>
  some (Sum.inl v6, o3.2.1, o3.2.2)) else if x3 = 1 then (
  (tk_gR o3.2.1 0 2 r1).bind fun v8 =>
  (tk_aI o3.2.1 0 v8 x2).bind fun v9 =>
  some (Sum.inl v9, o3.2.1, o3.2.2)) else if x3 = 2 then (
  (tk_gR o3.2.1 0 0 r1).bind fun v11 =>
  (tk_aI o3.2.1 0 v11 x2).bind fun v12 =>
  some (Sum.inl v12, o3.2.1, o3.2.2)) else if x3 = 3 then (
  (tk_gR o3.2.1 0 3 r1).bind fun v14 =>
  (tk_aI o3.2.1 0 v14 x2).bind fun v15 =>
  some (Sum.inl v15, o3.2.1, o3.2.2)) else if x3 = 4 then (
  (tk_gR o3.2.1 0 4 r1).bind fun v17 =>
  (tk_aI o3.2.1 0 v17 x2).bind fun v18 =>
  some (Sum.inl v18, o3.2.1, o3.2.2)) else if x3 = 5 then (
  (tk_ok o3.2.1 0 r1).bind fun _ =>
  (fX0_has N r1 x2 o3.2.1 o3.2.2).bind fun o20 =>
  if o20.1 = 0 then (
  fX4_level_106 N 0 o20.2.1 o20.2.2) else (
  fX4_level_106 N 1 o20.2.1 o20.2.2)) else (
  some (Sum.inr "java/util/NoSuchElementException", o3.2.1, o3.2.2 + 1))) (fun E3 => some (Sum.inr E3, o3.2.1, o3.2.2)) o3.1) (fun E1 => some (Sum.inr E1, o1.2.1, o1.2.2)) o1.1
set_option maxHeartbeats 8000000 in
set_option maxRecDepth 100000 in
theorem cX4_level_ok (l : Launch) (hl0 : l.stackTraces = false) (G : tk_AG) (N : Nat) (x0 : Nat) (x1 : Int32) (x2 : Int32) (x3 : Int32) (h : tk_AH) (sz : Nat) (o9 : Int32 ⊕ String) (h9 : tk_AH) (sz9 : Nat) (hf : fX4_level N x0 x1 x2 x3 h sz = some (o9, h9, sz9)) : vx_Met l yX4_level (coX4_level :: tk_W) ({ frames := 7, cells := tk_xc o9 0, slots := tk_xs o9 0, locals := 122 }) (tk_pc G [.ref x0, .int x1, .int x2, .int x3] h sz) (tk_qx G (tk_oi o9) h9 sz9) (tk_xx G (tk_oi o9) h9 sz9) (tk_xc o9 0) (tk_xs o9 0) (tk_ag G) := by
  refine vx_ofW (cc := cX4_level) (maxL := 5) (ret := (some .int)) (by decide) rfl ?_
  intro p e s m args below meth c s₁ B hml hout hv
  obtain ⟨hav, hE, hrp, hsz, hgs⟩ := hv
  have hx := B.exec
  have hb := B.bytes
  have hr := B.returns
  have hts := atoms_spec (ws := coX4_level :: tk_W) B.pre
  have ht : ∀ w ∈ tk_W, w.before args s = true := fun w h => hts w (List.mem_cons_of_mem _ h)
  have hown : s.vm.findClass RX4 = some m.cls := findClass_of_methodNamed B.named
  have hlocks := B.notSynchronized
  have hs : tk_sw G s h sz s.heap [] := ⟨hrp, hsz, by rw [hsz]; exact hgs, va_S.rf⟩
  have hl := lv_entry ([.ref x0, .int x1, .int x2, .int x3]) (n := 5) (Nat.le_of_ble_eq_true rfl)
  have hent : entryFrame m args 5 = F0 m 0 (lg_sl ([.ref x0, .int x1, .int x2, .int x3]) ++ List.replicate (5 - (lg_sl ([.ref x0, .int x1, .int x2, .int x3])).length) Slot.unset).toArray [] := by rw [hav, lg_entry_eq]
  rw [hent]
  clear hent
  generalize (lg_sl ([.ref x0, .int x1, .int x2, .int x3]) ++ List.replicate (5 - (lg_sl ([.ref x0, .int x1, .int x2, .int x3])).length) Slot.unset).toArray = ls at hl ⊢
  have hl : lv_has ls 5 [(0, .ref x0), (1, .int x1), (2, .int x2), (3, .int x3)] := hl
  have j106 : ∀ (y0 : Int32) (h : tk_AH) (sz : Nat) (H : Heap) (locs : List Loc) (ls : Array Slot), fX4_level_106 N y0 h sz = some (o9, h9, sz9) → tk_sw G s h sz H locs → lv_has ls 5 [] → W p l e (headSpec (coX4_level :: tk_W) ({ frames := 7, cells := tk_xc o9 0, slots := tk_xs o9 0, locals := 122 })).room s m args below meth c H locs 0 (0) (vx_MQ below (tk_qx G (tk_oi o9) h9 sz9) (tk_xx G (tk_oi o9) h9 sz9) args s (tk_xc o9 0) (tk_xs o9 0) (tk_ag G)) (F0 m 106 ls [.int y0]) := by
    intro y0 h sz H locs ls hf hs hl
    unfold fX4_level_106 at hf
    cases hf
    exact tk_xiret hx hb hr hlocks hs dX4_level_106
  unfold fX4_level at hf
  refine lv_aload_n hx hb dX4_level_0 rfl (lv_at hl 0 rfl) ?_
  refine lv_iload_n hx hb dX4_level_1 rfl (lv_at hl 1 rfl) ?_
  obtain ⟨_, p1, hf⟩ := tk_bi hf
  obtain ⟨o1, e1, hf⟩ := tk_bi hf
  rcases w1 : o1.1 with r1 | E1
  · rw [w1, Sum.elim_inl] at hf
    refine tk_xret0 (v := some (.ref r1)) hs (vx_runV (As := [.int x1]) (rest := []) ⟨hx, hb, hml, hown, ht⟩ (cX4_find_ok l hl0 G N x0 x1 h sz (Sum.inl r1) o1.2.1 o1.2.2 (by rw [e1, ← w1])) (kwX4_find ht wmX4_48 rfl rfl ⟨Nat.le_of_ble_eq_true rfl, Nat.le_of_ble_eq_true rfl⟩) (tk_preV hE hs (tk_ok_ok p1) rfl) rfl rfl hl.1 rfl (lv_room (Nat.le_of_ble_eq_true rfl)) dX4_level_2 ⟨(Nat.zero_le _), (Nat.zero_le _)⟩) rfl rfl (fun H locs hs => ?_)
    refine W.eq (g2 := F0 m 5 ls [.ref r1]) rfl ?_
    refine lv_astore (lv' := [(4, .ref r1), (0, .ref x0), (1, .int x1), (2, .int x2), (3, .int x3)]) hx hb dX4_level_5 hl (by decide) rfl (fun ls hl => ?_)
    refine lv_iload_n hx hb dX4_level_7 rfl (lv_at hl 3 rfl) ?_
    obtain ⟨o3, e3, hf⟩ := tk_bi hf
    rcases w3 : o3.1 with r3 | E3
    · rw [w3, Sum.elim_inl] at hf
      refine tk_xret0 (v := none) hs (vx_runS (As := [.int x2]) (rest := []) ⟨hx, hb, hml, hown, ht⟩ (cX4_requireTongue_ok l hl0 G N x2 o1.2.1 o1.2.2 (Sum.inl r3) o3.2.1 o3.2.2 (by rw [e3, ← w3])) (kwX4_requireTongue ht wmX4_55 rfl rfl ⟨Nat.le_of_ble_eq_true rfl, Nat.le_of_ble_eq_true rfl⟩) (tk_preS hE hs) rfl rfl hl.1 rfl (lv_room (Nat.le_of_ble_eq_true rfl)) dX4_level_8 ⟨(Nat.zero_le _), (Nat.zero_le _)⟩) rfl rfl (fun H locs hs => ?_)
      refine W.eq (g2 := F0 m 11 ls []) rfl ?_
      refine lv_iload_n hx hb dX4_level_11 rfl (lv_at hl 4 rfl) ?_
      by_cases c4 : x3 = 0
      · rw [if_pos c4] at hf
        refine lv_tableIn (off := 40) (tgt := 52) hx hb dX4_level_12 (by rw [c4]; decide) (by rw [c4]; decide) (by rw [c4]; rfl) (by decide) ?_
        refine lv_aload hx hb dX4_level_52 (lv_at hl 0 rfl) ?_
        obtain ⟨v5, e5, hf⟩ := tk_bi hf
        refine tk_getNR (host := "TongueSwap") hx hb ht inX0 hown hE hs rfl 1 (by decide) (by decide +kernel) e5 dX4_level_54 ?_
        refine lv_iload_n hx hb dX4_level_57 rfl (lv_at hl 3 rfl) ?_
        obtain ⟨v6, e6, hf⟩ := tk_bi hf
        refine tk_iald hx hb hE hs e6 dX4_level_58 ?_
        cases hf
        exact tk_xiret hx hb hr hlocks hs dX4_level_59
      rw [if_neg c4] at hf
      by_cases c7 : x3 = 1
      · rw [if_pos c7] at hf
        refine lv_tableIn (off := 48) (tgt := 60) hx hb dX4_level_12 (by rw [c7]; decide) (by rw [c7]; decide) (by rw [c7]; rfl) (by decide) ?_
        refine lv_aload hx hb dX4_level_60 (lv_at hl 0 rfl) ?_
        obtain ⟨v8, e8, hf⟩ := tk_bi hf
        refine tk_getNR (host := "TongueSwap") hx hb ht inX0 hown hE hs rfl 2 (by decide) (by decide +kernel) e8 dX4_level_62 ?_
        refine lv_iload_n hx hb dX4_level_65 rfl (lv_at hl 3 rfl) ?_
        obtain ⟨v9, e9, hf⟩ := tk_bi hf
        refine tk_iald hx hb hE hs e9 dX4_level_66 ?_
        cases hf
        exact tk_xiret hx hb hr hlocks hs dX4_level_67
      rw [if_neg c7] at hf
      by_cases c10 : x3 = 2
      · rw [if_pos c10] at hf
        refine lv_tableIn (off := 56) (tgt := 68) hx hb dX4_level_12 (by rw [c10]; decide) (by rw [c10]; decide) (by rw [c10]; rfl) (by decide) ?_
        refine lv_aload hx hb dX4_level_68 (lv_at hl 0 rfl) ?_
        obtain ⟨v11, e11, hf⟩ := tk_bi hf
        refine tk_getNR (host := "TongueSwap") hx hb ht inX0 hown hE hs rfl 0 (by decide) (by decide +kernel) e11 dX4_level_70 ?_
        refine lv_iload_n hx hb dX4_level_73 rfl (lv_at hl 3 rfl) ?_
        obtain ⟨v12, e12, hf⟩ := tk_bi hf
        refine tk_iald hx hb hE hs e12 dX4_level_74 ?_
        cases hf
        exact tk_xiret hx hb hr hlocks hs dX4_level_75
      rw [if_neg c10] at hf
      by_cases c13 : x3 = 3
      · rw [if_pos c13] at hf
        refine lv_tableIn (off := 64) (tgt := 76) hx hb dX4_level_12 (by rw [c13]; decide) (by rw [c13]; decide) (by rw [c13]; rfl) (by decide) ?_
        refine lv_aload hx hb dX4_level_76 (lv_at hl 0 rfl) ?_
        obtain ⟨v14, e14, hf⟩ := tk_bi hf
        refine tk_getNR (host := "TongueSwap") hx hb ht inX0 hown hE hs rfl 3 (by decide) (by decide +kernel) e14 dX4_level_78 ?_
        refine lv_iload_n hx hb dX4_level_81 rfl (lv_at hl 3 rfl) ?_
        obtain ⟨v15, e15, hf⟩ := tk_bi hf
        refine tk_iald hx hb hE hs e15 dX4_level_82 ?_
        cases hf
        exact tk_xiret hx hb hr hlocks hs dX4_level_83
      rw [if_neg c13] at hf
      by_cases c16 : x3 = 4
      · rw [if_pos c16] at hf
        refine lv_tableIn (off := 72) (tgt := 84) hx hb dX4_level_12 (by rw [c16]; decide) (by rw [c16]; decide) (by rw [c16]; rfl) (by decide) ?_
        refine lv_aload hx hb dX4_level_84 (lv_at hl 0 rfl) ?_
        obtain ⟨v17, e17, hf⟩ := tk_bi hf
        refine tk_getNR (host := "TongueSwap") hx hb ht inX0 hown hE hs rfl 4 (by decide) (by decide +kernel) e17 dX4_level_86 ?_
        refine lv_iload_n hx hb dX4_level_89 rfl (lv_at hl 3 rfl) ?_
        obtain ⟨v18, e18, hf⟩ := tk_bi hf
        refine tk_iald hx hb hE hs e18 dX4_level_90 ?_
        cases hf
        exact tk_xiret hx hb hr hlocks hs dX4_level_91
      rw [if_neg c16] at hf
      by_cases c19 : x3 = 5
      · rw [if_pos c19] at hf
        refine lv_tableIn (off := 80) (tgt := 92) hx hb dX4_level_12 (by rw [c19]; decide) (by rw [c19]; decide) (by rw [c19]; rfl) (by decide) ?_
        refine lv_aload hx hb dX4_level_92 (lv_at hl 0 rfl) ?_
        refine lv_iload_n hx hb dX4_level_94 rfl (lv_at hl 3 rfl) ?_
        obtain ⟨_, p20, hf⟩ := tk_bi hf
        obtain ⟨o20, e20, hf⟩ := tk_bi hf
        refine tk_call0 (v := some (.int o20.1)) hs (va_runV (As := [.int x2]) (rest := []) ⟨hx, hb, hml, hown, ht⟩ (cX0_has_ok l hl0 G N r1 x2 o3.2.1 o3.2.2 o20.1 o20.2.1 o20.2.2 e20) (kwX0_has ht wmX4_105 rfl rfl ⟨Nat.le_of_ble_eq_true rfl, Nat.le_of_ble_eq_true rfl⟩) (tk_preV hE hs (tk_ok_ok p20) rfl) rfl rfl hl.1 rfl (lv_room (Nat.le_of_ble_eq_true rfl)) dX4_level_95 ⟨(Nat.zero_le _), (Nat.zero_le _)⟩) (fun H locs hs => ?_)
        refine W.eq (g2 := F0 m 98 ls [.int o20.1]) rfl ?_
        refine lv_if_eq (tgt := 105) hx hb dX4_level_98 (by decide) (fun c22 => ?_) (fun c22 => ?_)
        · rw [if_pos c22] at hf
          refine lv_iconst (v := 0) hx hb dX4_level_105 (by decide) ?_
          exact j106 0 o20.2.1 o20.2.2 _ _ _ hf hs (lv_sub hl [] rfl)
        · rw [if_neg c22] at hf
          refine lv_iconst (v := 1) hx hb dX4_level_101 (by decide) ?_
          refine lv_goto (tgt := 106) hx hb dX4_level_102 (by decide) ?_
          exact j106 1 o20.2.1 o20.2.2 _ _ _ hf hs (lv_sub hl [] rfl)
      rw [if_neg c19] at hf
      refine lv_tableOut (tgt := 107) hx hb dX4_level_12 (tk_out 5 (fun k hk => match k, hk with | 0, _ => c4 | 1, _ => c7 | 2, _ => c10 | 3, _ => c13 | 4, _ => c16 | 5, _ => c19 | n9 + 6, h9 => absurd h9 (by omega)) (by decide)) (by decide) ?_
      cases hf
      exact tk_throwNSE hx hb hml hl0 hown ht hE hs hl (by decide : ("TongueSwap", 110, "a level has no such part") ∈ tk_strs) dX4_level_107 dX4_level_110 dX4_level_111 dX4_level_113 dX4_level_116 hout (Nat.le_of_ble_eq_true rfl) (Nat.le_of_ble_eq_true rfl) (Nat.le_of_ble_eq_true rfl) (Nat.le_of_ble_eq_true rfl) (Nat.le_refl _) (Nat.le_refl _) hlocks
    · rw [w3, Sum.elim_inr] at hf
      cases hf
      exact tk_xthr hs (vx_runS (As := [.int x2]) (rest := []) ⟨hx, hb, hml, hown, ht⟩ (cX4_requireTongue_ok l hl0 G N x2 o1.2.1 o1.2.2 (Sum.inr E3) o3.2.1 o3.2.2 (by rw [e3, ← w3])) (kwX4_requireTongue ht wmX4_55 rfl rfl ⟨Nat.le_of_ble_eq_true rfl, Nat.le_of_ble_eq_true rfl⟩) (tk_preS hE hs) rfl rfl hl.1 rfl (lv_room (Nat.le_of_ble_eq_true rfl)) dX4_level_8 ⟨Nat.le_of_ble_eq_true rfl, Nat.le_of_ble_eq_true rfl⟩) (fun H locs ce q9 hs hce hcv hcl => tk_xout hout hlocks hs hce hcv hcl (Nat.le_refl _) (Nat.le_refl _))
  · rw [w1, Sum.elim_inr] at hf
    cases hf
    exact tk_xthr hs (vx_runV (As := [.int x1]) (rest := []) ⟨hx, hb, hml, hown, ht⟩ (cX4_find_ok l hl0 G N x0 x1 h sz (Sum.inr E1) o1.2.1 o1.2.2 (by rw [e1, ← w1])) (kwX4_find ht wmX4_48 rfl rfl ⟨Nat.le_of_ble_eq_true rfl, Nat.le_of_ble_eq_true rfl⟩) (tk_preV hE hs (tk_ok_ok p1) rfl) rfl rfl hl.1 rfl (lv_room (Nat.le_of_ble_eq_true rfl)) dX4_level_2 ⟨Nat.le_of_ble_eq_true rfl, Nat.le_of_ble_eq_true rfl⟩) (fun H locs ce q9 hs hce hcv hcl => tk_xout hout hlocks hs hce hcv hcl (Nat.le_refl _) (Nat.le_refl _))
def fX4_gift (N : Nat) (x0 : Nat) (x1 : Int32) (x2 : Int32) (h : tk_AH) (sz : Nat) : Option ((Int32 ⊕ String) × tk_AH × Nat) :=
  (tk_ok h 4 x0).bind fun _ =>
  (fX4_requireTwo N x0 x1 x2 h sz).bind fun o1 =>
  Sum.elim (fun r1 =>
  (tk_ok o1.2.1 4 x0).bind fun _ =>
  (fX4_find N x0 x1 o1.2.1 o1.2.2).bind fun o3 =>
  Sum.elim (fun r3 =>
  (tk_ok o3.2.1 4 x0).bind fun _ =>
  (fX4_find N x0 x2 o3.2.1 o3.2.2).bind fun o5 =>
  Sum.elim (fun r5 =>
  (tk_ok o5.2.1 0 r3).bind fun _ =>
  (fX0_giftTo N r3 r5 o5.2.1 o5.2.2).bind fun o7 =>
  some (Sum.inl o7.1, o7.2.1, o7.2.2)) (fun E5 => some (Sum.inr E5, o5.2.1, o5.2.2)) o5.1) (fun E3 => some (Sum.inr E3, o3.2.1, o3.2.2)) o3.1) (fun E1 => some (Sum.inr E1, o1.2.1, o1.2.2)) o1.1
set_option maxHeartbeats 8000000 in
set_option maxRecDepth 100000 in
theorem cX4_gift_ok (l : Launch) (hl0 : l.stackTraces = false) (G : tk_AG) (N : Nat) (x0 : Nat) (x1 : Int32) (x2 : Int32) (h : tk_AH) (sz : Nat) (o9 : Int32 ⊕ String) (h9 : tk_AH) (sz9 : Nat) (hf : fX4_gift N x0 x1 x2 h sz = some (o9, h9, sz9)) : vx_Met l yX4_gift (coX4_gift :: tk_W) ({ frames := 8, cells := tk_xc o9 0, slots := tk_xs o9 0, locals := 144 }) (tk_pc G [.ref x0, .int x1, .int x2] h sz) (tk_qx G (tk_oi o9) h9 sz9) (tk_xx G (tk_oi o9) h9 sz9) (tk_xc o9 0) (tk_xs o9 0) (tk_ag G) := by
  refine vx_ofW (cc := cX4_gift) (maxL := 3) (ret := (some .int)) (by decide) rfl ?_
  intro p e s m args below meth c s₁ B hml hout hv
  obtain ⟨hav, hE, hrp, hsz, hgs⟩ := hv
  have hx := B.exec
  have hb := B.bytes
  have hr := B.returns
  have hts := atoms_spec (ws := coX4_gift :: tk_W) B.pre
  have ht : ∀ w ∈ tk_W, w.before args s = true := fun w h => hts w (List.mem_cons_of_mem _ h)
  have hown : s.vm.findClass RX4 = some m.cls := findClass_of_methodNamed B.named
  have hlocks := B.notSynchronized
  have hs : tk_sw G s h sz s.heap [] := ⟨hrp, hsz, by rw [hsz]; exact hgs, va_S.rf⟩
  have hl := lv_entry ([.ref x0, .int x1, .int x2]) (n := 3) (Nat.le_of_ble_eq_true rfl)
  have hent : entryFrame m args 3 = F0 m 0 (lg_sl ([.ref x0, .int x1, .int x2]) ++ List.replicate (3 - (lg_sl ([.ref x0, .int x1, .int x2])).length) Slot.unset).toArray [] := by rw [hav, lg_entry_eq]
  rw [hent]
  clear hent
  generalize (lg_sl ([.ref x0, .int x1, .int x2]) ++ List.replicate (3 - (lg_sl ([.ref x0, .int x1, .int x2])).length) Slot.unset).toArray = ls at hl ⊢
  have hl : lv_has ls 3 [(0, .ref x0), (1, .int x1), (2, .int x2)] := hl
  unfold fX4_gift at hf
  refine lv_aload_n hx hb dX4_gift_0 rfl (lv_at hl 0 rfl) ?_
  refine lv_iload_n hx hb dX4_gift_1 rfl (lv_at hl 1 rfl) ?_
  refine lv_iload_n hx hb dX4_gift_2 rfl (lv_at hl 2 rfl) ?_
  obtain ⟨_, p1, hf⟩ := tk_bi hf
  obtain ⟨o1, e1, hf⟩ := tk_bi hf
  rcases w1 : o1.1 with r1 | E1
  · rw [w1, Sum.elim_inl] at hf
    refine tk_xret0 (v := none) hs (vx_runV (As := [.int x1, .int x2]) (rest := []) ⟨hx, hb, hml, hown, ht⟩ (cX4_requireTwo_ok l hl0 G N x0 x1 x2 h sz (Sum.inl r1) o1.2.1 o1.2.2 (by rw [e1, ← w1])) (kwX4_requireTwo ht wmX4_75 rfl rfl ⟨Nat.le_of_ble_eq_true rfl, Nat.le_of_ble_eq_true rfl⟩) (tk_preV hE hs (tk_ok_ok p1) rfl) rfl rfl hl.1 rfl (lv_room (Nat.le_of_ble_eq_true rfl)) dX4_gift_3 ⟨(Nat.zero_le _), (Nat.zero_le _)⟩) rfl rfl (fun H locs hs => ?_)
    refine W.eq (g2 := F0 m 6 ls []) rfl ?_
    refine lv_aload_n hx hb dX4_gift_6 rfl (lv_at hl 0 rfl) ?_
    refine lv_iload_n hx hb dX4_gift_7 rfl (lv_at hl 1 rfl) ?_
    obtain ⟨_, p3, hf⟩ := tk_bi hf
    obtain ⟨o3, e3, hf⟩ := tk_bi hf
    rcases w3 : o3.1 with r3 | E3
    · rw [w3, Sum.elim_inl] at hf
      refine tk_xret0 (v := some (.ref r3)) hs (vx_runV (As := [.int x1]) (rest := []) ⟨hx, hb, hml, hown, ht⟩ (cX4_find_ok l hl0 G N x0 x1 o1.2.1 o1.2.2 (Sum.inl r3) o3.2.1 o3.2.2 (by rw [e3, ← w3])) (kwX4_find ht wmX4_48 rfl rfl ⟨Nat.le_of_ble_eq_true rfl, Nat.le_of_ble_eq_true rfl⟩) (tk_preV hE hs (tk_ok_ok p3) rfl) rfl rfl hl.1 rfl (lv_room (Nat.le_of_ble_eq_true rfl)) dX4_gift_8 ⟨(Nat.zero_le _), (Nat.zero_le _)⟩) rfl rfl (fun H locs hs => ?_)
      refine W.eq (g2 := F0 m 11 ls [.ref r3]) rfl ?_
      refine lv_aload_n hx hb dX4_gift_11 rfl (lv_at hl 0 rfl) ?_
      refine lv_iload_n hx hb dX4_gift_12 rfl (lv_at hl 2 rfl) ?_
      obtain ⟨_, p5, hf⟩ := tk_bi hf
      obtain ⟨o5, e5, hf⟩ := tk_bi hf
      rcases w5 : o5.1 with r5 | E5
      · rw [w5, Sum.elim_inl] at hf
        refine tk_xret0 (v := some (.ref r5)) hs (vx_runV (As := [.int x2]) (rest := [.ref r3]) ⟨hx, hb, hml, hown, ht⟩ (cX4_find_ok l hl0 G N x0 x2 o3.2.1 o3.2.2 (Sum.inl r5) o5.2.1 o5.2.2 (by rw [e5, ← w5])) (kwX4_find ht wmX4_48 rfl rfl ⟨Nat.le_of_ble_eq_true rfl, Nat.le_of_ble_eq_true rfl⟩) (tk_preV hE hs (tk_ok_ok p5) rfl) rfl rfl hl.1 rfl (lv_room (Nat.le_of_ble_eq_true rfl)) dX4_gift_13 ⟨(Nat.zero_le _), (Nat.zero_le _)⟩) rfl rfl (fun H locs hs => ?_)
        refine W.eq (g2 := F0 m 16 ls [.ref r5, .ref r3]) rfl ?_
        obtain ⟨_, p7, hf⟩ := tk_bi hf
        obtain ⟨o7, e7, hf⟩ := tk_bi hf
        refine tk_call0 (v := some (.int o7.1)) hs (va_runV (As := [.ref r5]) (rest := []) ⟨hx, hb, hml, hown, ht⟩ (cX0_giftTo_ok l hl0 G N r3 r5 o5.2.1 o5.2.2 o7.1 o7.2.1 o7.2.2 e7) (kwX0_giftTo ht wmX4_113 rfl rfl ⟨Nat.le_of_ble_eq_true rfl, Nat.le_of_ble_eq_true rfl⟩) (tk_preV hE hs (tk_ok_ok p7) rfl) rfl rfl hl.1 rfl (lv_room (Nat.le_of_ble_eq_true rfl)) dX4_gift_16 ⟨(Nat.zero_le _), (Nat.zero_le _)⟩) (fun H locs hs => ?_)
        refine W.eq (g2 := F0 m 19 ls [.int o7.1]) rfl ?_
        cases hf
        exact tk_xiret hx hb hr hlocks hs dX4_gift_19
      · rw [w5, Sum.elim_inr] at hf
        cases hf
        exact tk_xthr hs (vx_runV (As := [.int x2]) (rest := [.ref r3]) ⟨hx, hb, hml, hown, ht⟩ (cX4_find_ok l hl0 G N x0 x2 o3.2.1 o3.2.2 (Sum.inr E5) o5.2.1 o5.2.2 (by rw [e5, ← w5])) (kwX4_find ht wmX4_48 rfl rfl ⟨Nat.le_of_ble_eq_true rfl, Nat.le_of_ble_eq_true rfl⟩) (tk_preV hE hs (tk_ok_ok p5) rfl) rfl rfl hl.1 rfl (lv_room (Nat.le_of_ble_eq_true rfl)) dX4_gift_13 ⟨Nat.le_of_ble_eq_true rfl, Nat.le_of_ble_eq_true rfl⟩) (fun H locs ce q9 hs hce hcv hcl => tk_xout hout hlocks hs hce hcv hcl (Nat.le_refl _) (Nat.le_refl _))
    · rw [w3, Sum.elim_inr] at hf
      cases hf
      exact tk_xthr hs (vx_runV (As := [.int x1]) (rest := []) ⟨hx, hb, hml, hown, ht⟩ (cX4_find_ok l hl0 G N x0 x1 o1.2.1 o1.2.2 (Sum.inr E3) o3.2.1 o3.2.2 (by rw [e3, ← w3])) (kwX4_find ht wmX4_48 rfl rfl ⟨Nat.le_of_ble_eq_true rfl, Nat.le_of_ble_eq_true rfl⟩) (tk_preV hE hs (tk_ok_ok p3) rfl) rfl rfl hl.1 rfl (lv_room (Nat.le_of_ble_eq_true rfl)) dX4_gift_8 ⟨Nat.le_of_ble_eq_true rfl, Nat.le_of_ble_eq_true rfl⟩) (fun H locs ce q9 hs hce hcv hcl => tk_xout hout hlocks hs hce hcv hcl (Nat.le_refl _) (Nat.le_refl _))
  · rw [w1, Sum.elim_inr] at hf
    cases hf
    exact tk_xthr hs (vx_runV (As := [.int x1, .int x2]) (rest := []) ⟨hx, hb, hml, hown, ht⟩ (cX4_requireTwo_ok l hl0 G N x0 x1 x2 h sz (Sum.inr E1) o1.2.1 o1.2.2 (by rw [e1, ← w1])) (kwX4_requireTwo ht wmX4_75 rfl rfl ⟨Nat.le_of_ble_eq_true rfl, Nat.le_of_ble_eq_true rfl⟩) (tk_preV hE hs (tk_ok_ok p1) rfl) rfl rfl hl.1 rfl (lv_room (Nat.le_of_ble_eq_true rfl)) dX4_gift_3 ⟨Nat.le_of_ble_eq_true rfl, Nat.le_of_ble_eq_true rfl⟩) (fun H locs ce q9 hs hce hcv hcl => tk_xout hout hlocks hs hce hcv hcl (Nat.le_refl _) (Nat.le_refl _))
def fX4_commonHours_31 (N : Nat) (y0 : Int32) (h : tk_AH) (sz : Nat) : Option ((Int32 ⊕ String) × tk_AH × Nat) :=
  some (Sum.inl y0, h, sz)
def fX4_commonHours (N : Nat) (x0 : Nat) (x1 : Int32) (x2 : Int32) (h : tk_AH) (sz : Nat) : Option ((Int32 ⊕ String) × tk_AH × Nat) :=
  (tk_ok h 4 x0).bind fun _ =>
  (fX4_find N x0 x1 h sz).bind fun o1 =>
  Sum.elim (fun r1 =>
  (tk_ok o1.2.1 0 r1).bind fun _ =>
  (fX0_isBarred N r1 x2 o1.2.1 o1.2.2).bind fun o3 =>
  if o3.1 = 0 then (
  (tk_gI o3.2.1 0 8 r1).bind fun v6 =>
  (tk_ok o3.2.1 4 x0).bind fun _ =>
  (fX4_find N x0 x2 o3.2.1 o3.2.2).bind fun o7 =>
  Sum.elim (fun r7 =>
  (tk_gI o7.2.1 0 8 r7).bind fun v9 =>
  fX4_commonHours_31 N (v6 &&& v9) o7.2.1 o7.2.2) (fun E7 => some (Sum.inr E7, o7.2.1, o7.2.2)) o7.1) else (
  fX4_commonHours_31 N 0 o3.2.1 o3.2.2)) (fun E1 => some (Sum.inr E1, o1.2.1, o1.2.2)) o1.1
set_option maxHeartbeats 8000000 in
set_option maxRecDepth 100000 in
theorem cX4_commonHours_ok (l : Launch) (hl0 : l.stackTraces = false) (G : tk_AG) (N : Nat) (x0 : Nat) (x1 : Int32) (x2 : Int32) (h : tk_AH) (sz : Nat) (o9 : Int32 ⊕ String) (h9 : tk_AH) (sz9 : Nat) (hf : fX4_commonHours N x0 x1 x2 h sz = some (o9, h9, sz9)) : vx_Met l yX4_commonHours (coX4_commonHours :: tk_W) ({ frames := 7, cells := tk_xc o9 0, slots := tk_xs o9 0, locals := 122 }) (tk_pc G [.ref x0, .int x1, .int x2] h sz) (tk_qx G (tk_oi o9) h9 sz9) (tk_xx G (tk_oi o9) h9 sz9) (tk_xc o9 0) (tk_xs o9 0) (tk_ag G) := by
  refine vx_ofW (cc := cX4_commonHours) (maxL := 4) (ret := (some .int)) (by decide) rfl ?_
  intro p e s m args below meth c s₁ B hml hout hv
  obtain ⟨hav, hE, hrp, hsz, hgs⟩ := hv
  have hx := B.exec
  have hb := B.bytes
  have hr := B.returns
  have hts := atoms_spec (ws := coX4_commonHours :: tk_W) B.pre
  have ht : ∀ w ∈ tk_W, w.before args s = true := fun w h => hts w (List.mem_cons_of_mem _ h)
  have hown : s.vm.findClass RX4 = some m.cls := findClass_of_methodNamed B.named
  have hlocks := B.notSynchronized
  have hs : tk_sw G s h sz s.heap [] := ⟨hrp, hsz, by rw [hsz]; exact hgs, va_S.rf⟩
  have hl := lv_entry ([.ref x0, .int x1, .int x2]) (n := 4) (Nat.le_of_ble_eq_true rfl)
  have hent : entryFrame m args 4 = F0 m 0 (lg_sl ([.ref x0, .int x1, .int x2]) ++ List.replicate (4 - (lg_sl ([.ref x0, .int x1, .int x2])).length) Slot.unset).toArray [] := by rw [hav, lg_entry_eq]
  rw [hent]
  clear hent
  generalize (lg_sl ([.ref x0, .int x1, .int x2]) ++ List.replicate (4 - (lg_sl ([.ref x0, .int x1, .int x2])).length) Slot.unset).toArray = ls at hl ⊢
  have hl : lv_has ls 4 [(0, .ref x0), (1, .int x1), (2, .int x2)] := hl
  have j31 : ∀ (y0 : Int32) (h : tk_AH) (sz : Nat) (H : Heap) (locs : List Loc) (ls : Array Slot), fX4_commonHours_31 N y0 h sz = some (o9, h9, sz9) → tk_sw G s h sz H locs → lv_has ls 4 [] → W p l e (headSpec (coX4_commonHours :: tk_W) ({ frames := 7, cells := tk_xc o9 0, slots := tk_xs o9 0, locals := 122 })).room s m args below meth c H locs 0 (0) (vx_MQ below (tk_qx G (tk_oi o9) h9 sz9) (tk_xx G (tk_oi o9) h9 sz9) args s (tk_xc o9 0) (tk_xs o9 0) (tk_ag G)) (F0 m 31 ls [.int y0]) := by
    intro y0 h sz H locs ls hf hs hl
    unfold fX4_commonHours_31 at hf
    cases hf
    exact tk_xiret hx hb hr hlocks hs dX4_commonHours_31
  unfold fX4_commonHours at hf
  refine lv_aload_n hx hb dX4_commonHours_0 rfl (lv_at hl 0 rfl) ?_
  refine lv_iload_n hx hb dX4_commonHours_1 rfl (lv_at hl 1 rfl) ?_
  obtain ⟨_, p1, hf⟩ := tk_bi hf
  obtain ⟨o1, e1, hf⟩ := tk_bi hf
  rcases w1 : o1.1 with r1 | E1
  · rw [w1, Sum.elim_inl] at hf
    refine tk_xret0 (v := some (.ref r1)) hs (vx_runV (As := [.int x1]) (rest := []) ⟨hx, hb, hml, hown, ht⟩ (cX4_find_ok l hl0 G N x0 x1 h sz (Sum.inl r1) o1.2.1 o1.2.2 (by rw [e1, ← w1])) (kwX4_find ht wmX4_48 rfl rfl ⟨Nat.le_of_ble_eq_true rfl, Nat.le_of_ble_eq_true rfl⟩) (tk_preV hE hs (tk_ok_ok p1) rfl) rfl rfl hl.1 rfl (lv_room (Nat.le_of_ble_eq_true rfl)) dX4_commonHours_2 ⟨(Nat.zero_le _), (Nat.zero_le _)⟩) rfl rfl (fun H locs hs => ?_)
    refine W.eq (g2 := F0 m 5 ls [.ref r1]) rfl ?_
    refine lv_astore_n (lv' := [(3, .ref r1), (0, .ref x0), (1, .int x1), (2, .int x2)]) hx hb dX4_commonHours_5 rfl hl (by decide) rfl (fun ls hl => ?_)
    refine lv_aload_n hx hb dX4_commonHours_6 rfl (lv_at hl 0 rfl) ?_
    refine lv_iload_n hx hb dX4_commonHours_7 rfl (lv_at hl 3 rfl) ?_
    obtain ⟨_, p3, hf⟩ := tk_bi hf
    obtain ⟨o3, e3, hf⟩ := tk_bi hf
    refine tk_call0 (v := some (.int o3.1)) hs (va_runV (As := [.int x2]) (rest := []) ⟨hx, hb, hml, hown, ht⟩ (cX0_isBarred_ok l hl0 G N r1 x2 o1.2.1 o1.2.2 o3.1 o3.2.1 o3.2.2 e3) (kwX0_isBarred ht wmX4_79 rfl rfl ⟨Nat.le_of_ble_eq_true rfl, Nat.le_of_ble_eq_true rfl⟩) (tk_preV hE hs (tk_ok_ok p3) rfl) rfl rfl hl.1 rfl (lv_room (Nat.le_of_ble_eq_true rfl)) dX4_commonHours_8 ⟨(Nat.zero_le _), (Nat.zero_le _)⟩) (fun H locs hs => ?_)
    refine W.eq (g2 := F0 m 11 ls [.int o3.1]) rfl ?_
    refine lv_if_eq (tgt := 18) hx hb dX4_commonHours_11 (by decide) (fun c5 => ?_) (fun c5 => ?_)
    · rw [if_pos c5] at hf
      refine lv_aload_n hx hb dX4_commonHours_18 rfl (lv_at hl 0 rfl) ?_
      obtain ⟨v6, e6, hf⟩ := tk_bi hf
      refine tk_getNI (host := "TongueSwap") hx hb ht inX0 hown hE hs rfl 8 (by decide) (by decide +kernel) e6 dX4_commonHours_19 ?_
      refine lv_aload_n hx hb dX4_commonHours_22 rfl (lv_at hl 1 rfl) ?_
      refine lv_iload_n hx hb dX4_commonHours_23 rfl (lv_at hl 3 rfl) ?_
      obtain ⟨_, p7, hf⟩ := tk_bi hf
      obtain ⟨o7, e7, hf⟩ := tk_bi hf
      rcases w7 : o7.1 with r7 | E7
      · rw [w7, Sum.elim_inl] at hf
        refine tk_xret0 (v := some (.ref r7)) hs (vx_runV (As := [.int x2]) (rest := [.int v6]) ⟨hx, hb, hml, hown, ht⟩ (cX4_find_ok l hl0 G N x0 x2 o3.2.1 o3.2.2 (Sum.inl r7) o7.2.1 o7.2.2 (by rw [e7, ← w7])) (kwX4_find ht wmX4_48 rfl rfl ⟨Nat.le_of_ble_eq_true rfl, Nat.le_of_ble_eq_true rfl⟩) (tk_preV hE hs (tk_ok_ok p7) rfl) rfl rfl hl.1 rfl (lv_room (Nat.le_of_ble_eq_true rfl)) dX4_commonHours_24 ⟨(Nat.zero_le _), (Nat.zero_le _)⟩) rfl rfl (fun H locs hs => ?_)
        refine W.eq (g2 := F0 m 27 ls [.ref r7, .int v6]) rfl ?_
        obtain ⟨v9, e9, hf⟩ := tk_bi hf
        refine tk_getNI (host := "TongueSwap") hx hb ht inX0 hown hE hs rfl 8 (by decide) (by decide +kernel) e9 dX4_commonHours_27 ?_
        refine lv_iand hx hb dX4_commonHours_30 ?_
        exact j31 (v6 &&& v9) o7.2.1 o7.2.2 _ _ _ hf hs (lv_sub hl [] rfl)
      · rw [w7, Sum.elim_inr] at hf
        cases hf
        exact tk_xthr hs (vx_runV (As := [.int x2]) (rest := [.int v6]) ⟨hx, hb, hml, hown, ht⟩ (cX4_find_ok l hl0 G N x0 x2 o3.2.1 o3.2.2 (Sum.inr E7) o7.2.1 o7.2.2 (by rw [e7, ← w7])) (kwX4_find ht wmX4_48 rfl rfl ⟨Nat.le_of_ble_eq_true rfl, Nat.le_of_ble_eq_true rfl⟩) (tk_preV hE hs (tk_ok_ok p7) rfl) rfl rfl hl.1 rfl (lv_room (Nat.le_of_ble_eq_true rfl)) dX4_commonHours_24 ⟨Nat.le_of_ble_eq_true rfl, Nat.le_of_ble_eq_true rfl⟩) (fun H locs ce q9 hs hce hcv hcl => tk_xout hout hlocks hs hce hcv hcl (Nat.le_refl _) (Nat.le_refl _))
    · rw [if_neg c5] at hf
      refine lv_iconst (v := 0) hx hb dX4_commonHours_14 (by decide) ?_
      refine lv_goto (tgt := 31) hx hb dX4_commonHours_15 (by decide) ?_
      exact j31 0 o3.2.1 o3.2.2 _ _ _ hf hs (lv_sub hl [] rfl)
  · rw [w1, Sum.elim_inr] at hf
    cases hf
    exact tk_xthr hs (vx_runV (As := [.int x1]) (rest := []) ⟨hx, hb, hml, hown, ht⟩ (cX4_find_ok l hl0 G N x0 x1 h sz (Sum.inr E1) o1.2.1 o1.2.2 (by rw [e1, ← w1])) (kwX4_find ht wmX4_48 rfl rfl ⟨Nat.le_of_ble_eq_true rfl, Nat.le_of_ble_eq_true rfl⟩) (tk_preV hE hs (tk_ok_ok p1) rfl) rfl rfl hl.1 rfl (lv_room (Nat.le_of_ble_eq_true rfl)) dX4_commonHours_2 ⟨Nat.le_of_ble_eq_true rfl, Nat.le_of_ble_eq_true rfl⟩) (fun H locs ce q9 hs hce hcv hcl => tk_xout hout hlocks hs hce hcv hcl (Nat.le_refl _) (Nat.le_refl _))
def fX4_meet (N : Nat) (x0 : Nat) (x1 : Int32) (x2 : Int32) (h : tk_AH) (sz : Nat) : Option ((Int32 ⊕ String) × tk_AH × Nat) :=
  (tk_ok h 4 x0).bind fun _ =>
  (fX4_requireTwo N x0 x1 x2 h sz).bind fun o1 =>
  Sum.elim (fun r1 =>
  (tk_ok o1.2.1 4 x0).bind fun _ =>
  (fX4_commonHours N x0 x1 x2 o1.2.1 o1.2.2).bind fun o3 =>
  Sum.elim (fun r3 =>
  (fX4_lowestBit N r3 o3.2.1 o3.2.2).bind fun o5 =>
  some (Sum.inl o5.1, o5.2.1, o5.2.2)) (fun E3 => some (Sum.inr E3, o3.2.1, o3.2.2)) o3.1) (fun E1 => some (Sum.inr E1, o1.2.1, o1.2.2)) o1.1
set_option maxHeartbeats 8000000 in
set_option maxRecDepth 100000 in
theorem cX4_meet_ok (l : Launch) (hl0 : l.stackTraces = false) (G : tk_AG) (N : Nat) (x0 : Nat) (x1 : Int32) (x2 : Int32) (h : tk_AH) (sz : Nat) (o9 : Int32 ⊕ String) (h9 : tk_AH) (sz9 : Nat) (hf : fX4_meet N x0 x1 x2 h sz = some (o9, h9, sz9)) : vx_Met l yX4_meet (coX4_meet :: tk_W) ({ frames := 8, cells := tk_xc o9 0, slots := tk_xs o9 0, locals := 145 }) (tk_pc G [.ref x0, .int x1, .int x2] h sz) (tk_qx G (tk_oi o9) h9 sz9) (tk_xx G (tk_oi o9) h9 sz9) (tk_xc o9 0) (tk_xs o9 0) (tk_ag G) := by
  refine vx_ofW (cc := cX4_meet) (maxL := 3) (ret := (some .int)) (by decide) rfl ?_
  intro p e s m args below meth c s₁ B hml hout hv
  obtain ⟨hav, hE, hrp, hsz, hgs⟩ := hv
  have hx := B.exec
  have hb := B.bytes
  have hr := B.returns
  have hts := atoms_spec (ws := coX4_meet :: tk_W) B.pre
  have ht : ∀ w ∈ tk_W, w.before args s = true := fun w h => hts w (List.mem_cons_of_mem _ h)
  have hown : s.vm.findClass RX4 = some m.cls := findClass_of_methodNamed B.named
  have hlocks := B.notSynchronized
  have hs : tk_sw G s h sz s.heap [] := ⟨hrp, hsz, by rw [hsz]; exact hgs, va_S.rf⟩
  have hl := lv_entry ([.ref x0, .int x1, .int x2]) (n := 3) (Nat.le_of_ble_eq_true rfl)
  have hent : entryFrame m args 3 = F0 m 0 (lg_sl ([.ref x0, .int x1, .int x2]) ++ List.replicate (3 - (lg_sl ([.ref x0, .int x1, .int x2])).length) Slot.unset).toArray [] := by rw [hav, lg_entry_eq]
  rw [hent]
  clear hent
  generalize (lg_sl ([.ref x0, .int x1, .int x2]) ++ List.replicate (3 - (lg_sl ([.ref x0, .int x1, .int x2])).length) Slot.unset).toArray = ls at hl ⊢
  have hl : lv_has ls 3 [(0, .ref x0), (1, .int x1), (2, .int x2)] := hl
  unfold fX4_meet at hf
  refine lv_aload_n hx hb dX4_meet_0 rfl (lv_at hl 0 rfl) ?_
  refine lv_iload_n hx hb dX4_meet_1 rfl (lv_at hl 1 rfl) ?_
  refine lv_iload_n hx hb dX4_meet_2 rfl (lv_at hl 2 rfl) ?_
  obtain ⟨_, p1, hf⟩ := tk_bi hf
  obtain ⟨o1, e1, hf⟩ := tk_bi hf
  rcases w1 : o1.1 with r1 | E1
  · rw [w1, Sum.elim_inl] at hf
    refine tk_xret0 (v := none) hs (vx_runV (As := [.int x1, .int x2]) (rest := []) ⟨hx, hb, hml, hown, ht⟩ (cX4_requireTwo_ok l hl0 G N x0 x1 x2 h sz (Sum.inl r1) o1.2.1 o1.2.2 (by rw [e1, ← w1])) (kwX4_requireTwo ht wmX4_75 rfl rfl ⟨Nat.le_of_ble_eq_true rfl, Nat.le_of_ble_eq_true rfl⟩) (tk_preV hE hs (tk_ok_ok p1) rfl) rfl rfl hl.1 rfl (lv_room (Nat.le_of_ble_eq_true rfl)) dX4_meet_3 ⟨(Nat.zero_le _), (Nat.zero_le _)⟩) rfl rfl (fun H locs hs => ?_)
    refine W.eq (g2 := F0 m 6 ls []) rfl ?_
    refine lv_aload_n hx hb dX4_meet_6 rfl (lv_at hl 0 rfl) ?_
    refine lv_iload_n hx hb dX4_meet_7 rfl (lv_at hl 1 rfl) ?_
    refine lv_iload_n hx hb dX4_meet_8 rfl (lv_at hl 2 rfl) ?_
    obtain ⟨_, p3, hf⟩ := tk_bi hf
    obtain ⟨o3, e3, hf⟩ := tk_bi hf
    rcases w3 : o3.1 with r3 | E3
    · rw [w3, Sum.elim_inl] at hf
      refine tk_xret0 (v := some (.int r3)) hs (vx_runV (As := [.int x1, .int x2]) (rest := []) ⟨hx, hb, hml, hown, ht⟩ (cX4_commonHours_ok l hl0 G N x0 x1 x2 o1.2.1 o1.2.2 (Sum.inl r3) o3.2.1 o3.2.2 (by rw [e3, ← w3])) (kwX4_commonHours ht wmX4_117 rfl rfl ⟨Nat.le_of_ble_eq_true rfl, Nat.le_of_ble_eq_true rfl⟩) (tk_preV hE hs (tk_ok_ok p3) rfl) rfl rfl hl.1 rfl (lv_room (Nat.le_of_ble_eq_true rfl)) dX4_meet_9 ⟨(Nat.zero_le _), (Nat.zero_le _)⟩) rfl rfl (fun H locs hs => ?_)
      refine W.eq (g2 := F0 m 12 ls [.int r3]) rfl ?_
      obtain ⟨o5, e5, hf⟩ := tk_bi hf
      refine tk_call0 (v := some (.int o5.1)) hs (va_runS (As := [.int r3]) (rest := []) ⟨hx, hb, hml, hown, ht⟩ (cX4_lowestBit_ok l hl0 G N r3 o3.2.1 o3.2.2 o5.1 o5.2.1 o5.2.2 e5) (kwX4_lowestBit ht wmX4_121 rfl rfl ⟨Nat.le_of_ble_eq_true rfl, Nat.le_of_ble_eq_true rfl⟩) (tk_preS hE hs) rfl rfl hl.1 rfl (lv_room (Nat.le_of_ble_eq_true rfl)) dX4_meet_12 ⟨(Nat.zero_le _), (Nat.zero_le _)⟩) (fun H locs hs => ?_)
      refine W.eq (g2 := F0 m 15 ls [.int o5.1]) rfl ?_
      cases hf
      exact tk_xiret hx hb hr hlocks hs dX4_meet_15
    · rw [w3, Sum.elim_inr] at hf
      cases hf
      exact tk_xthr hs (vx_runV (As := [.int x1, .int x2]) (rest := []) ⟨hx, hb, hml, hown, ht⟩ (cX4_commonHours_ok l hl0 G N x0 x1 x2 o1.2.1 o1.2.2 (Sum.inr E3) o3.2.1 o3.2.2 (by rw [e3, ← w3])) (kwX4_commonHours ht wmX4_117 rfl rfl ⟨Nat.le_of_ble_eq_true rfl, Nat.le_of_ble_eq_true rfl⟩) (tk_preV hE hs (tk_ok_ok p3) rfl) rfl rfl hl.1 rfl (lv_room (Nat.le_of_ble_eq_true rfl)) dX4_meet_9 ⟨Nat.le_of_ble_eq_true rfl, Nat.le_of_ble_eq_true rfl⟩) (fun H locs ce q9 hs hce hcv hcl => tk_xout hout hlocks hs hce hcv hcl (Nat.le_refl _) (Nat.le_refl _))
  · rw [w1, Sum.elim_inr] at hf
    cases hf
    exact tk_xthr hs (vx_runV (As := [.int x1, .int x2]) (rest := []) ⟨hx, hb, hml, hown, ht⟩ (cX4_requireTwo_ok l hl0 G N x0 x1 x2 h sz (Sum.inr E1) o1.2.1 o1.2.2 (by rw [e1, ← w1])) (kwX4_requireTwo ht wmX4_75 rfl rfl ⟨Nat.le_of_ble_eq_true rfl, Nat.le_of_ble_eq_true rfl⟩) (tk_preV hE hs (tk_ok_ok p1) rfl) rfl rfl hl.1 rfl (lv_room (Nat.le_of_ble_eq_true rfl)) dX4_meet_3 ⟨Nat.le_of_ble_eq_true rfl, Nat.le_of_ble_eq_true rfl⟩) (fun H locs ce q9 hs hce hcv hcl => tk_xout hout hlocks hs hce hcv hcl (Nat.le_refl _) (Nat.le_refl _))
