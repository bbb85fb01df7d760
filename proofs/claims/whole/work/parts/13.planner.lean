def fX1_init (N : Nat) (x0 : Nat) (h : tk_AH) (sz : Nat) : Option (tk_AH × Nat) :=
  (tk_pF (tk_nI h sz 455) 1 0 x0 (.ref sz)).bind fun h1 =>
  (tk_pF (tk_nI h1 (sz + 1) 455) 1 1 x0 (.ref (sz + 1))).bind fun h2 =>
  (tk_pF (tk_nI h2 ((sz + 1) + 1) 455) 1 2 x0 (.ref ((sz + 1) + 1))).bind fun h3 =>
  (tk_pF (tk_nI h3 (((sz + 1) + 1) + 1) 455) 1 3 x0 (.ref (((sz + 1) + 1) + 1))).bind fun h4 =>
  (tk_pF (tk_nI h4 ((((sz + 1) + 1) + 1) + 1) 15) 1 4 x0 (.ref ((((sz + 1) + 1) + 1) + 1))).bind fun h5 =>
  (tk_pF (tk_nI h5 (((((sz + 1) + 1) + 1) + 1) + 1) 14) 1 5 x0 (.ref (((((sz + 1) + 1) + 1) + 1) + 1))).bind fun h6 =>
  (tk_pF (tk_nJ h6 ((((((sz + 1) + 1) + 1) + 1) + 1) + 1) 0) 1 6 x0 (.ref ((((((sz + 1) + 1) + 1) + 1) + 1) + 1))).bind fun h7 =>
  some (h7, ((((((sz + 1) + 1) + 1) + 1) + 1) + 1) + 1)
set_option maxHeartbeats 8000000 in
set_option maxRecDepth 100000 in
theorem cX1_init_ok (l : Launch) (hl0 : l.stackTraces = false) (G : tk_AG) (N : Nat) (x0 : Nat) (h : tk_AH) (sz : Nat) (h9 : tk_AH) (sz9 : Nat) (hf : fX1_init N x0 h sz = some (h9, sz9)) : Met l yX1_init (coX1_init :: tk_W) ({ frames := 1, cells := 7, slots := 1849, locals := 24 }) (tk_pc G [.ref x0] h sz) (tk_qc G none h9 sz9) 7 1849 (tk_ag G) := by
  refine Met.ofW (cc := cX1_init) (maxL := 1) (ret := none) (by decide) rfl ?_
  intro p e s m args below meth c s₁ B hml hv
  obtain ⟨hav, hE, hrp, hsz, hgs⟩ := hv
  have hx := B.exec
  have hb := B.bytes
  have hr := B.returns
  have hts := atoms_spec (ws := coX1_init :: tk_W) B.pre
  have ht : ∀ w ∈ tk_W, w.before args s = true := fun w h => hts w (List.mem_cons_of_mem _ h)
  have hown : s.vm.findClass RX1 = some m.cls := findClass_of_methodNamed B.named
  have hlocks := B.notSynchronized
  have hin : meth.name = "<init>" := (name_of_methodNamed B.named B.method).1
  have hs : tk_sw G s h sz s.heap [] := ⟨hrp, hsz, by rw [hsz]; exact hgs, va_S.rf⟩
  have hl := lv_entry ([.ref x0]) (n := 1) (Nat.le_of_ble_eq_true rfl)
  have hent : entryFrame m args 1 = F0 m 0 (lg_sl ([.ref x0]) ++ List.replicate (1 - (lg_sl ([.ref x0])).length) Slot.unset).toArray [] := by rw [hav, lg_entry_eq]
  rw [hent]
  clear hent
  generalize (lg_sl ([.ref x0]) ++ List.replicate (1 - (lg_sl ([.ref x0])).length) Slot.unset).toArray = ls at hl ⊢
  have hl : lv_has ls 1 [(0, .ref x0)] := hl
  unfold fX1_init at hf
  refine lv_aload_n hx hb dX1_init_0 rfl (lv_at hl 0 rfl) ?_
  refine W.objInit hx hb hown (ht _ wmX1_5) (ht _ wiOb) (ht _ wcOb) rfl (by rw [hml]; exact hl.1) rfl dX1_init_1 (Nat.le_of_ble_eq_true rfl) (Nat.le_of_ble_eq_true rfl) ?_
  refine W.eq (g2 := F0 m 4 ls []) rfl ?_
  refine lv_aload_n hx hb dX1_init_4 rfl (lv_at hl 0 rfl) ?_
  refine lv_sipush (v := 455) hx hb dX1_init_5 (by decide) ?_
  refine tk_newI hx hb (ht _ waint) hE hs (N := 455) (by decide) (by decide) (by decide) (Nat.le_of_ble_eq_true rfl) (Nat.le_of_ble_eq_true rfl) dX1_init_8 (fun H hs => ?_)
  refine W.widen (k := 1) (n := 455) (by omega) (by omega) ?_
  obtain ⟨h1, e1, hf⟩ := tk_bi hf
  refine tk_putF hx hb ht inX1 tyX1 tyX1_ok nmX1 hown hE hs rfl 0 (by decide) (ht _ wfX1_11) rfl hin rfl rfl rfl e1 dX1_init_10 (fun H locs hs => ?_)
  refine lv_aload_n hx hb dX1_init_13 rfl (lv_at hl 0 rfl) ?_
  refine lv_sipush (v := 455) hx hb dX1_init_14 (by decide) ?_
  refine tk_newI hx hb (ht _ waint) hE hs (N := 455) (by decide) (by decide) (by decide) (Nat.le_of_ble_eq_true rfl) (Nat.le_of_ble_eq_true rfl) dX1_init_17 (fun H hs => ?_)
  refine W.widen (k := 2) (n := 910) (by omega) (by omega) ?_
  obtain ⟨h2, e2, hf⟩ := tk_bi hf
  refine tk_putF hx hb ht inX1 tyX1 tyX1_ok nmX1 hown hE hs rfl 1 (by decide) (ht _ wfX1_15) rfl hin rfl rfl rfl e2 dX1_init_19 (fun H locs hs => ?_)
  refine lv_aload_n hx hb dX1_init_22 rfl (lv_at hl 0 rfl) ?_
  refine lv_sipush (v := 455) hx hb dX1_init_23 (by decide) ?_
  refine tk_newI hx hb (ht _ waint) hE hs (N := 455) (by decide) (by decide) (by decide) (Nat.le_of_ble_eq_true rfl) (Nat.le_of_ble_eq_true rfl) dX1_init_26 (fun H hs => ?_)
  refine W.widen (k := 3) (n := 1365) (by omega) (by omega) ?_
  obtain ⟨h3, e3, hf⟩ := tk_bi hf
  refine tk_putF hx hb ht inX1 tyX1 tyX1_ok nmX1 hown hE hs rfl 2 (by decide) (ht _ wfX1_18) rfl hin rfl rfl rfl e3 dX1_init_28 (fun H locs hs => ?_)
  refine lv_aload_n hx hb dX1_init_31 rfl (lv_at hl 0 rfl) ?_
  refine lv_sipush (v := 455) hx hb dX1_init_32 (by decide) ?_
  refine tk_newI hx hb (ht _ waint) hE hs (N := 455) (by decide) (by decide) (by decide) (Nat.le_of_ble_eq_true rfl) (Nat.le_of_ble_eq_true rfl) dX1_init_35 (fun H hs => ?_)
  refine W.widen (k := 4) (n := 1820) (by omega) (by omega) ?_
  obtain ⟨h4, e4, hf⟩ := tk_bi hf
  refine tk_putF hx hb ht inX1 tyX1 tyX1_ok nmX1 hown hE hs rfl 3 (by decide) (ht _ wfX1_21) rfl hin rfl rfl rfl e4 dX1_init_37 (fun H locs hs => ?_)
  refine lv_aload_n hx hb dX1_init_40 rfl (lv_at hl 0 rfl) ?_
  refine lv_bipush (v := 15) hx hb dX1_init_41 (by decide) ?_
  refine tk_newI hx hb (ht _ waint) hE hs (N := 15) (by decide) (by decide) (by decide) (Nat.le_of_ble_eq_true rfl) (Nat.le_of_ble_eq_true rfl) dX1_init_43 (fun H hs => ?_)
  refine W.widen (k := 5) (n := 1835) (by omega) (by omega) ?_
  obtain ⟨h5, e5, hf⟩ := tk_bi hf
  refine tk_putF hx hb ht inX1 tyX1 tyX1_ok nmX1 hown hE hs rfl 4 (by decide) (ht _ wfX1_24) rfl hin rfl rfl rfl e5 dX1_init_45 (fun H locs hs => ?_)
  refine lv_aload_n hx hb dX1_init_48 rfl (lv_at hl 0 rfl) ?_
  refine lv_bipush (v := 14) hx hb dX1_init_49 (by decide) ?_
  refine tk_newI hx hb (ht _ waint) hE hs (N := 14) (by decide) (by decide) (by decide) (Nat.le_of_ble_eq_true rfl) (Nat.le_of_ble_eq_true rfl) dX1_init_51 (fun H hs => ?_)
  refine W.widen (k := 6) (n := 1849) (by omega) (by omega) ?_
  obtain ⟨h6, e6, hf⟩ := tk_bi hf
  refine tk_putF hx hb ht inX1 tyX1 tyX1_ok nmX1 hown hE hs rfl 5 (by decide) (ht _ wfX1_27) rfl hin rfl rfl rfl e6 dX1_init_53 (fun H locs hs => ?_)
  refine lv_aload_n hx hb dX1_init_56 rfl (lv_at hl 0 rfl) ?_
  refine lv_iconst (v := 0) hx hb dX1_init_57 (by decide) ?_
  refine tk_newJ hx hb (ht _ walong) hE hs (N := 0) (by decide) (by decide) (by decide) (Nat.le_of_ble_eq_true rfl) (Nat.le_of_ble_eq_true rfl) dX1_init_58 (fun H hs => ?_)
  refine W.widen (k := 7) (n := 1849) (by omega) (by omega) ?_
  obtain ⟨h7, e7, hf⟩ := tk_bi hf
  refine tk_put hx hb ht inX1 tyX1 tyX1_ok nmX1 hown hE hs rfl 6 (by decide) (ht _ wfX1_30) rfl rfl rfl e7 dX1_init_60 (fun H locs hs => ?_)
  cases hf
  exact tk_vret hx hb hr hlocks hs dX1_init_63
def fX1_begin_55 (N : Nat) (M : Nat) (h : tk_AH) (sz : Nat) : Option (tk_AH × Nat) :=
  some (h, sz)
def fX1_begin (N : Nat) (M : Nat) (x0 : Nat) (x1 : Int32) (h : tk_AH) (sz : Nat) : Option (tk_AH × Nat) :=
  (tk_pF h 1 9 x0 (.int (if 0 < (if x1 < 14 then x1 else 14) then (if x1 < 14 then x1 else 14) else 0))).bind fun h1 =>
  (tk_pF h1 1 8 x0 (.int 0)).bind fun h2 =>
  (tk_gL h2 1 7 x0).bind fun v3 =>
  (tk_pF h2 1 7 x0 (.long (v3 + 1))).bind fun h4 =>
  (tk_gR h4 1 6 x0).bind fun v5 =>
  (tk_aN h4 2 v5).bind fun v6 =>
  (tk_gI h4 1 9 x0).bind fun v7 =>
  if (1 <<< (v7 &&& 31)) ≤ v6 then (
  fX1_begin_55 N M h4 sz) else (
  (tk_gI h4 1 9 x0).bind fun v9 =>
  (tk_nn (1 <<< (v9 &&& 31)) M).bind fun _ =>
  (tk_pF (tk_nJ h4 sz ((1 <<< (v9 &&& 31)).toNatClampNeg)) 1 6 x0 (.ref sz)).bind fun h11 =>
  fX1_begin_55 N M h11 (sz + 1))
set_option maxHeartbeats 8000000 in
set_option maxRecDepth 100000 in
theorem cX1_begin_ok (l : Launch) (hl0 : l.stackTraces = false) (G : tk_AG) (N : Nat) (M : Nat) (x0 : Nat) (x1 : Int32) (h : tk_AH) (sz : Nat) (h9 : tk_AH) (sz9 : Nat) (hf : fX1_begin N M x0 x1 h sz = some (h9, sz9)) : Met l yX1_begin (coX1_begin :: tk_W) ({ frames := 1, cells := 1, slots := M, locals := 24 }) (tk_pc G [.ref x0, .int x1] h sz) (tk_qc G none h9 sz9) 1 M (tk_ag G) := by
  refine Met.ofW (cc := cX1_begin) (maxL := 2) (ret := none) (by decide) rfl ?_
  intro p e s m args below meth c s₁ B hml hv
  obtain ⟨hav, hE, hrp, hsz, hgs⟩ := hv
  have hx := B.exec
  have hb := B.bytes
  have hr := B.returns
  have hts := atoms_spec (ws := coX1_begin :: tk_W) B.pre
  have ht : ∀ w ∈ tk_W, w.before args s = true := fun w h => hts w (List.mem_cons_of_mem _ h)
  have hown : s.vm.findClass RX1 = some m.cls := findClass_of_methodNamed B.named
  have hlocks := B.notSynchronized
  have hs : tk_sw G s h sz s.heap [] := ⟨hrp, hsz, by rw [hsz]; exact hgs, va_S.rf⟩
  have hl := lv_entry ([.ref x0, .int x1]) (n := 2) (Nat.le_of_ble_eq_true rfl)
  have hent : entryFrame m args 2 = F0 m 0 (lg_sl ([.ref x0, .int x1]) ++ List.replicate (2 - (lg_sl ([.ref x0, .int x1])).length) Slot.unset).toArray [] := by rw [hav, lg_entry_eq]
  rw [hent]
  clear hent
  generalize (lg_sl ([.ref x0, .int x1]) ++ List.replicate (2 - (lg_sl ([.ref x0, .int x1])).length) Slot.unset).toArray = ls at hl ⊢
  have hl : lv_has ls 2 [(0, .ref x0), (1, .int x1)] := hl
  have j55 : ∀ (h : tk_AH) (sz : Nat) (H : Heap) (locs : List Loc) (ls : Array Slot), fX1_begin_55 N M h sz = some (h9, sz9) → tk_sw G s h sz H locs → lv_has ls 2 [] → W p l e (headSpec (coX1_begin :: tk_W) ({ frames := 1, cells := 1, slots := M, locals := 24 })).room s m args below meth c H locs 1 (M) (MQ below (tk_qc G none h9 sz9) args s 1 M (tk_ag G)) (F0 m 55 ls []) := by
    intro h sz H locs ls hf hs hl
    unfold fX1_begin_55 at hf
    cases hf
    exact tk_vret hx hb hr hlocks hs dX1_begin_55
  unfold fX1_begin at hf
  refine lv_aload_n hx hb dX1_begin_0 rfl (lv_at hl 0 rfl) ?_
  refine lv_iconst (v := 0) hx hb dX1_begin_1 (by decide) ?_
  refine lv_bipush (v := 14) hx hb dX1_begin_2 (by decide) ?_
  refine lv_iload_n hx hb dX1_begin_4 rfl (lv_at hl 1 rfl) ?_
  refine va_mmin hx hb (hml.trans hl.1.symm) hown (ht _ wmX1_34) (ht _ wtMmin) (ht _ wnMath) (ht _ wcMmin) (Nat.le_of_ble_eq_true rfl) (Nat.le_of_ble_eq_true rfl) (Nat.le_of_ble_eq_true rfl) (Nat.zero_le _) dX1_begin_5 ?_
  refine va_mmax hx hb (hml.trans hl.1.symm) hown (ht _ wmX1_40) (ht _ wtMmax) (ht _ wnMath) (ht _ wcMmax) (Nat.le_of_ble_eq_true rfl) (Nat.le_of_ble_eq_true rfl) (Nat.le_of_ble_eq_true rfl) (Nat.zero_le _) dX1_begin_8 ?_
  obtain ⟨h1, e1, hf⟩ := tk_bi hf
  refine tk_put hx hb ht inX1 tyX1 tyX1_ok nmX1 hown hE hs rfl 9 (by decide) (ht _ wfX1_43) rfl rfl rfl e1 dX1_begin_11 (fun H locs hs => ?_)
  refine lv_aload_n hx hb dX1_begin_14 rfl (lv_at hl 0 rfl) ?_
  refine lv_iconst (v := 0) hx hb dX1_begin_15 (by decide) ?_
  obtain ⟨h2, e2, hf⟩ := tk_bi hf
  refine tk_put hx hb ht inX1 tyX1 tyX1_ok nmX1 hown hE hs rfl 8 (by decide) (ht _ wfX1_47) rfl rfl rfl e2 dX1_begin_16 (fun H locs hs => ?_)
  refine lv_aload_n hx hb dX1_begin_19 rfl (lv_at hl 0 rfl) ?_
  refine lv_dup hx hb dX1_begin_20 rfl ?_
  obtain ⟨v3, e3, hf⟩ := tk_bi hf
  refine tk_getL hx hb ht inX1 hown hE hs rfl 7 (by decide) (ht _ wfX1_50) e3 dX1_begin_21 ?_
  refine lv_lconst (v := 1) hx hb dX1_begin_24 (by decide) ?_
  refine lv_ladd hx hb dX1_begin_25 ?_
  obtain ⟨h4, e4, hf⟩ := tk_bi hf
  refine tk_put hx hb ht inX1 tyX1 tyX1_ok nmX1 hown hE hs rfl 7 (by decide) (ht _ wfX1_50) rfl rfl rfl e4 dX1_begin_26 (fun H locs hs => ?_)
  refine lv_aload_n hx hb dX1_begin_29 rfl (lv_at hl 0 rfl) ?_
  obtain ⟨v5, e5, hf⟩ := tk_bi hf
  refine tk_getR hx hb ht inX1 hown hE hs rfl 6 (by decide) (ht _ wfX1_30) e5 dX1_begin_30 ?_
  obtain ⟨v6, e6, hf⟩ := tk_bi hf
  refine tk_alen hx hb hE hs e6 dX1_begin_33 ?_
  refine lv_iconst (v := 1) hx hb dX1_begin_34 (by decide) ?_
  refine lv_aload_n hx hb dX1_begin_35 rfl (lv_at hl 0 rfl) ?_
  obtain ⟨v7, e7, hf⟩ := tk_bi hf
  refine tk_getI hx hb ht inX1 hown hE hs rfl 9 (by decide) (ht _ wfX1_43) e7 dX1_begin_36 ?_
  refine lv_ishl hx hb dX1_begin_39 ?_
  refine lv_icmp_ge (tgt := 55) hx hb dX1_begin_40 (by decide) (fun c8 => ?_) (fun c8 => ?_)
  · rw [if_pos c8] at hf
    refine W.widen (k := 1) (n := M) (by omega) (by omega) ?_
    exact j55 h4 sz _ _ _ hf hs (lv_sub hl [] rfl)
  · rw [if_neg c8] at hf
    refine lv_aload_n hx hb dX1_begin_43 rfl (lv_at hl 0 rfl) ?_
    refine lv_iconst (v := 1) hx hb dX1_begin_44 (by decide) ?_
    refine lv_aload_n hx hb dX1_begin_45 rfl (lv_at hl 0 rfl) ?_
    obtain ⟨v9, e9, hf⟩ := tk_bi hf
    refine tk_getI hx hb ht inX1 hown hE hs rfl 9 (by decide) (ht _ wfX1_43) e9 dX1_begin_46 ?_
    refine lv_ishl hx hb dX1_begin_49 ?_
    obtain ⟨_, e10, hf⟩ := tk_bi hf
    obtain ⟨e10, m10, b10⟩ := tk_nn_ok e10
    refine tk_newJ hx hb (ht _ walong) hE hs (N := (1 <<< (v9 &&& 31)).toNatClampNeg) e10 rfl b10 (Nat.le_of_ble_eq_true rfl) (Nat.le_trans (Nat.add_le_add_left m10 _) (Nat.le_of_eq (Nat.zero_add M))) dX1_begin_50 (fun H hs => ?_)
    refine W.widen (k := 1) (n := M) (by omega) (by omega) ?_
    obtain ⟨h11, e11, hf⟩ := tk_bi hf
    refine tk_put hx hb ht inX1 tyX1 tyX1_ok nmX1 hown hE hs rfl 6 (by decide) (ht _ wfX1_30) rfl rfl rfl e11 dX1_begin_52 (fun H locs hs => ?_)
    exact j55 h11 (sz + 1) _ _ _ hf hs (lv_sub hl [] rfl)
def fX1_setWeight (N : Nat) (x0 : Nat) (x1 : Int32) (x2 : Int32) (h : tk_AH) (sz : Nat) : Option (tk_AH × Nat) :=
  (tk_gR h 1 5 x0).bind fun v1 =>
  (tk_sI h 0 v1 x1 x2).bind fun h2 =>
  some (h2, sz)
set_option maxHeartbeats 8000000 in
set_option maxRecDepth 100000 in
theorem cX1_setWeight_ok (l : Launch) (hl0 : l.stackTraces = false) (G : tk_AG) (N : Nat) (x0 : Nat) (x1 : Int32) (x2 : Int32) (h : tk_AH) (sz : Nat) (h9 : tk_AH) (sz9 : Nat) (hf : fX1_setWeight N x0 x1 x2 h sz = some (h9, sz9)) : Met l yX1_setWeight (coX1_setWeight :: tk_W) ({ frames := 0, cells := 0, slots := 0, locals := 0 }) (tk_pc G [.ref x0, .int x1, .int x2] h sz) (tk_qc G none h9 sz9) 0 0 (tk_ag G) := by
  refine Met.ofW (cc := cX1_setWeight) (maxL := 3) (ret := none) (by decide) rfl ?_
  intro p e s m args below meth c s₁ B hml hv
  obtain ⟨hav, hE, hrp, hsz, hgs⟩ := hv
  have hx := B.exec
  have hb := B.bytes
  have hr := B.returns
  have hts := atoms_spec (ws := coX1_setWeight :: tk_W) B.pre
  have ht : ∀ w ∈ tk_W, w.before args s = true := fun w h => hts w (List.mem_cons_of_mem _ h)
  have hown : s.vm.findClass RX1 = some m.cls := findClass_of_methodNamed B.named
  have hlocks := B.notSynchronized
  have hs : tk_sw G s h sz s.heap [] := ⟨hrp, hsz, by rw [hsz]; exact hgs, va_S.rf⟩
  have hl := lv_entry ([.ref x0, .int x1, .int x2]) (n := 3) (Nat.le_of_ble_eq_true rfl)
  have hent : entryFrame m args 3 = F0 m 0 (lg_sl ([.ref x0, .int x1, .int x2]) ++ List.replicate (3 - (lg_sl ([.ref x0, .int x1, .int x2])).length) Slot.unset).toArray [] := by rw [hav, lg_entry_eq]
  rw [hent]
  clear hent
  generalize (lg_sl ([.ref x0, .int x1, .int x2]) ++ List.replicate (3 - (lg_sl ([.ref x0, .int x1, .int x2])).length) Slot.unset).toArray = ls at hl ⊢
  have hl : lv_has ls 3 [(0, .ref x0), (1, .int x1), (2, .int x2)] := hl
  unfold fX1_setWeight at hf
  refine lv_aload_n hx hb dX1_setWeight_0 rfl (lv_at hl 0 rfl) ?_
  obtain ⟨v1, e1, hf⟩ := tk_bi hf
  refine tk_getR hx hb ht inX1 hown hE hs rfl 5 (by decide) (ht _ wfX1_27) e1 dX1_setWeight_1 ?_
  refine lv_iload_n hx hb dX1_setWeight_4 rfl (lv_at hl 1 rfl) ?_
  refine lv_iload_n hx hb dX1_setWeight_5 rfl (lv_at hl 2 rfl) ?_
  obtain ⟨h2, e2, hf⟩ := tk_bi hf
  refine tk_iast hx hb hE hs e2 dX1_setWeight_6 (fun H locs hs => ?_)
  cases hf
  exact tk_vret hx hb hr hlocks hs dX1_setWeight_7
def fX1_addIfRing_31 (N : Nat) (h : tk_AH) (sz : Nat) : Option (tk_AH × Nat) :=
  some (h, sz)
def fX1_addIfRing_148 (N : Nat) (x0 : Nat) (x3 : Int32) (x4 : Int32) (h : tk_AH) (sz : Nat) : Option (tk_AH × Nat) :=
  (tk_gR h 1 1 x0).bind fun v1 =>
  (tk_gI h 1 8 x0).bind fun v2 =>
  (tk_sI h 0 v1 v2 x3).bind fun h3 =>
  (tk_gR h3 1 2 x0).bind fun v4 =>
  (tk_gI h3 1 8 x0).bind fun v5 =>
  (tk_sI h3 0 v4 v5 x4).bind fun h6 =>
  (tk_gI h6 1 8 x0).bind fun v7 =>
  (tk_pF h6 1 8 x0 (.int (v7 + 1))).bind fun h8 =>
  some (h8, sz)
def fX1_addIfRing_57 (N : Nat) (x0 : Nat) (x2 : Int32) (x3 : Int32) (x4 : Int32) (h : tk_AH) (sz : Nat) : Option (tk_AH × Nat) :=
  (tk_gR h 1 5 x0).bind fun v9 =>
  (tk_aI h 0 v9 x2).bind fun v10 =>
  (tk_gR h 1 5 x0).bind fun v11 =>
  (tk_aI h 0 v11 x3).bind fun v12 =>
  (tk_gR h 1 0 x0).bind fun v13 =>
  (tk_gI h 1 8 x0).bind fun v14 =>
  (tk_sI h 0 v13 v14 ((1 <<< (x2 &&& 31)) ||| (1 <<< (x3 &&& 31)))).bind fun h15 =>
  (tk_gR h15 1 3 x0).bind fun v16 =>
  (tk_gI h15 1 8 x0).bind fun v17 =>
  (tk_sI h15 0 v16 v17 ((v10 + v12) * 8)).bind fun h18 =>
  if x4 = (-1) then (
  fX1_addIfRing_148 N x0 x3 x4 h18 sz) else (
  (tk_gR h18 1 0 x0).bind fun v20 =>
  (tk_gI h18 1 8 x0).bind fun v21 =>
  (tk_aI h18 0 v20 v21).bind fun v22 =>
  (tk_sI h18 0 v20 v21 (v22 ||| (1 <<< (x4 &&& 31)))).bind fun h23 =>
  (tk_gR h23 1 3 x0).bind fun v24 =>
  (tk_gI h23 1 8 x0).bind fun v25 =>
  (tk_gR h23 1 5 x0).bind fun v26 =>
  (tk_aI h23 0 v26 x4).bind fun v27 =>
  (tk_sI h23 0 v24 v25 ((((v10 + v12) + v27) * 8) - 1)).bind fun h28 =>
  fX1_addIfRing_148 N x0 x3 x4 h28 sz)
def fX1_addIfRing (N : Nat) (x0 : Nat) (x1 : Nat) (x2 : Int32) (x3 : Int32) (x4 : Int32) (h : tk_AH) (sz : Nat) : Option (tk_AH × Nat) :=
  (tk_gI h 1 8 x0).bind fun v29 =>
  if 455 ≤ v29 then (
  fX1_addIfRing_31 N h sz) else (
  (tk_ok h 3 x1).bind fun _ =>
  (fX3_gives N x1 x2 x3 h sz).bind fun o31 =>
  if o31.1 = 0 then (
  fX1_addIfRing_31 N o31.2.1 o31.2.2) else (
  (tk_ok o31.2.1 3 x1).bind fun _ =>
  (fX3_ringHours N x1 x2 x3 x4 o31.2.1 o31.2.2).bind fun o34 =>
  if o34.1 = (-1) then (
  fX1_addIfRing_31 N o34.2.1 o34.2.2) else (
  if x4 = (-1) then (
  fX1_addIfRing_57 N x0 x2 x3 x4 o34.2.1 o34.2.2) else (
  if x3 ≤ x4 then (
  fX1_addIfRing_57 N x0 x2 x3 x4 o34.2.1 o34.2.2) else (
  (tk_ok o34.2.1 3 x1).bind fun _ =>
  (fX3_ringHours N x1 x2 x4 x3 o34.2.1 o34.2.2).bind fun o39 =>
  if o39.1 = (-1) then (
  fX1_addIfRing_57 N x0 x2 x3 x4 o39.2.1 o39.2.2) else (
  some (o39.2.1, o39.2.2)))))))
set_option maxHeartbeats 8000000 in
set_option maxRecDepth 100000 in
theorem cX1_addIfRing_ok (l : Launch) (hl0 : l.stackTraces = false) (G : tk_AG) (N : Nat) (x0 : Nat) (x1 : Nat) (x2 : Int32) (x3 : Int32) (x4 : Int32) (h : tk_AH) (sz : Nat) (h9 : tk_AH) (sz9 : Nat) (hf : fX1_addIfRing N x0 x1 x2 x3 x4 h sz = some (h9, sz9)) : Met l yX1_addIfRing (coX1_addIfRing :: tk_W) ({ frames := 5, cells := 0, slots := 0, locals := 112 }) (tk_pc G [.ref x0, .ref x1, .int x2, .int x3, .int x4] h sz) (tk_qc G none h9 sz9) 0 0 (tk_ag G) := by
  refine Met.ofW (cc := cX1_addIfRing) (maxL := 6) (ret := none) (by decide) rfl ?_
  intro p e s m args below meth c s₁ B hml hv
  obtain ⟨hav, hE, hrp, hsz, hgs⟩ := hv
  have hx := B.exec
  have hb := B.bytes
  have hr := B.returns
  have hts := atoms_spec (ws := coX1_addIfRing :: tk_W) B.pre
  have ht : ∀ w ∈ tk_W, w.before args s = true := fun w h => hts w (List.mem_cons_of_mem _ h)
  have hown : s.vm.findClass RX1 = some m.cls := findClass_of_methodNamed B.named
  have hlocks := B.notSynchronized
  have hs : tk_sw G s h sz s.heap [] := ⟨hrp, hsz, by rw [hsz]; exact hgs, va_S.rf⟩
  have hl := lv_entry ([.ref x0, .ref x1, .int x2, .int x3, .int x4]) (n := 6) (Nat.le_of_ble_eq_true rfl)
  have hent : entryFrame m args 6 = F0 m 0 (lg_sl ([.ref x0, .ref x1, .int x2, .int x3, .int x4]) ++ List.replicate (6 - (lg_sl ([.ref x0, .ref x1, .int x2, .int x3, .int x4])).length) Slot.unset).toArray [] := by rw [hav, lg_entry_eq]
  rw [hent]
  clear hent
  generalize (lg_sl ([.ref x0, .ref x1, .int x2, .int x3, .int x4]) ++ List.replicate (6 - (lg_sl ([.ref x0, .ref x1, .int x2, .int x3, .int x4])).length) Slot.unset).toArray = ls at hl ⊢
  have hl : lv_has ls 6 [(0, .ref x0), (1, .ref x1), (2, .int x2), (3, .int x3), (4, .int x4)] := hl
  have j31 : ∀ (h : tk_AH) (sz : Nat) (H : Heap) (locs : List Loc) (ls : Array Slot), fX1_addIfRing_31 N h sz = some (h9, sz9) → tk_sw G s h sz H locs → lv_has ls 6 [] → W p l e (headSpec (coX1_addIfRing :: tk_W) ({ frames := 5, cells := 0, slots := 0, locals := 112 })).room s m args below meth c H locs 0 (0) (MQ below (tk_qc G none h9 sz9) args s 0 0 (tk_ag G)) (F0 m 31 ls []) := by
    intro h sz H locs ls hf hs hl
    unfold fX1_addIfRing_31 at hf
    cases hf
    exact tk_vret hx hb hr hlocks hs dX1_addIfRing_31
  have j148 : ∀ (x0 : Nat) (x3 : Int32) (x4 : Int32) (h : tk_AH) (sz : Nat) (H : Heap) (locs : List Loc) (ls : Array Slot), fX1_addIfRing_148 N x0 x3 x4 h sz = some (h9, sz9) → tk_sw G s h sz H locs → lv_has ls 6 [(0, .ref x0), (3, .int x3), (4, .int x4)] → W p l e (headSpec (coX1_addIfRing :: tk_W) ({ frames := 5, cells := 0, slots := 0, locals := 112 })).room s m args below meth c H locs 0 (0) (MQ below (tk_qc G none h9 sz9) args s 0 0 (tk_ag G)) (F0 m 148 ls []) := by
    intro x0 x3 x4 h sz H locs ls hf hs hl
    unfold fX1_addIfRing_148 at hf
    refine lv_aload_n hx hb dX1_addIfRing_148 rfl (lv_at hl 0 rfl) ?_
    obtain ⟨v1, e1, hf⟩ := tk_bi hf
    refine tk_getR hx hb ht inX1 hown hE hs rfl 1 (by decide) (ht _ wfX1_15) e1 dX1_addIfRing_149 ?_
    refine lv_aload_n hx hb dX1_addIfRing_152 rfl (lv_at hl 0 rfl) ?_
    obtain ⟨v2, e2, hf⟩ := tk_bi hf
    refine tk_getI hx hb ht inX1 hown hE hs rfl 8 (by decide) (ht _ wfX1_47) e2 dX1_addIfRing_153 ?_
    refine lv_iload_n hx hb dX1_addIfRing_156 rfl (lv_at hl 1 rfl) ?_
    obtain ⟨h3, e3, hf⟩ := tk_bi hf
    refine tk_iast hx hb hE hs e3 dX1_addIfRing_157 (fun H locs hs => ?_)
    refine lv_aload_n hx hb dX1_addIfRing_158 rfl (lv_at hl 0 rfl) ?_
    obtain ⟨v4, e4, hf⟩ := tk_bi hf
    refine tk_getR hx hb ht inX1 hown hE hs rfl 2 (by decide) (ht _ wfX1_18) e4 dX1_addIfRing_159 ?_
    refine lv_aload_n hx hb dX1_addIfRing_162 rfl (lv_at hl 0 rfl) ?_
    obtain ⟨v5, e5, hf⟩ := tk_bi hf
    refine tk_getI hx hb ht inX1 hown hE hs rfl 8 (by decide) (ht _ wfX1_47) e5 dX1_addIfRing_163 ?_
    refine lv_iload hx hb dX1_addIfRing_166 (lv_at hl 2 rfl) ?_
    obtain ⟨h6, e6, hf⟩ := tk_bi hf
    refine tk_iast hx hb hE hs e6 dX1_addIfRing_168 (fun H locs hs => ?_)
    refine lv_aload_n hx hb dX1_addIfRing_169 rfl (lv_at hl 0 rfl) ?_
    refine lv_dup hx hb dX1_addIfRing_170 rfl ?_
    obtain ⟨v7, e7, hf⟩ := tk_bi hf
    refine tk_getI hx hb ht inX1 hown hE hs rfl 8 (by decide) (ht _ wfX1_47) e7 dX1_addIfRing_171 ?_
    refine lv_iconst (v := 1) hx hb dX1_addIfRing_174 (by decide) ?_
    refine lv_iadd hx hb dX1_addIfRing_175 ?_
    obtain ⟨h8, e8, hf⟩ := tk_bi hf
    refine tk_put hx hb ht inX1 tyX1 tyX1_ok nmX1 hown hE hs rfl 8 (by decide) (ht _ wfX1_47) rfl rfl rfl e8 dX1_addIfRing_176 (fun H locs hs => ?_)
    cases hf
    exact tk_vret hx hb hr hlocks hs dX1_addIfRing_179
  have j57 : ∀ (x0 : Nat) (x2 : Int32) (x3 : Int32) (x4 : Int32) (h : tk_AH) (sz : Nat) (H : Heap) (locs : List Loc) (ls : Array Slot), fX1_addIfRing_57 N x0 x2 x3 x4 h sz = some (h9, sz9) → tk_sw G s h sz H locs → lv_has ls 6 [(0, .ref x0), (2, .int x2), (3, .int x3), (4, .int x4)] → W p l e (headSpec (coX1_addIfRing :: tk_W) ({ frames := 5, cells := 0, slots := 0, locals := 112 })).room s m args below meth c H locs 0 (0) (MQ below (tk_qc G none h9 sz9) args s 0 0 (tk_ag G)) (F0 m 57 ls []) := by
    intro x0 x2 x3 x4 h sz H locs ls hf hs hl
    unfold fX1_addIfRing_57 at hf
    refine lv_aload_n hx hb dX1_addIfRing_57 rfl (lv_at hl 0 rfl) ?_
    obtain ⟨v9, e9, hf⟩ := tk_bi hf
    refine tk_getR hx hb ht inX1 hown hE hs rfl 5 (by decide) (ht _ wfX1_27) e9 dX1_addIfRing_58 ?_
    refine lv_iload_n hx hb dX1_addIfRing_61 rfl (lv_at hl 1 rfl) ?_
    obtain ⟨v10, e10, hf⟩ := tk_bi hf
    refine tk_iald hx hb hE hs e10 dX1_addIfRing_62 ?_
    refine lv_aload_n hx hb dX1_addIfRing_63 rfl (lv_at hl 0 rfl) ?_
    obtain ⟨v11, e11, hf⟩ := tk_bi hf
    refine tk_getR hx hb ht inX1 hown hE hs rfl 5 (by decide) (ht _ wfX1_27) e11 dX1_addIfRing_64 ?_
    refine lv_iload_n hx hb dX1_addIfRing_67 rfl (lv_at hl 2 rfl) ?_
    obtain ⟨v12, e12, hf⟩ := tk_bi hf
    refine tk_iald hx hb hE hs e12 dX1_addIfRing_68 ?_
    refine lv_iadd hx hb dX1_addIfRing_69 ?_
    refine lv_istore (lv' := [(5, .int (v10 + v12)), (0, .ref x0), (2, .int x2), (3, .int x3), (4, .int x4)]) hx hb dX1_addIfRing_70 hl (by decide) rfl (fun ls hl => ?_)
    refine lv_aload_n hx hb dX1_addIfRing_72 rfl (lv_at hl 1 rfl) ?_
    obtain ⟨v13, e13, hf⟩ := tk_bi hf
    refine tk_getR hx hb ht inX1 hown hE hs rfl 0 (by decide) (ht _ wfX1_11) e13 dX1_addIfRing_73 ?_
    refine lv_aload_n hx hb dX1_addIfRing_76 rfl (lv_at hl 1 rfl) ?_
    obtain ⟨v14, e14, hf⟩ := tk_bi hf
    refine tk_getI hx hb ht inX1 hown hE hs rfl 8 (by decide) (ht _ wfX1_47) e14 dX1_addIfRing_77 ?_
    refine lv_iconst (v := 1) hx hb dX1_addIfRing_80 (by decide) ?_
    refine lv_iload_n hx hb dX1_addIfRing_81 rfl (lv_at hl 2 rfl) ?_
    refine lv_ishl hx hb dX1_addIfRing_82 ?_
    refine lv_iconst (v := 1) hx hb dX1_addIfRing_83 (by decide) ?_
    refine lv_iload_n hx hb dX1_addIfRing_84 rfl (lv_at hl 3 rfl) ?_
    refine lv_ishl hx hb dX1_addIfRing_85 ?_
    refine lv_ior hx hb dX1_addIfRing_86 ?_
    obtain ⟨h15, e15, hf⟩ := tk_bi hf
    refine tk_iast hx hb hE hs e15 dX1_addIfRing_87 (fun H locs hs => ?_)
    refine lv_aload_n hx hb dX1_addIfRing_88 rfl (lv_at hl 1 rfl) ?_
    obtain ⟨v16, e16, hf⟩ := tk_bi hf
    refine tk_getR hx hb ht inX1 hown hE hs rfl 3 (by decide) (ht _ wfX1_21) e16 dX1_addIfRing_89 ?_
    refine lv_aload_n hx hb dX1_addIfRing_92 rfl (lv_at hl 1 rfl) ?_
    obtain ⟨v17, e17, hf⟩ := tk_bi hf
    refine tk_getI hx hb ht inX1 hown hE hs rfl 8 (by decide) (ht _ wfX1_47) e17 dX1_addIfRing_93 ?_
    refine lv_iload hx hb dX1_addIfRing_96 (lv_at hl 0 rfl) ?_
    refine lv_bipush (v := 8) hx hb dX1_addIfRing_98 (by decide) ?_
    refine lv_imul hx hb dX1_addIfRing_100 ?_
    obtain ⟨h18, e18, hf⟩ := tk_bi hf
    refine tk_iast hx hb hE hs e18 dX1_addIfRing_101 (fun H locs hs => ?_)
    refine lv_iload hx hb dX1_addIfRing_102 (lv_at hl 4 rfl) ?_
    refine lv_iconst (v := (-1)) hx hb dX1_addIfRing_104 (by decide) ?_
    refine lv_icmp_eq (tgt := 148) hx hb dX1_addIfRing_105 (by decide) (fun c19 => ?_) (fun c19 => ?_)
    · rw [if_pos c19] at hf
      exact j148 x0 x3 x4 h18 sz _ _ _ hf hs (lv_sub hl [1, 3, 4] rfl)
    · rw [if_neg c19] at hf
      refine lv_aload_n hx hb dX1_addIfRing_108 rfl (lv_at hl 1 rfl) ?_
      obtain ⟨v20, e20, hf⟩ := tk_bi hf
      refine tk_getR hx hb ht inX1 hown hE hs rfl 0 (by decide) (ht _ wfX1_11) e20 dX1_addIfRing_109 ?_
      refine lv_aload_n hx hb dX1_addIfRing_112 rfl (lv_at hl 1 rfl) ?_
      obtain ⟨v21, e21, hf⟩ := tk_bi hf
      refine tk_getI hx hb ht inX1 hown hE hs rfl 8 (by decide) (ht _ wfX1_47) e21 dX1_addIfRing_113 ?_
      refine lv_dup2_11 hx hb dX1_addIfRing_116 rfl rfl ?_
      obtain ⟨v22, e22, hf⟩ := tk_bi hf
      refine tk_iald hx hb hE hs e22 dX1_addIfRing_117 ?_
      refine lv_iconst (v := 1) hx hb dX1_addIfRing_118 (by decide) ?_
      refine lv_iload hx hb dX1_addIfRing_119 (lv_at hl 4 rfl) ?_
      refine lv_ishl hx hb dX1_addIfRing_121 ?_
      refine lv_ior hx hb dX1_addIfRing_122 ?_
      obtain ⟨h23, e23, hf⟩ := tk_bi hf
      refine tk_iast hx hb hE hs e23 dX1_addIfRing_123 (fun H locs hs => ?_)
      refine lv_aload_n hx hb dX1_addIfRing_124 rfl (lv_at hl 1 rfl) ?_
      obtain ⟨v24, e24, hf⟩ := tk_bi hf
      refine tk_getR hx hb ht inX1 hown hE hs rfl 3 (by decide) (ht _ wfX1_21) e24 dX1_addIfRing_125 ?_
      refine lv_aload_n hx hb dX1_addIfRing_128 rfl (lv_at hl 1 rfl) ?_
      obtain ⟨v25, e25, hf⟩ := tk_bi hf
      refine tk_getI hx hb ht inX1 hown hE hs rfl 8 (by decide) (ht _ wfX1_47) e25 dX1_addIfRing_129 ?_
      refine lv_iload hx hb dX1_addIfRing_132 (lv_at hl 0 rfl) ?_
      refine lv_aload_n hx hb dX1_addIfRing_134 rfl (lv_at hl 1 rfl) ?_
      obtain ⟨v26, e26, hf⟩ := tk_bi hf
      refine tk_getR hx hb ht inX1 hown hE hs rfl 5 (by decide) (ht _ wfX1_27) e26 dX1_addIfRing_135 ?_
      refine lv_iload hx hb dX1_addIfRing_138 (lv_at hl 4 rfl) ?_
      obtain ⟨v27, e27, hf⟩ := tk_bi hf
      refine tk_iald hx hb hE hs e27 dX1_addIfRing_140 ?_
      refine lv_iadd hx hb dX1_addIfRing_141 ?_
      refine lv_bipush (v := 8) hx hb dX1_addIfRing_142 (by decide) ?_
      refine lv_imul hx hb dX1_addIfRing_144 ?_
      refine lv_iconst (v := 1) hx hb dX1_addIfRing_145 (by decide) ?_
      refine lv_isub hx hb dX1_addIfRing_146 ?_
      obtain ⟨h28, e28, hf⟩ := tk_bi hf
      refine tk_iast hx hb hE hs e28 dX1_addIfRing_147 (fun H locs hs => ?_)
      exact j148 x0 x3 x4 h28 sz _ _ _ hf hs (lv_sub hl [1, 3, 4] rfl)
  unfold fX1_addIfRing at hf
  refine lv_aload_n hx hb dX1_addIfRing_0 rfl (lv_at hl 0 rfl) ?_
  obtain ⟨v29, e29, hf⟩ := tk_bi hf
  refine tk_getI hx hb ht inX1 hown hE hs rfl 8 (by decide) (ht _ wfX1_47) e29 dX1_addIfRing_1 ?_
  refine lv_sipush (v := 455) hx hb dX1_addIfRing_4 (by decide) ?_
  refine lv_icmp_ge (tgt := 31) hx hb dX1_addIfRing_7 (by decide) (fun c30 => ?_) (fun c30 => ?_)
  · rw [if_pos c30] at hf
    exact j31 h sz _ _ _ hf hs (lv_sub hl [] rfl)
  · rw [if_neg c30] at hf
    refine lv_aload_n hx hb dX1_addIfRing_10 rfl (lv_at hl 1 rfl) ?_
    refine lv_iload_n hx hb dX1_addIfRing_11 rfl (lv_at hl 2 rfl) ?_
    refine lv_iload_n hx hb dX1_addIfRing_12 rfl (lv_at hl 3 rfl) ?_
    obtain ⟨_, p31, hf⟩ := tk_bi hf
    obtain ⟨o31, e31, hf⟩ := tk_bi hf
    refine tk_call0 (v := some (.int o31.1)) hs (va_runV (As := [.int x2, .int x3]) (rest := []) ⟨hx, hb, hml, hown, ht⟩ (cX3_gives_ok l hl0 G N x1 x2 x3 h sz o31.1 o31.2.1 o31.2.2 e31) (kwX3_gives ht wmX1_58 rfl rfl ⟨Nat.le_of_ble_eq_true rfl, Nat.le_of_ble_eq_true rfl⟩) (tk_preV hE hs (tk_ok_ok p31) rfl) rfl rfl hl.1 rfl (lv_room (Nat.le_of_ble_eq_true rfl)) dX1_addIfRing_13 ⟨(Nat.le_of_ble_eq_true rfl), (Nat.le_of_ble_eq_true rfl)⟩) (fun H locs hs => ?_)
    refine W.eq (g2 := F0 m 16 ls [.int o31.1]) rfl ?_
    refine lv_if_eq (tgt := 31) hx hb dX1_addIfRing_16 (by decide) (fun c33 => ?_) (fun c33 => ?_)
    · rw [if_pos c33] at hf
      exact j31 o31.2.1 o31.2.2 _ _ _ hf hs (lv_sub hl [] rfl)
    · rw [if_neg c33] at hf
      refine lv_aload_n hx hb dX1_addIfRing_19 rfl (lv_at hl 1 rfl) ?_
      refine lv_iload_n hx hb dX1_addIfRing_20 rfl (lv_at hl 2 rfl) ?_
      refine lv_iload_n hx hb dX1_addIfRing_21 rfl (lv_at hl 3 rfl) ?_
      refine lv_iload hx hb dX1_addIfRing_22 (lv_at hl 4 rfl) ?_
      obtain ⟨_, p34, hf⟩ := tk_bi hf
      obtain ⟨o34, e34, hf⟩ := tk_bi hf
      refine tk_call0 (v := some (.int o34.1)) hs (va_runV (As := [.int x2, .int x3, .int x4]) (rest := []) ⟨hx, hb, hml, hown, ht⟩ (cX3_ringHours_ok l hl0 G N x1 x2 x3 x4 o31.2.1 o31.2.2 o34.1 o34.2.1 o34.2.2 e34) (kwX3_ringHours ht wmX1_64 rfl rfl ⟨Nat.le_of_ble_eq_true rfl, Nat.le_of_ble_eq_true rfl⟩) (tk_preV hE hs (tk_ok_ok p34) rfl) rfl rfl hl.1 rfl (lv_room (Nat.le_of_ble_eq_true rfl)) dX1_addIfRing_24 ⟨(Nat.le_of_ble_eq_true rfl), (Nat.le_of_ble_eq_true rfl)⟩) (fun H locs hs => ?_)
      refine W.eq (g2 := F0 m 27 ls [.int o34.1]) rfl ?_
      refine lv_iconst (v := (-1)) hx hb dX1_addIfRing_27 (by decide) ?_
      refine lv_icmp_ne (tgt := 32) hx hb dX1_addIfRing_28 (by decide) (fun c36 => ?_) (fun c36 => ?_)
      · rw [if_neg c36] at hf
        refine lv_iload hx hb dX1_addIfRing_32 (lv_at hl 4 rfl) ?_
        refine lv_iconst (v := (-1)) hx hb dX1_addIfRing_34 (by decide) ?_
        refine lv_icmp_eq (tgt := 57) hx hb dX1_addIfRing_35 (by decide) (fun c37 => ?_) (fun c37 => ?_)
        · rw [if_pos c37] at hf
          exact j57 x0 x2 x3 x4 o34.2.1 o34.2.2 _ _ _ hf hs (lv_sub hl [0, 2, 3, 4] rfl)
        · rw [if_neg c37] at hf
          refine lv_iload hx hb dX1_addIfRing_38 (lv_at hl 4 rfl) ?_
          refine lv_iload_n hx hb dX1_addIfRing_40 rfl (lv_at hl 3 rfl) ?_
          refine lv_icmp_ge (tgt := 57) hx hb dX1_addIfRing_41 (by decide) (fun c38 => ?_) (fun c38 => ?_)
          · rw [if_pos c38] at hf
            exact j57 x0 x2 x3 x4 o34.2.1 o34.2.2 _ _ _ hf hs (lv_sub hl [0, 2, 3, 4] rfl)
          · rw [if_neg c38] at hf
            refine lv_aload_n hx hb dX1_addIfRing_44 rfl (lv_at hl 1 rfl) ?_
            refine lv_iload_n hx hb dX1_addIfRing_45 rfl (lv_at hl 2 rfl) ?_
            refine lv_iload hx hb dX1_addIfRing_46 (lv_at hl 4 rfl) ?_
            refine lv_iload_n hx hb dX1_addIfRing_48 rfl (lv_at hl 3 rfl) ?_
            obtain ⟨_, p39, hf⟩ := tk_bi hf
            obtain ⟨o39, e39, hf⟩ := tk_bi hf
            refine tk_call0 (v := some (.int o39.1)) hs (va_runV (As := [.int x2, .int x4, .int x3]) (rest := []) ⟨hx, hb, hml, hown, ht⟩ (cX3_ringHours_ok l hl0 G N x1 x2 x4 x3 o34.2.1 o34.2.2 o39.1 o39.2.1 o39.2.2 e39) (kwX3_ringHours ht wmX1_64 rfl rfl ⟨Nat.le_of_ble_eq_true rfl, Nat.le_of_ble_eq_true rfl⟩) (tk_preV hE hs (tk_ok_ok p39) rfl) rfl rfl hl.1 rfl (lv_room (Nat.le_of_ble_eq_true rfl)) dX1_addIfRing_49 ⟨(Nat.le_of_ble_eq_true rfl), (Nat.le_of_ble_eq_true rfl)⟩) (fun H locs hs => ?_)
            refine W.eq (g2 := F0 m 52 ls [.int o39.1]) rfl ?_
            refine lv_iconst (v := (-1)) hx hb dX1_addIfRing_52 (by decide) ?_
            refine lv_icmp_eq (tgt := 57) hx hb dX1_addIfRing_53 (by decide) (fun c41 => ?_) (fun c41 => ?_)
            · rw [if_pos c41] at hf
              exact j57 x0 x2 x3 x4 o39.2.1 o39.2.2 _ _ _ hf hs (lv_sub hl [0, 2, 3, 4] rfl)
            · rw [if_neg c41] at hf
              cases hf
              exact tk_vret hx hb hr hlocks hs dX1_addIfRing_56
      · rw [if_pos c36] at hf
        exact j31 o34.2.1 o34.2.2 _ _ _ hf hs (lv_sub hl [] rfl)
def fX1_gather_45 (N : Nat) (k24 : Nat → Nat → Int32 → Int32 → tk_AH → Nat → Option (tk_AH × Nat)) : Nat → Nat → Nat → Int32 → Int32 → Int32 → tk_AH → Nat → Option (tk_AH × Nat)
  | 0, _, _, _, _, _, _, _ => none
  | n + 1, x0, x1, x2, x3, x4, h, sz =>
  (tk_gI h 1 9 x0).bind fun v1 =>
  if v1 ≤ x4 then (
  k24 x0 x1 x2 (x3 + 1) h sz) else (
  (tk_ok h 1 x0).bind fun _ =>
  (fX1_addIfRing N x0 x1 x2 x3 x4 h sz).bind fun o3 =>
  fX1_gather_45 N k24 n x0 x1 x2 x3 (x4 + 1) o3.1 o3.2)
def fX1_gather_24 (N : Nat) (k2 : Nat → Nat → Int32 → tk_AH → Nat → Option (tk_AH × Nat)) : Nat → Nat → Nat → Int32 → Int32 → tk_AH → Nat → Option (tk_AH × Nat)
  | 0, _, _, _, _, _, _ => none
  | n + 1, x0, x1, x2, x3, h, sz =>
  (tk_gI h 1 9 x0).bind fun v5 =>
  if v5 ≤ x3 then (
  k2 x0 x1 (x2 + 1) h sz) else (
  (tk_ok h 1 x0).bind fun _ =>
  (fX1_addIfRing N x0 x1 x2 x3 (-1) h sz).bind fun o7 =>
  fX1_gather_45 N (fX1_gather_24 N k2 n) N x0 x1 x2 x3 (x2 + 1) o7.1 o7.2)
def fX1_gather_2 (N : Nat) : Nat → Nat → Nat → Int32 → tk_AH → Nat → Option (tk_AH × Nat)
  | 0, _, _, _, _, _ => none
  | n + 1, x0, x1, x2, h, sz =>
  (tk_gI h 1 9 x0).bind fun v9 =>
  if v9 ≤ x2 then (
  (tk_gR h 1 4 x0).bind fun v11 =>
  (tk_gI h 1 9 x0).bind fun v12 =>
  (tk_gI h 1 8 x0).bind fun v13 =>
  (tk_sI h 0 v11 v12 v13).bind fun h14 =>
  some (h14, sz)) else (
  (tk_gR h 1 4 x0).bind fun v15 =>
  (tk_gI h 1 8 x0).bind fun v16 =>
  (tk_sI h 0 v15 x2 v16).bind fun h17 =>
  fX1_gather_24 N (fX1_gather_2 N n) N x0 x1 x2 (x2 + 1) h17 sz)
def fX1_gather (N : Nat) (x0 : Nat) (x1 : Nat) (h : tk_AH) (sz : Nat) : Option (tk_AH × Nat) :=
  fX1_gather_2 N N x0 x1 0 h sz
set_option maxHeartbeats 8000000 in
set_option maxRecDepth 100000 in
theorem cX1_gather_ok (l : Launch) (hl0 : l.stackTraces = false) (G : tk_AG) (N : Nat) (x0 : Nat) (x1 : Nat) (h : tk_AH) (sz : Nat) (h9 : tk_AH) (sz9 : Nat) (hf : fX1_gather N x0 x1 h sz = some (h9, sz9)) : Met l yX1_gather (coX1_gather :: tk_W) ({ frames := 6, cells := 0, slots := 0, locals := 137 }) (tk_pc G [.ref x0, .ref x1] h sz) (tk_qc G none h9 sz9) 0 0 (tk_ag G) := by
  refine Met.ofW (cc := cX1_gather) (maxL := 5) (ret := none) (by decide) rfl ?_
  intro p e s m args below meth c s₁ B hml hv
  obtain ⟨hav, hE, hrp, hsz, hgs⟩ := hv
  have hx := B.exec
  have hb := B.bytes
  have hr := B.returns
  have hts := atoms_spec (ws := coX1_gather :: tk_W) B.pre
  have ht : ∀ w ∈ tk_W, w.before args s = true := fun w h => hts w (List.mem_cons_of_mem _ h)
  have hown : s.vm.findClass RX1 = some m.cls := findClass_of_methodNamed B.named
  have hlocks := B.notSynchronized
  have hs : tk_sw G s h sz s.heap [] := ⟨hrp, hsz, by rw [hsz]; exact hgs, va_S.rf⟩
  have hl := lv_entry ([.ref x0, .ref x1]) (n := 5) (Nat.le_of_ble_eq_true rfl)
  have hent : entryFrame m args 5 = F0 m 0 (lg_sl ([.ref x0, .ref x1]) ++ List.replicate (5 - (lg_sl ([.ref x0, .ref x1])).length) Slot.unset).toArray [] := by rw [hav, lg_entry_eq]
  rw [hent]
  clear hent
  generalize (lg_sl ([.ref x0, .ref x1]) ++ List.replicate (5 - (lg_sl ([.ref x0, .ref x1])).length) Slot.unset).toArray = ls at hl ⊢
  have hl : lv_has ls 5 [(0, .ref x0), (1, .ref x1)] := hl
  have j45 : ∀ (k24 : Nat → Nat → Int32 → Int32 → tk_AH → Nat → Option (tk_AH × Nat)), (∀ (x0 : Nat) (x1 : Nat) (x2 : Int32) (x3 : Int32) (h : tk_AH) (sz : Nat) (H : Heap) (locs : List Loc) (ls : Array Slot), k24 x0 x1 x2 x3 h sz = some (h9, sz9) → tk_sw G s h sz H locs → lv_has ls 5 [(0, .ref x0), (1, .ref x1), (2, .int x2), (3, .int x3)] → W p l e (headSpec (coX1_gather :: tk_W) ({ frames := 6, cells := 0, slots := 0, locals := 137 })).room s m args below meth c H locs 0 (0) (MQ below (tk_qc G none h9 sz9) args s 0 0 (tk_ag G)) (F0 m 24 ls [])) → ∀ (n : Nat), ∀ (x0 : Nat) (x1 : Nat) (x2 : Int32) (x3 : Int32) (x4 : Int32) (h : tk_AH) (sz : Nat) (H : Heap) (locs : List Loc) (ls : Array Slot), fX1_gather_45 N k24 n x0 x1 x2 x3 x4 h sz = some (h9, sz9) → tk_sw G s h sz H locs → lv_has ls 5 [(0, .ref x0), (1, .ref x1), (2, .int x2), (3, .int x3), (4, .int x4)] → W p l e (headSpec (coX1_gather :: tk_W) ({ frames := 6, cells := 0, slots := 0, locals := 137 })).room s m args below meth c H locs 0 (0) (MQ below (tk_qc G none h9 sz9) args s 0 0 (tk_ag G)) (F0 m 45 ls []) := by
    intro k24 hk24 n
    induction n with
    | zero =>
      intro x0 x1 x2 x3 x4 h sz H locs ls hf
      cases hf
    | succ n ih =>
      intro x0 x1 x2 x3 x4 h sz H locs ls hf hs hl
      rw [fX1_gather_45] at hf
      refine lv_iload hx hb dX1_gather_45 (lv_at hl 4 rfl) ?_
      refine lv_aload_n hx hb dX1_gather_47 rfl (lv_at hl 0 rfl) ?_
      obtain ⟨v1, e1, hf⟩ := tk_bi hf
      refine tk_getI hx hb ht inX1 hown hE hs rfl 9 (by decide) (ht _ wfX1_43) e1 dX1_gather_48 ?_
      refine lv_icmp_ge (tgt := 69) hx hb dX1_gather_51 (by decide) (fun c2 => ?_) (fun c2 => ?_)
      · rw [if_pos c2] at hf
        refine lv_iinc (v := x3 + 1) (lv' := [(3, .int (x3 + 1)), (0, .ref x0), (1, .ref x1), (2, .int x2), (4, .int x4)]) hx hb dX1_gather_69 hl (k := 3) rfl rfl (by decide) rfl (fun ls hl => ?_)
        refine lv_goto (tgt := 24) hx hb dX1_gather_72 (by decide) ?_
        exact hk24 x0 x1 x2 (x3 + 1) h sz _ _ _ hf hs (lv_sub hl [1, 2, 3, 0] rfl)
      · rw [if_neg c2] at hf
        refine lv_aload_n hx hb dX1_gather_54 rfl (lv_at hl 0 rfl) ?_
        refine lv_aload_n hx hb dX1_gather_55 rfl (lv_at hl 1 rfl) ?_
        refine lv_iload_n hx hb dX1_gather_56 rfl (lv_at hl 2 rfl) ?_
        refine lv_iload_n hx hb dX1_gather_57 rfl (lv_at hl 3 rfl) ?_
        refine lv_iload hx hb dX1_gather_58 (lv_at hl 4 rfl) ?_
        obtain ⟨_, p3, hf⟩ := tk_bi hf
        obtain ⟨o3, e3, hf⟩ := tk_bi hf
        refine tk_call0 (v := none) hs (va_runV (As := [.ref x1, .int x2, .int x3, .int x4]) (rest := []) ⟨hx, hb, hml, hown, ht⟩ (cX1_addIfRing_ok l hl0 G N x0 x1 x2 x3 x4 h sz o3.1 o3.2 e3) (kwX1_addIfRing ht wmX1_54 rfl rfl ⟨Nat.le_of_ble_eq_true rfl, Nat.le_of_ble_eq_true rfl⟩) (tk_preV hE hs (tk_ok_ok p3) rfl) rfl rfl hl.1 rfl (lv_room (Nat.le_of_ble_eq_true rfl)) dX1_gather_60 ⟨(Nat.le_of_ble_eq_true rfl), (Nat.le_of_ble_eq_true rfl)⟩) (fun H locs hs => ?_)
        refine W.eq (g2 := F0 m 63 ls []) rfl ?_
        refine lv_iinc (v := x4 + 1) (lv' := [(4, .int (x4 + 1)), (0, .ref x0), (1, .ref x1), (2, .int x2), (3, .int x3)]) hx hb dX1_gather_63 hl (k := 4) rfl rfl (by decide) rfl (fun ls hl => ?_)
        refine lv_goto (tgt := 45) hx hb dX1_gather_66 (by decide) ?_
        exact ih x0 x1 x2 x3 (x4 + 1) o3.1 o3.2 _ _ _ hf hs (lv_sub hl [1, 2, 3, 4, 0] rfl)
  have j24 : ∀ (k2 : Nat → Nat → Int32 → tk_AH → Nat → Option (tk_AH × Nat)), (∀ (x0 : Nat) (x1 : Nat) (x2 : Int32) (h : tk_AH) (sz : Nat) (H : Heap) (locs : List Loc) (ls : Array Slot), k2 x0 x1 x2 h sz = some (h9, sz9) → tk_sw G s h sz H locs → lv_has ls 5 [(0, .ref x0), (1, .ref x1), (2, .int x2)] → W p l e (headSpec (coX1_gather :: tk_W) ({ frames := 6, cells := 0, slots := 0, locals := 137 })).room s m args below meth c H locs 0 (0) (MQ below (tk_qc G none h9 sz9) args s 0 0 (tk_ag G)) (F0 m 2 ls [])) → ∀ (n : Nat), ∀ (x0 : Nat) (x1 : Nat) (x2 : Int32) (x3 : Int32) (h : tk_AH) (sz : Nat) (H : Heap) (locs : List Loc) (ls : Array Slot), fX1_gather_24 N k2 n x0 x1 x2 x3 h sz = some (h9, sz9) → tk_sw G s h sz H locs → lv_has ls 5 [(0, .ref x0), (1, .ref x1), (2, .int x2), (3, .int x3)] → W p l e (headSpec (coX1_gather :: tk_W) ({ frames := 6, cells := 0, slots := 0, locals := 137 })).room s m args below meth c H locs 0 (0) (MQ below (tk_qc G none h9 sz9) args s 0 0 (tk_ag G)) (F0 m 24 ls []) := by
    intro k2 hk2 n
    induction n with
    | zero =>
      intro x0 x1 x2 x3 h sz H locs ls hf
      cases hf
    | succ n ih =>
      intro x0 x1 x2 x3 h sz H locs ls hf hs hl
      rw [fX1_gather_24] at hf
      refine lv_iload_n hx hb dX1_gather_24 rfl (lv_at hl 3 rfl) ?_
      refine lv_aload_n hx hb dX1_gather_25 rfl (lv_at hl 0 rfl) ?_
      obtain ⟨v5, e5, hf⟩ := tk_bi hf
      refine tk_getI hx hb ht inX1 hown hE hs rfl 9 (by decide) (ht _ wfX1_43) e5 dX1_gather_26 ?_
      refine lv_icmp_ge (tgt := 75) hx hb dX1_gather_29 (by decide) (fun c6 => ?_) (fun c6 => ?_)
      · rw [if_pos c6] at hf
        refine lv_iinc (v := x2 + 1) (lv' := [(2, .int (x2 + 1)), (0, .ref x0), (1, .ref x1), (3, .int x3)]) hx hb dX1_gather_75 hl (k := 2) rfl rfl (by decide) rfl (fun ls hl => ?_)
        refine lv_goto (tgt := 2) hx hb dX1_gather_78 (by decide) ?_
        exact hk2 x0 x1 (x2 + 1) h sz _ _ _ hf hs (lv_sub hl [1, 2, 0] rfl)
      · rw [if_neg c6] at hf
        refine lv_aload_n hx hb dX1_gather_32 rfl (lv_at hl 0 rfl) ?_
        refine lv_aload_n hx hb dX1_gather_33 rfl (lv_at hl 1 rfl) ?_
        refine lv_iload_n hx hb dX1_gather_34 rfl (lv_at hl 2 rfl) ?_
        refine lv_iload_n hx hb dX1_gather_35 rfl (lv_at hl 3 rfl) ?_
        refine lv_iconst (v := (-1)) hx hb dX1_gather_36 (by decide) ?_
        obtain ⟨_, p7, hf⟩ := tk_bi hf
        obtain ⟨o7, e7, hf⟩ := tk_bi hf
        refine tk_call0 (v := none) hs (va_runV (As := [.ref x1, .int x2, .int x3, .int (-1)]) (rest := []) ⟨hx, hb, hml, hown, ht⟩ (cX1_addIfRing_ok l hl0 G N x0 x1 x2 x3 (-1) h sz o7.1 o7.2 e7) (kwX1_addIfRing ht wmX1_54 rfl rfl ⟨Nat.le_of_ble_eq_true rfl, Nat.le_of_ble_eq_true rfl⟩) (tk_preV hE hs (tk_ok_ok p7) rfl) rfl rfl hl.1 rfl (lv_room (Nat.le_of_ble_eq_true rfl)) dX1_gather_37 ⟨(Nat.le_of_ble_eq_true rfl), (Nat.le_of_ble_eq_true rfl)⟩) (fun H locs hs => ?_)
        refine W.eq (g2 := F0 m 40 ls []) rfl ?_
        refine lv_iload_n hx hb dX1_gather_40 rfl (lv_at hl 2 rfl) ?_
        refine lv_iconst (v := 1) hx hb dX1_gather_41 (by decide) ?_
        refine lv_iadd hx hb dX1_gather_42 ?_
        refine lv_istore (lv' := [(4, .int (x2 + 1)), (0, .ref x0), (1, .ref x1), (2, .int x2), (3, .int x3)]) hx hb dX1_gather_43 hl (by decide) rfl (fun ls hl => ?_)
        exact j45 (fX1_gather_24 N k2 n) ih N x0 x1 x2 x3 (x2 + 1) o7.1 o7.2 _ _ _ hf hs (lv_sub hl [1, 2, 3, 4, 0] rfl)
  have j2 : ∀ (n : Nat), ∀ (x0 : Nat) (x1 : Nat) (x2 : Int32) (h : tk_AH) (sz : Nat) (H : Heap) (locs : List Loc) (ls : Array Slot), fX1_gather_2 N n x0 x1 x2 h sz = some (h9, sz9) → tk_sw G s h sz H locs → lv_has ls 5 [(0, .ref x0), (1, .ref x1), (2, .int x2)] → W p l e (headSpec (coX1_gather :: tk_W) ({ frames := 6, cells := 0, slots := 0, locals := 137 })).room s m args below meth c H locs 0 (0) (MQ below (tk_qc G none h9 sz9) args s 0 0 (tk_ag G)) (F0 m 2 ls []) := by
    intro n
    induction n with
    | zero =>
      intro x0 x1 x2 h sz H locs ls hf
      cases hf
    | succ n ih =>
      intro x0 x1 x2 h sz H locs ls hf hs hl
      rw [fX1_gather_2] at hf
      refine lv_iload_n hx hb dX1_gather_2 rfl (lv_at hl 2 rfl) ?_
      refine lv_aload_n hx hb dX1_gather_3 rfl (lv_at hl 0 rfl) ?_
      obtain ⟨v9, e9, hf⟩ := tk_bi hf
      refine tk_getI hx hb ht inX1 hown hE hs rfl 9 (by decide) (ht _ wfX1_43) e9 dX1_gather_4 ?_
      refine lv_icmp_ge (tgt := 81) hx hb dX1_gather_7 (by decide) (fun c10 => ?_) (fun c10 => ?_)
      · rw [if_pos c10] at hf
        refine lv_aload_n hx hb dX1_gather_81 rfl (lv_at hl 0 rfl) ?_
        obtain ⟨v11, e11, hf⟩ := tk_bi hf
        refine tk_getR hx hb ht inX1 hown hE hs rfl 4 (by decide) (ht _ wfX1_24) e11 dX1_gather_82 ?_
        refine lv_aload_n hx hb dX1_gather_85 rfl (lv_at hl 0 rfl) ?_
        obtain ⟨v12, e12, hf⟩ := tk_bi hf
        refine tk_getI hx hb ht inX1 hown hE hs rfl 9 (by decide) (ht _ wfX1_43) e12 dX1_gather_86 ?_
        refine lv_aload_n hx hb dX1_gather_89 rfl (lv_at hl 0 rfl) ?_
        obtain ⟨v13, e13, hf⟩ := tk_bi hf
        refine tk_getI hx hb ht inX1 hown hE hs rfl 8 (by decide) (ht _ wfX1_47) e13 dX1_gather_90 ?_
        obtain ⟨h14, e14, hf⟩ := tk_bi hf
        refine tk_iast hx hb hE hs e14 dX1_gather_93 (fun H locs hs => ?_)
        cases hf
        exact tk_vret hx hb hr hlocks hs dX1_gather_94
      · rw [if_neg c10] at hf
        refine lv_aload_n hx hb dX1_gather_10 rfl (lv_at hl 0 rfl) ?_
        obtain ⟨v15, e15, hf⟩ := tk_bi hf
        refine tk_getR hx hb ht inX1 hown hE hs rfl 4 (by decide) (ht _ wfX1_24) e15 dX1_gather_11 ?_
        refine lv_iload_n hx hb dX1_gather_14 rfl (lv_at hl 2 rfl) ?_
        refine lv_aload_n hx hb dX1_gather_15 rfl (lv_at hl 0 rfl) ?_
        obtain ⟨v16, e16, hf⟩ := tk_bi hf
        refine tk_getI hx hb ht inX1 hown hE hs rfl 8 (by decide) (ht _ wfX1_47) e16 dX1_gather_16 ?_
        obtain ⟨h17, e17, hf⟩ := tk_bi hf
        refine tk_iast hx hb hE hs e17 dX1_gather_19 (fun H locs hs => ?_)
        refine lv_iload_n hx hb dX1_gather_20 rfl (lv_at hl 2 rfl) ?_
        refine lv_iconst (v := 1) hx hb dX1_gather_21 (by decide) ?_
        refine lv_iadd hx hb dX1_gather_22 ?_
        refine lv_istore_n (lv' := [(3, .int (x2 + 1)), (0, .ref x0), (1, .ref x1), (2, .int x2)]) hx hb dX1_gather_23 rfl hl (by decide) rfl (fun ls hl => ?_)
        exact j24 (fX1_gather_2 N n) ih N x0 x1 x2 (x2 + 1) h17 sz _ _ _ hf hs (lv_sub hl [1, 2, 3, 0] rfl)
  unfold fX1_gather at hf
  refine lv_iconst (v := 0) hx hb dX1_gather_0 (by decide) ?_
  refine lv_istore_n (lv' := [(2, .int 0), (0, .ref x0), (1, .ref x1)]) hx hb dX1_gather_1 rfl hl (by decide) rfl (fun ls hl => ?_)
  exact j2 N x0 x1 0 h sz _ _ _ hf hs (lv_sub hl [1, 2, 0] rfl)
def fX1_isKnown_35 (N : Nat) (y0 : Int32) (h : tk_AH) (sz : Nat) : Option (Int32 × tk_AH × Nat) :=
  (tk_bz y0).bind fun _ =>
  some (y0, h, sz)
def fX1_isKnown_34 (N : Nat) (h : tk_AH) (sz : Nat) : Option (Int32 × tk_AH × Nat) :=
  fX1_isKnown_35 N 0 h sz
def fX1_isKnown (N : Nat) (x0 : Nat) (x1 : Int32) (h : tk_AH) (sz : Nat) : Option (Int32 × tk_AH × Nat) :=
  if x1 < 0 then (
  fX1_isKnown_34 N h sz) else (
  (tk_gR h 1 6 x0).bind fun v3 =>
  (tk_aN h 2 v3).bind fun v4 =>
  if v4 ≤ x1 then (
  fX1_isKnown_34 N h sz) else (
  (tk_gR h 1 6 x0).bind fun v6 =>
  (tk_aJ h 2 v6 x1).bind fun v7 =>
  (tk_gL h 1 7 x0).bind fun v8 =>
  if (lg_cmp (v7 >>> ((32 : Int32).toInt64 &&& 63)) v8) = 0 then (
  fX1_isKnown_35 N 1 h sz) else (
  fX1_isKnown_34 N h sz)))
set_option maxHeartbeats 8000000 in
set_option maxRecDepth 100000 in
theorem cX1_isKnown_ok (l : Launch) (hl0 : l.stackTraces = false) (G : tk_AG) (N : Nat) (x0 : Nat) (x1 : Int32) (h : tk_AH) (sz : Nat) (r9 : Int32) (h9 : tk_AH) (sz9 : Nat) (hf : fX1_isKnown N x0 x1 h sz = some (r9, h9, sz9)) : Met l yX1_isKnown (coX1_isKnown :: tk_W) ({ frames := 0, cells := 0, slots := 0, locals := 0 }) (tk_pc G [.ref x0, .int x1] h sz) (tk_qc G (some (.int r9)) h9 sz9) 0 0 (tk_ag G) := by
  refine Met.ofW (cc := cX1_isKnown) (maxL := 2) (ret := (some .boolean)) (by decide) rfl ?_
  intro p e s m args below meth c s₁ B hml hv
  obtain ⟨hav, hE, hrp, hsz, hgs⟩ := hv
  have hx := B.exec
  have hb := B.bytes
  have hr := B.returns
  have hts := atoms_spec (ws := coX1_isKnown :: tk_W) B.pre
  have ht : ∀ w ∈ tk_W, w.before args s = true := fun w h => hts w (List.mem_cons_of_mem _ h)
  have hown : s.vm.findClass RX1 = some m.cls := findClass_of_methodNamed B.named
  have hlocks := B.notSynchronized
  have hs : tk_sw G s h sz s.heap [] := ⟨hrp, hsz, by rw [hsz]; exact hgs, va_S.rf⟩
  have hl := lv_entry ([.ref x0, .int x1]) (n := 2) (Nat.le_of_ble_eq_true rfl)
  have hent : entryFrame m args 2 = F0 m 0 (lg_sl ([.ref x0, .int x1]) ++ List.replicate (2 - (lg_sl ([.ref x0, .int x1])).length) Slot.unset).toArray [] := by rw [hav, lg_entry_eq]
  rw [hent]
  clear hent
  generalize (lg_sl ([.ref x0, .int x1]) ++ List.replicate (2 - (lg_sl ([.ref x0, .int x1])).length) Slot.unset).toArray = ls at hl ⊢
  have hl : lv_has ls 2 [(0, .ref x0), (1, .int x1)] := hl
  have j35 : ∀ (y0 : Int32) (h : tk_AH) (sz : Nat) (H : Heap) (locs : List Loc) (ls : Array Slot), fX1_isKnown_35 N y0 h sz = some (r9, h9, sz9) → tk_sw G s h sz H locs → lv_has ls 2 [] → W p l e (headSpec (coX1_isKnown :: tk_W) ({ frames := 0, cells := 0, slots := 0, locals := 0 })).room s m args below meth c H locs 0 (0) (MQ below (tk_qc G (some (.int r9)) h9 sz9) args s 0 0 (tk_ag G)) (F0 m 35 ls [.int y0]) := by
    intro y0 h sz H locs ls hf hs hl
    unfold fX1_isKnown_35 at hf
    obtain ⟨_, e1, hf⟩ := tk_bi hf
    have e1 := tk_bz_ok e1
    cases hf
    exact tk_zret hx hb hr hlocks e1 hs dX1_isKnown_35
  have j34 : ∀ (h : tk_AH) (sz : Nat) (H : Heap) (locs : List Loc) (ls : Array Slot), fX1_isKnown_34 N h sz = some (r9, h9, sz9) → tk_sw G s h sz H locs → lv_has ls 2 [] → W p l e (headSpec (coX1_isKnown :: tk_W) ({ frames := 0, cells := 0, slots := 0, locals := 0 })).room s m args below meth c H locs 0 (0) (MQ below (tk_qc G (some (.int r9)) h9 sz9) args s 0 0 (tk_ag G)) (F0 m 34 ls []) := by
    intro h sz H locs ls hf hs hl
    unfold fX1_isKnown_34 at hf
    refine lv_iconst (v := 0) hx hb dX1_isKnown_34 (by decide) ?_
    exact j35 0 h sz _ _ _ hf hs (lv_sub hl [] rfl)
  unfold fX1_isKnown at hf
  refine lv_iload_n hx hb dX1_isKnown_0 rfl (lv_at hl 1 rfl) ?_
  refine lv_if_lt (tgt := 34) hx hb dX1_isKnown_1 (by decide) (fun c2 => ?_) (fun c2 => ?_)
  · rw [if_pos c2] at hf
    exact j34 h sz _ _ _ hf hs (lv_sub hl [] rfl)
  · rw [if_neg c2] at hf
    refine lv_iload_n hx hb dX1_isKnown_4 rfl (lv_at hl 1 rfl) ?_
    refine lv_aload_n hx hb dX1_isKnown_5 rfl (lv_at hl 0 rfl) ?_
    obtain ⟨v3, e3, hf⟩ := tk_bi hf
    refine tk_getR hx hb ht inX1 hown hE hs rfl 6 (by decide) (ht _ wfX1_30) e3 dX1_isKnown_6 ?_
    obtain ⟨v4, e4, hf⟩ := tk_bi hf
    refine tk_alen hx hb hE hs e4 dX1_isKnown_9 ?_
    refine lv_icmp_ge (tgt := 34) hx hb dX1_isKnown_10 (by decide) (fun c5 => ?_) (fun c5 => ?_)
    · rw [if_pos c5] at hf
      exact j34 h sz _ _ _ hf hs (lv_sub hl [] rfl)
    · rw [if_neg c5] at hf
      refine lv_aload_n hx hb dX1_isKnown_13 rfl (lv_at hl 0 rfl) ?_
      obtain ⟨v6, e6, hf⟩ := tk_bi hf
      refine tk_getR hx hb ht inX1 hown hE hs rfl 6 (by decide) (ht _ wfX1_30) e6 dX1_isKnown_14 ?_
      refine lv_iload_n hx hb dX1_isKnown_17 rfl (lv_at hl 1 rfl) ?_
      obtain ⟨v7, e7, hf⟩ := tk_bi hf
      refine tk_lald hx hb hE hs e7 dX1_isKnown_18 ?_
      refine lv_bipush (v := 32) hx hb dX1_isKnown_19 (by decide) ?_
      refine lv_lshr (v := v7 >>> ((32 : Int32).toInt64 &&& 63)) hx hb dX1_isKnown_21 rfl ?_
      refine lv_aload_n hx hb dX1_isKnown_22 rfl (lv_at hl 0 rfl) ?_
      obtain ⟨v8, e8, hf⟩ := tk_bi hf
      refine tk_getL hx hb ht inX1 hown hE hs rfl 7 (by decide) (ht _ wfX1_50) e8 dX1_isKnown_23 ?_
      refine W.lcmp hx hb dX1_isKnown_26 ?_
      refine lv_if_ne (tgt := 34) hx hb dX1_isKnown_27 (by decide) (fun c9 => ?_) (fun c9 => ?_)
      · rw [if_neg c9] at hf
        exact j34 h sz _ _ _ hf hs (lv_sub hl [] rfl)
      · rw [if_pos c9] at hf
        refine lv_iconst (v := 1) hx hb dX1_isKnown_30 (by decide) ?_
        refine lv_goto (tgt := 35) hx hb dX1_isKnown_31 (by decide) ?_
        exact j35 1 h sz _ _ _ hf hs (lv_sub hl [] rfl)
def fX1_weightOf_29 (N : Nat) (k4 : Nat → Int32 → Int32 → Int32 → tk_AH → Nat → Option (Int32 × tk_AH × Nat)) (x0 : Nat) (x1 : Int32) (x2 : Int32) (x3 : Int32) (h : tk_AH) (sz : Nat) : Option (Int32 × tk_AH × Nat) :=
  k4 x0 x1 x2 (x3 + 1) h sz
def fX1_weightOf_4 (N : Nat) : Nat → Nat → Int32 → Int32 → Int32 → tk_AH → Nat → Option (Int32 × tk_AH × Nat)
  | 0, _, _, _, _, _, _ => none
  | n + 1, x0, x1, x2, x3, h, sz =>
  (tk_gI h 1 9 x0).bind fun v1 =>
  if v1 ≤ x3 then (
  some (x2, h, sz)) else (
  if ((x1 >>> (x3 &&& 31)) &&& 1) = 0 then (
  fX1_weightOf_29 N (fX1_weightOf_4 N n) x0 x1 x2 x3 h sz) else (
  (tk_gR h 1 5 x0).bind fun v4 =>
  (tk_aI h 0 v4 x3).bind fun v5 =>
  fX1_weightOf_29 N (fX1_weightOf_4 N n) x0 x1 (x2 + v5) x3 h sz))
def fX1_weightOf (N : Nat) (x0 : Nat) (x1 : Int32) (h : tk_AH) (sz : Nat) : Option (Int32 × tk_AH × Nat) :=
  fX1_weightOf_4 N N x0 x1 0 0 h sz
set_option maxHeartbeats 8000000 in
set_option maxRecDepth 100000 in
theorem cX1_weightOf_ok (l : Launch) (hl0 : l.stackTraces = false) (G : tk_AG) (N : Nat) (x0 : Nat) (x1 : Int32) (h : tk_AH) (sz : Nat) (r9 : Int32) (h9 : tk_AH) (sz9 : Nat) (hf : fX1_weightOf N x0 x1 h sz = some (r9, h9, sz9)) : Met l yX1_weightOf (coX1_weightOf :: tk_W) ({ frames := 0, cells := 0, slots := 0, locals := 0 }) (tk_pc G [.ref x0, .int x1] h sz) (tk_qc G (some (.int r9)) h9 sz9) 0 0 (tk_ag G) := by
  refine Met.ofW (cc := cX1_weightOf) (maxL := 4) (ret := (some .int)) (by decide) rfl ?_
  intro p e s m args below meth c s₁ B hml hv
  obtain ⟨hav, hE, hrp, hsz, hgs⟩ := hv
  have hx := B.exec
  have hb := B.bytes
  have hr := B.returns
  have hts := atoms_spec (ws := coX1_weightOf :: tk_W) B.pre
  have ht : ∀ w ∈ tk_W, w.before args s = true := fun w h => hts w (List.mem_cons_of_mem _ h)
  have hown : s.vm.findClass RX1 = some m.cls := findClass_of_methodNamed B.named
  have hlocks := B.notSynchronized
  have hs : tk_sw G s h sz s.heap [] := ⟨hrp, hsz, by rw [hsz]; exact hgs, va_S.rf⟩
  have hl := lv_entry ([.ref x0, .int x1]) (n := 4) (Nat.le_of_ble_eq_true rfl)
  have hent : entryFrame m args 4 = F0 m 0 (lg_sl ([.ref x0, .int x1]) ++ List.replicate (4 - (lg_sl ([.ref x0, .int x1])).length) Slot.unset).toArray [] := by rw [hav, lg_entry_eq]
  rw [hent]
  clear hent
  generalize (lg_sl ([.ref x0, .int x1]) ++ List.replicate (4 - (lg_sl ([.ref x0, .int x1])).length) Slot.unset).toArray = ls at hl ⊢
  have hl : lv_has ls 4 [(0, .ref x0), (1, .int x1)] := hl
  have j29 : ∀ (k4 : Nat → Int32 → Int32 → Int32 → tk_AH → Nat → Option (Int32 × tk_AH × Nat)), (∀ (x0 : Nat) (x1 : Int32) (x2 : Int32) (x3 : Int32) (h : tk_AH) (sz : Nat) (H : Heap) (locs : List Loc) (ls : Array Slot), k4 x0 x1 x2 x3 h sz = some (r9, h9, sz9) → tk_sw G s h sz H locs → lv_has ls 4 [(0, .ref x0), (1, .int x1), (2, .int x2), (3, .int x3)] → W p l e (headSpec (coX1_weightOf :: tk_W) ({ frames := 0, cells := 0, slots := 0, locals := 0 })).room s m args below meth c H locs 0 (0) (MQ below (tk_qc G (some (.int r9)) h9 sz9) args s 0 0 (tk_ag G)) (F0 m 4 ls [])) → ∀ (x0 : Nat) (x1 : Int32) (x2 : Int32) (x3 : Int32) (h : tk_AH) (sz : Nat) (H : Heap) (locs : List Loc) (ls : Array Slot), fX1_weightOf_29 N k4 x0 x1 x2 x3 h sz = some (r9, h9, sz9) → tk_sw G s h sz H locs → lv_has ls 4 [(0, .ref x0), (1, .int x1), (2, .int x2), (3, .int x3)] → W p l e (headSpec (coX1_weightOf :: tk_W) ({ frames := 0, cells := 0, slots := 0, locals := 0 })).room s m args below meth c H locs 0 (0) (MQ below (tk_qc G (some (.int r9)) h9 sz9) args s 0 0 (tk_ag G)) (F0 m 29 ls []) := by
    intro k4 hk4 x0 x1 x2 x3 h sz H locs ls hf hs hl
    unfold fX1_weightOf_29 at hf
    refine lv_iinc (v := x3 + 1) (lv' := [(3, .int (x3 + 1)), (0, .ref x0), (1, .int x1), (2, .int x2)]) hx hb dX1_weightOf_29 hl (k := 3) rfl rfl (by decide) rfl (fun ls hl => ?_)
    refine lv_goto (tgt := 4) hx hb dX1_weightOf_32 (by decide) ?_
    exact hk4 x0 x1 x2 (x3 + 1) h sz _ _ _ hf hs (lv_sub hl [1, 2, 3, 0] rfl)
  have j4 : ∀ (n : Nat), ∀ (x0 : Nat) (x1 : Int32) (x2 : Int32) (x3 : Int32) (h : tk_AH) (sz : Nat) (H : Heap) (locs : List Loc) (ls : Array Slot), fX1_weightOf_4 N n x0 x1 x2 x3 h sz = some (r9, h9, sz9) → tk_sw G s h sz H locs → lv_has ls 4 [(0, .ref x0), (1, .int x1), (2, .int x2), (3, .int x3)] → W p l e (headSpec (coX1_weightOf :: tk_W) ({ frames := 0, cells := 0, slots := 0, locals := 0 })).room s m args below meth c H locs 0 (0) (MQ below (tk_qc G (some (.int r9)) h9 sz9) args s 0 0 (tk_ag G)) (F0 m 4 ls []) := by
    intro n
    induction n with
    | zero =>
      intro x0 x1 x2 x3 h sz H locs ls hf
      cases hf
    | succ n ih =>
      intro x0 x1 x2 x3 h sz H locs ls hf hs hl
      rw [fX1_weightOf_4] at hf
      refine lv_iload_n hx hb dX1_weightOf_4 rfl (lv_at hl 3 rfl) ?_
      refine lv_aload_n hx hb dX1_weightOf_5 rfl (lv_at hl 0 rfl) ?_
      obtain ⟨v1, e1, hf⟩ := tk_bi hf
      refine tk_getI hx hb ht inX1 hown hE hs rfl 9 (by decide) (ht _ wfX1_43) e1 dX1_weightOf_6 ?_
      refine lv_icmp_ge (tgt := 35) hx hb dX1_weightOf_9 (by decide) (fun c2 => ?_) (fun c2 => ?_)
      · rw [if_pos c2] at hf
        refine lv_iload_n hx hb dX1_weightOf_35 rfl (lv_at hl 2 rfl) ?_
        cases hf
        exact tk_iret hx hb hr hlocks hs dX1_weightOf_36
      · rw [if_neg c2] at hf
        refine lv_iload_n hx hb dX1_weightOf_12 rfl (lv_at hl 1 rfl) ?_
        refine lv_iload_n hx hb dX1_weightOf_13 rfl (lv_at hl 3 rfl) ?_
        refine lv_ishr hx hb dX1_weightOf_14 ?_
        refine lv_iconst (v := 1) hx hb dX1_weightOf_15 (by decide) ?_
        refine lv_iand hx hb dX1_weightOf_16 ?_
        refine lv_if_eq (tgt := 29) hx hb dX1_weightOf_17 (by decide) (fun c3 => ?_) (fun c3 => ?_)
        · rw [if_pos c3] at hf
          exact j29 (fX1_weightOf_4 N n) ih x0 x1 x2 x3 h sz _ _ _ hf hs (lv_sub hl [0, 1, 2, 3] rfl)
        · rw [if_neg c3] at hf
          refine lv_iload_n hx hb dX1_weightOf_20 rfl (lv_at hl 2 rfl) ?_
          refine lv_aload_n hx hb dX1_weightOf_21 rfl (lv_at hl 0 rfl) ?_
          obtain ⟨v4, e4, hf⟩ := tk_bi hf
          refine tk_getR hx hb ht inX1 hown hE hs rfl 5 (by decide) (ht _ wfX1_27) e4 dX1_weightOf_22 ?_
          refine lv_iload_n hx hb dX1_weightOf_25 rfl (lv_at hl 3 rfl) ?_
          obtain ⟨v5, e5, hf⟩ := tk_bi hf
          refine tk_iald hx hb hE hs e5 dX1_weightOf_26 ?_
          refine lv_iadd hx hb dX1_weightOf_27 ?_
          refine lv_istore_n (lv' := [(2, .int (x2 + v5)), (0, .ref x0), (1, .int x1), (3, .int x3)]) hx hb dX1_weightOf_28 rfl hl (by decide) rfl (fun ls hl => ?_)
          exact j29 (fX1_weightOf_4 N n) ih x0 x1 (x2 + v5) x3 h sz _ _ _ hf hs (lv_sub hl [1, 2, 0, 3] rfl)
  unfold fX1_weightOf at hf
  refine lv_iconst (v := 0) hx hb dX1_weightOf_0 (by decide) ?_
  refine lv_istore_n (lv' := [(2, .int 0), (0, .ref x0), (1, .int x1)]) hx hb dX1_weightOf_1 rfl hl (by decide) rfl (fun ls hl => ?_)
  refine lv_iconst (v := 0) hx hb dX1_weightOf_2 (by decide) ?_
  refine lv_istore_n (lv' := [(3, .int 0), (2, .int 0), (0, .ref x0), (1, .int x1)]) hx hb dX1_weightOf_3 rfl hl (by decide) rfl (fun ls hl => ?_)
  exact j4 N x0 x1 0 0 h sz _ _ _ hf hs (lv_sub hl [2, 3, 1, 0] rfl)
def fX1_bestWorth_19 (N : Nat) (rc : Nat → Int32 → Int32 → tk_AH → Nat → Option (Int32 × tk_AH × Nat)) (h : tk_AH) (sz : Nat) : Option (Int32 × tk_AH × Nat) :=
  some (0, h, sz)
def fX1_bestWorth_218 (N : Nat) (rc : Nat → Int32 → Int32 → tk_AH → Nat → Option (Int32 × tk_AH × Nat)) (x0 : Nat) (x1 : Int32) (x6 : Int32) (x7 : Int32) (h : tk_AH) (sz : Nat) : Option (Int32 × tk_AH × Nat) :=
  (tk_gR h 1 6 x0).bind fun v1 =>
  (tk_gL h 1 7 x0).bind fun v2 =>
  (tk_sJ h 2 v1 x1 (((v2 <<< ((32 : Int32).toInt64 &&& 63)) ||| (((x7 + 1).toInt64) <<< ((16 : Int32).toInt64 &&& 63))) ||| ((x6 &&& 65535).toInt64))).bind fun h3 =>
  some (x6, h3, sz)
def fX1_bestWorth_173 (N : Nat) (rc : Nat → Int32 → Int32 → tk_AH → Nat → Option (Int32 × tk_AH × Nat)) (x0 : Nat) (x1 : Int32) (x2 : Int32) (x3 : Int32) (x4 : Int32) (x6 : Int32) (x7 : Int32) (h : tk_AH) (sz : Nat) : Option (Int32 × tk_AH × Nat) :=
  (tk_gR h 1 5 x0).bind fun v4 =>
  (tk_aI h 0 v4 x3).bind fun v5 =>
  if ((x4 - v5) * 8) ≤ x6 then (
  fX1_bestWorth_218 N rc x0 x1 x6 x7 h sz) else (
  (tk_ok h 1 x0).bind fun _ =>
  (rc x0 (x1 &&& (x1 - 1)) (x2 + 1) h sz).bind fun o7 =>
  if o7.1 ≤ x6 then (
  fX1_bestWorth_218 N rc x0 x1 x6 x7 o7.2.1 o7.2.2) else (
  fX1_bestWorth_218 N rc x0 x1 o7.1 (-1) o7.2.1 o7.2.2))
def fX1_bestWorth_167 (N : Nat) (rc : Nat → Int32 → Int32 → tk_AH → Nat → Option (Int32 × tk_AH × Nat)) (k90 : Nat → Int32 → Int32 → Int32 → Int32 → Int32 → Int32 → Int32 → Int32 → tk_AH → Nat → Option (Int32 × tk_AH × Nat)) (x0 : Nat) (x1 : Int32) (x2 : Int32) (x3 : Int32) (x4 : Int32) (x5 : Int32) (x6 : Int32) (x7 : Int32) (x8 : Int32) (h : tk_AH) (sz : Nat) : Option (Int32 × tk_AH × Nat) :=
  k90 x0 x1 x2 x3 x4 x5 x6 x7 (x8 + 1) h sz
def fX1_bestWorth_90 (N : Nat) (rc : Nat → Int32 → Int32 → tk_AH → Nat → Option (Int32 × tk_AH × Nat)) (k173 : Nat → Int32 → Int32 → Int32 → Int32 → Int32 → Int32 → tk_AH → Nat → Option (Int32 × tk_AH × Nat)) : Nat → Nat → Int32 → Int32 → Int32 → Int32 → Int32 → Int32 → Int32 → Int32 → tk_AH → Nat → Option (Int32 × tk_AH × Nat)
  | 0, _, _, _, _, _, _, _, _, _, _, _ => none
  | n + 1, x0, x1, x2, x3, x4, x5, x6, x7, x8, h, sz =>
  (tk_gR h 1 4 x0).bind fun v10 =>
  (tk_aI h 0 v10 (x3 + 1)).bind fun v11 =>
  if v11 ≤ x8 then (
  k173 x0 x1 x2 x3 x4 x6 x7 h sz) else (
  if x5 ≤ x6 then (
  k173 x0 x1 x2 x3 x4 x6 x7 h sz) else (
  (tk_gR h 1 0 x0).bind fun v14 =>
  (tk_aI h 0 v14 x8).bind fun v15 =>
  if (v15 &&& (x1 ^^^ (-1))) = 0 then (
  (tk_gR h 1 3 x0).bind fun v17 =>
  (tk_aI h 0 v17 x8).bind fun v18 =>
  (tk_gR h 1 0 x0).bind fun v19 =>
  (tk_aI h 0 v19 x8).bind fun v20 =>
  (tk_ok h 1 x0).bind fun _ =>
  (rc x0 (x1 &&& (v20 ^^^ (-1))) (x2 + 1) h sz).bind fun o21 =>
  if (v18 + o21.1) ≤ x6 then (
  fX1_bestWorth_167 N rc (fX1_bestWorth_90 N rc k173 n) x0 x1 x2 x3 x4 x5 x6 x7 x8 o21.2.1 o21.2.2) else (
  fX1_bestWorth_167 N rc (fX1_bestWorth_90 N rc k173 n) x0 x1 x2 x3 x4 x5 (v18 + o21.1) x8 x8 o21.2.1 o21.2.2)) else (
  fX1_bestWorth_167 N rc (fX1_bestWorth_90 N rc k173 n) x0 x1 x2 x3 x4 x5 x6 x7 x8 h sz)))
def fX1_bestWorth (N : Nat) : Nat → Nat → Int32 → Int32 → tk_AH → Nat → Option (Int32 × tk_AH × Nat)
  | 0, _, _, _, _, _ => none
  | d + 1, x0, x1, x2, h, sz =>
  if x1 ≤ 0 then (
  fX1_bestWorth_19 N (fX1_bestWorth N d) h sz) else (
  (tk_gR h 1 6 x0).bind fun v25 =>
  (tk_aN h 2 v25).bind fun v26 =>
  if v26 ≤ x1 then (
  fX1_bestWorth_19 N (fX1_bestWorth N d) h sz) else (
  if x2 < 14 then (
  (tk_ok h 1 x0).bind fun _ =>
  (fX1_isKnown N x0 x1 h sz).bind fun o29 =>
  if o29.1 = 0 then (
  (fJ6_numberOfTrailingZeros_0f7a4 N x1 o29.2.1 o29.2.2).bind fun o32 =>
  (tk_gI o32.2.1 1 9 x0).bind fun v33 =>
  if o32.1 < v33 then (
  (tk_ok o32.2.1 1 x0).bind fun _ =>
  (fX1_weightOf N x0 x1 o32.2.1 o32.2.2).bind fun o35 =>
  (fJ6_bitCount_0f7a4 N x1 o35.2.1 o35.2.2).bind fun o37 =>
  (tk_gR o37.2.1 1 4 x0).bind fun v38 =>
  (tk_aI o37.2.1 0 v38 o32.1).bind fun v39 =>
  fX1_bestWorth_90 N (fX1_bestWorth N d) (fX1_bestWorth_173 N (fX1_bestWorth N d)) N x0 x1 x2 o32.1 o35.1 ((o35.1 * 8) - (o37.1 &&& 1)) (-1) (-1) v39 o37.2.1 o37.2.2) else (
  some (0, o32.2.1, o32.2.2))) else (
  (tk_gR o29.2.1 1 6 x0).bind fun v40 =>
  (tk_aJ o29.2.1 2 v40 x1).bind fun v41 =>
  some (v41.toInt32 &&& 65535, o29.2.1, o29.2.2))) else (
  fX1_bestWorth_19 N (fX1_bestWorth N d) h sz)))
set_option maxHeartbeats 8000000 in
set_option maxRecDepth 100000 in
theorem cX1_bestWorth_ok (l : Launch) (hl0 : l.stackTraces = false) (G : tk_AG) (N : Nat) : ∀ (d : Nat) (x0 : Nat) (x1 : Int32) (x2 : Int32) (h : tk_AH) (sz : Nat) (r9 : Int32) (h9 : tk_AH) (sz9 : Nat), fX1_bestWorth N d x0 x1 x2 h sz = some (r9, h9, sz9) → Met l yX1_bestWorth (coX1_bestWorth :: tk_W) ({ frames := d + 2, cells := 0, slots := 0, locals := d * 29 + 83 }) (tk_pc G [.ref x0, .int x1, .int x2] h sz) (tk_qc G (some (.int r9)) h9 sz9) 0 0 (tk_ag G) := by
  intro d
  induction d with
  | zero =>
    intro x0 x1 x2 h sz r9 h9 sz9 hf
    cases hf
  | succ d ihd =>
    intro x0 x1 x2 h sz r9 h9 sz9 hf
    refine Met.ofW (cc := cX1_bestWorth) (maxL := 10) (ret := (some .int)) (by decide) rfl ?_
    intro p e s m args below meth c s₁ B hml hv
    obtain ⟨hav, hE, hrp, hsz, hgs⟩ := hv
    have hx := B.exec
    have hb := B.bytes
    have hr := B.returns
    have hts := atoms_spec (ws := coX1_bestWorth :: tk_W) B.pre
    have ht : ∀ w ∈ tk_W, w.before args s = true := fun w h => hts w (List.mem_cons_of_mem _ h)
    have hown : s.vm.findClass RX1 = some m.cls := findClass_of_methodNamed B.named
    have hlocks := B.notSynchronized
    have hs : tk_sw G s h sz s.heap [] := ⟨hrp, hsz, by rw [hsz]; exact hgs, va_S.rf⟩
    have hl := lv_entry ([.ref x0, .int x1, .int x2]) (n := 10) (Nat.le_of_ble_eq_true rfl)
    have hent : entryFrame m args 10 = F0 m 0 (lg_sl ([.ref x0, .int x1, .int x2]) ++ List.replicate (10 - (lg_sl ([.ref x0, .int x1, .int x2])).length) Slot.unset).toArray [] := by rw [hav, lg_entry_eq]
    rw [hent]
    clear hent
    generalize (lg_sl ([.ref x0, .int x1, .int x2]) ++ List.replicate (10 - (lg_sl ([.ref x0, .int x1, .int x2])).length) Slot.unset).toArray = ls at hl ⊢
    have hl : lv_has ls 10 [(0, .ref x0), (1, .int x1), (2, .int x2)] := hl
    have j19 : ∀ (h : tk_AH) (sz : Nat) (H : Heap) (locs : List Loc) (ls : Array Slot), fX1_bestWorth_19 N (fX1_bestWorth N d) h sz = some (r9, h9, sz9) → tk_sw G s h sz H locs → lv_has ls 10 [] → W p l e (headSpec (coX1_bestWorth :: tk_W) ({ frames := (d + 1) + 2, cells := 0, slots := 0, locals := (d + 1) * 29 + 83 })).room s m args below meth c H locs 0 (0) (MQ below (tk_qc G (some (.int r9)) h9 sz9) args s 0 0 (tk_ag G)) (F0 m 19 ls []) := by
      intro h sz H locs ls hf hs hl
      unfold fX1_bestWorth_19 at hf
      refine lv_iconst (v := 0) hx hb dX1_bestWorth_19 (by decide) ?_
      cases hf
      exact tk_iret hx hb hr hlocks hs dX1_bestWorth_20
    have j218 : ∀ (x0 : Nat) (x1 : Int32) (x6 : Int32) (x7 : Int32) (h : tk_AH) (sz : Nat) (H : Heap) (locs : List Loc) (ls : Array Slot), fX1_bestWorth_218 N (fX1_bestWorth N d) x0 x1 x6 x7 h sz = some (r9, h9, sz9) → tk_sw G s h sz H locs → lv_has ls 10 [(0, .ref x0), (1, .int x1), (6, .int x6), (7, .int x7)] → W p l e (headSpec (coX1_bestWorth :: tk_W) ({ frames := (d + 1) + 2, cells := 0, slots := 0, locals := (d + 1) * 29 + 83 })).room s m args below meth c H locs 0 (0) (MQ below (tk_qc G (some (.int r9)) h9 sz9) args s 0 0 (tk_ag G)) (F0 m 218 ls []) := by
      intro x0 x1 x6 x7 h sz H locs ls hf hs hl
      unfold fX1_bestWorth_218 at hf
      refine lv_aload_n hx hb dX1_bestWorth_218 rfl (lv_at hl 0 rfl) ?_
      obtain ⟨v1, e1, hf⟩ := tk_bi hf
      refine tk_getR hx hb ht inX1 hown hE hs rfl 6 (by decide) (ht _ wfX1_30) e1 dX1_bestWorth_219 ?_
      refine lv_iload_n hx hb dX1_bestWorth_222 rfl (lv_at hl 1 rfl) ?_
      refine lv_aload_n hx hb dX1_bestWorth_223 rfl (lv_at hl 0 rfl) ?_
      obtain ⟨v2, e2, hf⟩ := tk_bi hf
      refine tk_getL hx hb ht inX1 hown hE hs rfl 7 (by decide) (ht _ wfX1_50) e2 dX1_bestWorth_224 ?_
      refine lv_bipush (v := 32) hx hb dX1_bestWorth_227 (by decide) ?_
      refine lv_lshl (v := v2 <<< ((32 : Int32).toInt64 &&& 63)) hx hb dX1_bestWorth_229 rfl ?_
      refine lv_iload hx hb dX1_bestWorth_230 (lv_at hl 3 rfl) ?_
      refine lv_iconst (v := 1) hx hb dX1_bestWorth_232 (by decide) ?_
      refine lv_iadd hx hb dX1_bestWorth_233 ?_
      refine lv_i2l (v := (x7 + 1).toInt64) hx hb dX1_bestWorth_234 rfl ?_
      refine lv_bipush (v := 16) hx hb dX1_bestWorth_235 (by decide) ?_
      refine lv_lshl (v := ((x7 + 1).toInt64) <<< ((16 : Int32).toInt64 &&& 63)) hx hb dX1_bestWorth_237 rfl ?_
      refine lv_lor hx hb dX1_bestWorth_238 ?_
      refine lv_iload hx hb dX1_bestWorth_239 (lv_at hl 2 rfl) ?_
      refine lv_ldc (v := 65535) hx hb hown (ht _ wkX1_75) dX1_bestWorth_241 ?_
      refine lv_iand hx hb dX1_bestWorth_243 ?_
      refine lv_i2l (v := (x6 &&& 65535).toInt64) hx hb dX1_bestWorth_244 rfl ?_
      refine lv_lor hx hb dX1_bestWorth_245 ?_
      obtain ⟨h3, e3, hf⟩ := tk_bi hf
      refine tk_last hx hb hE hs e3 dX1_bestWorth_246 (fun H locs hs => ?_)
      refine lv_iload hx hb dX1_bestWorth_247 (lv_at hl 2 rfl) ?_
      cases hf
      exact tk_iret hx hb hr hlocks hs dX1_bestWorth_249
    have j173 : ∀ (x0 : Nat) (x1 : Int32) (x2 : Int32) (x3 : Int32) (x4 : Int32) (x6 : Int32) (x7 : Int32) (h : tk_AH) (sz : Nat) (H : Heap) (locs : List Loc) (ls : Array Slot), fX1_bestWorth_173 N (fX1_bestWorth N d) x0 x1 x2 x3 x4 x6 x7 h sz = some (r9, h9, sz9) → tk_sw G s h sz H locs → lv_has ls 10 [(0, .ref x0), (1, .int x1), (2, .int x2), (3, .int x3), (4, .int x4), (6, .int x6), (7, .int x7)] → W p l e (headSpec (coX1_bestWorth :: tk_W) ({ frames := (d + 1) + 2, cells := 0, slots := 0, locals := (d + 1) * 29 + 83 })).room s m args below meth c H locs 0 (0) (MQ below (tk_qc G (some (.int r9)) h9 sz9) args s 0 0 (tk_ag G)) (F0 m 173 ls []) := by
      intro x0 x1 x2 x3 x4 x6 x7 h sz H locs ls hf hs hl
      unfold fX1_bestWorth_173 at hf
      refine lv_iload hx hb dX1_bestWorth_173 (lv_at hl 5 rfl) ?_
      refine lv_iload hx hb dX1_bestWorth_175 (lv_at hl 4 rfl) ?_
      refine lv_aload_n hx hb dX1_bestWorth_177 rfl (lv_at hl 0 rfl) ?_
      obtain ⟨v4, e4, hf⟩ := tk_bi hf
      refine tk_getR hx hb ht inX1 hown hE hs rfl 5 (by decide) (ht _ wfX1_27) e4 dX1_bestWorth_178 ?_
      refine lv_iload_n hx hb dX1_bestWorth_181 rfl (lv_at hl 3 rfl) ?_
      obtain ⟨v5, e5, hf⟩ := tk_bi hf
      refine tk_iald hx hb hE hs e5 dX1_bestWorth_182 ?_
      refine lv_isub hx hb dX1_bestWorth_183 ?_
      refine lv_bipush (v := 8) hx hb dX1_bestWorth_184 (by decide) ?_
      refine lv_imul hx hb dX1_bestWorth_186 ?_
      refine lv_icmp_ge (tgt := 218) hx hb dX1_bestWorth_187 (by decide) (fun c6 => ?_) (fun c6 => ?_)
      · rw [if_pos c6] at hf
        exact j218 x0 x1 x6 x7 h sz _ _ _ hf hs (lv_sub hl [0, 1, 5, 6] rfl)
      · rw [if_neg c6] at hf
        refine lv_aload_n hx hb dX1_bestWorth_190 rfl (lv_at hl 0 rfl) ?_
        refine lv_iload_n hx hb dX1_bestWorth_191 rfl (lv_at hl 1 rfl) ?_
        refine lv_iload_n hx hb dX1_bestWorth_192 rfl (lv_at hl 1 rfl) ?_
        refine lv_iconst (v := 1) hx hb dX1_bestWorth_193 (by decide) ?_
        refine lv_isub hx hb dX1_bestWorth_194 ?_
        refine lv_iand hx hb dX1_bestWorth_195 ?_
        refine lv_iload_n hx hb dX1_bestWorth_196 rfl (lv_at hl 2 rfl) ?_
        refine lv_iconst (v := 1) hx hb dX1_bestWorth_197 (by decide) ?_
        refine lv_iadd hx hb dX1_bestWorth_198 ?_
        obtain ⟨_, p7, hf⟩ := tk_bi hf
        obtain ⟨o7, e7, hf⟩ := tk_bi hf
        refine tk_call0 (v := some (.int o7.1)) hs (va_runV (As := [.int (x1 &&& (x1 - 1)), .int (x2 + 1)]) (rest := []) ⟨hx, hb, hml, hown, ht⟩ (ihd x0 (x1 &&& (x1 - 1)) (x2 + 1) h sz o7.1 o7.2.1 o7.2.2 e7) (kwX1_bestWorth ht wmX1_68 rfl rfl ⟨by simp only [headSpec]; omega, by simp only [headSpec]; omega⟩) (tk_preV hE hs (tk_ok_ok p7) rfl) rfl rfl hl.1 rfl (lv_room (Nat.le_of_ble_eq_true rfl)) dX1_bestWorth_199 ⟨(Nat.le_of_ble_eq_true rfl), (Nat.le_of_ble_eq_true rfl)⟩) (fun H locs hs => ?_)
        refine W.eq (g2 := F0 m 202 ls [.int o7.1]) rfl ?_
        refine lv_istore (lv' := [(8, .int o7.1), (0, .ref x0), (1, .int x1), (2, .int x2), (3, .int x3), (4, .int x4), (6, .int x6), (7, .int x7)]) hx hb dX1_bestWorth_202 hl (by decide) rfl (fun ls hl => ?_)
        refine lv_iload hx hb dX1_bestWorth_204 (lv_at hl 0 rfl) ?_
        refine lv_iload hx hb dX1_bestWorth_206 (lv_at hl 6 rfl) ?_
        refine lv_icmp_le (tgt := 218) hx hb dX1_bestWorth_208 (by decide) (fun c9 => ?_) (fun c9 => ?_)
        · rw [if_pos c9] at hf
          exact j218 x0 x1 x6 x7 o7.2.1 o7.2.2 _ _ _ hf hs (lv_sub hl [1, 2, 6, 7] rfl)
        · rw [if_neg c9] at hf
          refine lv_iload hx hb dX1_bestWorth_211 (lv_at hl 0 rfl) ?_
          refine lv_istore (lv' := [(6, .int o7.1), (8, .int o7.1), (0, .ref x0), (1, .int x1), (2, .int x2), (3, .int x3), (4, .int x4), (7, .int x7)]) hx hb dX1_bestWorth_213 hl (by decide) rfl (fun ls hl => ?_)
          refine lv_iconst (v := (-1)) hx hb dX1_bestWorth_215 (by decide) ?_
          refine lv_istore (lv' := [(7, .int (-1)), (6, .int o7.1), (8, .int o7.1), (0, .ref x0), (1, .int x1), (2, .int x2), (3, .int x3), (4, .int x4)]) hx hb dX1_bestWorth_216 hl (by decide) rfl (fun ls hl => ?_)
          exact j218 x0 x1 o7.1 (-1) o7.2.1 o7.2.2 _ _ _ hf hs (lv_sub hl [3, 4, 1, 0] rfl)
    have j167 : ∀ (k90 : Nat → Int32 → Int32 → Int32 → Int32 → Int32 → Int32 → Int32 → Int32 → tk_AH → Nat → Option (Int32 × tk_AH × Nat)), (∀ (x0 : Nat) (x1 : Int32) (x2 : Int32) (x3 : Int32) (x4 : Int32) (x5 : Int32) (x6 : Int32) (x7 : Int32) (x8 : Int32) (h : tk_AH) (sz : Nat) (H : Heap) (locs : List Loc) (ls : Array Slot), k90 x0 x1 x2 x3 x4 x5 x6 x7 x8 h sz = some (r9, h9, sz9) → tk_sw G s h sz H locs → lv_has ls 10 [(0, .ref x0), (1, .int x1), (2, .int x2), (3, .int x3), (4, .int x4), (5, .int x5), (6, .int x6), (7, .int x7), (8, .int x8)] → W p l e (headSpec (coX1_bestWorth :: tk_W) ({ frames := (d + 1) + 2, cells := 0, slots := 0, locals := (d + 1) * 29 + 83 })).room s m args below meth c H locs 0 (0) (MQ below (tk_qc G (some (.int r9)) h9 sz9) args s 0 0 (tk_ag G)) (F0 m 90 ls [])) → ∀ (x0 : Nat) (x1 : Int32) (x2 : Int32) (x3 : Int32) (x4 : Int32) (x5 : Int32) (x6 : Int32) (x7 : Int32) (x8 : Int32) (h : tk_AH) (sz : Nat) (H : Heap) (locs : List Loc) (ls : Array Slot), fX1_bestWorth_167 N (fX1_bestWorth N d) k90 x0 x1 x2 x3 x4 x5 x6 x7 x8 h sz = some (r9, h9, sz9) → tk_sw G s h sz H locs → lv_has ls 10 [(0, .ref x0), (1, .int x1), (2, .int x2), (3, .int x3), (4, .int x4), (5, .int x5), (6, .int x6), (7, .int x7), (8, .int x8)] → W p l e (headSpec (coX1_bestWorth :: tk_W) ({ frames := (d + 1) + 2, cells := 0, slots := 0, locals := (d + 1) * 29 + 83 })).room s m args below meth c H locs 0 (0) (MQ below (tk_qc G (some (.int r9)) h9 sz9) args s 0 0 (tk_ag G)) (F0 m 167 ls []) := by
      intro k90 hk90 x0 x1 x2 x3 x4 x5 x6 x7 x8 h sz H locs ls hf hs hl
      unfold fX1_bestWorth_167 at hf
      refine lv_iinc (v := x8 + 1) (lv' := [(8, .int (x8 + 1)), (0, .ref x0), (1, .int x1), (2, .int x2), (3, .int x3), (4, .int x4), (5, .int x5), (6, .int x6), (7, .int x7)]) hx hb dX1_bestWorth_167 hl (k := 8) rfl rfl (by decide) rfl (fun ls hl => ?_)
      refine lv_goto (tgt := 90) hx hb dX1_bestWorth_170 (by decide) ?_
      exact hk90 x0 x1 x2 x3 x4 x5 x6 x7 (x8 + 1) h sz _ _ _ hf hs (lv_sub hl [1, 2, 3, 4, 5, 6, 7, 8, 0] rfl)
    have j90 : ∀ (k173 : Nat → Int32 → Int32 → Int32 → Int32 → Int32 → Int32 → tk_AH → Nat → Option (Int32 × tk_AH × Nat)), (∀ (x0 : Nat) (x1 : Int32) (x2 : Int32) (x3 : Int32) (x4 : Int32) (x6 : Int32) (x7 : Int32) (h : tk_AH) (sz : Nat) (H : Heap) (locs : List Loc) (ls : Array Slot), k173 x0 x1 x2 x3 x4 x6 x7 h sz = some (r9, h9, sz9) → tk_sw G s h sz H locs → lv_has ls 10 [(0, .ref x0), (1, .int x1), (2, .int x2), (3, .int x3), (4, .int x4), (6, .int x6), (7, .int x7)] → W p l e (headSpec (coX1_bestWorth :: tk_W) ({ frames := (d + 1) + 2, cells := 0, slots := 0, locals := (d + 1) * 29 + 83 })).room s m args below meth c H locs 0 (0) (MQ below (tk_qc G (some (.int r9)) h9 sz9) args s 0 0 (tk_ag G)) (F0 m 173 ls [])) → ∀ (n : Nat), ∀ (x0 : Nat) (x1 : Int32) (x2 : Int32) (x3 : Int32) (x4 : Int32) (x5 : Int32) (x6 : Int32) (x7 : Int32) (x8 : Int32) (h : tk_AH) (sz : Nat) (H : Heap) (locs : List Loc) (ls : Array Slot), fX1_bestWorth_90 N (fX1_bestWorth N d) k173 n x0 x1 x2 x3 x4 x5 x6 x7 x8 h sz = some (r9, h9, sz9) → tk_sw G s h sz H locs → lv_has ls 10 [(0, .ref x0), (1, .int x1), (2, .int x2), (3, .int x3), (4, .int x4), (5, .int x5), (6, .int x6), (7, .int x7), (8, .int x8)] → W p l e (headSpec (coX1_bestWorth :: tk_W) ({ frames := (d + 1) + 2, cells := 0, slots := 0, locals := (d + 1) * 29 + 83 })).room s m args below meth c H locs 0 (0) (MQ below (tk_qc G (some (.int r9)) h9 sz9) args s 0 0 (tk_ag G)) (F0 m 90 ls []) := by
      intro k173 hk173 n
      induction n with
      | zero =>
        intro x0 x1 x2 x3 x4 x5 x6 x7 x8 h sz H locs ls hf
        cases hf
      | succ n ih =>
        intro x0 x1 x2 x3 x4 x5 x6 x7 x8 h sz H locs ls hf hs hl
        rw [fX1_bestWorth_90] at hf
        refine lv_iload hx hb dX1_bestWorth_90 (lv_at hl 8 rfl) ?_
        refine lv_aload_n hx hb dX1_bestWorth_92 rfl (lv_at hl 0 rfl) ?_
        obtain ⟨v10, e10, hf⟩ := tk_bi hf
        refine tk_getR hx hb ht inX1 hown hE hs rfl 4 (by decide) (ht _ wfX1_24) e10 dX1_bestWorth_93 ?_
        refine lv_iload_n hx hb dX1_bestWorth_96 rfl (lv_at hl 3 rfl) ?_
        refine lv_iconst (v := 1) hx hb dX1_bestWorth_97 (by decide) ?_
        refine lv_iadd hx hb dX1_bestWorth_98 ?_
        obtain ⟨v11, e11, hf⟩ := tk_bi hf
        refine tk_iald hx hb hE hs e11 dX1_bestWorth_99 ?_
        refine lv_icmp_ge (tgt := 173) hx hb dX1_bestWorth_100 (by decide) (fun c12 => ?_) (fun c12 => ?_)
        · rw [if_pos c12] at hf
          exact hk173 x0 x1 x2 x3 x4 x6 x7 h sz _ _ _ hf hs (lv_sub hl [0, 1, 2, 3, 4, 6, 7] rfl)
        · rw [if_neg c12] at hf
          refine lv_iload hx hb dX1_bestWorth_103 (lv_at hl 6 rfl) ?_
          refine lv_iload hx hb dX1_bestWorth_105 (lv_at hl 5 rfl) ?_
          refine lv_icmp_ge (tgt := 173) hx hb dX1_bestWorth_107 (by decide) (fun c13 => ?_) (fun c13 => ?_)
          · rw [if_pos c13] at hf
            exact hk173 x0 x1 x2 x3 x4 x6 x7 h sz _ _ _ hf hs (lv_sub hl [0, 1, 2, 3, 4, 6, 7] rfl)
          · rw [if_neg c13] at hf
            refine lv_aload_n hx hb dX1_bestWorth_110 rfl (lv_at hl 0 rfl) ?_
            obtain ⟨v14, e14, hf⟩ := tk_bi hf
            refine tk_getR hx hb ht inX1 hown hE hs rfl 0 (by decide) (ht _ wfX1_11) e14 dX1_bestWorth_111 ?_
            refine lv_iload hx hb dX1_bestWorth_114 (lv_at hl 8 rfl) ?_
            obtain ⟨v15, e15, hf⟩ := tk_bi hf
            refine tk_iald hx hb hE hs e15 dX1_bestWorth_116 ?_
            refine lv_iload_n hx hb dX1_bestWorth_117 rfl (lv_at hl 1 rfl) ?_
            refine lv_iconst (v := (-1)) hx hb dX1_bestWorth_118 (by decide) ?_
            refine lv_ixor hx hb dX1_bestWorth_119 ?_
            refine lv_iand hx hb dX1_bestWorth_120 ?_
            refine lv_if_ne (tgt := 167) hx hb dX1_bestWorth_121 (by decide) (fun c16 => ?_) (fun c16 => ?_)
            · rw [if_neg c16] at hf
              exact j167 (fX1_bestWorth_90 N (fX1_bestWorth N d) k173 n) ih x0 x1 x2 x3 x4 x5 x6 x7 x8 h sz _ _ _ hf hs (lv_sub hl [0, 1, 2, 3, 4, 5, 6, 7, 8] rfl)
            · rw [if_pos c16] at hf
              refine lv_aload_n hx hb dX1_bestWorth_124 rfl (lv_at hl 0 rfl) ?_
              obtain ⟨v17, e17, hf⟩ := tk_bi hf
              refine tk_getR hx hb ht inX1 hown hE hs rfl 3 (by decide) (ht _ wfX1_21) e17 dX1_bestWorth_125 ?_
              refine lv_iload hx hb dX1_bestWorth_128 (lv_at hl 8 rfl) ?_
              obtain ⟨v18, e18, hf⟩ := tk_bi hf
              refine tk_iald hx hb hE hs e18 dX1_bestWorth_130 ?_
              refine lv_aload_n hx hb dX1_bestWorth_131 rfl (lv_at hl 0 rfl) ?_
              refine lv_iload_n hx hb dX1_bestWorth_132 rfl (lv_at hl 1 rfl) ?_
              refine lv_aload_n hx hb dX1_bestWorth_133 rfl (lv_at hl 0 rfl) ?_
              obtain ⟨v19, e19, hf⟩ := tk_bi hf
              refine tk_getR hx hb ht inX1 hown hE hs rfl 0 (by decide) (ht _ wfX1_11) e19 dX1_bestWorth_134 ?_
              refine lv_iload hx hb dX1_bestWorth_137 (lv_at hl 8 rfl) ?_
              obtain ⟨v20, e20, hf⟩ := tk_bi hf
              refine tk_iald hx hb hE hs e20 dX1_bestWorth_139 ?_
              refine lv_iconst (v := (-1)) hx hb dX1_bestWorth_140 (by decide) ?_
              refine lv_ixor hx hb dX1_bestWorth_141 ?_
              refine lv_iand hx hb dX1_bestWorth_142 ?_
              refine lv_iload_n hx hb dX1_bestWorth_143 rfl (lv_at hl 2 rfl) ?_
              refine lv_iconst (v := 1) hx hb dX1_bestWorth_144 (by decide) ?_
              refine lv_iadd hx hb dX1_bestWorth_145 ?_
              obtain ⟨_, p21, hf⟩ := tk_bi hf
              obtain ⟨o21, e21, hf⟩ := tk_bi hf
              refine tk_call0 (v := some (.int o21.1)) hs (va_runV (As := [.int (x1 &&& (v20 ^^^ (-1))), .int (x2 + 1)]) (rest := [.int v18]) ⟨hx, hb, hml, hown, ht⟩ (ihd x0 (x1 &&& (v20 ^^^ (-1))) (x2 + 1) h sz o21.1 o21.2.1 o21.2.2 e21) (kwX1_bestWorth ht wmX1_68 rfl rfl ⟨by simp only [headSpec]; omega, by simp only [headSpec]; omega⟩) (tk_preV hE hs (tk_ok_ok p21) rfl) rfl rfl hl.1 rfl (lv_room (Nat.le_of_ble_eq_true rfl)) dX1_bestWorth_146 ⟨(Nat.le_of_ble_eq_true rfl), (Nat.le_of_ble_eq_true rfl)⟩) (fun H locs hs => ?_)
              refine W.eq (g2 := F0 m 149 ls [.int o21.1, .int v18]) rfl ?_
              refine lv_iadd hx hb dX1_bestWorth_149 ?_
              refine lv_istore (lv' := [(9, .int (v18 + o21.1)), (0, .ref x0), (1, .int x1), (2, .int x2), (3, .int x3), (4, .int x4), (5, .int x5), (6, .int x6), (7, .int x7), (8, .int x8)]) hx hb dX1_bestWorth_150 hl (by decide) rfl (fun ls hl => ?_)
              refine lv_iload hx hb dX1_bestWorth_152 (lv_at hl 0 rfl) ?_
              refine lv_iload hx hb dX1_bestWorth_154 (lv_at hl 7 rfl) ?_
              refine lv_icmp_le (tgt := 167) hx hb dX1_bestWorth_156 (by decide) (fun c23 => ?_) (fun c23 => ?_)
              · rw [if_pos c23] at hf
                exact j167 (fX1_bestWorth_90 N (fX1_bestWorth N d) k173 n) ih x0 x1 x2 x3 x4 x5 x6 x7 x8 o21.2.1 o21.2.2 _ _ _ hf hs (lv_sub hl [1, 2, 3, 4, 5, 6, 7, 8, 9] rfl)
              · rw [if_neg c23] at hf
                refine lv_iload hx hb dX1_bestWorth_159 (lv_at hl 0 rfl) ?_
                refine lv_istore (lv' := [(6, .int (v18 + o21.1)), (9, .int (v18 + o21.1)), (0, .ref x0), (1, .int x1), (2, .int x2), (3, .int x3), (4, .int x4), (5, .int x5), (7, .int x7), (8, .int x8)]) hx hb dX1_bestWorth_161 hl (by decide) rfl (fun ls hl => ?_)
                refine lv_iload hx hb dX1_bestWorth_163 (lv_at hl 9 rfl) ?_
                refine lv_istore (lv' := [(7, .int x8), (6, .int (v18 + o21.1)), (9, .int (v18 + o21.1)), (0, .ref x0), (1, .int x1), (2, .int x2), (3, .int x3), (4, .int x4), (5, .int x5), (8, .int x8)]) hx hb dX1_bestWorth_165 hl (by decide) rfl (fun ls hl => ?_)
                exact j167 (fX1_bestWorth_90 N (fX1_bestWorth N d) k173 n) ih x0 x1 x2 x3 x4 x5 (v18 + o21.1) x8 x8 o21.2.1 o21.2.2 _ _ _ hf hs (lv_sub hl [3, 4, 5, 6, 7, 8, 1, 0, 9] rfl)
    rw [fX1_bestWorth] at hf
    refine lv_iload_n hx hb dX1_bestWorth_0 rfl (lv_at hl 1 rfl) ?_
    refine lv_if_le (tgt := 19) hx hb dX1_bestWorth_1 (by decide) (fun c24 => ?_) (fun c24 => ?_)
    · rw [if_pos c24] at hf
      exact j19 h sz _ _ _ hf hs (lv_sub hl [] rfl)
    · rw [if_neg c24] at hf
      refine lv_iload_n hx hb dX1_bestWorth_4 rfl (lv_at hl 1 rfl) ?_
      refine lv_aload_n hx hb dX1_bestWorth_5 rfl (lv_at hl 0 rfl) ?_
      obtain ⟨v25, e25, hf⟩ := tk_bi hf
      refine tk_getR hx hb ht inX1 hown hE hs rfl 6 (by decide) (ht _ wfX1_30) e25 dX1_bestWorth_6 ?_
      obtain ⟨v26, e26, hf⟩ := tk_bi hf
      refine tk_alen hx hb hE hs e26 dX1_bestWorth_9 ?_
      refine lv_icmp_ge (tgt := 19) hx hb dX1_bestWorth_10 (by decide) (fun c27 => ?_) (fun c27 => ?_)
      · rw [if_pos c27] at hf
        exact j19 h sz _ _ _ hf hs (lv_sub hl [] rfl)
      · rw [if_neg c27] at hf
        refine lv_iload_n hx hb dX1_bestWorth_13 rfl (lv_at hl 2 rfl) ?_
        refine lv_bipush (v := 14) hx hb dX1_bestWorth_14 (by decide) ?_
        refine lv_icmp_lt (tgt := 21) hx hb dX1_bestWorth_16 (by decide) (fun c28 => ?_) (fun c28 => ?_)
        · rw [if_pos c28] at hf
          refine lv_aload_n hx hb dX1_bestWorth_21 rfl (lv_at hl 0 rfl) ?_
          refine lv_iload_n hx hb dX1_bestWorth_22 rfl (lv_at hl 1 rfl) ?_
          obtain ⟨_, p29, hf⟩ := tk_bi hf
          obtain ⟨o29, e29, hf⟩ := tk_bi hf
          refine tk_call0 (v := some (.int o29.1)) hs (va_runV (As := [.int x1]) (rest := []) ⟨hx, hb, hml, hown, ht⟩ (cX1_isKnown_ok l hl0 G N x0 x1 h sz o29.1 o29.2.1 o29.2.2 e29) (kwX1_isKnown ht wmX1_71 rfl rfl ⟨by simp only [headSpec]; omega, by simp only [headSpec]; omega⟩) (tk_preV hE hs (tk_ok_ok p29) rfl) rfl rfl hl.1 rfl (lv_room (Nat.le_of_ble_eq_true rfl)) dX1_bestWorth_23 ⟨(Nat.le_of_ble_eq_true rfl), (Nat.le_of_ble_eq_true rfl)⟩) (fun H locs hs => ?_)
          refine W.eq (g2 := F0 m 26 ls [.int o29.1]) rfl ?_
          refine lv_if_eq (tgt := 40) hx hb dX1_bestWorth_26 (by decide) (fun c31 => ?_) (fun c31 => ?_)
          · rw [if_pos c31] at hf
            refine lv_iload_n hx hb dX1_bestWorth_40 rfl (lv_at hl 1 rfl) ?_
            obtain ⟨o32, e32, hf⟩ := tk_bi hf
            refine tk_call0 (v := some (.int o32.1)) hs (va_runS (As := [.int x1]) (rest := []) ⟨hx, hb, hml, hown, ht⟩ (cJ6_numberOfTrailingZeros_0f7a4_ok l hl0 G N x1 o29.2.1 o29.2.2 o32.1 o32.2.1 o32.2.2 e32) (kwJ6_numberOfTrailingZeros_0f7a4 ht wmX1_76 rfl rfl ⟨by simp only [headSpec]; omega, by simp only [headSpec]; omega⟩) (tk_preS hE hs) rfl rfl hl.1 rfl (lv_room (Nat.le_of_ble_eq_true rfl)) dX1_bestWorth_41 ⟨(Nat.le_of_ble_eq_true rfl), (Nat.le_of_ble_eq_true rfl)⟩) (fun H locs hs => ?_)
            refine W.eq (g2 := F0 m 44 ls [.int o32.1]) rfl ?_
            refine lv_istore_n (lv' := [(3, .int o32.1), (0, .ref x0), (1, .int x1), (2, .int x2)]) hx hb dX1_bestWorth_44 rfl hl (by decide) rfl (fun ls hl => ?_)
            refine lv_iload_n hx hb dX1_bestWorth_45 rfl (lv_at hl 0 rfl) ?_
            refine lv_aload_n hx hb dX1_bestWorth_46 rfl (lv_at hl 1 rfl) ?_
            obtain ⟨v33, e33, hf⟩ := tk_bi hf
            refine tk_getI hx hb ht inX1 hown hE hs rfl 9 (by decide) (ht _ wfX1_43) e33 dX1_bestWorth_47 ?_
            refine lv_icmp_lt (tgt := 55) hx hb dX1_bestWorth_50 (by decide) (fun c34 => ?_) (fun c34 => ?_)
            · rw [if_pos c34] at hf
              refine lv_aload_n hx hb dX1_bestWorth_55 rfl (lv_at hl 1 rfl) ?_
              refine lv_iload_n hx hb dX1_bestWorth_56 rfl (lv_at hl 2 rfl) ?_
              obtain ⟨_, p35, hf⟩ := tk_bi hf
              obtain ⟨o35, e35, hf⟩ := tk_bi hf
              refine tk_call0 (v := some (.int o35.1)) hs (va_runV (As := [.int x1]) (rest := []) ⟨hx, hb, hml, hown, ht⟩ (cX1_weightOf_ok l hl0 G N x0 x1 o32.2.1 o32.2.2 o35.1 o35.2.1 o35.2.2 e35) (kwX1_weightOf ht wmX1_82 rfl rfl ⟨by simp only [headSpec]; omega, by simp only [headSpec]; omega⟩) (tk_preV hE hs (tk_ok_ok p35) rfl) rfl rfl hl.1 rfl (lv_room (Nat.le_of_ble_eq_true rfl)) dX1_bestWorth_57 ⟨(Nat.le_of_ble_eq_true rfl), (Nat.le_of_ble_eq_true rfl)⟩) (fun H locs hs => ?_)
              refine W.eq (g2 := F0 m 60 ls [.int o35.1]) rfl ?_
              refine lv_istore (lv' := [(4, .int o35.1), (3, .int o32.1), (0, .ref x0), (1, .int x1), (2, .int x2)]) hx hb dX1_bestWorth_60 hl (by decide) rfl (fun ls hl => ?_)
              refine lv_iload hx hb dX1_bestWorth_62 (lv_at hl 0 rfl) ?_
              refine lv_bipush (v := 8) hx hb dX1_bestWorth_64 (by decide) ?_
              refine lv_imul hx hb dX1_bestWorth_66 ?_
              refine lv_iload_n hx hb dX1_bestWorth_67 rfl (lv_at hl 3 rfl) ?_
              obtain ⟨o37, e37, hf⟩ := tk_bi hf
              refine tk_call0 (v := some (.int o37.1)) hs (va_runS (As := [.int x1]) (rest := [.int (o35.1 * 8)]) ⟨hx, hb, hml, hown, ht⟩ (cJ6_bitCount_0f7a4_ok l hl0 G N x1 o35.2.1 o35.2.2 o37.1 o37.2.1 o37.2.2 e37) (kwJ6_bitCount_0f7a4 ht wmX1_85 rfl rfl ⟨by simp only [headSpec]; omega, by simp only [headSpec]; omega⟩) (tk_preS hE hs) rfl rfl hl.1 rfl (lv_room (Nat.le_of_ble_eq_true rfl)) dX1_bestWorth_68 ⟨(Nat.le_of_ble_eq_true rfl), (Nat.le_of_ble_eq_true rfl)⟩) (fun H locs hs => ?_)
              refine W.eq (g2 := F0 m 71 ls [.int o37.1, .int (o35.1 * 8)]) rfl ?_
              refine lv_iconst (v := 1) hx hb dX1_bestWorth_71 (by decide) ?_
              refine lv_iand hx hb dX1_bestWorth_72 ?_
              refine lv_isub hx hb dX1_bestWorth_73 ?_
              refine lv_istore (lv' := [(5, .int ((o35.1 * 8) - (o37.1 &&& 1))), (4, .int o35.1), (3, .int o32.1), (0, .ref x0), (1, .int x1), (2, .int x2)]) hx hb dX1_bestWorth_74 hl (by decide) rfl (fun ls hl => ?_)
              refine lv_iconst (v := (-1)) hx hb dX1_bestWorth_76 (by decide) ?_
              refine lv_istore (lv' := [(6, .int (-1)), (5, .int ((o35.1 * 8) - (o37.1 &&& 1))), (4, .int o35.1), (3, .int o32.1), (0, .ref x0), (1, .int x1), (2, .int x2)]) hx hb dX1_bestWorth_77 hl (by decide) rfl (fun ls hl => ?_)
              refine lv_iconst (v := (-1)) hx hb dX1_bestWorth_79 (by decide) ?_
              refine lv_istore (lv' := [(7, .int (-1)), (6, .int (-1)), (5, .int ((o35.1 * 8) - (o37.1 &&& 1))), (4, .int o35.1), (3, .int o32.1), (0, .ref x0), (1, .int x1), (2, .int x2)]) hx hb dX1_bestWorth_80 hl (by decide) rfl (fun ls hl => ?_)
              refine lv_aload_n hx hb dX1_bestWorth_82 rfl (lv_at hl 5 rfl) ?_
              obtain ⟨v38, e38, hf⟩ := tk_bi hf
              refine tk_getR hx hb ht inX1 hown hE hs rfl 4 (by decide) (ht _ wfX1_24) e38 dX1_bestWorth_83 ?_
              refine lv_iload_n hx hb dX1_bestWorth_86 rfl (lv_at hl 4 rfl) ?_
              obtain ⟨v39, e39, hf⟩ := tk_bi hf
              refine tk_iald hx hb hE hs e39 dX1_bestWorth_87 ?_
              refine lv_istore (lv' := [(8, .int v39), (7, .int (-1)), (6, .int (-1)), (5, .int ((o35.1 * 8) - (o37.1 &&& 1))), (4, .int o35.1), (3, .int o32.1), (0, .ref x0), (1, .int x1), (2, .int x2)]) hx hb dX1_bestWorth_88 hl (by decide) rfl (fun ls hl => ?_)
              exact j90 (fX1_bestWorth_173 N (fX1_bestWorth N d)) (j173) N x0 x1 x2 o32.1 o35.1 ((o35.1 * 8) - (o37.1 &&& 1)) (-1) (-1) v39 o37.2.1 o37.2.2 _ _ _ hf hs (lv_sub hl [6, 7, 8, 5, 4, 3, 2, 1, 0] rfl)
            · rw [if_neg c34] at hf
              refine lv_iconst (v := 0) hx hb dX1_bestWorth_53 (by decide) ?_
              cases hf
              exact tk_iret hx hb hr hlocks hs dX1_bestWorth_54
          · rw [if_neg c31] at hf
            refine lv_aload_n hx hb dX1_bestWorth_29 rfl (lv_at hl 0 rfl) ?_
            obtain ⟨v40, e40, hf⟩ := tk_bi hf
            refine tk_getR hx hb ht inX1 hown hE hs rfl 6 (by decide) (ht _ wfX1_30) e40 dX1_bestWorth_30 ?_
            refine lv_iload_n hx hb dX1_bestWorth_33 rfl (lv_at hl 1 rfl) ?_
            obtain ⟨v41, e41, hf⟩ := tk_bi hf
            refine tk_lald hx hb hE hs e41 dX1_bestWorth_34 ?_
            refine lv_l2i (v := v41.toInt32) hx hb dX1_bestWorth_35 rfl ?_
            refine lv_ldc (v := 65535) hx hb hown (ht _ wkX1_75) dX1_bestWorth_36 ?_
            refine lv_iand hx hb dX1_bestWorth_38 ?_
            cases hf
            exact tk_iret hx hb hr hlocks hs dX1_bestWorth_39
        · rw [if_neg c28] at hf
          exact j19 h sz _ _ _ hf hs (lv_sub hl [] rfl)
def fX1_choose (N : Nat) (x0 : Nat) (h : tk_AH) (sz : Nat) : Option (tk_AH × Nat) :=
  (tk_gI h 1 9 x0).bind fun v1 =>
  (tk_ok h 1 x0).bind fun _ =>
  (fX1_bestWorth N 16 x0 ((1 <<< (v1 &&& 31)) - 1) 0 h sz).bind fun o2 =>
  some (o2.2.1, o2.2.2)
set_option maxHeartbeats 8000000 in
set_option maxRecDepth 100000 in
theorem cX1_choose_ok (l : Launch) (hl0 : l.stackTraces = false) (G : tk_AG) (N : Nat) (x0 : Nat) (h : tk_AH) (sz : Nat) (h9 : tk_AH) (sz9 : Nat) (hf : fX1_choose N x0 h sz = some (h9, sz9)) : Met l yX1_choose (coX1_choose :: tk_W) ({ frames := 19, cells := 0, slots := 0, locals := 576 }) (tk_pc G [.ref x0] h sz) (tk_qc G none h9 sz9) 0 0 (tk_ag G) := by
  refine Met.ofW (cc := cX1_choose) (maxL := 1) (ret := none) (by decide) rfl ?_
  intro p e s m args below meth c s₁ B hml hv
  obtain ⟨hav, hE, hrp, hsz, hgs⟩ := hv
  have hx := B.exec
  have hb := B.bytes
  have hr := B.returns
  have hts := atoms_spec (ws := coX1_choose :: tk_W) B.pre
  have ht : ∀ w ∈ tk_W, w.before args s = true := fun w h => hts w (List.mem_cons_of_mem _ h)
  have hown : s.vm.findClass RX1 = some m.cls := findClass_of_methodNamed B.named
  have hlocks := B.notSynchronized
  have hs : tk_sw G s h sz s.heap [] := ⟨hrp, hsz, by rw [hsz]; exact hgs, va_S.rf⟩
  have hl := lv_entry ([.ref x0]) (n := 1) (Nat.le_of_ble_eq_true rfl)
  have hent : entryFrame m args 1 = F0 m 0 (lg_sl ([.ref x0]) ++ List.replicate (1 - (lg_sl ([.ref x0])).length) Slot.unset).toArray [] := by rw [hav, lg_entry_eq]
  rw [hent]
  clear hent
  generalize (lg_sl ([.ref x0]) ++ List.replicate (1 - (lg_sl ([.ref x0])).length) Slot.unset).toArray = ls at hl ⊢
  have hl : lv_has ls 1 [(0, .ref x0)] := hl
  unfold fX1_choose at hf
  refine lv_aload_n hx hb dX1_choose_0 rfl (lv_at hl 0 rfl) ?_
  refine lv_iconst (v := 1) hx hb dX1_choose_1 (by decide) ?_
  refine lv_aload_n hx hb dX1_choose_2 rfl (lv_at hl 0 rfl) ?_
  obtain ⟨v1, e1, hf⟩ := tk_bi hf
  refine tk_getI hx hb ht inX1 hown hE hs rfl 9 (by decide) (ht _ wfX1_43) e1 dX1_choose_3 ?_
  refine lv_ishl hx hb dX1_choose_6 ?_
  refine lv_iconst (v := 1) hx hb dX1_choose_7 (by decide) ?_
  refine lv_isub hx hb dX1_choose_8 ?_
  refine lv_iconst (v := 0) hx hb dX1_choose_9 (by decide) ?_
  obtain ⟨_, p2, hf⟩ := tk_bi hf
  obtain ⟨o2, e2, hf⟩ := tk_bi hf
  refine tk_call0 (v := some (.int o2.1)) hs (va_runV (As := [.int ((1 <<< (v1 &&& 31)) - 1), .int 0]) (rest := []) ⟨hx, hb, hml, hown, ht⟩ (cX1_bestWorth_ok l hl0 G N 16 x0 ((1 <<< (v1 &&& 31)) - 1) 0 h sz o2.1 o2.2.1 o2.2.2 e2) (kwX1_bestWorth ht wmX1_68 rfl rfl ⟨Nat.le_of_ble_eq_true rfl, Nat.le_of_ble_eq_true rfl⟩) (tk_preV hE hs (tk_ok_ok p2) rfl) rfl rfl hl.1 rfl (lv_room (Nat.le_of_ble_eq_true rfl)) dX1_choose_10 ⟨(Nat.le_of_ble_eq_true rfl), (Nat.le_of_ble_eq_true rfl)⟩) (fun H locs hs => ?_)
  refine W.eq (g2 := F0 m 13 ls [.int o2.1]) rfl ?_
  refine lv_pop hx hb dX1_choose_13 rfl ?_
  cases hf
  exact tk_vret hx hb hr hlocks hs dX1_choose_14
def fX1_choiceAt_43 (N : Nat) (y0 : Int32) (h : tk_AH) (sz : Nat) : Option (Int32 × tk_AH × Nat) :=
  some (y0, h, sz)
def fX1_choiceAt_42 (N : Nat) (h : tk_AH) (sz : Nat) : Option (Int32 × tk_AH × Nat) :=
  fX1_choiceAt_43 N (-1) h sz
def fX1_choiceAt (N : Nat) (x0 : Nat) (x1 : Int32) (h : tk_AH) (sz : Nat) : Option (Int32 × tk_AH × Nat) :=
  (tk_ok h 1 x0).bind fun _ =>
  (fX1_isKnown N x0 x1 h sz).bind fun o1 =>
  if o1.1 = 0 then (
  some ((-1), o1.2.1, o1.2.2)) else (
  (tk_gR o1.2.1 1 6 x0).bind fun v4 =>
  (tk_aJ o1.2.1 2 v4 x1).bind fun v5 =>
  if (((v5.toInt32 >>> (16 &&& 31)) &&& 65535) - 1) < 0 then (
  fX1_choiceAt_42 N o1.2.1 o1.2.2) else (
  (tk_gI o1.2.1 1 8 x0).bind fun v7 =>
  if v7 ≤ (((v5.toInt32 >>> (16 &&& 31)) &&& 65535) - 1) then (
  fX1_choiceAt_42 N o1.2.1 o1.2.2) else (
  fX1_choiceAt_43 N (((v5.toInt32 >>> (16 &&& 31)) &&& 65535) - 1) o1.2.1 o1.2.2)))
set_option maxHeartbeats 8000000 in
set_option maxRecDepth 100000 in
theorem cX1_choiceAt_ok (l : Launch) (hl0 : l.stackTraces = false) (G : tk_AG) (N : Nat) (x0 : Nat) (x1 : Int32) (h : tk_AH) (sz : Nat) (r9 : Int32) (h9 : tk_AH) (sz9 : Nat) (hf : fX1_choiceAt N x0 x1 h sz = some (r9, h9, sz9)) : Met l yX1_choiceAt (coX1_choiceAt :: tk_W) ({ frames := 1, cells := 0, slots := 0, locals := 21 }) (tk_pc G [.ref x0, .int x1] h sz) (tk_qc G (some (.int r9)) h9 sz9) 0 0 (tk_ag G) := by
  refine Met.ofW (cc := cX1_choiceAt) (maxL := 3) (ret := (some .int)) (by decide) rfl ?_
  intro p e s m args below meth c s₁ B hml hv
  obtain ⟨hav, hE, hrp, hsz, hgs⟩ := hv
  have hx := B.exec
  have hb := B.bytes
  have hr := B.returns
  have hts := atoms_spec (ws := coX1_choiceAt :: tk_W) B.pre
  have ht : ∀ w ∈ tk_W, w.before args s = true := fun w h => hts w (List.mem_cons_of_mem _ h)
  have hown : s.vm.findClass RX1 = some m.cls := findClass_of_methodNamed B.named
  have hlocks := B.notSynchronized
  have hs : tk_sw G s h sz s.heap [] := ⟨hrp, hsz, by rw [hsz]; exact hgs, va_S.rf⟩
  have hl := lv_entry ([.ref x0, .int x1]) (n := 3) (Nat.le_of_ble_eq_true rfl)
  have hent : entryFrame m args 3 = F0 m 0 (lg_sl ([.ref x0, .int x1]) ++ List.replicate (3 - (lg_sl ([.ref x0, .int x1])).length) Slot.unset).toArray [] := by rw [hav, lg_entry_eq]
  rw [hent]
  clear hent
  generalize (lg_sl ([.ref x0, .int x1]) ++ List.replicate (3 - (lg_sl ([.ref x0, .int x1])).length) Slot.unset).toArray = ls at hl ⊢
  have hl : lv_has ls 3 [(0, .ref x0), (1, .int x1)] := hl
  have j43 : ∀ (y0 : Int32) (h : tk_AH) (sz : Nat) (H : Heap) (locs : List Loc) (ls : Array Slot), fX1_choiceAt_43 N y0 h sz = some (r9, h9, sz9) → tk_sw G s h sz H locs → lv_has ls 3 [] → W p l e (headSpec (coX1_choiceAt :: tk_W) ({ frames := 1, cells := 0, slots := 0, locals := 21 })).room s m args below meth c H locs 0 (0) (MQ below (tk_qc G (some (.int r9)) h9 sz9) args s 0 0 (tk_ag G)) (F0 m 43 ls [.int y0]) := by
    intro y0 h sz H locs ls hf hs hl
    unfold fX1_choiceAt_43 at hf
    cases hf
    exact tk_iret hx hb hr hlocks hs dX1_choiceAt_43
  have j42 : ∀ (h : tk_AH) (sz : Nat) (H : Heap) (locs : List Loc) (ls : Array Slot), fX1_choiceAt_42 N h sz = some (r9, h9, sz9) → tk_sw G s h sz H locs → lv_has ls 3 [] → W p l e (headSpec (coX1_choiceAt :: tk_W) ({ frames := 1, cells := 0, slots := 0, locals := 21 })).room s m args below meth c H locs 0 (0) (MQ below (tk_qc G (some (.int r9)) h9 sz9) args s 0 0 (tk_ag G)) (F0 m 42 ls []) := by
    intro h sz H locs ls hf hs hl
    unfold fX1_choiceAt_42 at hf
    refine lv_iconst (v := (-1)) hx hb dX1_choiceAt_42 (by decide) ?_
    exact j43 (-1) h sz _ _ _ hf hs (lv_sub hl [] rfl)
  unfold fX1_choiceAt at hf
  refine lv_aload_n hx hb dX1_choiceAt_0 rfl (lv_at hl 0 rfl) ?_
  refine lv_iload_n hx hb dX1_choiceAt_1 rfl (lv_at hl 1 rfl) ?_
  obtain ⟨_, p1, hf⟩ := tk_bi hf
  obtain ⟨o1, e1, hf⟩ := tk_bi hf
  refine tk_call0 (v := some (.int o1.1)) hs (va_runV (As := [.int x1]) (rest := []) ⟨hx, hb, hml, hown, ht⟩ (cX1_isKnown_ok l hl0 G N x0 x1 h sz o1.1 o1.2.1 o1.2.2 e1) (kwX1_isKnown ht wmX1_71 rfl rfl ⟨Nat.le_of_ble_eq_true rfl, Nat.le_of_ble_eq_true rfl⟩) (tk_preV hE hs (tk_ok_ok p1) rfl) rfl rfl hl.1 rfl (lv_room (Nat.le_of_ble_eq_true rfl)) dX1_choiceAt_2 ⟨(Nat.le_of_ble_eq_true rfl), (Nat.le_of_ble_eq_true rfl)⟩) (fun H locs hs => ?_)
  refine W.eq (g2 := F0 m 5 ls [.int o1.1]) rfl ?_
  refine lv_if_ne (tgt := 10) hx hb dX1_choiceAt_5 (by decide) (fun c3 => ?_) (fun c3 => ?_)
  · rw [if_neg c3] at hf
    refine lv_aload_n hx hb dX1_choiceAt_10 rfl (lv_at hl 0 rfl) ?_
    obtain ⟨v4, e4, hf⟩ := tk_bi hf
    refine tk_getR hx hb ht inX1 hown hE hs rfl 6 (by decide) (ht _ wfX1_30) e4 dX1_choiceAt_11 ?_
    refine lv_iload_n hx hb dX1_choiceAt_14 rfl (lv_at hl 1 rfl) ?_
    obtain ⟨v5, e5, hf⟩ := tk_bi hf
    refine tk_lald hx hb hE hs e5 dX1_choiceAt_15 ?_
    refine lv_l2i (v := v5.toInt32) hx hb dX1_choiceAt_16 rfl ?_
    refine lv_bipush (v := 16) hx hb dX1_choiceAt_17 (by decide) ?_
    refine lv_ishr hx hb dX1_choiceAt_19 ?_
    refine lv_ldc (v := 65535) hx hb hown (ht _ wkX1_75) dX1_choiceAt_20 ?_
    refine lv_iand hx hb dX1_choiceAt_22 ?_
    refine lv_iconst (v := 1) hx hb dX1_choiceAt_23 (by decide) ?_
    refine lv_isub hx hb dX1_choiceAt_24 ?_
    refine lv_istore_n (lv' := [(2, .int (((v5.toInt32 >>> (16 &&& 31)) &&& 65535) - 1)), (0, .ref x0), (1, .int x1)]) hx hb dX1_choiceAt_25 rfl hl (by decide) rfl (fun ls hl => ?_)
    refine lv_iload_n hx hb dX1_choiceAt_26 rfl (lv_at hl 0 rfl) ?_
    refine lv_if_lt (tgt := 42) hx hb dX1_choiceAt_27 (by decide) (fun c6 => ?_) (fun c6 => ?_)
    · rw [if_pos c6] at hf
      exact j42 o1.2.1 o1.2.2 _ _ _ hf hs (lv_sub hl [] rfl)
    · rw [if_neg c6] at hf
      refine lv_iload_n hx hb dX1_choiceAt_30 rfl (lv_at hl 0 rfl) ?_
      refine lv_aload_n hx hb dX1_choiceAt_31 rfl (lv_at hl 1 rfl) ?_
      obtain ⟨v7, e7, hf⟩ := tk_bi hf
      refine tk_getI hx hb ht inX1 hown hE hs rfl 8 (by decide) (ht _ wfX1_47) e7 dX1_choiceAt_32 ?_
      refine lv_icmp_ge (tgt := 42) hx hb dX1_choiceAt_35 (by decide) (fun c8 => ?_) (fun c8 => ?_)
      · rw [if_pos c8] at hf
        exact j42 o1.2.1 o1.2.2 _ _ _ hf hs (lv_sub hl [] rfl)
      · rw [if_neg c8] at hf
        refine lv_iload_n hx hb dX1_choiceAt_38 rfl (lv_at hl 0 rfl) ?_
        refine lv_goto (tgt := 43) hx hb dX1_choiceAt_39 (by decide) ?_
        exact j43 (((v5.toInt32 >>> (16 &&& 31)) &&& 65535) - 1) o1.2.1 o1.2.2 _ _ _ hf hs (lv_sub hl [] rfl)
  · rw [if_pos c3] at hf
    refine lv_iconst (v := (-1)) hx hb dX1_choiceAt_8 (by decide) ?_
    cases hf
    exact tk_iret hx hb hr hlocks hs dX1_choiceAt_9
