def fX0_init_74 (N : Nat) : Nat → Nat → Int32 → tk_AH → Nat → Option (tk_AH × Nat)
  | 0, _, _, _, _ => none
  | n + 1, x0, x2, h, sz =>
  if 8 ≤ x2 then (
  some (h, sz)) else (
  (tk_gR h 0 2 x0).bind fun v2 =>
  (tk_sI h 0 v2 x2 10).bind fun h3 =>
  fX0_init_74 N n x0 (x2 + 1) h3 sz)
def fX0_init (N : Nat) (x0 : Nat) (x1 : Int32) (h : tk_AH) (sz : Nat) : Option (tk_AH × Nat) :=
  (tk_pF (tk_nI h sz 8) 0 0 x0 (.ref sz)).bind fun h4 =>
  (tk_pF (tk_nI h4 (sz + 1) 8) 0 1 x0 (.ref (sz + 1))).bind fun h5 =>
  (tk_pF (tk_nI h5 ((sz + 1) + 1) 8) 0 2 x0 (.ref ((sz + 1) + 1))).bind fun h6 =>
  (tk_pF (tk_nI h6 (((sz + 1) + 1) + 1) 8) 0 3 x0 (.ref (((sz + 1) + 1) + 1))).bind fun h7 =>
  (tk_pF (tk_nI h7 ((((sz + 1) + 1) + 1) + 1) 8) 0 4 x0 (.ref ((((sz + 1) + 1) + 1) + 1))).bind fun h8 =>
  (tk_pF (tk_nI h8 (((((sz + 1) + 1) + 1) + 1) + 1) 2) 0 5 x0 (.ref (((((sz + 1) + 1) + 1) + 1) + 1))).bind fun h9 =>
  (tk_pF (tk_nI h9 ((((((sz + 1) + 1) + 1) + 1) + 1) + 1) 40) 0 6 x0 (.ref ((((((sz + 1) + 1) + 1) + 1) + 1) + 1))).bind fun h10 =>
  (tk_pF (tk_nI h10 (((((((sz + 1) + 1) + 1) + 1) + 1) + 1) + 1) 40) 0 7 x0 (.ref (((((((sz + 1) + 1) + 1) + 1) + 1) + 1) + 1))).bind fun h11 =>
  (tk_pF h11 0 8 x0 (.int x1)).bind fun h12 =>
  fX0_init_74 N N x0 0 h12 ((((((((sz + 1) + 1) + 1) + 1) + 1) + 1) + 1) + 1)
set_option maxHeartbeats 8000000 in
set_option maxRecDepth 100000 in
theorem cX0_init_ok (l : Launch) (hl0 : l.stackTraces = false) (G : tk_AG) (N : Nat) (x0 : Nat) (x1 : Int32) (h : tk_AH) (sz : Nat) (h9 : tk_AH) (sz9 : Nat) (hf : fX0_init N x0 x1 h sz = some (h9, sz9)) : Met l yX0_init (coX0_init :: tk_W) ({ frames := 1, cells := 8, slots := 122, locals := 24 }) (tk_pc G [.ref x0, .int x1] h sz) (tk_qc G none h9 sz9) 8 122 (tk_ag G) := by
  refine Met.ofW (cc := cX0_init) (maxL := 3) (ret := none) (by decide) rfl ?_
  intro p e s m args below meth c s₁ B hml hv
  obtain ⟨hav, hE, hrp, hsz, hgs⟩ := hv
  have hx := B.exec
  have hb := B.bytes
  have hr := B.returns
  have hts := atoms_spec (ws := coX0_init :: tk_W) B.pre
  have ht : ∀ w ∈ tk_W, w.before args s = true := fun w h => hts w (List.mem_cons_of_mem _ h)
  have hown : s.vm.findClass RX0 = some m.cls := findClass_of_methodNamed B.named
  have hlocks := B.notSynchronized
  have hin : meth.name = "<init>" := (name_of_methodNamed B.named B.method).1
  have hs : tk_sw G s h sz s.heap [] := ⟨hrp, hsz, by rw [hsz]; exact hgs, va_S.rf⟩
  have hl := lv_entry ([.ref x0, .int x1]) (n := 3) (Nat.le_of_ble_eq_true rfl)
  have hent : entryFrame m args 3 = F0 m 0 (lg_sl ([.ref x0, .int x1]) ++ List.replicate (3 - (lg_sl ([.ref x0, .int x1])).length) Slot.unset).toArray [] := by rw [hav, lg_entry_eq]
  rw [hent]
  clear hent
  generalize (lg_sl ([.ref x0, .int x1]) ++ List.replicate (3 - (lg_sl ([.ref x0, .int x1])).length) Slot.unset).toArray = ls at hl ⊢
  have hl : lv_has ls 3 [(0, .ref x0), (1, .int x1)] := hl
  have j74 : ∀ (n : Nat), ∀ (x0 : Nat) (x2 : Int32) (h : tk_AH) (sz : Nat) (H : Heap) (locs : List Loc) (ls : Array Slot), fX0_init_74 N n x0 x2 h sz = some (h9, sz9) → tk_sw G s h sz H locs → lv_has ls 3 [(0, .ref x0), (2, .int x2)] → W p l e (headSpec (coX0_init :: tk_W) ({ frames := 1, cells := 8, slots := 122, locals := 24 })).room s m args below meth c H locs 8 (122) (MQ below (tk_qc G none h9 sz9) args s 8 122 (tk_ag G)) (F0 m 74 ls []) := by
    intro n
    induction n with
    | zero =>
      intro x0 x2 h sz H locs ls hf
      cases hf
    | succ n ih =>
      intro x0 x2 h sz H locs ls hf hs hl
      rw [fX0_init_74] at hf
      refine lv_iload_n hx hb dX0_init_74 rfl (lv_at hl 1 rfl) ?_
      refine lv_bipush (v := 8) hx hb dX0_init_75 (by decide) ?_
      refine lv_icmp_ge (tgt := 94) hx hb dX0_init_77 (by decide) (fun c1 => ?_) (fun c1 => ?_)
      · rw [if_pos c1] at hf
        cases hf
        exact tk_vret hx hb hr hlocks hs dX0_init_94
      · rw [if_neg c1] at hf
        refine lv_aload_n hx hb dX0_init_80 rfl (lv_at hl 0 rfl) ?_
        obtain ⟨v2, e2, hf⟩ := tk_bi hf
        refine tk_getR hx hb ht inX0 hown hE hs rfl 2 (by decide) (ht _ wfX0_18) e2 dX0_init_81 ?_
        refine lv_iload_n hx hb dX0_init_84 rfl (lv_at hl 1 rfl) ?_
        refine lv_bipush (v := 10) hx hb dX0_init_85 (by decide) ?_
        obtain ⟨h3, e3, hf⟩ := tk_bi hf
        refine tk_iast hx hb hE hs e3 dX0_init_87 (fun H locs hs => ?_)
        refine lv_iinc (v := x2 + 1) (lv' := [(2, .int (x2 + 1)), (0, .ref x0)]) hx hb dX0_init_88 hl (k := 1) rfl rfl (by decide) rfl (fun ls hl => ?_)
        refine lv_goto (tgt := 74) hx hb dX0_init_91 (by decide) ?_
        exact ih x0 (x2 + 1) h3 sz _ _ _ hf hs (lv_sub hl [1, 0] rfl)
  unfold fX0_init at hf
  refine lv_aload_n hx hb dX0_init_0 rfl (lv_at hl 0 rfl) ?_
  refine W.objInit hx hb hown (ht _ wmX0_3) (ht _ wiOb) (ht _ wcOb) rfl (by rw [hml]; exact hl.1) rfl dX0_init_1 (Nat.le_of_ble_eq_true rfl) (Nat.le_of_ble_eq_true rfl) ?_
  refine W.eq (g2 := F0 m 4 ls []) rfl ?_
  refine lv_aload_n hx hb dX0_init_4 rfl (lv_at hl 0 rfl) ?_
  refine lv_bipush (v := 8) hx hb dX0_init_5 (by decide) ?_
  refine tk_newI hx hb (ht _ waint) hE hs (N := 8) (by decide) (by decide) (by decide) (Nat.le_of_ble_eq_true rfl) (Nat.le_of_ble_eq_true rfl) dX0_init_7 (fun H hs => ?_)
  refine W.widen (k := 1) (n := 8) (by omega) (by omega) ?_
  obtain ⟨h4, e4, hf⟩ := tk_bi hf
  refine tk_putF hx hb ht inX0 tyX0 tyX0_ok nmX0 hown hE hs rfl 0 (by decide) (ht _ wfX0_9) rfl hin rfl rfl rfl e4 dX0_init_9 (fun H locs hs => ?_)
  refine lv_aload_n hx hb dX0_init_12 rfl (lv_at hl 0 rfl) ?_
  refine lv_bipush (v := 8) hx hb dX0_init_13 (by decide) ?_
  refine tk_newI hx hb (ht _ waint) hE hs (N := 8) (by decide) (by decide) (by decide) (Nat.le_of_ble_eq_true rfl) (Nat.le_of_ble_eq_true rfl) dX0_init_15 (fun H hs => ?_)
  refine W.widen (k := 2) (n := 16) (by omega) (by omega) ?_
  obtain ⟨h5, e5, hf⟩ := tk_bi hf
  refine tk_putF hx hb ht inX0 tyX0 tyX0_ok nmX0 hown hE hs rfl 1 (by decide) (ht _ wfX0_15) rfl hin rfl rfl rfl e5 dX0_init_17 (fun H locs hs => ?_)
  refine lv_aload_n hx hb dX0_init_20 rfl (lv_at hl 0 rfl) ?_
  refine lv_bipush (v := 8) hx hb dX0_init_21 (by decide) ?_
  refine tk_newI hx hb (ht _ waint) hE hs (N := 8) (by decide) (by decide) (by decide) (Nat.le_of_ble_eq_true rfl) (Nat.le_of_ble_eq_true rfl) dX0_init_23 (fun H hs => ?_)
  refine W.widen (k := 3) (n := 24) (by omega) (by omega) ?_
  obtain ⟨h6, e6, hf⟩ := tk_bi hf
  refine tk_putF hx hb ht inX0 tyX0 tyX0_ok nmX0 hown hE hs rfl 2 (by decide) (ht _ wfX0_18) rfl hin rfl rfl rfl e6 dX0_init_25 (fun H locs hs => ?_)
  refine lv_aload_n hx hb dX0_init_28 rfl (lv_at hl 0 rfl) ?_
  refine lv_bipush (v := 8) hx hb dX0_init_29 (by decide) ?_
  refine tk_newI hx hb (ht _ waint) hE hs (N := 8) (by decide) (by decide) (by decide) (Nat.le_of_ble_eq_true rfl) (Nat.le_of_ble_eq_true rfl) dX0_init_31 (fun H hs => ?_)
  refine W.widen (k := 4) (n := 32) (by omega) (by omega) ?_
  obtain ⟨h7, e7, hf⟩ := tk_bi hf
  refine tk_putF hx hb ht inX0 tyX0 tyX0_ok nmX0 hown hE hs rfl 3 (by decide) (ht _ wfX0_21) rfl hin rfl rfl rfl e7 dX0_init_33 (fun H locs hs => ?_)
  refine lv_aload_n hx hb dX0_init_36 rfl (lv_at hl 0 rfl) ?_
  refine lv_bipush (v := 8) hx hb dX0_init_37 (by decide) ?_
  refine tk_newI hx hb (ht _ waint) hE hs (N := 8) (by decide) (by decide) (by decide) (Nat.le_of_ble_eq_true rfl) (Nat.le_of_ble_eq_true rfl) dX0_init_39 (fun H hs => ?_)
  refine W.widen (k := 5) (n := 40) (by omega) (by omega) ?_
  obtain ⟨h8, e8, hf⟩ := tk_bi hf
  refine tk_putF hx hb ht inX0 tyX0 tyX0_ok nmX0 hown hE hs rfl 4 (by decide) (ht _ wfX0_24) rfl hin rfl rfl rfl e8 dX0_init_41 (fun H locs hs => ?_)
  refine lv_aload_n hx hb dX0_init_44 rfl (lv_at hl 0 rfl) ?_
  refine lv_iconst (v := 2) hx hb dX0_init_45 (by decide) ?_
  refine tk_newI hx hb (ht _ waint) hE hs (N := 2) (by decide) (by decide) (by decide) (Nat.le_of_ble_eq_true rfl) (Nat.le_of_ble_eq_true rfl) dX0_init_46 (fun H hs => ?_)
  refine W.widen (k := 6) (n := 42) (by omega) (by omega) ?_
  obtain ⟨h9, e9, hf⟩ := tk_bi hf
  refine tk_putF hx hb ht inX0 tyX0 tyX0_ok nmX0 hown hE hs rfl 5 (by decide) (ht _ wfX0_27) rfl hin rfl rfl rfl e9 dX0_init_48 (fun H locs hs => ?_)
  refine lv_aload_n hx hb dX0_init_51 rfl (lv_at hl 0 rfl) ?_
  refine lv_bipush (v := 40) hx hb dX0_init_52 (by decide) ?_
  refine tk_newI hx hb (ht _ waint) hE hs (N := 40) (by decide) (by decide) (by decide) (Nat.le_of_ble_eq_true rfl) (Nat.le_of_ble_eq_true rfl) dX0_init_54 (fun H hs => ?_)
  refine W.widen (k := 7) (n := 82) (by omega) (by omega) ?_
  obtain ⟨h10, e10, hf⟩ := tk_bi hf
  refine tk_putF hx hb ht inX0 tyX0 tyX0_ok nmX0 hown hE hs rfl 6 (by decide) (ht _ wfX0_30) rfl hin rfl rfl rfl e10 dX0_init_56 (fun H locs hs => ?_)
  refine lv_aload_n hx hb dX0_init_59 rfl (lv_at hl 0 rfl) ?_
  refine lv_bipush (v := 40) hx hb dX0_init_60 (by decide) ?_
  refine tk_newI hx hb (ht _ waint) hE hs (N := 40) (by decide) (by decide) (by decide) (Nat.le_of_ble_eq_true rfl) (Nat.le_of_ble_eq_true rfl) dX0_init_62 (fun H hs => ?_)
  refine W.widen (k := 8) (n := 122) (by omega) (by omega) ?_
  obtain ⟨h11, e11, hf⟩ := tk_bi hf
  refine tk_putF hx hb ht inX0 tyX0 tyX0_ok nmX0 hown hE hs rfl 7 (by decide) (ht _ wfX0_33) rfl hin rfl rfl rfl e11 dX0_init_64 (fun H locs hs => ?_)
  refine lv_aload_n hx hb dX0_init_67 rfl (lv_at hl 0 rfl) ?_
  refine lv_iload_n hx hb dX0_init_68 rfl (lv_at hl 1 rfl) ?_
  obtain ⟨h12, e12, hf⟩ := tk_bi hf
  refine tk_put hx hb ht inX0 tyX0 tyX0_ok nmX0 hown hE hs rfl 8 (by decide) (ht _ wfX0_36) rfl rfl rfl e12 dX0_init_69 (fun H locs hs => ?_)
  refine lv_iconst (v := 0) hx hb dX0_init_72 (by decide) ?_
  refine lv_istore_n (lv' := [(2, .int 0), (0, .ref x0), (1, .int x1)]) hx hb dX0_init_73 rfl hl (by decide) rfl (fun ls hl => ?_)
  exact j74 N x0 0 h12 ((((((((sz + 1) + 1) + 1) + 1) + 1) + 1) + 1) + 1) _ _ _ hf hs (lv_sub hl [1, 0] rfl)
def fX0_addWant_12 (N : Nat) : Nat → Nat → Int32 → Int32 → tk_AH → Nat → Option (Int32 × tk_AH × Nat)
  | 0, _, _, _, _, _ => none
  | n + 1, x0, x1, x2, h, sz =>
  (tk_gI h 0 9 x0).bind fun v1 =>
  if v1 ≤ x2 then (
  (tk_gR h 0 5 x0).bind fun v3 =>
  (tk_gI h 0 9 x0).bind fun v4 =>
  (tk_sI h 0 v3 v4 x1).bind fun h5 =>
  (tk_gI h5 0 9 x0).bind fun v6 =>
  (tk_pF h5 0 9 x0 (.int (v6 + 1))).bind fun h7 =>
  (tk_gI h7 0 9 x0).bind fun v8 =>
  some (v8, h7, sz)) else (
  (tk_gR h 0 5 x0).bind fun v9 =>
  (tk_aI h 0 v9 x2).bind fun v10 =>
  if v10 = x1 then (
  some ((-1), h, sz)) else (
  fX0_addWant_12 N n x0 x1 (x2 + 1) h sz))
def fX0_addWant (N : Nat) (x0 : Nat) (x1 : Int32) (h : tk_AH) (sz : Nat) : Option (Int32 × tk_AH × Nat) :=
  (tk_gI h 0 9 x0).bind fun v12 =>
  if v12 < 2 then (
  fX0_addWant_12 N N x0 x1 0 h sz) else (
  some ((-1), h, sz))
set_option maxHeartbeats 8000000 in
set_option maxRecDepth 100000 in
theorem cX0_addWant_ok (l : Launch) (hl0 : l.stackTraces = false) (G : tk_AG) (N : Nat) (x0 : Nat) (x1 : Int32) (h : tk_AH) (sz : Nat) (r9 : Int32) (h9 : tk_AH) (sz9 : Nat) (hf : fX0_addWant N x0 x1 h sz = some (r9, h9, sz9)) : Met l yX0_addWant (coX0_addWant :: tk_W) ({ frames := 0, cells := 0, slots := 0, locals := 0 }) (tk_pc G [.ref x0, .int x1] h sz) (tk_qc G (some (.int r9)) h9 sz9) 0 0 (tk_ag G) := by
  refine Met.ofW (cc := cX0_addWant) (maxL := 3) (ret := (some .int)) (by decide) rfl ?_
  intro p e s m args below meth c s₁ B hml hv
  obtain ⟨hav, hE, hrp, hsz, hgs⟩ := hv
  have hx := B.exec
  have hb := B.bytes
  have hr := B.returns
  have hts := atoms_spec (ws := coX0_addWant :: tk_W) B.pre
  have ht : ∀ w ∈ tk_W, w.before args s = true := fun w h => hts w (List.mem_cons_of_mem _ h)
  have hown : s.vm.findClass RX0 = some m.cls := findClass_of_methodNamed B.named
  have hlocks := B.notSynchronized
  have hs : tk_sw G s h sz s.heap [] := ⟨hrp, hsz, by rw [hsz]; exact hgs, va_S.rf⟩
  have hl := lv_entry ([.ref x0, .int x1]) (n := 3) (Nat.le_of_ble_eq_true rfl)
  have hent : entryFrame m args 3 = F0 m 0 (lg_sl ([.ref x0, .int x1]) ++ List.replicate (3 - (lg_sl ([.ref x0, .int x1])).length) Slot.unset).toArray [] := by rw [hav, lg_entry_eq]
  rw [hent]
  clear hent
  generalize (lg_sl ([.ref x0, .int x1]) ++ List.replicate (3 - (lg_sl ([.ref x0, .int x1])).length) Slot.unset).toArray = ls at hl ⊢
  have hl : lv_has ls 3 [(0, .ref x0), (1, .int x1)] := hl
  have j12 : ∀ (n : Nat), ∀ (x0 : Nat) (x1 : Int32) (x2 : Int32) (h : tk_AH) (sz : Nat) (H : Heap) (locs : List Loc) (ls : Array Slot), fX0_addWant_12 N n x0 x1 x2 h sz = some (r9, h9, sz9) → tk_sw G s h sz H locs → lv_has ls 3 [(0, .ref x0), (1, .int x1), (2, .int x2)] → W p l e (headSpec (coX0_addWant :: tk_W) ({ frames := 0, cells := 0, slots := 0, locals := 0 })).room s m args below meth c H locs 0 (0) (MQ below (tk_qc G (some (.int r9)) h9 sz9) args s 0 0 (tk_ag G)) (F0 m 12 ls []) := by
    intro n
    induction n with
    | zero =>
      intro x0 x1 x2 h sz H locs ls hf
      cases hf
    | succ n ih =>
      intro x0 x1 x2 h sz H locs ls hf hs hl
      rw [fX0_addWant_12] at hf
      refine lv_iload_n hx hb dX0_addWant_12 rfl (lv_at hl 2 rfl) ?_
      refine lv_aload_n hx hb dX0_addWant_13 rfl (lv_at hl 0 rfl) ?_
      obtain ⟨v1, e1, hf⟩ := tk_bi hf
      refine tk_getI hx hb ht inX0 hown hE hs rfl 9 (by decide) (ht _ wfX0_40) e1 dX0_addWant_14 ?_
      refine lv_icmp_ge (tgt := 38) hx hb dX0_addWant_17 (by decide) (fun c2 => ?_) (fun c2 => ?_)
      · rw [if_pos c2] at hf
        refine lv_aload_n hx hb dX0_addWant_38 rfl (lv_at hl 0 rfl) ?_
        obtain ⟨v3, e3, hf⟩ := tk_bi hf
        refine tk_getR hx hb ht inX0 hown hE hs rfl 5 (by decide) (ht _ wfX0_27) e3 dX0_addWant_39 ?_
        refine lv_aload_n hx hb dX0_addWant_42 rfl (lv_at hl 0 rfl) ?_
        obtain ⟨v4, e4, hf⟩ := tk_bi hf
        refine tk_getI hx hb ht inX0 hown hE hs rfl 9 (by decide) (ht _ wfX0_40) e4 dX0_addWant_43 ?_
        refine lv_iload_n hx hb dX0_addWant_46 rfl (lv_at hl 1 rfl) ?_
        obtain ⟨h5, e5, hf⟩ := tk_bi hf
        refine tk_iast hx hb hE hs e5 dX0_addWant_47 (fun H locs hs => ?_)
        refine lv_aload_n hx hb dX0_addWant_48 rfl (lv_at hl 0 rfl) ?_
        refine lv_dup hx hb dX0_addWant_49 rfl ?_
        obtain ⟨v6, e6, hf⟩ := tk_bi hf
        refine tk_getI hx hb ht inX0 hown hE hs rfl 9 (by decide) (ht _ wfX0_40) e6 dX0_addWant_50 ?_
        refine lv_iconst (v := 1) hx hb dX0_addWant_53 (by decide) ?_
        refine lv_iadd hx hb dX0_addWant_54 ?_
        obtain ⟨h7, e7, hf⟩ := tk_bi hf
        refine tk_put hx hb ht inX0 tyX0 tyX0_ok nmX0 hown hE hs rfl 9 (by decide) (ht _ wfX0_40) rfl rfl rfl e7 dX0_addWant_55 (fun H locs hs => ?_)
        refine lv_aload_n hx hb dX0_addWant_58 rfl (lv_at hl 0 rfl) ?_
        obtain ⟨v8, e8, hf⟩ := tk_bi hf
        refine tk_getI hx hb ht inX0 hown hE hs rfl 9 (by decide) (ht _ wfX0_40) e8 dX0_addWant_59 ?_
        cases hf
        exact tk_iret hx hb hr hlocks hs dX0_addWant_62
      · rw [if_neg c2] at hf
        refine lv_aload_n hx hb dX0_addWant_20 rfl (lv_at hl 0 rfl) ?_
        obtain ⟨v9, e9, hf⟩ := tk_bi hf
        refine tk_getR hx hb ht inX0 hown hE hs rfl 5 (by decide) (ht _ wfX0_27) e9 dX0_addWant_21 ?_
        refine lv_iload_n hx hb dX0_addWant_24 rfl (lv_at hl 2 rfl) ?_
        obtain ⟨v10, e10, hf⟩ := tk_bi hf
        refine tk_iald hx hb hE hs e10 dX0_addWant_25 ?_
        refine lv_iload_n hx hb dX0_addWant_26 rfl (lv_at hl 1 rfl) ?_
        refine lv_icmp_ne (tgt := 32) hx hb dX0_addWant_27 (by decide) (fun c11 => ?_) (fun c11 => ?_)
        · rw [if_neg c11] at hf
          refine lv_iinc (v := x2 + 1) (lv' := [(2, .int (x2 + 1)), (0, .ref x0), (1, .int x1)]) hx hb dX0_addWant_32 hl (k := 2) rfl rfl (by decide) rfl (fun ls hl => ?_)
          refine lv_goto (tgt := 12) hx hb dX0_addWant_35 (by decide) ?_
          exact ih x0 x1 (x2 + 1) h sz _ _ _ hf hs (lv_sub hl [1, 2, 0] rfl)
        · rw [if_pos c11] at hf
          refine lv_iconst (v := (-1)) hx hb dX0_addWant_30 (by decide) ?_
          cases hf
          exact tk_iret hx hb hr hlocks hs dX0_addWant_31
  unfold fX0_addWant at hf
  refine lv_aload_n hx hb dX0_addWant_0 rfl (lv_at hl 0 rfl) ?_
  obtain ⟨v12, e12, hf⟩ := tk_bi hf
  refine tk_getI hx hb ht inX0 hown hE hs rfl 9 (by decide) (ht _ wfX0_40) e12 dX0_addWant_1 ?_
  refine lv_iconst (v := 2) hx hb dX0_addWant_4 (by decide) ?_
  refine lv_icmp_lt (tgt := 10) hx hb dX0_addWant_5 (by decide) (fun c13 => ?_) (fun c13 => ?_)
  · rw [if_pos c13] at hf
    refine lv_iconst (v := 0) hx hb dX0_addWant_10 (by decide) ?_
    refine lv_istore_n (lv' := [(2, .int 0), (0, .ref x0), (1, .int x1)]) hx hb dX0_addWant_11 rfl hl (by decide) rfl (fun ls hl => ?_)
    exact j12 N x0 x1 0 h sz _ _ _ hf hs (lv_sub hl [1, 2, 0] rfl)
  · rw [if_neg c13] at hf
    refine lv_iconst (v := (-1)) hx hb dX0_addWant_8 (by decide) ?_
    cases hf
    exact tk_iret hx hb hr hlocks hs dX0_addWant_9
def fX0_isBarred_16 (N : Nat) (y0 : Int32) (h : tk_AH) (sz : Nat) : Option (Int32 × tk_AH × Nat) :=
  (tk_bz y0).bind fun _ =>
  some (y0, h, sz)
def fX0_isBarred (N : Nat) (x0 : Nat) (x1 : Int32) (h : tk_AH) (sz : Nat) : Option (Int32 × tk_AH × Nat) :=
  (tk_gI h 0 12 x0).bind fun v2 =>
  if ((v2 >>> (x1 &&& 31)) &&& 1) = 0 then (
  fX0_isBarred_16 N 0 h sz) else (
  fX0_isBarred_16 N 1 h sz)
set_option maxHeartbeats 8000000 in
set_option maxRecDepth 100000 in
theorem cX0_isBarred_ok (l : Launch) (hl0 : l.stackTraces = false) (G : tk_AG) (N : Nat) (x0 : Nat) (x1 : Int32) (h : tk_AH) (sz : Nat) (r9 : Int32) (h9 : tk_AH) (sz9 : Nat) (hf : fX0_isBarred N x0 x1 h sz = some (r9, h9, sz9)) : Met l yX0_isBarred (coX0_isBarred :: tk_W) ({ frames := 0, cells := 0, slots := 0, locals := 0 }) (tk_pc G [.ref x0, .int x1] h sz) (tk_qc G (some (.int r9)) h9 sz9) 0 0 (tk_ag G) := by
  refine Met.ofW (cc := cX0_isBarred) (maxL := 2) (ret := (some .boolean)) (by decide) rfl ?_
  intro p e s m args below meth c s₁ B hml hv
  obtain ⟨hav, hE, hrp, hsz, hgs⟩ := hv
  have hx := B.exec
  have hb := B.bytes
  have hr := B.returns
  have hts := atoms_spec (ws := coX0_isBarred :: tk_W) B.pre
  have ht : ∀ w ∈ tk_W, w.before args s = true := fun w h => hts w (List.mem_cons_of_mem _ h)
  have hown : s.vm.findClass RX0 = some m.cls := findClass_of_methodNamed B.named
  have hlocks := B.notSynchronized
  have hs : tk_sw G s h sz s.heap [] := ⟨hrp, hsz, by rw [hsz]; exact hgs, va_S.rf⟩
  have hl := lv_entry ([.ref x0, .int x1]) (n := 2) (Nat.le_of_ble_eq_true rfl)
  have hent : entryFrame m args 2 = F0 m 0 (lg_sl ([.ref x0, .int x1]) ++ List.replicate (2 - (lg_sl ([.ref x0, .int x1])).length) Slot.unset).toArray [] := by rw [hav, lg_entry_eq]
  rw [hent]
  clear hent
  generalize (lg_sl ([.ref x0, .int x1]) ++ List.replicate (2 - (lg_sl ([.ref x0, .int x1])).length) Slot.unset).toArray = ls at hl ⊢
  have hl : lv_has ls 2 [(0, .ref x0), (1, .int x1)] := hl
  have j16 : ∀ (y0 : Int32) (h : tk_AH) (sz : Nat) (H : Heap) (locs : List Loc) (ls : Array Slot), fX0_isBarred_16 N y0 h sz = some (r9, h9, sz9) → tk_sw G s h sz H locs → lv_has ls 2 [] → W p l e (headSpec (coX0_isBarred :: tk_W) ({ frames := 0, cells := 0, slots := 0, locals := 0 })).room s m args below meth c H locs 0 (0) (MQ below (tk_qc G (some (.int r9)) h9 sz9) args s 0 0 (tk_ag G)) (F0 m 16 ls [.int y0]) := by
    intro y0 h sz H locs ls hf hs hl
    unfold fX0_isBarred_16 at hf
    obtain ⟨_, e1, hf⟩ := tk_bi hf
    have e1 := tk_bz_ok e1
    cases hf
    exact tk_zret hx hb hr hlocks e1 hs dX0_isBarred_16
  unfold fX0_isBarred at hf
  refine lv_aload_n hx hb dX0_isBarred_0 rfl (lv_at hl 0 rfl) ?_
  obtain ⟨v2, e2, hf⟩ := tk_bi hf
  refine tk_getI hx hb ht inX0 hown hE hs rfl 12 (by decide) (ht _ wfX0_43) e2 dX0_isBarred_1 ?_
  refine lv_iload_n hx hb dX0_isBarred_4 rfl (lv_at hl 1 rfl) ?_
  refine lv_ishr hx hb dX0_isBarred_5 ?_
  refine lv_iconst (v := 1) hx hb dX0_isBarred_6 (by decide) ?_
  refine lv_iand hx hb dX0_isBarred_7 ?_
  refine lv_if_eq (tgt := 15) hx hb dX0_isBarred_8 (by decide) (fun c3 => ?_) (fun c3 => ?_)
  · rw [if_pos c3] at hf
    refine lv_iconst (v := 0) hx hb dX0_isBarred_15 (by decide) ?_
    exact j16 0 h sz _ _ _ hf hs (lv_sub hl [] rfl)
  · rw [if_neg c3] at hf
    refine lv_iconst (v := 1) hx hb dX0_isBarred_11 (by decide) ?_
    refine lv_goto (tgt := 16) hx hb dX0_isBarred_12 (by decide) ?_
    exact j16 1 h sz _ _ _ hf hs (lv_sub hl [] rfl)
def fX0_setBar_26 (N : Nat) (y0 : Int32) (y1 : Nat) (h : tk_AH) (sz : Nat) : Option (tk_AH × Nat) :=
  (tk_pF h 0 12 y1 (.int y0)).bind fun h1 =>
  some (h1, sz)
def fX0_setBar (N : Nat) (x0 : Nat) (x1 : Int32) (x2 : Int32) (h : tk_AH) (sz : Nat) : Option (tk_AH × Nat) :=
  if x2 = 0 then (
  (tk_gI h 0 12 x0).bind fun v3 =>
  fX0_setBar_26 N (v3 &&& ((1 <<< (x1 &&& 31)) ^^^ (-1))) x0 h sz) else (
  (tk_gI h 0 12 x0).bind fun v4 =>
  fX0_setBar_26 N (v4 ||| (1 <<< (x1 &&& 31))) x0 h sz)
set_option maxHeartbeats 8000000 in
set_option maxRecDepth 100000 in
theorem cX0_setBar_ok (l : Launch) (hl0 : l.stackTraces = false) (G : tk_AG) (N : Nat) (x0 : Nat) (x1 : Int32) (x2 : Int32) (h : tk_AH) (sz : Nat) (h9 : tk_AH) (sz9 : Nat) (hf : fX0_setBar N x0 x1 x2 h sz = some (h9, sz9)) : Met l yX0_setBar (coX0_setBar :: tk_W) ({ frames := 0, cells := 0, slots := 0, locals := 0 }) (tk_pc G [.ref x0, .int x1, .int x2] h sz) (tk_qc G none h9 sz9) 0 0 (tk_ag G) := by
  refine Met.ofW (cc := cX0_setBar) (maxL := 3) (ret := none) (by decide) rfl ?_
  intro p e s m args below meth c s₁ B hml hv
  obtain ⟨hav, hE, hrp, hsz, hgs⟩ := hv
  have hx := B.exec
  have hb := B.bytes
  have hr := B.returns
  have hts := atoms_spec (ws := coX0_setBar :: tk_W) B.pre
  have ht : ∀ w ∈ tk_W, w.before args s = true := fun w h => hts w (List.mem_cons_of_mem _ h)
  have hown : s.vm.findClass RX0 = some m.cls := findClass_of_methodNamed B.named
  have hlocks := B.notSynchronized
  have hs : tk_sw G s h sz s.heap [] := ⟨hrp, hsz, by rw [hsz]; exact hgs, va_S.rf⟩
  have hl := lv_entry ([.ref x0, .int x1, .int x2]) (n := 3) (Nat.le_of_ble_eq_true rfl)
  have hent : entryFrame m args 3 = F0 m 0 (lg_sl ([.ref x0, .int x1, .int x2]) ++ List.replicate (3 - (lg_sl ([.ref x0, .int x1, .int x2])).length) Slot.unset).toArray [] := by rw [hav, lg_entry_eq]
  rw [hent]
  clear hent
  generalize (lg_sl ([.ref x0, .int x1, .int x2]) ++ List.replicate (3 - (lg_sl ([.ref x0, .int x1, .int x2])).length) Slot.unset).toArray = ls at hl ⊢
  have hl : lv_has ls 3 [(0, .ref x0), (1, .int x1), (2, .int x2)] := hl
  have j26 : ∀ (y0 : Int32) (y1 : Nat) (h : tk_AH) (sz : Nat) (H : Heap) (locs : List Loc) (ls : Array Slot), fX0_setBar_26 N y0 y1 h sz = some (h9, sz9) → tk_sw G s h sz H locs → lv_has ls 3 [] → W p l e (headSpec (coX0_setBar :: tk_W) ({ frames := 0, cells := 0, slots := 0, locals := 0 })).room s m args below meth c H locs 0 (0) (MQ below (tk_qc G none h9 sz9) args s 0 0 (tk_ag G)) (F0 m 26 ls [.int y0, .ref y1]) := by
    intro y0 y1 h sz H locs ls hf hs hl
    unfold fX0_setBar_26 at hf
    obtain ⟨h1, e1, hf⟩ := tk_bi hf
    refine tk_put hx hb ht inX0 tyX0 tyX0_ok nmX0 hown hE hs rfl 12 (by decide) (ht _ wfX0_43) rfl rfl rfl e1 dX0_setBar_26 (fun H locs hs => ?_)
    cases hf
    exact tk_vret hx hb hr hlocks hs dX0_setBar_29
  unfold fX0_setBar at hf
  refine lv_aload_n hx hb dX0_setBar_0 rfl (lv_at hl 0 rfl) ?_
  refine lv_iload_n hx hb dX0_setBar_1 rfl (lv_at hl 2 rfl) ?_
  refine lv_if_eq (tgt := 16) hx hb dX0_setBar_2 (by decide) (fun c2 => ?_) (fun c2 => ?_)
  · rw [if_pos c2] at hf
    refine lv_aload_n hx hb dX0_setBar_16 rfl (lv_at hl 0 rfl) ?_
    obtain ⟨v3, e3, hf⟩ := tk_bi hf
    refine tk_getI hx hb ht inX0 hown hE hs rfl 12 (by decide) (ht _ wfX0_43) e3 dX0_setBar_17 ?_
    refine lv_iconst (v := 1) hx hb dX0_setBar_20 (by decide) ?_
    refine lv_iload_n hx hb dX0_setBar_21 rfl (lv_at hl 1 rfl) ?_
    refine lv_ishl hx hb dX0_setBar_22 ?_
    refine lv_iconst (v := (-1)) hx hb dX0_setBar_23 (by decide) ?_
    refine lv_ixor hx hb dX0_setBar_24 ?_
    refine lv_iand hx hb dX0_setBar_25 ?_
    exact j26 (v3 &&& ((1 <<< (x1 &&& 31)) ^^^ (-1))) x0 h sz _ _ _ hf hs (lv_sub hl [] rfl)
  · rw [if_neg c2] at hf
    refine lv_aload_n hx hb dX0_setBar_5 rfl (lv_at hl 0 rfl) ?_
    obtain ⟨v4, e4, hf⟩ := tk_bi hf
    refine tk_getI hx hb ht inX0 hown hE hs rfl 12 (by decide) (ht _ wfX0_43) e4 dX0_setBar_6 ?_
    refine lv_iconst (v := 1) hx hb dX0_setBar_9 (by decide) ?_
    refine lv_iload_n hx hb dX0_setBar_10 rfl (lv_at hl 1 rfl) ?_
    refine lv_ishl hx hb dX0_setBar_11 ?_
    refine lv_ior hx hb dX0_setBar_12 ?_
    refine lv_goto (tgt := 26) hx hb dX0_setBar_13 (by decide) ?_
    exact j26 (v4 ||| (1 <<< (x1 &&& 31))) x0 h sz _ _ _ hf hs (lv_sub hl [] rfl)
def fX0_takeTest_50 (N : Nat) (x0 : Nat) (x1 : Int32) (x4 : Int32) (y0 : Int32) (h : tk_AH) (sz : Nat) : Option (Int32 × tk_AH × Nat) :=
  if x4 ≤ y0 then (
  (tk_gR h 0 1 x0).bind fun v2 =>
  (tk_sI h 0 v2 x1 x4).bind fun h3 =>
  (tk_gR h3 0 2 x0).bind fun v4 =>
  (tk_sI h3 0 v4 x1 y0).bind fun h5 =>
  (tk_gR h5 0 3 x0).bind fun v6 =>
  (tk_aI h5 0 v6 x1).bind fun v7 =>
  (tk_sI h5 0 v6 x1 (v7 + 1)).bind fun h8 =>
  (tk_bz 1).bind fun _ =>
  some (1, h8, sz)) else (
  (tk_gR h 0 4 x0).bind fun v10 =>
  (tk_aI h 0 v10 x1).bind fun v11 =>
  (tk_sI h 0 v10 x1 (v11 + 1)).bind fun h12 =>
  (tk_bz 0).bind fun _ =>
  some (0, h12, sz))
def fX0_takeTest_25 (N : Nat) (x0 : Nat) (x1 : Int32) (x2 : Int32) (x3 : Int32) (y0 : Int32) (h : tk_AH) (sz : Nat) : Option (Int32 × tk_AH × Nat) :=
  if x3 = 0 then (
  (tk_gR h 0 2 x0).bind fun v15 =>
  (tk_aI h 0 v15 x1).bind fun v16 =>
  fX0_takeTest_50 N x0 x1 y0 (if x2 < v16 then x2 else v16) h sz) else (
  (tk_gR h 0 2 x0).bind fun v17 =>
  (tk_aI h 0 v17 x1).bind fun v18 =>
  fX0_takeTest_50 N x0 x1 y0 v18 h sz)
def fX0_takeTest (N : Nat) (x0 : Nat) (x1 : Int32) (x2 : Int32) (x3 : Int32) (h : tk_AH) (sz : Nat) : Option (Int32 × tk_AH × Nat) :=
  if x3 = 0 then (
  (tk_gR h 0 1 x0).bind fun v20 =>
  (tk_aI h 0 v20 x1).bind fun v21 =>
  fX0_takeTest_25 N x0 x1 x2 x3 v21 h sz) else (
  (tk_gR h 0 1 x0).bind fun v22 =>
  (tk_aI h 0 v22 x1).bind fun v23 =>
  fX0_takeTest_25 N x0 x1 x2 x3 (if v23 < (x2 - 1) then (x2 - 1) else v23) h sz)
set_option maxHeartbeats 8000000 in
set_option maxRecDepth 100000 in
theorem cX0_takeTest_ok (l : Launch) (hl0 : l.stackTraces = false) (G : tk_AG) (N : Nat) (x0 : Nat) (x1 : Int32) (x2 : Int32) (x3 : Int32) (h : tk_AH) (sz : Nat) (r9 : Int32) (h9 : tk_AH) (sz9 : Nat) (hf : fX0_takeTest N x0 x1 x2 x3 h sz = some (r9, h9, sz9)) : Met l yX0_takeTest (coX0_takeTest :: tk_W) ({ frames := 1, cells := 0, slots := 0, locals := 24 }) (tk_pc G [.ref x0, .int x1, .int x2, .int x3] h sz) (tk_qc G (some (.int r9)) h9 sz9) 0 0 (tk_ag G) := by
  refine Met.ofW (cc := cX0_takeTest) (maxL := 6) (ret := (some .boolean)) (by decide) rfl ?_
  intro p e s m args below meth c s₁ B hml hv
  obtain ⟨hav, hE, hrp, hsz, hgs⟩ := hv
  have hx := B.exec
  have hb := B.bytes
  have hr := B.returns
  have hts := atoms_spec (ws := coX0_takeTest :: tk_W) B.pre
  have ht : ∀ w ∈ tk_W, w.before args s = true := fun w h => hts w (List.mem_cons_of_mem _ h)
  have hown : s.vm.findClass RX0 = some m.cls := findClass_of_methodNamed B.named
  have hlocks := B.notSynchronized
  have hs : tk_sw G s h sz s.heap [] := ⟨hrp, hsz, by rw [hsz]; exact hgs, va_S.rf⟩
  have hl := lv_entry ([.ref x0, .int x1, .int x2, .int x3]) (n := 6) (Nat.le_of_ble_eq_true rfl)
  have hent : entryFrame m args 6 = F0 m 0 (lg_sl ([.ref x0, .int x1, .int x2, .int x3]) ++ List.replicate (6 - (lg_sl ([.ref x0, .int x1, .int x2, .int x3])).length) Slot.unset).toArray [] := by rw [hav, lg_entry_eq]
  rw [hent]
  clear hent
  generalize (lg_sl ([.ref x0, .int x1, .int x2, .int x3]) ++ List.replicate (6 - (lg_sl ([.ref x0, .int x1, .int x2, .int x3])).length) Slot.unset).toArray = ls at hl ⊢
  have hl : lv_has ls 6 [(0, .ref x0), (1, .int x1), (2, .int x2), (3, .int x3)] := hl
  have j50 : ∀ (x0 : Nat) (x1 : Int32) (x4 : Int32) (y0 : Int32) (h : tk_AH) (sz : Nat) (H : Heap) (locs : List Loc) (ls : Array Slot), fX0_takeTest_50 N x0 x1 x4 y0 h sz = some (r9, h9, sz9) → tk_sw G s h sz H locs → lv_has ls 6 [(0, .ref x0), (1, .int x1), (4, .int x4)] → W p l e (headSpec (coX0_takeTest :: tk_W) ({ frames := 1, cells := 0, slots := 0, locals := 24 })).room s m args below meth c H locs 0 (0) (MQ below (tk_qc G (some (.int r9)) h9 sz9) args s 0 0 (tk_ag G)) (F0 m 50 ls [.int y0]) := by
    intro x0 x1 x4 y0 h sz H locs ls hf hs hl
    unfold fX0_takeTest_50 at hf
    refine lv_istore (lv' := [(5, .int y0), (0, .ref x0), (1, .int x1), (4, .int x4)]) hx hb dX0_takeTest_50 hl (by decide) rfl (fun ls hl => ?_)
    refine lv_iload hx hb dX0_takeTest_52 (lv_at hl 3 rfl) ?_
    refine lv_iload hx hb dX0_takeTest_54 (lv_at hl 0 rfl) ?_
    refine lv_icmp_le (tgt := 71) hx hb dX0_takeTest_56 (by decide) (fun c1 => ?_) (fun c1 => ?_)
    · rw [if_pos c1] at hf
      refine lv_aload_n hx hb dX0_takeTest_71 rfl (lv_at hl 1 rfl) ?_
      obtain ⟨v2, e2, hf⟩ := tk_bi hf
      refine tk_getR hx hb ht inX0 hown hE hs rfl 1 (by decide) (ht _ wfX0_15) e2 dX0_takeTest_72 ?_
      refine lv_iload_n hx hb dX0_takeTest_75 rfl (lv_at hl 2 rfl) ?_
      refine lv_iload hx hb dX0_takeTest_76 (lv_at hl 3 rfl) ?_
      obtain ⟨h3, e3, hf⟩ := tk_bi hf
      refine tk_iast hx hb hE hs e3 dX0_takeTest_78 (fun H locs hs => ?_)
      refine lv_aload_n hx hb dX0_takeTest_79 rfl (lv_at hl 1 rfl) ?_
      obtain ⟨v4, e4, hf⟩ := tk_bi hf
      refine tk_getR hx hb ht inX0 hown hE hs rfl 2 (by decide) (ht _ wfX0_18) e4 dX0_takeTest_80 ?_
      refine lv_iload_n hx hb dX0_takeTest_83 rfl (lv_at hl 2 rfl) ?_
      refine lv_iload hx hb dX0_takeTest_84 (lv_at hl 0 rfl) ?_
      obtain ⟨h5, e5, hf⟩ := tk_bi hf
      refine tk_iast hx hb hE hs e5 dX0_takeTest_86 (fun H locs hs => ?_)
      refine lv_aload_n hx hb dX0_takeTest_87 rfl (lv_at hl 1 rfl) ?_
      obtain ⟨v6, e6, hf⟩ := tk_bi hf
      refine tk_getR hx hb ht inX0 hown hE hs rfl 3 (by decide) (ht _ wfX0_21) e6 dX0_takeTest_88 ?_
      refine lv_iload_n hx hb dX0_takeTest_91 rfl (lv_at hl 2 rfl) ?_
      refine lv_dup2_11 hx hb dX0_takeTest_92 rfl rfl ?_
      obtain ⟨v7, e7, hf⟩ := tk_bi hf
      refine tk_iald hx hb hE hs e7 dX0_takeTest_93 ?_
      refine lv_iconst (v := 1) hx hb dX0_takeTest_94 (by decide) ?_
      refine lv_iadd hx hb dX0_takeTest_95 ?_
      obtain ⟨h8, e8, hf⟩ := tk_bi hf
      refine tk_iast hx hb hE hs e8 dX0_takeTest_96 (fun H locs hs => ?_)
      refine lv_iconst (v := 1) hx hb dX0_takeTest_97 (by decide) ?_
      obtain ⟨_, e9, hf⟩ := tk_bi hf
      have e9 := tk_bz_ok e9
      cases hf
      exact tk_zret hx hb hr hlocks e9 hs dX0_takeTest_98
    · rw [if_neg c1] at hf
      refine lv_aload_n hx hb dX0_takeTest_59 rfl (lv_at hl 1 rfl) ?_
      obtain ⟨v10, e10, hf⟩ := tk_bi hf
      refine tk_getR hx hb ht inX0 hown hE hs rfl 4 (by decide) (ht _ wfX0_24) e10 dX0_takeTest_60 ?_
      refine lv_iload_n hx hb dX0_takeTest_63 rfl (lv_at hl 2 rfl) ?_
      refine lv_dup2_11 hx hb dX0_takeTest_64 rfl rfl ?_
      obtain ⟨v11, e11, hf⟩ := tk_bi hf
      refine tk_iald hx hb hE hs e11 dX0_takeTest_65 ?_
      refine lv_iconst (v := 1) hx hb dX0_takeTest_66 (by decide) ?_
      refine lv_iadd hx hb dX0_takeTest_67 ?_
      obtain ⟨h12, e12, hf⟩ := tk_bi hf
      refine tk_iast hx hb hE hs e12 dX0_takeTest_68 (fun H locs hs => ?_)
      refine lv_iconst (v := 0) hx hb dX0_takeTest_69 (by decide) ?_
      obtain ⟨_, e13, hf⟩ := tk_bi hf
      have e13 := tk_bz_ok e13
      cases hf
      exact tk_zret hx hb hr hlocks e13 hs dX0_takeTest_70
  have j25 : ∀ (x0 : Nat) (x1 : Int32) (x2 : Int32) (x3 : Int32) (y0 : Int32) (h : tk_AH) (sz : Nat) (H : Heap) (locs : List Loc) (ls : Array Slot), fX0_takeTest_25 N x0 x1 x2 x3 y0 h sz = some (r9, h9, sz9) → tk_sw G s h sz H locs → lv_has ls 6 [(0, .ref x0), (1, .int x1), (2, .int x2), (3, .int x3)] → W p l e (headSpec (coX0_takeTest :: tk_W) ({ frames := 1, cells := 0, slots := 0, locals := 24 })).room s m args below meth c H locs 0 (0) (MQ below (tk_qc G (some (.int r9)) h9 sz9) args s 0 0 (tk_ag G)) (F0 m 25 ls [.int y0]) := by
    intro x0 x1 x2 x3 y0 h sz H locs ls hf hs hl
    unfold fX0_takeTest_25 at hf
    refine lv_istore (lv' := [(4, .int y0), (0, .ref x0), (1, .int x1), (2, .int x2), (3, .int x3)]) hx hb dX0_takeTest_25 hl (by decide) rfl (fun ls hl => ?_)
    refine lv_iload_n hx hb dX0_takeTest_27 rfl (lv_at hl 4 rfl) ?_
    refine lv_if_eq (tgt := 40) hx hb dX0_takeTest_28 (by decide) (fun c14 => ?_) (fun c14 => ?_)
    · rw [if_pos c14] at hf
      refine lv_aload_n hx hb dX0_takeTest_40 rfl (lv_at hl 1 rfl) ?_
      obtain ⟨v15, e15, hf⟩ := tk_bi hf
      refine tk_getR hx hb ht inX0 hown hE hs rfl 2 (by decide) (ht _ wfX0_18) e15 dX0_takeTest_41 ?_
      refine lv_iload_n hx hb dX0_takeTest_44 rfl (lv_at hl 2 rfl) ?_
      obtain ⟨v16, e16, hf⟩ := tk_bi hf
      refine tk_iald hx hb hE hs e16 dX0_takeTest_45 ?_
      refine lv_iload_n hx hb dX0_takeTest_46 rfl (lv_at hl 3 rfl) ?_
      refine va_mmin hx hb (hml.trans hl.1.symm) hown (ht _ wmX0_52) (ht _ wtMmin) (ht _ wnMath) (ht _ wcMmin) (Nat.le_of_ble_eq_true rfl) (Nat.le_of_ble_eq_true rfl) (Nat.le_of_ble_eq_true rfl) (Nat.zero_le _) dX0_takeTest_47 ?_
      exact j50 x0 x1 y0 (if x2 < v16 then x2 else v16) h sz _ _ _ hf hs (lv_sub hl [1, 2, 0] rfl)
    · rw [if_neg c14] at hf
      refine lv_aload_n hx hb dX0_takeTest_31 rfl (lv_at hl 1 rfl) ?_
      obtain ⟨v17, e17, hf⟩ := tk_bi hf
      refine tk_getR hx hb ht inX0 hown hE hs rfl 2 (by decide) (ht _ wfX0_18) e17 dX0_takeTest_32 ?_
      refine lv_iload_n hx hb dX0_takeTest_35 rfl (lv_at hl 2 rfl) ?_
      obtain ⟨v18, e18, hf⟩ := tk_bi hf
      refine tk_iald hx hb hE hs e18 dX0_takeTest_36 ?_
      refine lv_goto (tgt := 50) hx hb dX0_takeTest_37 (by decide) ?_
      exact j50 x0 x1 y0 v18 h sz _ _ _ hf hs (lv_sub hl [1, 2, 0] rfl)
  unfold fX0_takeTest at hf
  refine lv_iload_n hx hb dX0_takeTest_0 rfl (lv_at hl 3 rfl) ?_
  refine lv_if_eq (tgt := 19) hx hb dX0_takeTest_1 (by decide) (fun c19 => ?_) (fun c19 => ?_)
  · rw [if_pos c19] at hf
    refine lv_aload_n hx hb dX0_takeTest_19 rfl (lv_at hl 0 rfl) ?_
    obtain ⟨v20, e20, hf⟩ := tk_bi hf
    refine tk_getR hx hb ht inX0 hown hE hs rfl 1 (by decide) (ht _ wfX0_15) e20 dX0_takeTest_20 ?_
    refine lv_iload_n hx hb dX0_takeTest_23 rfl (lv_at hl 1 rfl) ?_
    obtain ⟨v21, e21, hf⟩ := tk_bi hf
    refine tk_iald hx hb hE hs e21 dX0_takeTest_24 ?_
    exact j25 x0 x1 x2 x3 v21 h sz _ _ _ hf hs (lv_sub hl [0, 1, 2, 3] rfl)
  · rw [if_neg c19] at hf
    refine lv_aload_n hx hb dX0_takeTest_4 rfl (lv_at hl 0 rfl) ?_
    obtain ⟨v22, e22, hf⟩ := tk_bi hf
    refine tk_getR hx hb ht inX0 hown hE hs rfl 1 (by decide) (ht _ wfX0_15) e22 dX0_takeTest_5 ?_
    refine lv_iload_n hx hb dX0_takeTest_8 rfl (lv_at hl 1 rfl) ?_
    obtain ⟨v23, e23, hf⟩ := tk_bi hf
    refine tk_iald hx hb hE hs e23 dX0_takeTest_9 ?_
    refine lv_iload_n hx hb dX0_takeTest_10 rfl (lv_at hl 2 rfl) ?_
    refine lv_iconst (v := 1) hx hb dX0_takeTest_11 (by decide) ?_
    refine lv_isub hx hb dX0_takeTest_12 ?_
    refine va_mmax hx hb (hml.trans hl.1.symm) hown (ht _ wmX0_46) (ht _ wtMmax) (ht _ wnMath) (ht _ wcMmax) (Nat.le_of_ble_eq_true rfl) (Nat.le_of_ble_eq_true rfl) (Nat.le_of_ble_eq_true rfl) (Nat.zero_le _) dX0_takeTest_13 ?_
    refine lv_goto (tgt := 25) hx hb dX0_takeTest_16 (by decide) ?_
    exact j25 x0 x1 x2 x3 (if v23 < (x2 - 1) then (x2 - 1) else v23) h sz _ _ _ hf hs (lv_sub hl [0, 1, 2, 3] rfl)
def fX0_has_36 (N : Nat) (y0 : Int32) (h : tk_AH) (sz : Nat) : Option (Int32 × tk_AH × Nat) :=
  (tk_bz y0).bind fun _ =>
  some (y0, h, sz)
def fX0_has_31 (N : Nat) (h : tk_AH) (sz : Nat) : Option (Int32 × tk_AH × Nat) :=
  fX0_has_36 N 1 h sz
def fX0_has_35 (N : Nat) (h : tk_AH) (sz : Nat) : Option (Int32 × tk_AH × Nat) :=
  fX0_has_36 N 0 h sz
def fX0_has (N : Nat) (x0 : Nat) (x1 : Int32) (h : tk_AH) (sz : Nat) : Option (Int32 × tk_AH × Nat) :=
  (tk_gR h 0 1 x0).bind fun v2 =>
  (tk_aI h 0 v2 x1).bind fun v3 =>
  if 7 ≤ v3 then (
  fX0_has_31 N h sz) else (
  (tk_gR h 0 3 x0).bind fun v5 =>
  (tk_aI h 0 v5 x1).bind fun v6 =>
  if v6 = 0 then (
  (tk_gR h 0 0 x0).bind fun v8 =>
  (tk_aI h 0 v8 x1).bind fun v9 =>
  if v9 < 8 then (
  fX0_has_35 N h sz) else (
  fX0_has_31 N h sz)) else (
  fX0_has_35 N h sz))
set_option maxHeartbeats 8000000 in
set_option maxRecDepth 100000 in
theorem cX0_has_ok (l : Launch) (hl0 : l.stackTraces = false) (G : tk_AG) (N : Nat) (x0 : Nat) (x1 : Int32) (h : tk_AH) (sz : Nat) (r9 : Int32) (h9 : tk_AH) (sz9 : Nat) (hf : fX0_has N x0 x1 h sz = some (r9, h9, sz9)) : Met l yX0_has (coX0_has :: tk_W) ({ frames := 0, cells := 0, slots := 0, locals := 0 }) (tk_pc G [.ref x0, .int x1] h sz) (tk_qc G (some (.int r9)) h9 sz9) 0 0 (tk_ag G) := by
  refine Met.ofW (cc := cX0_has) (maxL := 2) (ret := (some .boolean)) (by decide) rfl ?_
  intro p e s m args below meth c s₁ B hml hv
  obtain ⟨hav, hE, hrp, hsz, hgs⟩ := hv
  have hx := B.exec
  have hb := B.bytes
  have hr := B.returns
  have hts := atoms_spec (ws := coX0_has :: tk_W) B.pre
  have ht : ∀ w ∈ tk_W, w.before args s = true := fun w h => hts w (List.mem_cons_of_mem _ h)
  have hown : s.vm.findClass RX0 = some m.cls := findClass_of_methodNamed B.named
  have hlocks := B.notSynchronized
  have hs : tk_sw G s h sz s.heap [] := ⟨hrp, hsz, by rw [hsz]; exact hgs, va_S.rf⟩
  have hl := lv_entry ([.ref x0, .int x1]) (n := 2) (Nat.le_of_ble_eq_true rfl)
  have hent : entryFrame m args 2 = F0 m 0 (lg_sl ([.ref x0, .int x1]) ++ List.replicate (2 - (lg_sl ([.ref x0, .int x1])).length) Slot.unset).toArray [] := by rw [hav, lg_entry_eq]
  rw [hent]
  clear hent
  generalize (lg_sl ([.ref x0, .int x1]) ++ List.replicate (2 - (lg_sl ([.ref x0, .int x1])).length) Slot.unset).toArray = ls at hl ⊢
  have hl : lv_has ls 2 [(0, .ref x0), (1, .int x1)] := hl
  have j36 : ∀ (y0 : Int32) (h : tk_AH) (sz : Nat) (H : Heap) (locs : List Loc) (ls : Array Slot), fX0_has_36 N y0 h sz = some (r9, h9, sz9) → tk_sw G s h sz H locs → lv_has ls 2 [] → W p l e (headSpec (coX0_has :: tk_W) ({ frames := 0, cells := 0, slots := 0, locals := 0 })).room s m args below meth c H locs 0 (0) (MQ below (tk_qc G (some (.int r9)) h9 sz9) args s 0 0 (tk_ag G)) (F0 m 36 ls [.int y0]) := by
    intro y0 h sz H locs ls hf hs hl
    unfold fX0_has_36 at hf
    obtain ⟨_, e1, hf⟩ := tk_bi hf
    have e1 := tk_bz_ok e1
    cases hf
    exact tk_zret hx hb hr hlocks e1 hs dX0_has_36
  have j31 : ∀ (h : tk_AH) (sz : Nat) (H : Heap) (locs : List Loc) (ls : Array Slot), fX0_has_31 N h sz = some (r9, h9, sz9) → tk_sw G s h sz H locs → lv_has ls 2 [] → W p l e (headSpec (coX0_has :: tk_W) ({ frames := 0, cells := 0, slots := 0, locals := 0 })).room s m args below meth c H locs 0 (0) (MQ below (tk_qc G (some (.int r9)) h9 sz9) args s 0 0 (tk_ag G)) (F0 m 31 ls []) := by
    intro h sz H locs ls hf hs hl
    unfold fX0_has_31 at hf
    refine lv_iconst (v := 1) hx hb dX0_has_31 (by decide) ?_
    refine lv_goto (tgt := 36) hx hb dX0_has_32 (by decide) ?_
    exact j36 1 h sz _ _ _ hf hs (lv_sub hl [] rfl)
  have j35 : ∀ (h : tk_AH) (sz : Nat) (H : Heap) (locs : List Loc) (ls : Array Slot), fX0_has_35 N h sz = some (r9, h9, sz9) → tk_sw G s h sz H locs → lv_has ls 2 [] → W p l e (headSpec (coX0_has :: tk_W) ({ frames := 0, cells := 0, slots := 0, locals := 0 })).room s m args below meth c H locs 0 (0) (MQ below (tk_qc G (some (.int r9)) h9 sz9) args s 0 0 (tk_ag G)) (F0 m 35 ls []) := by
    intro h sz H locs ls hf hs hl
    unfold fX0_has_35 at hf
    refine lv_iconst (v := 0) hx hb dX0_has_35 (by decide) ?_
    exact j36 0 h sz _ _ _ hf hs (lv_sub hl [] rfl)
  unfold fX0_has at hf
  refine lv_aload_n hx hb dX0_has_0 rfl (lv_at hl 0 rfl) ?_
  obtain ⟨v2, e2, hf⟩ := tk_bi hf
  refine tk_getR hx hb ht inX0 hown hE hs rfl 1 (by decide) (ht _ wfX0_15) e2 dX0_has_1 ?_
  refine lv_iload_n hx hb dX0_has_4 rfl (lv_at hl 1 rfl) ?_
  obtain ⟨v3, e3, hf⟩ := tk_bi hf
  refine tk_iald hx hb hE hs e3 dX0_has_5 ?_
  refine lv_bipush (v := 7) hx hb dX0_has_6 (by decide) ?_
  refine lv_icmp_ge (tgt := 31) hx hb dX0_has_8 (by decide) (fun c4 => ?_) (fun c4 => ?_)
  · rw [if_pos c4] at hf
    exact j31 h sz _ _ _ hf hs (lv_sub hl [] rfl)
  · rw [if_neg c4] at hf
    refine lv_aload_n hx hb dX0_has_11 rfl (lv_at hl 0 rfl) ?_
    obtain ⟨v5, e5, hf⟩ := tk_bi hf
    refine tk_getR hx hb ht inX0 hown hE hs rfl 3 (by decide) (ht _ wfX0_21) e5 dX0_has_12 ?_
    refine lv_iload_n hx hb dX0_has_15 rfl (lv_at hl 1 rfl) ?_
    obtain ⟨v6, e6, hf⟩ := tk_bi hf
    refine tk_iald hx hb hE hs e6 dX0_has_16 ?_
    refine lv_if_ne (tgt := 35) hx hb dX0_has_17 (by decide) (fun c7 => ?_) (fun c7 => ?_)
    · rw [if_neg c7] at hf
      exact j35 h sz _ _ _ hf hs (lv_sub hl [] rfl)
    · rw [if_pos c7] at hf
      refine lv_aload_n hx hb dX0_has_20 rfl (lv_at hl 0 rfl) ?_
      obtain ⟨v8, e8, hf⟩ := tk_bi hf
      refine tk_getR hx hb ht inX0 hown hE hs rfl 0 (by decide) (ht _ wfX0_9) e8 dX0_has_21 ?_
      refine lv_iload_n hx hb dX0_has_24 rfl (lv_at hl 1 rfl) ?_
      obtain ⟨v9, e9, hf⟩ := tk_bi hf
      refine tk_iald hx hb hE hs e9 dX0_has_25 ?_
      refine lv_bipush (v := 8) hx hb dX0_has_26 (by decide) ?_
      refine lv_icmp_lt (tgt := 35) hx hb dX0_has_28 (by decide) (fun c10 => ?_) (fun c10 => ?_)
      · rw [if_pos c10] at hf
        exact j35 h sz _ _ _ hf hs (lv_sub hl [] rfl)
      · rw [if_neg c10] at hf
        exact j31 h sz _ _ _ hf hs (lv_sub hl [] rfl)
def fX0_giftTo_2 (N : Nat) : Nat → Nat → Nat → Int32 → tk_AH → Nat → Option (Int32 × tk_AH × Nat)
  | 0, _, _, _, _, _ => none
  | n + 1, x0, x1, x2, h, sz =>
  (tk_gI h 0 9 x1).bind fun v1 =>
  if v1 ≤ x2 then (
  some ((-1), h, sz)) else (
  (tk_gR h 0 5 x1).bind fun v3 =>
  (tk_aI h 0 v3 x2).bind fun v4 =>
  (tk_ok h 0 x0).bind fun _ =>
  (fX0_has N x0 v4 h sz).bind fun o5 =>
  if o5.1 = 0 then (
  fX0_giftTo_2 N n x0 x1 (x2 + 1) o5.2.1 o5.2.2) else (
  (tk_gR o5.2.1 0 5 x1).bind fun v8 =>
  (tk_aI o5.2.1 0 v8 x2).bind fun v9 =>
  some (v9, o5.2.1, o5.2.2)))
def fX0_giftTo (N : Nat) (x0 : Nat) (x1 : Nat) (h : tk_AH) (sz : Nat) : Option (Int32 × tk_AH × Nat) :=
  fX0_giftTo_2 N N x0 x1 0 h sz
set_option maxHeartbeats 8000000 in
set_option maxRecDepth 100000 in
theorem cX0_giftTo_ok (l : Launch) (hl0 : l.stackTraces = false) (G : tk_AG) (N : Nat) (x0 : Nat) (x1 : Nat) (h : tk_AH) (sz : Nat) (r9 : Int32) (h9 : tk_AH) (sz9 : Nat) (hf : fX0_giftTo N x0 x1 h sz = some (r9, h9, sz9)) : Met l yX0_giftTo (coX0_giftTo :: tk_W) ({ frames := 1, cells := 0, slots := 0, locals := 21 }) (tk_pc G [.ref x0, .ref x1] h sz) (tk_qc G (some (.int r9)) h9 sz9) 0 0 (tk_ag G) := by
  refine Met.ofW (cc := cX0_giftTo) (maxL := 3) (ret := (some .int)) (by decide) rfl ?_
  intro p e s m args below meth c s₁ B hml hv
  obtain ⟨hav, hE, hrp, hsz, hgs⟩ := hv
  have hx := B.exec
  have hb := B.bytes
  have hr := B.returns
  have hts := atoms_spec (ws := coX0_giftTo :: tk_W) B.pre
  have ht : ∀ w ∈ tk_W, w.before args s = true := fun w h => hts w (List.mem_cons_of_mem _ h)
  have hown : s.vm.findClass RX0 = some m.cls := findClass_of_methodNamed B.named
  have hlocks := B.notSynchronized
  have hs : tk_sw G s h sz s.heap [] := ⟨hrp, hsz, by rw [hsz]; exact hgs, va_S.rf⟩
  have hl := lv_entry ([.ref x0, .ref x1]) (n := 3) (Nat.le_of_ble_eq_true rfl)
  have hent : entryFrame m args 3 = F0 m 0 (lg_sl ([.ref x0, .ref x1]) ++ List.replicate (3 - (lg_sl ([.ref x0, .ref x1])).length) Slot.unset).toArray [] := by rw [hav, lg_entry_eq]
  rw [hent]
  clear hent
  generalize (lg_sl ([.ref x0, .ref x1]) ++ List.replicate (3 - (lg_sl ([.ref x0, .ref x1])).length) Slot.unset).toArray = ls at hl ⊢
  have hl : lv_has ls 3 [(0, .ref x0), (1, .ref x1)] := hl
  have j2 : ∀ (n : Nat), ∀ (x0 : Nat) (x1 : Nat) (x2 : Int32) (h : tk_AH) (sz : Nat) (H : Heap) (locs : List Loc) (ls : Array Slot), fX0_giftTo_2 N n x0 x1 x2 h sz = some (r9, h9, sz9) → tk_sw G s h sz H locs → lv_has ls 3 [(0, .ref x0), (1, .ref x1), (2, .int x2)] → W p l e (headSpec (coX0_giftTo :: tk_W) ({ frames := 1, cells := 0, slots := 0, locals := 21 })).room s m args below meth c H locs 0 (0) (MQ below (tk_qc G (some (.int r9)) h9 sz9) args s 0 0 (tk_ag G)) (F0 m 2 ls []) := by
    intro n
    induction n with
    | zero =>
      intro x0 x1 x2 h sz H locs ls hf
      cases hf
    | succ n ih =>
      intro x0 x1 x2 h sz H locs ls hf hs hl
      rw [fX0_giftTo_2] at hf
      refine lv_iload_n hx hb dX0_giftTo_2 rfl (lv_at hl 2 rfl) ?_
      refine lv_aload_n hx hb dX0_giftTo_3 rfl (lv_at hl 1 rfl) ?_
      obtain ⟨v1, e1, hf⟩ := tk_bi hf
      refine tk_getI hx hb ht inX0 hown hE hs rfl 9 (by decide) (ht _ wfX0_40) e1 dX0_giftTo_4 ?_
      refine lv_icmp_ge (tgt := 36) hx hb dX0_giftTo_7 (by decide) (fun c2 => ?_) (fun c2 => ?_)
      · rw [if_pos c2] at hf
        refine lv_iconst (v := (-1)) hx hb dX0_giftTo_36 (by decide) ?_
        cases hf
        exact tk_iret hx hb hr hlocks hs dX0_giftTo_37
      · rw [if_neg c2] at hf
        refine lv_aload_n hx hb dX0_giftTo_10 rfl (lv_at hl 0 rfl) ?_
        refine lv_aload_n hx hb dX0_giftTo_11 rfl (lv_at hl 1 rfl) ?_
        obtain ⟨v3, e3, hf⟩ := tk_bi hf
        refine tk_getR hx hb ht inX0 hown hE hs rfl 5 (by decide) (ht _ wfX0_27) e3 dX0_giftTo_12 ?_
        refine lv_iload_n hx hb dX0_giftTo_15 rfl (lv_at hl 2 rfl) ?_
        obtain ⟨v4, e4, hf⟩ := tk_bi hf
        refine tk_iald hx hb hE hs e4 dX0_giftTo_16 ?_
        obtain ⟨_, p5, hf⟩ := tk_bi hf
        obtain ⟨o5, e5, hf⟩ := tk_bi hf
        refine tk_call0 (v := some (.int o5.1)) hs (va_runV (As := [.int v4]) (rest := []) ⟨hx, hb, hml, hown, ht⟩ (cX0_has_ok l hl0 G N x0 v4 h sz o5.1 o5.2.1 o5.2.2 e5) (kwX0_has ht wmX0_55 rfl rfl ⟨Nat.le_of_ble_eq_true rfl, Nat.le_of_ble_eq_true rfl⟩) (tk_preV hE hs (tk_ok_ok p5) rfl) rfl rfl hl.1 rfl (lv_room (Nat.le_of_ble_eq_true rfl)) dX0_giftTo_17 ⟨(Nat.le_of_ble_eq_true rfl), (Nat.le_of_ble_eq_true rfl)⟩) (fun H locs hs => ?_)
        refine W.eq (g2 := F0 m 20 ls [.int o5.1]) rfl ?_
        refine lv_if_eq (tgt := 30) hx hb dX0_giftTo_20 (by decide) (fun c7 => ?_) (fun c7 => ?_)
        · rw [if_pos c7] at hf
          refine lv_iinc (v := x2 + 1) (lv' := [(2, .int (x2 + 1)), (0, .ref x0), (1, .ref x1)]) hx hb dX0_giftTo_30 hl (k := 2) rfl rfl (by decide) rfl (fun ls hl => ?_)
          refine lv_goto (tgt := 2) hx hb dX0_giftTo_33 (by decide) ?_
          exact ih x0 x1 (x2 + 1) o5.2.1 o5.2.2 _ _ _ hf hs (lv_sub hl [1, 2, 0] rfl)
        · rw [if_neg c7] at hf
          refine lv_aload_n hx hb dX0_giftTo_23 rfl (lv_at hl 1 rfl) ?_
          obtain ⟨v8, e8, hf⟩ := tk_bi hf
          refine tk_getR hx hb ht inX0 hown hE hs rfl 5 (by decide) (ht _ wfX0_27) e8 dX0_giftTo_24 ?_
          refine lv_iload_n hx hb dX0_giftTo_27 rfl (lv_at hl 2 rfl) ?_
          obtain ⟨v9, e9, hf⟩ := tk_bi hf
          refine tk_iald hx hb hE hs e9 dX0_giftTo_28 ?_
          cases hf
          exact tk_iret hx hb hr hlocks hs dX0_giftTo_29
  unfold fX0_giftTo at hf
  refine lv_iconst (v := 0) hx hb dX0_giftTo_0 (by decide) ?_
  refine lv_istore_n (lv' := [(2, .int 0), (0, .ref x0), (1, .ref x1)]) hx hb dX0_giftTo_1 rfl hl (by decide) rfl (fun ls hl => ?_)
  exact j2 N x0 x1 0 h sz _ _ _ hf hs (lv_sub hl [1, 2, 0] rfl)
def fX0_waitLonger (N : Nat) (x0 : Nat) (x1 : Int32) (h : tk_AH) (sz : Nat) : Option (tk_AH × Nat) :=
  (tk_gI h 0 11 x0).bind fun v1 =>
  (tk_pF h 0 11 x0 (.int (if (v1 + x1) < 20 then (v1 + x1) else 20))).bind fun h2 =>
  some (h2, sz)
set_option maxHeartbeats 8000000 in
set_option maxRecDepth 100000 in
theorem cX0_waitLonger_ok (l : Launch) (hl0 : l.stackTraces = false) (G : tk_AG) (N : Nat) (x0 : Nat) (x1 : Int32) (h : tk_AH) (sz : Nat) (h9 : tk_AH) (sz9 : Nat) (hf : fX0_waitLonger N x0 x1 h sz = some (h9, sz9)) : Met l yX0_waitLonger (coX0_waitLonger :: tk_W) ({ frames := 1, cells := 0, slots := 0, locals := 24 }) (tk_pc G [.ref x0, .int x1] h sz) (tk_qc G none h9 sz9) 0 0 (tk_ag G) := by
  refine Met.ofW (cc := cX0_waitLonger) (maxL := 2) (ret := none) (by decide) rfl ?_
  intro p e s m args below meth c s₁ B hml hv
  obtain ⟨hav, hE, hrp, hsz, hgs⟩ := hv
  have hx := B.exec
  have hb := B.bytes
  have hr := B.returns
  have hts := atoms_spec (ws := coX0_waitLonger :: tk_W) B.pre
  have ht : ∀ w ∈ tk_W, w.before args s = true := fun w h => hts w (List.mem_cons_of_mem _ h)
  have hown : s.vm.findClass RX0 = some m.cls := findClass_of_methodNamed B.named
  have hlocks := B.notSynchronized
  have hs : tk_sw G s h sz s.heap [] := ⟨hrp, hsz, by rw [hsz]; exact hgs, va_S.rf⟩
  have hl := lv_entry ([.ref x0, .int x1]) (n := 2) (Nat.le_of_ble_eq_true rfl)
  have hent : entryFrame m args 2 = F0 m 0 (lg_sl ([.ref x0, .int x1]) ++ List.replicate (2 - (lg_sl ([.ref x0, .int x1])).length) Slot.unset).toArray [] := by rw [hav, lg_entry_eq]
  rw [hent]
  clear hent
  generalize (lg_sl ([.ref x0, .int x1]) ++ List.replicate (2 - (lg_sl ([.ref x0, .int x1])).length) Slot.unset).toArray = ls at hl ⊢
  have hl : lv_has ls 2 [(0, .ref x0), (1, .int x1)] := hl
  unfold fX0_waitLonger at hf
  refine lv_aload_n hx hb dX0_waitLonger_0 rfl (lv_at hl 0 rfl) ?_
  refine lv_bipush (v := 20) hx hb dX0_waitLonger_1 (by decide) ?_
  refine lv_aload_n hx hb dX0_waitLonger_3 rfl (lv_at hl 0 rfl) ?_
  obtain ⟨v1, e1, hf⟩ := tk_bi hf
  refine tk_getI hx hb ht inX0 hown hE hs rfl 11 (by decide) (ht _ wfX0_59) e1 dX0_waitLonger_4 ?_
  refine lv_iload_n hx hb dX0_waitLonger_7 rfl (lv_at hl 1 rfl) ?_
  refine lv_iadd hx hb dX0_waitLonger_8 ?_
  refine va_mmin hx hb (hml.trans hl.1.symm) hown (ht _ wmX0_52) (ht _ wtMmin) (ht _ wnMath) (ht _ wcMmin) (Nat.le_of_ble_eq_true rfl) (Nat.le_of_ble_eq_true rfl) (Nat.le_of_ble_eq_true rfl) (Nat.zero_le _) dX0_waitLonger_9 ?_
  obtain ⟨h2, e2, hf⟩ := tk_bi hf
  refine tk_put hx hb ht inX0 tyX0 tyX0_ok nmX0 hown hE hs rfl 11 (by decide) (ht _ wfX0_59) rfl rfl rfl e2 dX0_waitLonger_12 (fun H locs hs => ?_)
  cases hf
  exact tk_vret hx hb hr hlocks hs dX0_waitLonger_15
def fX0_addWord (N : Nat) (x0 : Nat) (x1 : Int32) (h : tk_AH) (sz : Nat) : Option (Int32 × tk_AH × Nat) :=
  (tk_gI h 0 10 x0).bind fun v1 =>
  if v1 < 40 then (
  (tk_gR h 0 6 x0).bind fun v3 =>
  (tk_gI h 0 10 x0).bind fun v4 =>
  (tk_sI h 0 v3 v4 0).bind fun h5 =>
  (tk_gR h5 0 7 x0).bind fun v6 =>
  (tk_gI h5 0 10 x0).bind fun v7 =>
  (tk_sI h5 0 v6 v7 x1).bind fun h8 =>
  (tk_gI h8 0 10 x0).bind fun v9 =>
  (tk_pF h8 0 10 x0 (.int (v9 + 1))).bind fun h10 =>
  (tk_gI h10 0 10 x0).bind fun v11 =>
  some (v11 - 1, h10, sz)) else (
  some ((-1), h, sz))
set_option maxHeartbeats 8000000 in
set_option maxRecDepth 100000 in
theorem cX0_addWord_ok (l : Launch) (hl0 : l.stackTraces = false) (G : tk_AG) (N : Nat) (x0 : Nat) (x1 : Int32) (h : tk_AH) (sz : Nat) (r9 : Int32) (h9 : tk_AH) (sz9 : Nat) (hf : fX0_addWord N x0 x1 h sz = some (r9, h9, sz9)) : Met l yX0_addWord (coX0_addWord :: tk_W) ({ frames := 0, cells := 0, slots := 0, locals := 0 }) (tk_pc G [.ref x0, .int x1] h sz) (tk_qc G (some (.int r9)) h9 sz9) 0 0 (tk_ag G) := by
  refine Met.ofW (cc := cX0_addWord) (maxL := 2) (ret := (some .int)) (by decide) rfl ?_
  intro p e s m args below meth c s₁ B hml hv
  obtain ⟨hav, hE, hrp, hsz, hgs⟩ := hv
  have hx := B.exec
  have hb := B.bytes
  have hr := B.returns
  have hts := atoms_spec (ws := coX0_addWord :: tk_W) B.pre
  have ht : ∀ w ∈ tk_W, w.before args s = true := fun w h => hts w (List.mem_cons_of_mem _ h)
  have hown : s.vm.findClass RX0 = some m.cls := findClass_of_methodNamed B.named
  have hlocks := B.notSynchronized
  have hs : tk_sw G s h sz s.heap [] := ⟨hrp, hsz, by rw [hsz]; exact hgs, va_S.rf⟩
  have hl := lv_entry ([.ref x0, .int x1]) (n := 2) (Nat.le_of_ble_eq_true rfl)
  have hent : entryFrame m args 2 = F0 m 0 (lg_sl ([.ref x0, .int x1]) ++ List.replicate (2 - (lg_sl ([.ref x0, .int x1])).length) Slot.unset).toArray [] := by rw [hav, lg_entry_eq]
  rw [hent]
  clear hent
  generalize (lg_sl ([.ref x0, .int x1]) ++ List.replicate (2 - (lg_sl ([.ref x0, .int x1])).length) Slot.unset).toArray = ls at hl ⊢
  have hl : lv_has ls 2 [(0, .ref x0), (1, .int x1)] := hl
  unfold fX0_addWord at hf
  refine lv_aload_n hx hb dX0_addWord_0 rfl (lv_at hl 0 rfl) ?_
  obtain ⟨v1, e1, hf⟩ := tk_bi hf
  refine tk_getI hx hb ht inX0 hown hE hs rfl 10 (by decide) (ht _ wfX0_62) e1 dX0_addWord_1 ?_
  refine lv_bipush (v := 40) hx hb dX0_addWord_4 (by decide) ?_
  refine lv_icmp_lt (tgt := 11) hx hb dX0_addWord_6 (by decide) (fun c2 => ?_) (fun c2 => ?_)
  · rw [if_pos c2] at hf
    refine lv_aload_n hx hb dX0_addWord_11 rfl (lv_at hl 0 rfl) ?_
    obtain ⟨v3, e3, hf⟩ := tk_bi hf
    refine tk_getR hx hb ht inX0 hown hE hs rfl 6 (by decide) (ht _ wfX0_30) e3 dX0_addWord_12 ?_
    refine lv_aload_n hx hb dX0_addWord_15 rfl (lv_at hl 0 rfl) ?_
    obtain ⟨v4, e4, hf⟩ := tk_bi hf
    refine tk_getI hx hb ht inX0 hown hE hs rfl 10 (by decide) (ht _ wfX0_62) e4 dX0_addWord_16 ?_
    refine lv_iconst (v := 0) hx hb dX0_addWord_19 (by decide) ?_
    obtain ⟨h5, e5, hf⟩ := tk_bi hf
    refine tk_iast hx hb hE hs e5 dX0_addWord_20 (fun H locs hs => ?_)
    refine lv_aload_n hx hb dX0_addWord_21 rfl (lv_at hl 0 rfl) ?_
    obtain ⟨v6, e6, hf⟩ := tk_bi hf
    refine tk_getR hx hb ht inX0 hown hE hs rfl 7 (by decide) (ht _ wfX0_33) e6 dX0_addWord_22 ?_
    refine lv_aload_n hx hb dX0_addWord_25 rfl (lv_at hl 0 rfl) ?_
    obtain ⟨v7, e7, hf⟩ := tk_bi hf
    refine tk_getI hx hb ht inX0 hown hE hs rfl 10 (by decide) (ht _ wfX0_62) e7 dX0_addWord_26 ?_
    refine lv_iload_n hx hb dX0_addWord_29 rfl (lv_at hl 1 rfl) ?_
    obtain ⟨h8, e8, hf⟩ := tk_bi hf
    refine tk_iast hx hb hE hs e8 dX0_addWord_30 (fun H locs hs => ?_)
    refine lv_aload_n hx hb dX0_addWord_31 rfl (lv_at hl 0 rfl) ?_
    refine lv_dup hx hb dX0_addWord_32 rfl ?_
    obtain ⟨v9, e9, hf⟩ := tk_bi hf
    refine tk_getI hx hb ht inX0 hown hE hs rfl 10 (by decide) (ht _ wfX0_62) e9 dX0_addWord_33 ?_
    refine lv_iconst (v := 1) hx hb dX0_addWord_36 (by decide) ?_
    refine lv_iadd hx hb dX0_addWord_37 ?_
    obtain ⟨h10, e10, hf⟩ := tk_bi hf
    refine tk_put hx hb ht inX0 tyX0 tyX0_ok nmX0 hown hE hs rfl 10 (by decide) (ht _ wfX0_62) rfl rfl rfl e10 dX0_addWord_38 (fun H locs hs => ?_)
    refine lv_aload_n hx hb dX0_addWord_41 rfl (lv_at hl 0 rfl) ?_
    obtain ⟨v11, e11, hf⟩ := tk_bi hf
    refine tk_getI hx hb ht inX0 hown hE hs rfl 10 (by decide) (ht _ wfX0_62) e11 dX0_addWord_42 ?_
    refine lv_iconst (v := 1) hx hb dX0_addWord_45 (by decide) ?_
    refine lv_isub hx hb dX0_addWord_46 ?_
    cases hf
    exact tk_iret hx hb hr hlocks hs dX0_addWord_47
  · rw [if_neg c2] at hf
    refine lv_iconst (v := (-1)) hx hb dX0_addWord_9 (by decide) ?_
    cases hf
    exact tk_iret hx hb hr hlocks hs dX0_addWord_10
def fX0_answerWord_37 (N : Nat) (x0 : Nat) (x1 : Int32) (x3 : Int32) (y0 : Int32) (y1 : Int32) (y2 : Nat) (h : tk_AH) (sz : Nat) : Option (Int32 × tk_AH × Nat) :=
  (tk_sI h 0 y2 y1 y0).bind fun h1 =>
  (tk_gR h1 0 7 x0).bind fun v2 =>
  (tk_gR h1 0 6 x0).bind fun v3 =>
  (tk_aI h1 0 v3 x1).bind fun v4 =>
  (tk_sI h1 0 v2 x1 (x3 + (1 <<< (v4 &&& 31)))).bind fun h5 =>
  (tk_bz 1).bind fun _ =>
  some (1, h5, sz)
def fX0_answerWord (N : Nat) (x0 : Nat) (x1 : Int32) (x2 : Int32) (x3 : Int32) (h : tk_AH) (sz : Nat) : Option (Int32 × tk_AH × Nat) :=
  (tk_gR h 0 7 x0).bind fun v7 =>
  (tk_aI h 0 v7 x1).bind fun v8 =>
  if v8 ≤ x3 then (
  (tk_gR h 0 6 x0).bind fun v10 =>
  if x2 = 0 then (
  fX0_answerWord_37 N x0 x1 x3 0 x1 v10 h sz) else (
  (tk_gR h 0 6 x0).bind fun v12 =>
  (tk_aI h 0 v12 x1).bind fun v13 =>
  fX0_answerWord_37 N x0 x1 x3 (if (v13 + 1) < 5 then (v13 + 1) else 5) x1 v10 h sz)) else (
  (tk_bz 0).bind fun _ =>
  some (0, h, sz))
set_option maxHeartbeats 8000000 in
set_option maxRecDepth 100000 in
theorem cX0_answerWord_ok (l : Launch) (hl0 : l.stackTraces = false) (G : tk_AG) (N : Nat) (x0 : Nat) (x1 : Int32) (x2 : Int32) (x3 : Int32) (h : tk_AH) (sz : Nat) (r9 : Int32) (h9 : tk_AH) (sz9 : Nat) (hf : fX0_answerWord N x0 x1 x2 x3 h sz = some (r9, h9, sz9)) : Met l yX0_answerWord (coX0_answerWord :: tk_W) ({ frames := 1, cells := 0, slots := 0, locals := 24 }) (tk_pc G [.ref x0, .int x1, .int x2, .int x3] h sz) (tk_qc G (some (.int r9)) h9 sz9) 0 0 (tk_ag G) := by
  refine Met.ofW (cc := cX0_answerWord) (maxL := 4) (ret := (some .boolean)) (by decide) rfl ?_
  intro p e s m args below meth c s₁ B hml hv
  obtain ⟨hav, hE, hrp, hsz, hgs⟩ := hv
  have hx := B.exec
  have hb := B.bytes
  have hr := B.returns
  have hts := atoms_spec (ws := coX0_answerWord :: tk_W) B.pre
  have ht : ∀ w ∈ tk_W, w.before args s = true := fun w h => hts w (List.mem_cons_of_mem _ h)
  have hown : s.vm.findClass RX0 = some m.cls := findClass_of_methodNamed B.named
  have hlocks := B.notSynchronized
  have hs : tk_sw G s h sz s.heap [] := ⟨hrp, hsz, by rw [hsz]; exact hgs, va_S.rf⟩
  have hl := lv_entry ([.ref x0, .int x1, .int x2, .int x3]) (n := 4) (Nat.le_of_ble_eq_true rfl)
  have hent : entryFrame m args 4 = F0 m 0 (lg_sl ([.ref x0, .int x1, .int x2, .int x3]) ++ List.replicate (4 - (lg_sl ([.ref x0, .int x1, .int x2, .int x3])).length) Slot.unset).toArray [] := by rw [hav, lg_entry_eq]
  rw [hent]
  clear hent
  generalize (lg_sl ([.ref x0, .int x1, .int x2, .int x3]) ++ List.replicate (4 - (lg_sl ([.ref x0, .int x1, .int x2, .int x3])).length) Slot.unset).toArray = ls at hl ⊢
  have hl : lv_has ls 4 [(0, .ref x0), (1, .int x1), (2, .int x2), (3, .int x3)] := hl
  have j37 : ∀ (x0 : Nat) (x1 : Int32) (x3 : Int32) (y0 : Int32) (y1 : Int32) (y2 : Nat) (h : tk_AH) (sz : Nat) (H : Heap) (locs : List Loc) (ls : Array Slot), fX0_answerWord_37 N x0 x1 x3 y0 y1 y2 h sz = some (r9, h9, sz9) → tk_sw G s h sz H locs → lv_has ls 4 [(0, .ref x0), (1, .int x1), (3, .int x3)] → W p l e (headSpec (coX0_answerWord :: tk_W) ({ frames := 1, cells := 0, slots := 0, locals := 24 })).room s m args below meth c H locs 0 (0) (MQ below (tk_qc G (some (.int r9)) h9 sz9) args s 0 0 (tk_ag G)) (F0 m 37 ls [.int y0, .int y1, .ref y2]) := by
    intro x0 x1 x3 y0 y1 y2 h sz H locs ls hf hs hl
    unfold fX0_answerWord_37 at hf
    obtain ⟨h1, e1, hf⟩ := tk_bi hf
    refine tk_iast hx hb hE hs e1 dX0_answerWord_37 (fun H locs hs => ?_)
    refine lv_aload_n hx hb dX0_answerWord_38 rfl (lv_at hl 0 rfl) ?_
    obtain ⟨v2, e2, hf⟩ := tk_bi hf
    refine tk_getR hx hb ht inX0 hown hE hs rfl 7 (by decide) (ht _ wfX0_33) e2 dX0_answerWord_39 ?_
    refine lv_iload_n hx hb dX0_answerWord_42 rfl (lv_at hl 1 rfl) ?_
    refine lv_iload_n hx hb dX0_answerWord_43 rfl (lv_at hl 2 rfl) ?_
    refine lv_iconst (v := 1) hx hb dX0_answerWord_44 (by decide) ?_
    refine lv_aload_n hx hb dX0_answerWord_45 rfl (lv_at hl 0 rfl) ?_
    obtain ⟨v3, e3, hf⟩ := tk_bi hf
    refine tk_getR hx hb ht inX0 hown hE hs rfl 6 (by decide) (ht _ wfX0_30) e3 dX0_answerWord_46 ?_
    refine lv_iload_n hx hb dX0_answerWord_49 rfl (lv_at hl 1 rfl) ?_
    obtain ⟨v4, e4, hf⟩ := tk_bi hf
    refine tk_iald hx hb hE hs e4 dX0_answerWord_50 ?_
    refine lv_ishl hx hb dX0_answerWord_51 ?_
    refine lv_iadd hx hb dX0_answerWord_52 ?_
    obtain ⟨h5, e5, hf⟩ := tk_bi hf
    refine tk_iast hx hb hE hs e5 dX0_answerWord_53 (fun H locs hs => ?_)
    refine lv_iconst (v := 1) hx hb dX0_answerWord_54 (by decide) ?_
    obtain ⟨_, e6, hf⟩ := tk_bi hf
    have e6 := tk_bz_ok e6
    cases hf
    exact tk_zret hx hb hr hlocks e6 hs dX0_answerWord_55
  unfold fX0_answerWord at hf
  refine lv_aload_n hx hb dX0_answerWord_0 rfl (lv_at hl 0 rfl) ?_
  obtain ⟨v7, e7, hf⟩ := tk_bi hf
  refine tk_getR hx hb ht inX0 hown hE hs rfl 7 (by decide) (ht _ wfX0_33) e7 dX0_answerWord_1 ?_
  refine lv_iload_n hx hb dX0_answerWord_4 rfl (lv_at hl 1 rfl) ?_
  obtain ⟨v8, e8, hf⟩ := tk_bi hf
  refine tk_iald hx hb hE hs e8 dX0_answerWord_5 ?_
  refine lv_iload_n hx hb dX0_answerWord_6 rfl (lv_at hl 3 rfl) ?_
  refine lv_icmp_le (tgt := 12) hx hb dX0_answerWord_7 (by decide) (fun c9 => ?_) (fun c9 => ?_)
  · rw [if_pos c9] at hf
    refine lv_aload_n hx hb dX0_answerWord_12 rfl (lv_at hl 0 rfl) ?_
    obtain ⟨v10, e10, hf⟩ := tk_bi hf
    refine tk_getR hx hb ht inX0 hown hE hs rfl 6 (by decide) (ht _ wfX0_30) e10 dX0_answerWord_13 ?_
    refine lv_iload_n hx hb dX0_answerWord_16 rfl (lv_at hl 1 rfl) ?_
    refine lv_iload_n hx hb dX0_answerWord_17 rfl (lv_at hl 2 rfl) ?_
    refine lv_if_eq (tgt := 36) hx hb dX0_answerWord_18 (by decide) (fun c11 => ?_) (fun c11 => ?_)
    · rw [if_pos c11] at hf
      refine lv_iconst (v := 0) hx hb dX0_answerWord_36 (by decide) ?_
      exact j37 x0 x1 x3 0 x1 v10 h sz _ _ _ hf hs (lv_sub hl [0, 1, 3] rfl)
    · rw [if_neg c11] at hf
      refine lv_iconst (v := 5) hx hb dX0_answerWord_21 (by decide) ?_
      refine lv_aload_n hx hb dX0_answerWord_22 rfl (lv_at hl 0 rfl) ?_
      obtain ⟨v12, e12, hf⟩ := tk_bi hf
      refine tk_getR hx hb ht inX0 hown hE hs rfl 6 (by decide) (ht _ wfX0_30) e12 dX0_answerWord_23 ?_
      refine lv_iload_n hx hb dX0_answerWord_26 rfl (lv_at hl 1 rfl) ?_
      obtain ⟨v13, e13, hf⟩ := tk_bi hf
      refine tk_iald hx hb hE hs e13 dX0_answerWord_27 ?_
      refine lv_iconst (v := 1) hx hb dX0_answerWord_28 (by decide) ?_
      refine lv_iadd hx hb dX0_answerWord_29 ?_
      refine va_mmin hx hb (hml.trans hl.1.symm) hown (ht _ wmX0_52) (ht _ wtMmin) (ht _ wnMath) (ht _ wcMmin) (Nat.le_of_ble_eq_true rfl) (Nat.le_of_ble_eq_true rfl) (Nat.le_of_ble_eq_true rfl) (Nat.zero_le _) dX0_answerWord_30 ?_
      refine lv_goto (tgt := 37) hx hb dX0_answerWord_33 (by decide) ?_
      exact j37 x0 x1 x3 (if (v13 + 1) < 5 then (v13 + 1) else 5) x1 v10 h sz _ _ _ hf hs (lv_sub hl [0, 1, 3] rfl)
  · rw [if_neg c9] at hf
    refine lv_iconst (v := 0) hx hb dX0_answerWord_10 (by decide) ?_
    obtain ⟨_, e14, hf⟩ := tk_bi hf
    have e14 := tk_bz_ok e14
    cases hf
    exact tk_zret hx hb hr hlocks e14 hs dX0_answerWord_11
def fX0_firstDue_44 (N : Nat) (k4 : Nat → Int32 → Int32 → Int32 → tk_AH → Nat → Option (Int32 × tk_AH × Nat)) (x0 : Nat) (x1 : Int32) (x2 : Int32) (x3 : Int32) (h : tk_AH) (sz : Nat) : Option (Int32 × tk_AH × Nat) :=
  k4 x0 x1 x2 (x3 + 1) h sz
def fX0_firstDue_42 (N : Nat) (k4 : Nat → Int32 → Int32 → Int32 → tk_AH → Nat → Option (Int32 × tk_AH × Nat)) (x0 : Nat) (x1 : Int32) (x3 : Int32) (h : tk_AH) (sz : Nat) : Option (Int32 × tk_AH × Nat) :=
  fX0_firstDue_44 N k4 x0 x1 x3 x3 h sz
def fX0_firstDue_4 (N : Nat) : Nat → Nat → Int32 → Int32 → Int32 → tk_AH → Nat → Option (Int32 × tk_AH × Nat)
  | 0, _, _, _, _, _, _ => none
  | n + 1, x0, x1, x2, x3, h, sz =>
  (tk_gI h 0 10 x0).bind fun v1 =>
  if v1 ≤ x3 then (
  some (x2, h, sz)) else (
  (tk_gR h 0 7 x0).bind fun v3 =>
  (tk_aI h 0 v3 x3).bind fun v4 =>
  if x1 < v4 then (
  fX0_firstDue_44 N (fX0_firstDue_4 N n) x0 x1 x2 x3 h sz) else (
  if x2 = (-1) then (
  fX0_firstDue_42 N (fX0_firstDue_4 N n) x0 x1 x3 h sz) else (
  (tk_gR h 0 7 x0).bind fun v7 =>
  (tk_aI h 0 v7 x3).bind fun v8 =>
  (tk_gR h 0 7 x0).bind fun v9 =>
  (tk_aI h 0 v9 x2).bind fun v10 =>
  if v10 ≤ v8 then (
  fX0_firstDue_44 N (fX0_firstDue_4 N n) x0 x1 x2 x3 h sz) else (
  fX0_firstDue_42 N (fX0_firstDue_4 N n) x0 x1 x3 h sz))))
def fX0_firstDue (N : Nat) (x0 : Nat) (x1 : Int32) (h : tk_AH) (sz : Nat) : Option (Int32 × tk_AH × Nat) :=
  fX0_firstDue_4 N N x0 x1 (-1) 0 h sz
set_option maxHeartbeats 8000000 in
set_option maxRecDepth 100000 in
theorem cX0_firstDue_ok (l : Launch) (hl0 : l.stackTraces = false) (G : tk_AG) (N : Nat) (x0 : Nat) (x1 : Int32) (h : tk_AH) (sz : Nat) (r9 : Int32) (h9 : tk_AH) (sz9 : Nat) (hf : fX0_firstDue N x0 x1 h sz = some (r9, h9, sz9)) : Met l yX0_firstDue (coX0_firstDue :: tk_W) ({ frames := 0, cells := 0, slots := 0, locals := 0 }) (tk_pc G [.ref x0, .int x1] h sz) (tk_qc G (some (.int r9)) h9 sz9) 0 0 (tk_ag G) := by
  refine Met.ofW (cc := cX0_firstDue) (maxL := 4) (ret := (some .int)) (by decide) rfl ?_
  intro p e s m args below meth c s₁ B hml hv
  obtain ⟨hav, hE, hrp, hsz, hgs⟩ := hv
  have hx := B.exec
  have hb := B.bytes
  have hr := B.returns
  have hts := atoms_spec (ws := coX0_firstDue :: tk_W) B.pre
  have ht : ∀ w ∈ tk_W, w.before args s = true := fun w h => hts w (List.mem_cons_of_mem _ h)
  have hown : s.vm.findClass RX0 = some m.cls := findClass_of_methodNamed B.named
  have hlocks := B.notSynchronized
  have hs : tk_sw G s h sz s.heap [] := ⟨hrp, hsz, by rw [hsz]; exact hgs, va_S.rf⟩
  have hl := lv_entry ([.ref x0, .int x1]) (n := 4) (Nat.le_of_ble_eq_true rfl)
  have hent : entryFrame m args 4 = F0 m 0 (lg_sl ([.ref x0, .int x1]) ++ List.replicate (4 - (lg_sl ([.ref x0, .int x1])).length) Slot.unset).toArray [] := by rw [hav, lg_entry_eq]
  rw [hent]
  clear hent
  generalize (lg_sl ([.ref x0, .int x1]) ++ List.replicate (4 - (lg_sl ([.ref x0, .int x1])).length) Slot.unset).toArray = ls at hl ⊢
  have hl : lv_has ls 4 [(0, .ref x0), (1, .int x1)] := hl
  have j44 : ∀ (k4 : Nat → Int32 → Int32 → Int32 → tk_AH → Nat → Option (Int32 × tk_AH × Nat)), (∀ (x0 : Nat) (x1 : Int32) (x2 : Int32) (x3 : Int32) (h : tk_AH) (sz : Nat) (H : Heap) (locs : List Loc) (ls : Array Slot), k4 x0 x1 x2 x3 h sz = some (r9, h9, sz9) → tk_sw G s h sz H locs → lv_has ls 4 [(0, .ref x0), (1, .int x1), (2, .int x2), (3, .int x3)] → W p l e (headSpec (coX0_firstDue :: tk_W) ({ frames := 0, cells := 0, slots := 0, locals := 0 })).room s m args below meth c H locs 0 (0) (MQ below (tk_qc G (some (.int r9)) h9 sz9) args s 0 0 (tk_ag G)) (F0 m 4 ls [])) → ∀ (x0 : Nat) (x1 : Int32) (x2 : Int32) (x3 : Int32) (h : tk_AH) (sz : Nat) (H : Heap) (locs : List Loc) (ls : Array Slot), fX0_firstDue_44 N k4 x0 x1 x2 x3 h sz = some (r9, h9, sz9) → tk_sw G s h sz H locs → lv_has ls 4 [(0, .ref x0), (1, .int x1), (2, .int x2), (3, .int x3)] → W p l e (headSpec (coX0_firstDue :: tk_W) ({ frames := 0, cells := 0, slots := 0, locals := 0 })).room s m args below meth c H locs 0 (0) (MQ below (tk_qc G (some (.int r9)) h9 sz9) args s 0 0 (tk_ag G)) (F0 m 44 ls []) := by
    intro k4 hk4 x0 x1 x2 x3 h sz H locs ls hf hs hl
    unfold fX0_firstDue_44 at hf
    refine lv_iinc (v := x3 + 1) (lv' := [(3, .int (x3 + 1)), (0, .ref x0), (1, .int x1), (2, .int x2)]) hx hb dX0_firstDue_44 hl (k := 3) rfl rfl (by decide) rfl (fun ls hl => ?_)
    refine lv_goto (tgt := 4) hx hb dX0_firstDue_47 (by decide) ?_
    exact hk4 x0 x1 x2 (x3 + 1) h sz _ _ _ hf hs (lv_sub hl [1, 2, 3, 0] rfl)
  have j42 : ∀ (k4 : Nat → Int32 → Int32 → Int32 → tk_AH → Nat → Option (Int32 × tk_AH × Nat)), (∀ (x0 : Nat) (x1 : Int32) (x2 : Int32) (x3 : Int32) (h : tk_AH) (sz : Nat) (H : Heap) (locs : List Loc) (ls : Array Slot), k4 x0 x1 x2 x3 h sz = some (r9, h9, sz9) → tk_sw G s h sz H locs → lv_has ls 4 [(0, .ref x0), (1, .int x1), (2, .int x2), (3, .int x3)] → W p l e (headSpec (coX0_firstDue :: tk_W) ({ frames := 0, cells := 0, slots := 0, locals := 0 })).room s m args below meth c H locs 0 (0) (MQ below (tk_qc G (some (.int r9)) h9 sz9) args s 0 0 (tk_ag G)) (F0 m 4 ls [])) → ∀ (x0 : Nat) (x1 : Int32) (x3 : Int32) (h : tk_AH) (sz : Nat) (H : Heap) (locs : List Loc) (ls : Array Slot), fX0_firstDue_42 N k4 x0 x1 x3 h sz = some (r9, h9, sz9) → tk_sw G s h sz H locs → lv_has ls 4 [(0, .ref x0), (1, .int x1), (3, .int x3)] → W p l e (headSpec (coX0_firstDue :: tk_W) ({ frames := 0, cells := 0, slots := 0, locals := 0 })).room s m args below meth c H locs 0 (0) (MQ below (tk_qc G (some (.int r9)) h9 sz9) args s 0 0 (tk_ag G)) (F0 m 42 ls []) := by
    intro k4 hk4 x0 x1 x3 h sz H locs ls hf hs hl
    unfold fX0_firstDue_42 at hf
    refine lv_iload_n hx hb dX0_firstDue_42 rfl (lv_at hl 2 rfl) ?_
    refine lv_istore_n (lv' := [(2, .int x3), (0, .ref x0), (1, .int x1), (3, .int x3)]) hx hb dX0_firstDue_43 rfl hl (by decide) rfl (fun ls hl => ?_)
    exact j44 k4 hk4 x0 x1 x3 x3 h sz _ _ _ hf hs (lv_sub hl [1, 2, 0, 3] rfl)
  have j4 : ∀ (n : Nat), ∀ (x0 : Nat) (x1 : Int32) (x2 : Int32) (x3 : Int32) (h : tk_AH) (sz : Nat) (H : Heap) (locs : List Loc) (ls : Array Slot), fX0_firstDue_4 N n x0 x1 x2 x3 h sz = some (r9, h9, sz9) → tk_sw G s h sz H locs → lv_has ls 4 [(0, .ref x0), (1, .int x1), (2, .int x2), (3, .int x3)] → W p l e (headSpec (coX0_firstDue :: tk_W) ({ frames := 0, cells := 0, slots := 0, locals := 0 })).room s m args below meth c H locs 0 (0) (MQ below (tk_qc G (some (.int r9)) h9 sz9) args s 0 0 (tk_ag G)) (F0 m 4 ls []) := by
    intro n
    induction n with
    | zero =>
      intro x0 x1 x2 x3 h sz H locs ls hf
      cases hf
    | succ n ih =>
      intro x0 x1 x2 x3 h sz H locs ls hf hs hl
      rw [fX0_firstDue_4] at hf
      refine lv_iload_n hx hb dX0_firstDue_4 rfl (lv_at hl 3 rfl) ?_
      refine lv_aload_n hx hb dX0_firstDue_5 rfl (lv_at hl 0 rfl) ?_
      obtain ⟨v1, e1, hf⟩ := tk_bi hf
      refine tk_getI hx hb ht inX0 hown hE hs rfl 10 (by decide) (ht _ wfX0_62) e1 dX0_firstDue_6 ?_
      refine lv_icmp_ge (tgt := 50) hx hb dX0_firstDue_9 (by decide) (fun c2 => ?_) (fun c2 => ?_)
      · rw [if_pos c2] at hf
        refine lv_iload_n hx hb dX0_firstDue_50 rfl (lv_at hl 2 rfl) ?_
        cases hf
        exact tk_iret hx hb hr hlocks hs dX0_firstDue_51
      · rw [if_neg c2] at hf
        refine lv_aload_n hx hb dX0_firstDue_12 rfl (lv_at hl 0 rfl) ?_
        obtain ⟨v3, e3, hf⟩ := tk_bi hf
        refine tk_getR hx hb ht inX0 hown hE hs rfl 7 (by decide) (ht _ wfX0_33) e3 dX0_firstDue_13 ?_
        refine lv_iload_n hx hb dX0_firstDue_16 rfl (lv_at hl 3 rfl) ?_
        obtain ⟨v4, e4, hf⟩ := tk_bi hf
        refine tk_iald hx hb hE hs e4 dX0_firstDue_17 ?_
        refine lv_iload_n hx hb dX0_firstDue_18 rfl (lv_at hl 1 rfl) ?_
        refine lv_icmp_gt (tgt := 44) hx hb dX0_firstDue_19 (by decide) (fun c5 => ?_) (fun c5 => ?_)
        · rw [if_pos c5] at hf
          exact j44 (fX0_firstDue_4 N n) ih x0 x1 x2 x3 h sz _ _ _ hf hs (lv_sub hl [0, 1, 2, 3] rfl)
        · rw [if_neg c5] at hf
          refine lv_iload_n hx hb dX0_firstDue_22 rfl (lv_at hl 2 rfl) ?_
          refine lv_iconst (v := (-1)) hx hb dX0_firstDue_23 (by decide) ?_
          refine lv_icmp_eq (tgt := 42) hx hb dX0_firstDue_24 (by decide) (fun c6 => ?_) (fun c6 => ?_)
          · rw [if_pos c6] at hf
            exact j42 (fX0_firstDue_4 N n) ih x0 x1 x3 h sz _ _ _ hf hs (lv_sub hl [0, 1, 3] rfl)
          · rw [if_neg c6] at hf
            refine lv_aload_n hx hb dX0_firstDue_27 rfl (lv_at hl 0 rfl) ?_
            obtain ⟨v7, e7, hf⟩ := tk_bi hf
            refine tk_getR hx hb ht inX0 hown hE hs rfl 7 (by decide) (ht _ wfX0_33) e7 dX0_firstDue_28 ?_
            refine lv_iload_n hx hb dX0_firstDue_31 rfl (lv_at hl 3 rfl) ?_
            obtain ⟨v8, e8, hf⟩ := tk_bi hf
            refine tk_iald hx hb hE hs e8 dX0_firstDue_32 ?_
            refine lv_aload_n hx hb dX0_firstDue_33 rfl (lv_at hl 0 rfl) ?_
            obtain ⟨v9, e9, hf⟩ := tk_bi hf
            refine tk_getR hx hb ht inX0 hown hE hs rfl 7 (by decide) (ht _ wfX0_33) e9 dX0_firstDue_34 ?_
            refine lv_iload_n hx hb dX0_firstDue_37 rfl (lv_at hl 2 rfl) ?_
            obtain ⟨v10, e10, hf⟩ := tk_bi hf
            refine tk_iald hx hb hE hs e10 dX0_firstDue_38 ?_
            refine lv_icmp_ge (tgt := 44) hx hb dX0_firstDue_39 (by decide) (fun c11 => ?_) (fun c11 => ?_)
            · rw [if_pos c11] at hf
              exact j44 (fX0_firstDue_4 N n) ih x0 x1 x2 x3 h sz _ _ _ hf hs (lv_sub hl [0, 1, 2, 3] rfl)
            · rw [if_neg c11] at hf
              exact j42 (fX0_firstDue_4 N n) ih x0 x1 x3 h sz _ _ _ hf hs (lv_sub hl [0, 1, 3] rfl)
  unfold fX0_firstDue at hf
  refine lv_iconst (v := (-1)) hx hb dX0_firstDue_0 (by decide) ?_
  refine lv_istore_n (lv' := [(2, .int (-1)), (0, .ref x0), (1, .int x1)]) hx hb dX0_firstDue_1 rfl hl (by decide) rfl (fun ls hl => ?_)
  refine lv_iconst (v := 0) hx hb dX0_firstDue_2 (by decide) ?_
  refine lv_istore_n (lv' := [(3, .int 0), (2, .int (-1)), (0, .ref x0), (1, .int x1)]) hx hb dX0_firstDue_3 rfl hl (by decide) rfl (fun ls hl => ?_)
  exact j4 N x0 x1 (-1) 0 h sz _ _ _ hf hs (lv_sub hl [2, 3, 1, 0] rfl)
def fX2_init (N : Nat) (x0 : Nat) (h : tk_AH) (sz : Nat) : Option (tk_AH × Nat) :=
  (tk_pF (tk_nI h sz 80) 2 0 x0 (.ref sz)).bind fun h1 =>
  (tk_pF (tk_nI h1 (sz + 1) 1681) 2 1 x0 (.ref (sz + 1))).bind fun h2 =>
  (tk_pF (tk_nI h2 ((sz + 1) + 1) 80) 2 2 x0 (.ref ((sz + 1) + 1))).bind fun h3 =>
  (tk_pF (tk_nI h3 (((sz + 1) + 1) + 1) 5) 2 3 x0 (.ref (((sz + 1) + 1) + 1))).bind fun h4 =>
  some (h4, (((sz + 1) + 1) + 1) + 1)
set_option maxHeartbeats 8000000 in
set_option maxRecDepth 100000 in
theorem cX2_init_ok (l : Launch) (hl0 : l.stackTraces = false) (G : tk_AG) (N : Nat) (x0 : Nat) (h : tk_AH) (sz : Nat) (h9 : tk_AH) (sz9 : Nat) (hf : fX2_init N x0 h sz = some (h9, sz9)) : Met l yX2_init (coX2_init :: tk_W) ({ frames := 1, cells := 4, slots := 1846, locals := 24 }) (tk_pc G [.ref x0] h sz) (tk_qc G none h9 sz9) 4 1846 (tk_ag G) := by
  refine Met.ofW (cc := cX2_init) (maxL := 1) (ret := none) (by decide) rfl ?_
  intro p e s m args below meth c s₁ B hml hv
  obtain ⟨hav, hE, hrp, hsz, hgs⟩ := hv
  have hx := B.exec
  have hb := B.bytes
  have hr := B.returns
  have hts := atoms_spec (ws := coX2_init :: tk_W) B.pre
  have ht : ∀ w ∈ tk_W, w.before args s = true := fun w h => hts w (List.mem_cons_of_mem _ h)
  have hown : s.vm.findClass RX2 = some m.cls := findClass_of_methodNamed B.named
  have hlocks := B.notSynchronized
  have hin : meth.name = "<init>" := (name_of_methodNamed B.named B.method).1
  have hs : tk_sw G s h sz s.heap [] := ⟨hrp, hsz, by rw [hsz]; exact hgs, va_S.rf⟩
  have hl := lv_entry ([.ref x0]) (n := 1) (Nat.le_of_ble_eq_true rfl)
  have hent : entryFrame m args 1 = F0 m 0 (lg_sl ([.ref x0]) ++ List.replicate (1 - (lg_sl ([.ref x0])).length) Slot.unset).toArray [] := by rw [hav, lg_entry_eq]
  rw [hent]
  clear hent
  generalize (lg_sl ([.ref x0]) ++ List.replicate (1 - (lg_sl ([.ref x0])).length) Slot.unset).toArray = ls at hl ⊢
  have hl : lv_has ls 1 [(0, .ref x0)] := hl
  unfold fX2_init at hf
  refine lv_aload_n hx hb dX2_init_0 rfl (lv_at hl 0 rfl) ?_
  refine W.objInit hx hb hown (ht _ wmX2_3) (ht _ wiOb) (ht _ wcOb) rfl (by rw [hml]; exact hl.1) rfl dX2_init_1 (Nat.le_of_ble_eq_true rfl) (Nat.le_of_ble_eq_true rfl) ?_
  refine W.eq (g2 := F0 m 4 ls []) rfl ?_
  refine lv_aload_n hx hb dX2_init_4 rfl (lv_at hl 0 rfl) ?_
  refine lv_bipush (v := 80) hx hb dX2_init_5 (by decide) ?_
  refine tk_newI hx hb (ht _ waint) hE hs (N := 80) (by decide) (by decide) (by decide) (Nat.le_of_ble_eq_true rfl) (Nat.le_of_ble_eq_true rfl) dX2_init_7 (fun H hs => ?_)
  refine W.widen (k := 1) (n := 80) (by omega) (by omega) ?_
  obtain ⟨h1, e1, hf⟩ := tk_bi hf
  refine tk_putF hx hb ht inX2 tyX2 tyX2_ok nmX2 hown hE hs rfl 0 (by decide) (ht _ wfX2_9) rfl hin rfl rfl rfl e1 dX2_init_9 (fun H locs hs => ?_)
  refine lv_aload_n hx hb dX2_init_12 rfl (lv_at hl 0 rfl) ?_
  refine lv_sipush (v := 1681) hx hb dX2_init_13 (by decide) ?_
  refine tk_newI hx hb (ht _ waint) hE hs (N := 1681) (by decide) (by decide) (by decide) (Nat.le_of_ble_eq_true rfl) (Nat.le_of_ble_eq_true rfl) dX2_init_16 (fun H hs => ?_)
  refine W.widen (k := 2) (n := 1761) (by omega) (by omega) ?_
  obtain ⟨h2, e2, hf⟩ := tk_bi hf
  refine tk_putF hx hb ht inX2 tyX2 tyX2_ok nmX2 hown hE hs rfl 1 (by decide) (ht _ wfX2_13) rfl hin rfl rfl rfl e2 dX2_init_18 (fun H locs hs => ?_)
  refine lv_aload_n hx hb dX2_init_21 rfl (lv_at hl 0 rfl) ?_
  refine lv_bipush (v := 80) hx hb dX2_init_22 (by decide) ?_
  refine tk_newI hx hb (ht _ waint) hE hs (N := 80) (by decide) (by decide) (by decide) (Nat.le_of_ble_eq_true rfl) (Nat.le_of_ble_eq_true rfl) dX2_init_24 (fun H hs => ?_)
  refine W.widen (k := 3) (n := 1841) (by omega) (by omega) ?_
  obtain ⟨h3, e3, hf⟩ := tk_bi hf
  refine tk_putF hx hb ht inX2 tyX2 tyX2_ok nmX2 hown hE hs rfl 2 (by decide) (ht _ wfX2_16) rfl hin rfl rfl rfl e3 dX2_init_26 (fun H locs hs => ?_)
  refine lv_aload_n hx hb dX2_init_29 rfl (lv_at hl 0 rfl) ?_
  refine lv_iconst (v := 5) hx hb dX2_init_30 (by decide) ?_
  refine tk_newI hx hb (ht _ waint) hE hs (N := 5) (by decide) (by decide) (by decide) (Nat.le_of_ble_eq_true rfl) (Nat.le_of_ble_eq_true rfl) dX2_init_31 (fun H hs => ?_)
  refine W.widen (k := 4) (n := 1846) (by omega) (by omega) ?_
  obtain ⟨h4, e4, hf⟩ := tk_bi hf
  refine tk_putF hx hb ht inX2 tyX2 tyX2_ok nmX2 hown hE hs rfl 3 (by decide) (ht _ wfX2_19) rfl hin rfl rfl rfl e4 dX2_init_33 (fun H locs hs => ?_)
  cases hf
  exact tk_vret hx hb hr hlocks hs dX2_init_36
def fX2_hasRoom_17 (N : Nat) (y0 : Int32) (h : tk_AH) (sz : Nat) : Option (Int32 × tk_AH × Nat) :=
  (tk_bz y0).bind fun _ =>
  some (y0, h, sz)
def fX2_hasRoom (N : Nat) (x0 : Nat) (h : tk_AH) (sz : Nat) : Option (Int32 × tk_AH × Nat) :=
  (tk_gI h 2 4 x0).bind fun v2 =>
  if 80 < (v2 + 20) then (
  fX2_hasRoom_17 N 0 h sz) else (
  fX2_hasRoom_17 N 1 h sz)
set_option maxHeartbeats 8000000 in
set_option maxRecDepth 100000 in
theorem cX2_hasRoom_ok (l : Launch) (hl0 : l.stackTraces = false) (G : tk_AG) (N : Nat) (x0 : Nat) (h : tk_AH) (sz : Nat) (r9 : Int32) (h9 : tk_AH) (sz9 : Nat) (hf : fX2_hasRoom N x0 h sz = some (r9, h9, sz9)) : Met l yX2_hasRoom (coX2_hasRoom :: tk_W) ({ frames := 0, cells := 0, slots := 0, locals := 0 }) (tk_pc G [.ref x0] h sz) (tk_qc G (some (.int r9)) h9 sz9) 0 0 (tk_ag G) := by
  refine Met.ofW (cc := cX2_hasRoom) (maxL := 1) (ret := (some .boolean)) (by decide) rfl ?_
  intro p e s m args below meth c s₁ B hml hv
  obtain ⟨hav, hE, hrp, hsz, hgs⟩ := hv
  have hx := B.exec
  have hb := B.bytes
  have hr := B.returns
  have hts := atoms_spec (ws := coX2_hasRoom :: tk_W) B.pre
  have ht : ∀ w ∈ tk_W, w.before args s = true := fun w h => hts w (List.mem_cons_of_mem _ h)
  have hown : s.vm.findClass RX2 = some m.cls := findClass_of_methodNamed B.named
  have hlocks := B.notSynchronized
  have hs : tk_sw G s h sz s.heap [] := ⟨hrp, hsz, by rw [hsz]; exact hgs, va_S.rf⟩
  have hl := lv_entry ([.ref x0]) (n := 1) (Nat.le_of_ble_eq_true rfl)
  have hent : entryFrame m args 1 = F0 m 0 (lg_sl ([.ref x0]) ++ List.replicate (1 - (lg_sl ([.ref x0])).length) Slot.unset).toArray [] := by rw [hav, lg_entry_eq]
  rw [hent]
  clear hent
  generalize (lg_sl ([.ref x0]) ++ List.replicate (1 - (lg_sl ([.ref x0])).length) Slot.unset).toArray = ls at hl ⊢
  have hl : lv_has ls 1 [(0, .ref x0)] := hl
  have j17 : ∀ (y0 : Int32) (h : tk_AH) (sz : Nat) (H : Heap) (locs : List Loc) (ls : Array Slot), fX2_hasRoom_17 N y0 h sz = some (r9, h9, sz9) → tk_sw G s h sz H locs → lv_has ls 1 [] → W p l e (headSpec (coX2_hasRoom :: tk_W) ({ frames := 0, cells := 0, slots := 0, locals := 0 })).room s m args below meth c H locs 0 (0) (MQ below (tk_qc G (some (.int r9)) h9 sz9) args s 0 0 (tk_ag G)) (F0 m 17 ls [.int y0]) := by
    intro y0 h sz H locs ls hf hs hl
    unfold fX2_hasRoom_17 at hf
    obtain ⟨_, e1, hf⟩ := tk_bi hf
    have e1 := tk_bz_ok e1
    cases hf
    exact tk_zret hx hb hr hlocks e1 hs dX2_hasRoom_17
  unfold fX2_hasRoom at hf
  refine lv_aload_n hx hb dX2_hasRoom_0 rfl (lv_at hl 0 rfl) ?_
  obtain ⟨v2, e2, hf⟩ := tk_bi hf
  refine tk_getI hx hb ht inX2 hown hE hs rfl 4 (by decide) (ht _ wfX2_22) e2 dX2_hasRoom_1 ?_
  refine lv_bipush (v := 20) hx hb dX2_hasRoom_4 (by decide) ?_
  refine lv_iadd hx hb dX2_hasRoom_6 ?_
  refine lv_bipush (v := 80) hx hb dX2_hasRoom_7 (by decide) ?_
  refine lv_icmp_gt (tgt := 16) hx hb dX2_hasRoom_9 (by decide) (fun c3 => ?_) (fun c3 => ?_)
  · rw [if_pos c3] at hf
    refine lv_iconst (v := 0) hx hb dX2_hasRoom_16 (by decide) ?_
    exact j17 0 h sz _ _ _ hf hs (lv_sub hl [] rfl)
  · rw [if_neg c3] at hf
    refine lv_iconst (v := 1) hx hb dX2_hasRoom_12 (by decide) ?_
    refine lv_goto (tgt := 17) hx hb dX2_hasRoom_13 (by decide) ?_
    exact j17 1 h sz _ _ _ hf hs (lv_sub hl [] rfl)
def fX2_append_48 (N : Nat) (h : tk_AH) (sz : Nat) : Option (tk_AH × Nat) :=
  some (h, sz)
def fX2_append_3 (N : Nat) (k48 : tk_AH → Nat → Option (tk_AH × Nat)) : Nat → Nat → Int32 → Int32 → tk_AH → Nat → Option (tk_AH × Nat)
  | 0, _, _, _, _, _ => none
  | n + 1, x0, x1, x2, h, sz =>
  if x2 < 0 then (
  k48 h sz) else (
  (tk_gI h 2 4 x0).bind fun v2 =>
  if 80 ≤ v2 then (
  k48 h sz) else (
  (tk_gR h 2 0 x0).bind fun v4 =>
  (tk_gI h 2 4 x0).bind fun v5 =>
  (tk_sI h 0 v4 v5 (((x1.toUInt32 >>> (x2.toUInt32 &&& Int32.toUInt32 31)).toInt32) &&& 255)).bind fun h6 =>
  (tk_gI h6 2 4 x0).bind fun v7 =>
  (tk_pF h6 2 4 x0 (.int (v7 + 1))).bind fun h8 =>
  fX2_append_3 N k48 n x0 x1 (x2 + (-8)) h8 sz))
def fX2_append (N : Nat) (x0 : Nat) (x1 : Int32) (h : tk_AH) (sz : Nat) : Option (tk_AH × Nat) :=
  fX2_append_3 N (fX2_append_48 N) N x0 x1 24 h sz
set_option maxHeartbeats 8000000 in
set_option maxRecDepth 100000 in
theorem cX2_append_ok (l : Launch) (hl0 : l.stackTraces = false) (G : tk_AG) (N : Nat) (x0 : Nat) (x1 : Int32) (h : tk_AH) (sz : Nat) (h9 : tk_AH) (sz9 : Nat) (hf : fX2_append N x0 x1 h sz = some (h9, sz9)) : Met l yX2_append (coX2_append :: tk_W) ({ frames := 0, cells := 0, slots := 0, locals := 0 }) (tk_pc G [.ref x0, .int x1] h sz) (tk_qc G none h9 sz9) 0 0 (tk_ag G) := by
  refine Met.ofW (cc := cX2_append) (maxL := 3) (ret := none) (by decide) rfl ?_
  intro p e s m args below meth c s₁ B hml hv
  obtain ⟨hav, hE, hrp, hsz, hgs⟩ := hv
  have hx := B.exec
  have hb := B.bytes
  have hr := B.returns
  have hts := atoms_spec (ws := coX2_append :: tk_W) B.pre
  have ht : ∀ w ∈ tk_W, w.before args s = true := fun w h => hts w (List.mem_cons_of_mem _ h)
  have hown : s.vm.findClass RX2 = some m.cls := findClass_of_methodNamed B.named
  have hlocks := B.notSynchronized
  have hs : tk_sw G s h sz s.heap [] := ⟨hrp, hsz, by rw [hsz]; exact hgs, va_S.rf⟩
  have hl := lv_entry ([.ref x0, .int x1]) (n := 3) (Nat.le_of_ble_eq_true rfl)
  have hent : entryFrame m args 3 = F0 m 0 (lg_sl ([.ref x0, .int x1]) ++ List.replicate (3 - (lg_sl ([.ref x0, .int x1])).length) Slot.unset).toArray [] := by rw [hav, lg_entry_eq]
  rw [hent]
  clear hent
  generalize (lg_sl ([.ref x0, .int x1]) ++ List.replicate (3 - (lg_sl ([.ref x0, .int x1])).length) Slot.unset).toArray = ls at hl ⊢
  have hl : lv_has ls 3 [(0, .ref x0), (1, .int x1)] := hl
  have j48 : ∀ (h : tk_AH) (sz : Nat) (H : Heap) (locs : List Loc) (ls : Array Slot), fX2_append_48 N h sz = some (h9, sz9) → tk_sw G s h sz H locs → lv_has ls 3 [] → W p l e (headSpec (coX2_append :: tk_W) ({ frames := 0, cells := 0, slots := 0, locals := 0 })).room s m args below meth c H locs 0 (0) (MQ below (tk_qc G none h9 sz9) args s 0 0 (tk_ag G)) (F0 m 48 ls []) := by
    intro h sz H locs ls hf hs hl
    unfold fX2_append_48 at hf
    cases hf
    exact tk_vret hx hb hr hlocks hs dX2_append_48
  have j3 : ∀ (k48 : tk_AH → Nat → Option (tk_AH × Nat)), (∀ (h : tk_AH) (sz : Nat) (H : Heap) (locs : List Loc) (ls : Array Slot), k48 h sz = some (h9, sz9) → tk_sw G s h sz H locs → lv_has ls 3 [] → W p l e (headSpec (coX2_append :: tk_W) ({ frames := 0, cells := 0, slots := 0, locals := 0 })).room s m args below meth c H locs 0 (0) (MQ below (tk_qc G none h9 sz9) args s 0 0 (tk_ag G)) (F0 m 48 ls [])) → ∀ (n : Nat), ∀ (x0 : Nat) (x1 : Int32) (x2 : Int32) (h : tk_AH) (sz : Nat) (H : Heap) (locs : List Loc) (ls : Array Slot), fX2_append_3 N k48 n x0 x1 x2 h sz = some (h9, sz9) → tk_sw G s h sz H locs → lv_has ls 3 [(0, .ref x0), (1, .int x1), (2, .int x2)] → W p l e (headSpec (coX2_append :: tk_W) ({ frames := 0, cells := 0, slots := 0, locals := 0 })).room s m args below meth c H locs 0 (0) (MQ below (tk_qc G none h9 sz9) args s 0 0 (tk_ag G)) (F0 m 3 ls []) := by
    intro k48 hk48 n
    induction n with
    | zero =>
      intro x0 x1 x2 h sz H locs ls hf
      cases hf
    | succ n ih =>
      intro x0 x1 x2 h sz H locs ls hf hs hl
      rw [fX2_append_3] at hf
      refine lv_iload_n hx hb dX2_append_3 rfl (lv_at hl 2 rfl) ?_
      refine lv_if_lt (tgt := 48) hx hb dX2_append_4 (by decide) (fun c1 => ?_) (fun c1 => ?_)
      · rw [if_pos c1] at hf
        exact hk48 h sz _ _ _ hf hs (lv_sub hl [] rfl)
      · rw [if_neg c1] at hf
        refine lv_aload_n hx hb dX2_append_7 rfl (lv_at hl 0 rfl) ?_
        obtain ⟨v2, e2, hf⟩ := tk_bi hf
        refine tk_getI hx hb ht inX2 hown hE hs rfl 4 (by decide) (ht _ wfX2_22) e2 dX2_append_8 ?_
        refine lv_bipush (v := 80) hx hb dX2_append_11 (by decide) ?_
        refine lv_icmp_ge (tgt := 48) hx hb dX2_append_13 (by decide) (fun c3 => ?_) (fun c3 => ?_)
        · rw [if_pos c3] at hf
          exact hk48 h sz _ _ _ hf hs (lv_sub hl [] rfl)
        · rw [if_neg c3] at hf
          refine lv_aload_n hx hb dX2_append_16 rfl (lv_at hl 0 rfl) ?_
          obtain ⟨v4, e4, hf⟩ := tk_bi hf
          refine tk_getR hx hb ht inX2 hown hE hs rfl 0 (by decide) (ht _ wfX2_9) e4 dX2_append_17 ?_
          refine lv_aload_n hx hb dX2_append_20 rfl (lv_at hl 0 rfl) ?_
          obtain ⟨v5, e5, hf⟩ := tk_bi hf
          refine tk_getI hx hb ht inX2 hown hE hs rfl 4 (by decide) (ht _ wfX2_22) e5 dX2_append_21 ?_
          refine lv_iload_n hx hb dX2_append_24 rfl (lv_at hl 1 rfl) ?_
          refine lv_iload_n hx hb dX2_append_25 rfl (lv_at hl 2 rfl) ?_
          refine lv_iushr (v := (x1.toUInt32 >>> (x2.toUInt32 &&& Int32.toUInt32 31)).toInt32) hx hb dX2_append_26 rfl ?_
          refine lv_sipush (v := 255) hx hb dX2_append_27 (by decide) ?_
          refine lv_iand hx hb dX2_append_30 ?_
          obtain ⟨h6, e6, hf⟩ := tk_bi hf
          refine tk_iast hx hb hE hs e6 dX2_append_31 (fun H locs hs => ?_)
          refine lv_aload_n hx hb dX2_append_32 rfl (lv_at hl 0 rfl) ?_
          refine lv_dup hx hb dX2_append_33 rfl ?_
          obtain ⟨v7, e7, hf⟩ := tk_bi hf
          refine tk_getI hx hb ht inX2 hown hE hs rfl 4 (by decide) (ht _ wfX2_22) e7 dX2_append_34 ?_
          refine lv_iconst (v := 1) hx hb dX2_append_37 (by decide) ?_
          refine lv_iadd hx hb dX2_append_38 ?_
          obtain ⟨h8, e8, hf⟩ := tk_bi hf
          refine tk_put hx hb ht inX2 tyX2 tyX2_ok nmX2 hown hE hs rfl 4 (by decide) (ht _ wfX2_22) rfl rfl rfl e8 dX2_append_39 (fun H locs hs => ?_)
          refine lv_iinc (v := x2 + (-8)) (lv' := [(2, .int (x2 + (-8))), (0, .ref x0), (1, .int x1)]) hx hb dX2_append_42 hl (k := 2) rfl rfl (by decide) rfl (fun ls hl => ?_)
          refine lv_goto (tgt := 3) hx hb dX2_append_45 (by decide) ?_
          exact ih x0 x1 (x2 + (-8)) h8 sz _ _ _ hf hs (lv_sub hl [1, 2, 0] rfl)
  unfold fX2_append at hf
  refine lv_bipush (v := 24) hx hb dX2_append_0 (by decide) ?_
  refine lv_istore_n (lv' := [(2, .int 24), (0, .ref x0), (1, .int x1)]) hx hb dX2_append_2 rfl hl (by decide) rfl (fun ls hl => ?_)
  exact j3 (fX2_append_48 N) (j48) N x0 x1 24 h sz _ _ _ hf hs (lv_sub hl [1, 2, 0] rfl)
def fX2_fits_56 (N : Nat) (y0 : Int32) (h : tk_AH) (sz : Nat) : Option (Int32 × tk_AH × Nat) :=
  (tk_bz y0).bind fun _ =>
  some (y0, h, sz)
def fX2_fits_77 (N : Nat) (y0 : Int32) (h : tk_AH) (sz : Nat) : Option (Int32 × tk_AH × Nat) :=
  (tk_bz y0).bind fun _ =>
  some (y0, h, sz)
def fX2_fits_134 (N : Nat) (y0 : Int32) (h : tk_AH) (sz : Nat) : Option (Int32 × tk_AH × Nat) :=
  (tk_bz y0).bind fun _ =>
  some (y0, h, sz)
def fX2_fits_133 (N : Nat) (h : tk_AH) (sz : Nat) : Option (Int32 × tk_AH × Nat) :=
  fX2_fits_134 N 0 h sz
def fX2_fits (N : Nat) (x0 : Nat) (x1 : Int32) (x2 : Int32) (x3 : Int32) (h : tk_AH) (sz : Nat) : Option (Int32 × tk_AH × Nat) :=
  if x1 = 0 then (
  (tk_gR h 2 0 x0).bind fun v5 =>
  (tk_aI h 0 v5 x2).bind fun v6 =>
  (tk_gR h 2 0 x0).bind fun v7 =>
  (tk_aI h 0 v7 x3).bind fun v8 =>
  if v6 = v8 then (
  fX2_fits_56 N 1 h sz) else (
  fX2_fits_56 N 0 h sz)) else if x1 = 1 then (
  (tk_gR h 2 0 x0).bind fun v11 =>
  (tk_aI h 0 v11 x2).bind fun v12 =>
  (tk_gR h 2 0 x0).bind fun v13 =>
  (tk_aI h 0 v13 x3).bind fun v14 =>
  if v12 = v14 then (
  fX2_fits_77 N 0 h sz) else (
  fX2_fits_77 N 1 h sz)) else if x1 = 2 then (
  (tk_bz 1).bind fun _ =>
  some (1, h, sz)) else if x1 = 3 then (
  (tk_bz 1).bind fun _ =>
  some (1, h, sz)) else if x1 = 4 then (
  (tk_gR h 2 0 x0).bind fun v21 =>
  (tk_aI h 0 v21 x2).bind fun v22 =>
  (tk_gR h 2 0 x0).bind fun v23 =>
  (tk_aI h 0 v23 (x3 + 1)).bind fun v24 =>
  if v22 = v24 then (
  (tk_gR h 2 0 x0).bind fun v26 =>
  (tk_aI h 0 v26 (x2 + 1)).bind fun v27 =>
  (tk_gR h 2 0 x0).bind fun v28 =>
  (tk_aI h 0 v28 x3).bind fun v29 =>
  if v27 = v29 then (
  (tk_gR h 2 0 x0).bind fun v31 =>
  (tk_aI h 0 v31 x2).bind fun v32 =>
  (tk_gR h 2 0 x0).bind fun v33 =>
  (tk_aI h 0 v33 (x2 + 1)).bind fun v34 =>
  if v32 = v34 then (
  fX2_fits_133 N h sz) else (
  fX2_fits_134 N 1 h sz)) else (
  fX2_fits_133 N h sz)) else (
  fX2_fits_133 N h sz)) else (
  (tk_bz 1).bind fun _ =>
  some (1, h, sz))
set_option maxHeartbeats 8000000 in
set_option maxRecDepth 100000 in
theorem cX2_fits_ok (l : Launch) (hl0 : l.stackTraces = false) (G : tk_AG) (N : Nat) (x0 : Nat) (x1 : Int32) (x2 : Int32) (x3 : Int32) (h : tk_AH) (sz : Nat) (r9 : Int32) (h9 : tk_AH) (sz9 : Nat) (hf : fX2_fits N x0 x1 x2 x3 h sz = some (r9, h9, sz9)) : Met l yX2_fits (coX2_fits :: tk_W) ({ frames := 0, cells := 0, slots := 0, locals := 0 }) (tk_pc G [.ref x0, .int x1, .int x2, .int x3] h sz) (tk_qc G (some (.int r9)) h9 sz9) 0 0 (tk_ag G) := by
  refine Met.ofW (cc := cX2_fits) (maxL := 4) (ret := (some .boolean)) (by decide) rfl ?_
  intro p e s m args below meth c s₁ B hml hv
  obtain ⟨hav, hE, hrp, hsz, hgs⟩ := hv
  have hx := B.exec
  have hb := B.bytes
  have hr := B.returns
  have hts := atoms_spec (ws := coX2_fits :: tk_W) B.pre
  have ht : ∀ w ∈ tk_W, w.before args s = true := fun w h => hts w (List.mem_cons_of_mem _ h)
  have hown : s.vm.findClass RX2 = some m.cls := findClass_of_methodNamed B.named
  have hlocks := B.notSynchronized
  have hs : tk_sw G s h sz s.heap [] := ⟨hrp, hsz, by rw [hsz]; exact hgs, va_S.rf⟩
  have hl := lv_entry ([.ref x0, .int x1, .int x2, .int x3]) (n := 4) (Nat.le_of_ble_eq_true rfl)
  have hent : entryFrame m args 4 = F0 m 0 (lg_sl ([.ref x0, .int x1, .int x2, .int x3]) ++ List.replicate (4 - (lg_sl ([.ref x0, .int x1, .int x2, .int x3])).length) Slot.unset).toArray [] := by rw [hav, lg_entry_eq]
  rw [hent]
  clear hent
  generalize (lg_sl ([.ref x0, .int x1, .int x2, .int x3]) ++ List.replicate (4 - (lg_sl ([.ref x0, .int x1, .int x2, .int x3])).length) Slot.unset).toArray = ls at hl ⊢
  have hl : lv_has ls 4 [(0, .ref x0), (1, .int x1), (2, .int x2), (3, .int x3)] := hl
  have j56 : ∀ (y0 : Int32) (h : tk_AH) (sz : Nat) (H : Heap) (locs : List Loc) (ls : Array Slot), fX2_fits_56 N y0 h sz = some (r9, h9, sz9) → tk_sw G s h sz H locs → lv_has ls 4 [] → W p l e (headSpec (coX2_fits :: tk_W) ({ frames := 0, cells := 0, slots := 0, locals := 0 })).room s m args below meth c H locs 0 (0) (MQ below (tk_qc G (some (.int r9)) h9 sz9) args s 0 0 (tk_ag G)) (F0 m 56 ls [.int y0]) := by
    intro y0 h sz H locs ls hf hs hl
    unfold fX2_fits_56 at hf
    obtain ⟨_, e1, hf⟩ := tk_bi hf
    have e1 := tk_bz_ok e1
    cases hf
    exact tk_zret hx hb hr hlocks e1 hs dX2_fits_56
  have j77 : ∀ (y0 : Int32) (h : tk_AH) (sz : Nat) (H : Heap) (locs : List Loc) (ls : Array Slot), fX2_fits_77 N y0 h sz = some (r9, h9, sz9) → tk_sw G s h sz H locs → lv_has ls 4 [] → W p l e (headSpec (coX2_fits :: tk_W) ({ frames := 0, cells := 0, slots := 0, locals := 0 })).room s m args below meth c H locs 0 (0) (MQ below (tk_qc G (some (.int r9)) h9 sz9) args s 0 0 (tk_ag G)) (F0 m 77 ls [.int y0]) := by
    intro y0 h sz H locs ls hf hs hl
    unfold fX2_fits_77 at hf
    obtain ⟨_, e2, hf⟩ := tk_bi hf
    have e2 := tk_bz_ok e2
    cases hf
    exact tk_zret hx hb hr hlocks e2 hs dX2_fits_77
  have j134 : ∀ (y0 : Int32) (h : tk_AH) (sz : Nat) (H : Heap) (locs : List Loc) (ls : Array Slot), fX2_fits_134 N y0 h sz = some (r9, h9, sz9) → tk_sw G s h sz H locs → lv_has ls 4 [] → W p l e (headSpec (coX2_fits :: tk_W) ({ frames := 0, cells := 0, slots := 0, locals := 0 })).room s m args below meth c H locs 0 (0) (MQ below (tk_qc G (some (.int r9)) h9 sz9) args s 0 0 (tk_ag G)) (F0 m 134 ls [.int y0]) := by
    intro y0 h sz H locs ls hf hs hl
    unfold fX2_fits_134 at hf
    obtain ⟨_, e3, hf⟩ := tk_bi hf
    have e3 := tk_bz_ok e3
    cases hf
    exact tk_zret hx hb hr hlocks e3 hs dX2_fits_134
  have j133 : ∀ (h : tk_AH) (sz : Nat) (H : Heap) (locs : List Loc) (ls : Array Slot), fX2_fits_133 N h sz = some (r9, h9, sz9) → tk_sw G s h sz H locs → lv_has ls 4 [] → W p l e (headSpec (coX2_fits :: tk_W) ({ frames := 0, cells := 0, slots := 0, locals := 0 })).room s m args below meth c H locs 0 (0) (MQ below (tk_qc G (some (.int r9)) h9 sz9) args s 0 0 (tk_ag G)) (F0 m 133 ls []) := by
    intro h sz H locs ls hf hs hl
    unfold fX2_fits_133 at hf
    refine lv_iconst (v := 0) hx hb dX2_fits_133 (by decide) ?_
    exact j134 0 h sz _ _ _ hf hs (lv_sub hl [] rfl)
  unfold fX2_fits at hf
  refine lv_iload_n hx hb dX2_fits_0 rfl (lv_at hl 1 rfl) ?_
  by_cases c4 : x1 = 0
  · rw [if_pos c4] at hf
    refine lv_tableIn (off := 35) (tgt := 36) hx hb dX2_fits_1 (by rw [c4]; decide) (by rw [c4]; decide) (by rw [c4]; rfl) (by decide) ?_
    refine lv_aload_n hx hb dX2_fits_36 rfl (lv_at hl 0 rfl) ?_
    obtain ⟨v5, e5, hf⟩ := tk_bi hf
    refine tk_getR hx hb ht inX2 hown hE hs rfl 0 (by decide) (ht _ wfX2_9) e5 dX2_fits_37 ?_
    refine lv_iload_n hx hb dX2_fits_40 rfl (lv_at hl 2 rfl) ?_
    obtain ⟨v6, e6, hf⟩ := tk_bi hf
    refine tk_iald hx hb hE hs e6 dX2_fits_41 ?_
    refine lv_aload_n hx hb dX2_fits_42 rfl (lv_at hl 0 rfl) ?_
    obtain ⟨v7, e7, hf⟩ := tk_bi hf
    refine tk_getR hx hb ht inX2 hown hE hs rfl 0 (by decide) (ht _ wfX2_9) e7 dX2_fits_43 ?_
    refine lv_iload_n hx hb dX2_fits_46 rfl (lv_at hl 3 rfl) ?_
    obtain ⟨v8, e8, hf⟩ := tk_bi hf
    refine tk_iald hx hb hE hs e8 dX2_fits_47 ?_
    refine lv_icmp_ne (tgt := 55) hx hb dX2_fits_48 (by decide) (fun c9 => ?_) (fun c9 => ?_)
    · rw [if_neg c9] at hf
      refine lv_iconst (v := 0) hx hb dX2_fits_55 (by decide) ?_
      exact j56 0 h sz _ _ _ hf hs (lv_sub hl [] rfl)
    · rw [if_pos c9] at hf
      refine lv_iconst (v := 1) hx hb dX2_fits_51 (by decide) ?_
      refine lv_goto (tgt := 56) hx hb dX2_fits_52 (by decide) ?_
      exact j56 1 h sz _ _ _ hf hs (lv_sub hl [] rfl)
  rw [if_neg c4] at hf
  by_cases c10 : x1 = 1
  · rw [if_pos c10] at hf
    refine lv_tableIn (off := 56) (tgt := 57) hx hb dX2_fits_1 (by rw [c10]; decide) (by rw [c10]; decide) (by rw [c10]; rfl) (by decide) ?_
    refine lv_aload_n hx hb dX2_fits_57 rfl (lv_at hl 0 rfl) ?_
    obtain ⟨v11, e11, hf⟩ := tk_bi hf
    refine tk_getR hx hb ht inX2 hown hE hs rfl 0 (by decide) (ht _ wfX2_9) e11 dX2_fits_58 ?_
    refine lv_iload_n hx hb dX2_fits_61 rfl (lv_at hl 2 rfl) ?_
    obtain ⟨v12, e12, hf⟩ := tk_bi hf
    refine tk_iald hx hb hE hs e12 dX2_fits_62 ?_
    refine lv_aload_n hx hb dX2_fits_63 rfl (lv_at hl 0 rfl) ?_
    obtain ⟨v13, e13, hf⟩ := tk_bi hf
    refine tk_getR hx hb ht inX2 hown hE hs rfl 0 (by decide) (ht _ wfX2_9) e13 dX2_fits_64 ?_
    refine lv_iload_n hx hb dX2_fits_67 rfl (lv_at hl 3 rfl) ?_
    obtain ⟨v14, e14, hf⟩ := tk_bi hf
    refine tk_iald hx hb hE hs e14 dX2_fits_68 ?_
    refine lv_icmp_eq (tgt := 76) hx hb dX2_fits_69 (by decide) (fun c15 => ?_) (fun c15 => ?_)
    · rw [if_pos c15] at hf
      refine lv_iconst (v := 0) hx hb dX2_fits_76 (by decide) ?_
      exact j77 0 h sz _ _ _ hf hs (lv_sub hl [] rfl)
    · rw [if_neg c15] at hf
      refine lv_iconst (v := 1) hx hb dX2_fits_72 (by decide) ?_
      refine lv_goto (tgt := 77) hx hb dX2_fits_73 (by decide) ?_
      exact j77 1 h sz _ _ _ hf hs (lv_sub hl [] rfl)
  rw [if_neg c10] at hf
  by_cases c16 : x1 = 2
  · rw [if_pos c16] at hf
    refine lv_tableIn (off := 134) (tgt := 135) hx hb dX2_fits_1 (by rw [c16]; decide) (by rw [c16]; decide) (by rw [c16]; rfl) (by decide) ?_
    refine lv_iconst (v := 1) hx hb dX2_fits_135 (by decide) ?_
    obtain ⟨_, e17, hf⟩ := tk_bi hf
    have e17 := tk_bz_ok e17
    cases hf
    exact tk_zret hx hb hr hlocks e17 hs dX2_fits_136
  rw [if_neg c16] at hf
  by_cases c18 : x1 = 3
  · rw [if_pos c18] at hf
    refine lv_tableIn (off := 134) (tgt := 135) hx hb dX2_fits_1 (by rw [c18]; decide) (by rw [c18]; decide) (by rw [c18]; rfl) (by decide) ?_
    refine lv_iconst (v := 1) hx hb dX2_fits_135 (by decide) ?_
    obtain ⟨_, e19, hf⟩ := tk_bi hf
    have e19 := tk_bz_ok e19
    cases hf
    exact tk_zret hx hb hr hlocks e19 hs dX2_fits_136
  rw [if_neg c18] at hf
  by_cases c20 : x1 = 4
  · rw [if_pos c20] at hf
    refine lv_tableIn (off := 77) (tgt := 78) hx hb dX2_fits_1 (by rw [c20]; decide) (by rw [c20]; decide) (by rw [c20]; rfl) (by decide) ?_
    refine lv_aload_n hx hb dX2_fits_78 rfl (lv_at hl 0 rfl) ?_
    obtain ⟨v21, e21, hf⟩ := tk_bi hf
    refine tk_getR hx hb ht inX2 hown hE hs rfl 0 (by decide) (ht _ wfX2_9) e21 dX2_fits_79 ?_
    refine lv_iload_n hx hb dX2_fits_82 rfl (lv_at hl 2 rfl) ?_
    obtain ⟨v22, e22, hf⟩ := tk_bi hf
    refine tk_iald hx hb hE hs e22 dX2_fits_83 ?_
    refine lv_aload_n hx hb dX2_fits_84 rfl (lv_at hl 0 rfl) ?_
    obtain ⟨v23, e23, hf⟩ := tk_bi hf
    refine tk_getR hx hb ht inX2 hown hE hs rfl 0 (by decide) (ht _ wfX2_9) e23 dX2_fits_85 ?_
    refine lv_iload_n hx hb dX2_fits_88 rfl (lv_at hl 3 rfl) ?_
    refine lv_iconst (v := 1) hx hb dX2_fits_89 (by decide) ?_
    refine lv_iadd hx hb dX2_fits_90 ?_
    obtain ⟨v24, e24, hf⟩ := tk_bi hf
    refine tk_iald hx hb hE hs e24 dX2_fits_91 ?_
    refine lv_icmp_ne (tgt := 133) hx hb dX2_fits_92 (by decide) (fun c25 => ?_) (fun c25 => ?_)
    · rw [if_neg c25] at hf
      exact j133 h sz _ _ _ hf hs (lv_sub hl [] rfl)
    · rw [if_pos c25] at hf
      refine lv_aload_n hx hb dX2_fits_95 rfl (lv_at hl 0 rfl) ?_
      obtain ⟨v26, e26, hf⟩ := tk_bi hf
      refine tk_getR hx hb ht inX2 hown hE hs rfl 0 (by decide) (ht _ wfX2_9) e26 dX2_fits_96 ?_
      refine lv_iload_n hx hb dX2_fits_99 rfl (lv_at hl 2 rfl) ?_
      refine lv_iconst (v := 1) hx hb dX2_fits_100 (by decide) ?_
      refine lv_iadd hx hb dX2_fits_101 ?_
      obtain ⟨v27, e27, hf⟩ := tk_bi hf
      refine tk_iald hx hb hE hs e27 dX2_fits_102 ?_
      refine lv_aload_n hx hb dX2_fits_103 rfl (lv_at hl 0 rfl) ?_
      obtain ⟨v28, e28, hf⟩ := tk_bi hf
      refine tk_getR hx hb ht inX2 hown hE hs rfl 0 (by decide) (ht _ wfX2_9) e28 dX2_fits_104 ?_
      refine lv_iload_n hx hb dX2_fits_107 rfl (lv_at hl 3 rfl) ?_
      obtain ⟨v29, e29, hf⟩ := tk_bi hf
      refine tk_iald hx hb hE hs e29 dX2_fits_108 ?_
      refine lv_icmp_ne (tgt := 133) hx hb dX2_fits_109 (by decide) (fun c30 => ?_) (fun c30 => ?_)
      · rw [if_neg c30] at hf
        exact j133 h sz _ _ _ hf hs (lv_sub hl [] rfl)
      · rw [if_pos c30] at hf
        refine lv_aload_n hx hb dX2_fits_112 rfl (lv_at hl 0 rfl) ?_
        obtain ⟨v31, e31, hf⟩ := tk_bi hf
        refine tk_getR hx hb ht inX2 hown hE hs rfl 0 (by decide) (ht _ wfX2_9) e31 dX2_fits_113 ?_
        refine lv_iload_n hx hb dX2_fits_116 rfl (lv_at hl 2 rfl) ?_
        obtain ⟨v32, e32, hf⟩ := tk_bi hf
        refine tk_iald hx hb hE hs e32 dX2_fits_117 ?_
        refine lv_aload_n hx hb dX2_fits_118 rfl (lv_at hl 0 rfl) ?_
        obtain ⟨v33, e33, hf⟩ := tk_bi hf
        refine tk_getR hx hb ht inX2 hown hE hs rfl 0 (by decide) (ht _ wfX2_9) e33 dX2_fits_119 ?_
        refine lv_iload_n hx hb dX2_fits_122 rfl (lv_at hl 2 rfl) ?_
        refine lv_iconst (v := 1) hx hb dX2_fits_123 (by decide) ?_
        refine lv_iadd hx hb dX2_fits_124 ?_
        obtain ⟨v34, e34, hf⟩ := tk_bi hf
        refine tk_iald hx hb hE hs e34 dX2_fits_125 ?_
        refine lv_icmp_eq (tgt := 133) hx hb dX2_fits_126 (by decide) (fun c35 => ?_) (fun c35 => ?_)
        · rw [if_pos c35] at hf
          exact j133 h sz _ _ _ hf hs (lv_sub hl [] rfl)
        · rw [if_neg c35] at hf
          refine lv_iconst (v := 1) hx hb dX2_fits_129 (by decide) ?_
          refine lv_goto (tgt := 134) hx hb dX2_fits_130 (by decide) ?_
          exact j134 1 h sz _ _ _ hf hs (lv_sub hl [] rfl)
  rw [if_neg c20] at hf
  refine lv_tableOut (tgt := 135) hx hb dX2_fits_1 (tk_out 4 (fun k hk => match k, hk with | 0, _ => c4 | 1, _ => c10 | 2, _ => c16 | 3, _ => c18 | 4, _ => c20 | n9 + 5, h9 => absurd h9 (by omega)) (by decide)) (by decide) ?_
  refine lv_iconst (v := 1) hx hb dX2_fits_135 (by decide) ?_
  obtain ⟨_, e36, hf⟩ := tk_bi hf
  have e36 := tk_bz_ok e36
  cases hf
  exact tk_zret hx hb hr hlocks e36 hs dX2_fits_136
def fX2_costBy_51 (N : Nat) (h : tk_AH) (sz : Nat) : Option (Int32 × tk_AH × Nat) :=
  some (1000000, h, sz)
def fX2_costBy (N : Nat) (x0 : Nat) (x1 : Int32) (x2 : Int32) (x3 : Int32) (h : tk_AH) (sz : Nat) : Option (Int32 × tk_AH × Nat) :=
  (tk_tab [1, 1, 1, 0, 2] x1).bind fun v2 =>
  (tk_tab [1, 1, 0, 1, 2] x1).bind fun v4 =>
  (tk_gI h 2 6 x0).bind fun v5 =>
  if v5 < (x2 + v2) then (
  fX2_costBy_51 N h sz) else (
  (tk_gI h 2 7 x0).bind fun v7 =>
  if v7 < (x3 + v4) then (
  fX2_costBy_51 N h sz) else (
  (tk_gI h 2 6 x0).bind fun v9 =>
  (tk_ok h 2 x0).bind fun _ =>
  (fX2_fits N x0 x1 x2 (v9 + x3) h sz).bind fun o10 =>
  if o10.1 = 0 then (
  fX2_costBy_51 N o10.2.1 o10.2.2) else (
  (tk_tab [0, 3, 2, 2, 2] x1).bind fun v14 =>
  (tk_gR o10.2.1 2 1 x0).bind fun v15 =>
  (tk_aI o10.2.1 0 v15 (((x2 + v2) * 41) + (x3 + v4))).bind fun v16 =>
  some (v14 + v16, o10.2.1, o10.2.2))))
set_option maxHeartbeats 8000000 in
set_option maxRecDepth 100000 in
theorem cX2_costBy_ok (l : Launch) (hl0 : l.stackTraces = false) (G : tk_AG) (N : Nat) (x0 : Nat) (x1 : Int32) (x2 : Int32) (x3 : Int32) (h : tk_AH) (sz : Nat) (r9 : Int32) (h9 : tk_AH) (sz9 : Nat) (hf : fX2_costBy N x0 x1 x2 x3 h sz = some (r9, h9, sz9)) : Met l yX2_costBy (coX2_costBy :: tk_W) ({ frames := 1, cells := 0, slots := 0, locals := 23 }) (tk_pc G [.ref x0, .int x1, .int x2, .int x3] h sz) (tk_qc G (some (.int r9)) h9 sz9) 0 0 (tk_ag G) := by
  refine Met.ofW (cc := cX2_costBy) (maxL := 6) (ret := (some .int)) (by decide) rfl ?_
  intro p e s m args below meth c s₁ B hml hv
  obtain ⟨hav, hE, hrp, hsz, hgs⟩ := hv
  have hx := B.exec
  have hb := B.bytes
  have hr := B.returns
  have hts := atoms_spec (ws := coX2_costBy :: tk_W) B.pre
  have ht : ∀ w ∈ tk_W, w.before args s = true := fun w h => hts w (List.mem_cons_of_mem _ h)
  have hown : s.vm.findClass RX2 = some m.cls := findClass_of_methodNamed B.named
  have hlocks := B.notSynchronized
  have hs : tk_sw G s h sz s.heap [] := ⟨hrp, hsz, by rw [hsz]; exact hgs, va_S.rf⟩
  have hl := lv_entry ([.ref x0, .int x1, .int x2, .int x3]) (n := 6) (Nat.le_of_ble_eq_true rfl)
  have hent : entryFrame m args 6 = F0 m 0 (lg_sl ([.ref x0, .int x1, .int x2, .int x3]) ++ List.replicate (6 - (lg_sl ([.ref x0, .int x1, .int x2, .int x3])).length) Slot.unset).toArray [] := by rw [hav, lg_entry_eq]
  rw [hent]
  clear hent
  generalize (lg_sl ([.ref x0, .int x1, .int x2, .int x3]) ++ List.replicate (6 - (lg_sl ([.ref x0, .int x1, .int x2, .int x3])).length) Slot.unset).toArray = ls at hl ⊢
  have hl : lv_has ls 6 [(0, .ref x0), (1, .int x1), (2, .int x2), (3, .int x3)] := hl
  have j51 : ∀ (h : tk_AH) (sz : Nat) (H : Heap) (locs : List Loc) (ls : Array Slot), fX2_costBy_51 N h sz = some (r9, h9, sz9) → tk_sw G s h sz H locs → lv_has ls 6 [] → W p l e (headSpec (coX2_costBy :: tk_W) ({ frames := 1, cells := 0, slots := 0, locals := 23 })).room s m args below meth c H locs 0 (0) (MQ below (tk_qc G (some (.int r9)) h9 sz9) args s 0 0 (tk_ag G)) (F0 m 51 ls []) := by
    intro h sz H locs ls hf hs hl
    unfold fX2_costBy_51 at hf
    refine lv_ldc (v := 1000000) hx hb hown (ht _ wkX2_42) dX2_costBy_51 ?_
    cases hf
    exact tk_iret hx hb hr hlocks hs dX2_costBy_53
  unfold fX2_costBy at hf
  refine lv_iload_n hx hb dX2_costBy_0 rfl (lv_at hl 2 rfl) ?_
  obtain ⟨t1, z1, tt1⟩ := hE.2.2.2.2.1 ("SAID_STEPS", [1, 1, 1, 0, 2]) (by simp [tk_stats])
  refine va_gets (v := .ref t1) hx hb z1 hs.2.2.2 hown (ht _ wfX2_58) (fun _ h => h) dX2_costBy_1 ?_
  refine lv_iload_n hx hb dX2_costBy_4 rfl (lv_at hl 1 rfl) ?_
  obtain ⟨v2, e2, hf⟩ := tk_bi hf
  obtain ⟨i2, u2⟩ := tk_tab_ok e2
  refine va_ti hx hb tt1 hs.2.2.2 i2 (v := .int v2) (congrArg Value.int u2) dX2_costBy_5 ?_
  refine lv_iadd hx hb dX2_costBy_6 ?_
  refine lv_istore (lv' := [(4, .int (x2 + v2)), (0, .ref x0), (1, .int x1), (2, .int x2), (3, .int x3)]) hx hb dX2_costBy_7 hl (by decide) rfl (fun ls hl => ?_)
  refine lv_iload_n hx hb dX2_costBy_9 rfl (lv_at hl 4 rfl) ?_
  obtain ⟨t3, z3, tt3⟩ := hE.2.2.2.2.1 ("MEANT_STEPS", [1, 1, 0, 1, 2]) (by simp [tk_stats])
  refine va_gets (v := .ref t3) hx hb z3 hs.2.2.2 hown (ht _ wfX2_61) (fun _ h => h) dX2_costBy_10 ?_
  refine lv_iload_n hx hb dX2_costBy_13 rfl (lv_at hl 2 rfl) ?_
  obtain ⟨v4, e4, hf⟩ := tk_bi hf
  obtain ⟨i4, u4⟩ := tk_tab_ok e4
  refine va_ti hx hb tt3 hs.2.2.2 i4 (v := .int v4) (congrArg Value.int u4) dX2_costBy_14 ?_
  refine lv_iadd hx hb dX2_costBy_15 ?_
  refine lv_istore (lv' := [(5, .int (x3 + v4)), (4, .int (x2 + v2)), (0, .ref x0), (1, .int x1), (2, .int x2), (3, .int x3)]) hx hb dX2_costBy_16 hl (by decide) rfl (fun ls hl => ?_)
  refine lv_iload hx hb dX2_costBy_18 (lv_at hl 1 rfl) ?_
  refine lv_aload_n hx hb dX2_costBy_20 rfl (lv_at hl 2 rfl) ?_
  obtain ⟨v5, e5, hf⟩ := tk_bi hf
  refine tk_getI hx hb ht inX2 hown hE hs rfl 6 (by decide) (ht _ wfX2_26) e5 dX2_costBy_21 ?_
  refine lv_icmp_gt (tgt := 51) hx hb dX2_costBy_24 (by decide) (fun c6 => ?_) (fun c6 => ?_)
  · rw [if_pos c6] at hf
    exact j51 h sz _ _ _ hf hs (lv_sub hl [] rfl)
  · rw [if_neg c6] at hf
    refine lv_iload hx hb dX2_costBy_27 (lv_at hl 0 rfl) ?_
    refine lv_aload_n hx hb dX2_costBy_29 rfl (lv_at hl 2 rfl) ?_
    obtain ⟨v7, e7, hf⟩ := tk_bi hf
    refine tk_getI hx hb ht inX2 hown hE hs rfl 7 (by decide) (ht _ wfX2_29) e7 dX2_costBy_30 ?_
    refine lv_icmp_gt (tgt := 51) hx hb dX2_costBy_33 (by decide) (fun c8 => ?_) (fun c8 => ?_)
    · rw [if_pos c8] at hf
      exact j51 h sz _ _ _ hf hs (lv_sub hl [] rfl)
    · rw [if_neg c8] at hf
      refine lv_aload_n hx hb dX2_costBy_36 rfl (lv_at hl 2 rfl) ?_
      refine lv_iload_n hx hb dX2_costBy_37 rfl (lv_at hl 3 rfl) ?_
      refine lv_iload_n hx hb dX2_costBy_38 rfl (lv_at hl 4 rfl) ?_
      refine lv_aload_n hx hb dX2_costBy_39 rfl (lv_at hl 2 rfl) ?_
      obtain ⟨v9, e9, hf⟩ := tk_bi hf
      refine tk_getI hx hb ht inX2 hown hE hs rfl 6 (by decide) (ht _ wfX2_26) e9 dX2_costBy_40 ?_
      refine lv_iload_n hx hb dX2_costBy_43 rfl (lv_at hl 5 rfl) ?_
      refine lv_iadd hx hb dX2_costBy_44 ?_
      obtain ⟨_, p10, hf⟩ := tk_bi hf
      obtain ⟨o10, e10, hf⟩ := tk_bi hf
      refine tk_call0 (v := some (.int o10.1)) hs (va_runV (As := [.int x1, .int x2, .int (v9 + x3)]) (rest := []) ⟨hx, hb, hml, hown, ht⟩ (cX2_fits_ok l hl0 G N x0 x1 x2 (v9 + x3) h sz o10.1 o10.2.1 o10.2.2 e10) (kwX2_fits ht wmX2_64 rfl rfl ⟨Nat.le_of_ble_eq_true rfl, Nat.le_of_ble_eq_true rfl⟩) (tk_preV hE hs (tk_ok_ok p10) rfl) rfl rfl hl.1 rfl (lv_room (Nat.le_of_ble_eq_true rfl)) dX2_costBy_45 ⟨(Nat.le_of_ble_eq_true rfl), (Nat.le_of_ble_eq_true rfl)⟩) (fun H locs hs => ?_)
      refine W.eq (g2 := F0 m 48 ls [.int o10.1]) rfl ?_
      refine lv_if_ne (tgt := 54) hx hb dX2_costBy_48 (by decide) (fun c12 => ?_) (fun c12 => ?_)
      · rw [if_neg c12] at hf
        obtain ⟨t13, z13, tt13⟩ := hE.2.2.2.2.1 ("COSTS", [0, 3, 2, 2, 2]) (by simp [tk_stats])
        refine va_gets (v := .ref t13) hx hb z13 hs.2.2.2 hown (ht _ wfX2_68) (fun _ h => h) dX2_costBy_54 ?_
        refine lv_iload_n hx hb dX2_costBy_57 rfl (lv_at hl 3 rfl) ?_
        obtain ⟨v14, e14, hf⟩ := tk_bi hf
        obtain ⟨i14, u14⟩ := tk_tab_ok e14
        refine va_ti hx hb tt13 hs.2.2.2 i14 (v := .int v14) (congrArg Value.int u14) dX2_costBy_58 ?_
        refine lv_aload_n hx hb dX2_costBy_59 rfl (lv_at hl 2 rfl) ?_
        obtain ⟨v15, e15, hf⟩ := tk_bi hf
        refine tk_getR hx hb ht inX2 hown hE hs rfl 1 (by decide) (ht _ wfX2_13) e15 dX2_costBy_60 ?_
        refine lv_iload hx hb dX2_costBy_63 (lv_at hl 1 rfl) ?_
        refine lv_bipush (v := 41) hx hb dX2_costBy_65 (by decide) ?_
        refine lv_imul hx hb dX2_costBy_67 ?_
        refine lv_iload hx hb dX2_costBy_68 (lv_at hl 0 rfl) ?_
        refine lv_iadd hx hb dX2_costBy_70 ?_
        obtain ⟨v16, e16, hf⟩ := tk_bi hf
        refine tk_iald hx hb hE hs e16 dX2_costBy_71 ?_
        refine lv_iadd hx hb dX2_costBy_72 ?_
        cases hf
        exact tk_iret hx hb hr hlocks hs dX2_costBy_73
      · rw [if_pos c12] at hf
        exact j51 o10.2.1 o10.2.2 _ _ _ hf hs (lv_sub hl [] rfl)
def fX2_leastCost_24 (N : Nat) : Nat → Nat → Int32 → Int32 → Int32 → Int32 → tk_AH → Nat → Option (Int32 × tk_AH × Nat)
  | 0, _, _, _, _, _, _, _ => none
  | n + 1, x0, x1, x2, x3, x4, h, sz =>
  if 5 ≤ x4 then (
  some (x3, h, sz)) else (
  (tk_ok h 2 x0).bind fun _ =>
  (fX2_costBy N x0 x4 x1 x2 h sz).bind fun o2 =>
  fX2_leastCost_24 N n x0 x1 x2 (if o2.1 < x3 then o2.1 else x3) (x4 + 1) o2.2.1 o2.2.2)
def fX2_leastCost_18 (N : Nat) (x0 : Nat) (x1 : Int32) (x2 : Int32) (h : tk_AH) (sz : Nat) : Option (Int32 × tk_AH × Nat) :=
  fX2_leastCost_24 N N x0 x1 x2 1000000 0 h sz
def fX2_leastCost (N : Nat) (x0 : Nat) (x1 : Int32) (x2 : Int32) (h : tk_AH) (sz : Nat) : Option (Int32 × tk_AH × Nat) :=
  (tk_gI h 2 6 x0).bind fun v4 =>
  if x1 = v4 then (
  (tk_gI h 2 7 x0).bind fun v6 =>
  if x2 = v6 then (
  some (0, h, sz)) else (
  fX2_leastCost_18 N x0 x1 x2 h sz)) else (
  fX2_leastCost_18 N x0 x1 x2 h sz)
set_option maxHeartbeats 8000000 in
set_option maxRecDepth 100000 in
theorem cX2_leastCost_ok (l : Launch) (hl0 : l.stackTraces = false) (G : tk_AG) (N : Nat) (x0 : Nat) (x1 : Int32) (x2 : Int32) (h : tk_AH) (sz : Nat) (r9 : Int32) (h9 : tk_AH) (sz9 : Nat) (hf : fX2_leastCost N x0 x1 x2 h sz = some (r9, h9, sz9)) : Met l yX2_leastCost (coX2_leastCost :: tk_W) ({ frames := 2, cells := 0, slots := 0, locals := 48 }) (tk_pc G [.ref x0, .int x1, .int x2] h sz) (tk_qc G (some (.int r9)) h9 sz9) 0 0 (tk_ag G) := by
  refine Met.ofW (cc := cX2_leastCost) (maxL := 5) (ret := (some .int)) (by decide) rfl ?_
  intro p e s m args below meth c s₁ B hml hv
  obtain ⟨hav, hE, hrp, hsz, hgs⟩ := hv
  have hx := B.exec
  have hb := B.bytes
  have hr := B.returns
  have hts := atoms_spec (ws := coX2_leastCost :: tk_W) B.pre
  have ht : ∀ w ∈ tk_W, w.before args s = true := fun w h => hts w (List.mem_cons_of_mem _ h)
  have hown : s.vm.findClass RX2 = some m.cls := findClass_of_methodNamed B.named
  have hlocks := B.notSynchronized
  have hs : tk_sw G s h sz s.heap [] := ⟨hrp, hsz, by rw [hsz]; exact hgs, va_S.rf⟩
  have hl := lv_entry ([.ref x0, .int x1, .int x2]) (n := 5) (Nat.le_of_ble_eq_true rfl)
  have hent : entryFrame m args 5 = F0 m 0 (lg_sl ([.ref x0, .int x1, .int x2]) ++ List.replicate (5 - (lg_sl ([.ref x0, .int x1, .int x2])).length) Slot.unset).toArray [] := by rw [hav, lg_entry_eq]
  rw [hent]
  clear hent
  generalize (lg_sl ([.ref x0, .int x1, .int x2]) ++ List.replicate (5 - (lg_sl ([.ref x0, .int x1, .int x2])).length) Slot.unset).toArray = ls at hl ⊢
  have hl : lv_has ls 5 [(0, .ref x0), (1, .int x1), (2, .int x2)] := hl
  have j24 : ∀ (n : Nat), ∀ (x0 : Nat) (x1 : Int32) (x2 : Int32) (x3 : Int32) (x4 : Int32) (h : tk_AH) (sz : Nat) (H : Heap) (locs : List Loc) (ls : Array Slot), fX2_leastCost_24 N n x0 x1 x2 x3 x4 h sz = some (r9, h9, sz9) → tk_sw G s h sz H locs → lv_has ls 5 [(0, .ref x0), (1, .int x1), (2, .int x2), (3, .int x3), (4, .int x4)] → W p l e (headSpec (coX2_leastCost :: tk_W) ({ frames := 2, cells := 0, slots := 0, locals := 48 })).room s m args below meth c H locs 0 (0) (MQ below (tk_qc G (some (.int r9)) h9 sz9) args s 0 0 (tk_ag G)) (F0 m 24 ls []) := by
    intro n
    induction n with
    | zero =>
      intro x0 x1 x2 x3 x4 h sz H locs ls hf
      cases hf
    | succ n ih =>
      intro x0 x1 x2 x3 x4 h sz H locs ls hf hs hl
      rw [fX2_leastCost_24] at hf
      refine lv_iload hx hb dX2_leastCost_24 (lv_at hl 4 rfl) ?_
      refine lv_iconst (v := 5) hx hb dX2_leastCost_26 (by decide) ?_
      refine lv_icmp_ge (tgt := 49) hx hb dX2_leastCost_27 (by decide) (fun c1 => ?_) (fun c1 => ?_)
      · rw [if_pos c1] at hf
        refine lv_iload_n hx hb dX2_leastCost_49 rfl (lv_at hl 3 rfl) ?_
        cases hf
        exact tk_iret hx hb hr hlocks hs dX2_leastCost_50
      · rw [if_neg c1] at hf
        refine lv_iload_n hx hb dX2_leastCost_30 rfl (lv_at hl 3 rfl) ?_
        refine lv_aload_n hx hb dX2_leastCost_31 rfl (lv_at hl 0 rfl) ?_
        refine lv_iload hx hb dX2_leastCost_32 (lv_at hl 4 rfl) ?_
        refine lv_iload_n hx hb dX2_leastCost_34 rfl (lv_at hl 1 rfl) ?_
        refine lv_iload_n hx hb dX2_leastCost_35 rfl (lv_at hl 2 rfl) ?_
        obtain ⟨_, p2, hf⟩ := tk_bi hf
        obtain ⟨o2, e2, hf⟩ := tk_bi hf
        refine tk_call0 (v := some (.int o2.1)) hs (va_runV (As := [.int x4, .int x1, .int x2]) (rest := [.int x3]) ⟨hx, hb, hml, hown, ht⟩ (cX2_costBy_ok l hl0 G N x0 x4 x1 x2 h sz o2.1 o2.2.1 o2.2.2 e2) (kwX2_costBy ht wmX2_43 rfl rfl ⟨Nat.le_of_ble_eq_true rfl, Nat.le_of_ble_eq_true rfl⟩) (tk_preV hE hs (tk_ok_ok p2) rfl) rfl rfl hl.1 rfl (lv_room (Nat.le_of_ble_eq_true rfl)) dX2_leastCost_36 ⟨(Nat.le_of_ble_eq_true rfl), (Nat.le_of_ble_eq_true rfl)⟩) (fun H locs hs => ?_)
        refine W.eq (g2 := F0 m 39 ls [.int o2.1, .int x3]) rfl ?_
        refine va_mmin hx hb (hml.trans hl.1.symm) hown (ht _ wmX2_47) (ht _ wtMmin) (ht _ wnMath) (ht _ wcMmin) (Nat.le_of_ble_eq_true rfl) (Nat.le_of_ble_eq_true rfl) (Nat.le_of_ble_eq_true rfl) (Nat.zero_le _) dX2_leastCost_39 ?_
        refine lv_istore_n (lv' := [(3, .int (if o2.1 < x3 then o2.1 else x3)), (0, .ref x0), (1, .int x1), (2, .int x2), (4, .int x4)]) hx hb dX2_leastCost_42 rfl hl (by decide) rfl (fun ls hl => ?_)
        refine lv_iinc (v := x4 + 1) (lv' := [(4, .int (x4 + 1)), (3, .int (if o2.1 < x3 then o2.1 else x3)), (0, .ref x0), (1, .int x1), (2, .int x2)]) hx hb dX2_leastCost_43 hl (k := 4) rfl rfl (by decide) rfl (fun ls hl => ?_)
        refine lv_goto (tgt := 24) hx hb dX2_leastCost_46 (by decide) ?_
        exact ih x0 x1 x2 (if o2.1 < x3 then o2.1 else x3) (x4 + 1) o2.2.1 o2.2.2 _ _ _ hf hs (lv_sub hl [2, 3, 4, 1, 0] rfl)
  have j18 : ∀ (x0 : Nat) (x1 : Int32) (x2 : Int32) (h : tk_AH) (sz : Nat) (H : Heap) (locs : List Loc) (ls : Array Slot), fX2_leastCost_18 N x0 x1 x2 h sz = some (r9, h9, sz9) → tk_sw G s h sz H locs → lv_has ls 5 [(0, .ref x0), (1, .int x1), (2, .int x2)] → W p l e (headSpec (coX2_leastCost :: tk_W) ({ frames := 2, cells := 0, slots := 0, locals := 48 })).room s m args below meth c H locs 0 (0) (MQ below (tk_qc G (some (.int r9)) h9 sz9) args s 0 0 (tk_ag G)) (F0 m 18 ls []) := by
    intro x0 x1 x2 h sz H locs ls hf hs hl
    unfold fX2_leastCost_18 at hf
    refine lv_ldc (v := 1000000) hx hb hown (ht _ wkX2_42) dX2_leastCost_18 ?_
    refine lv_istore_n (lv' := [(3, .int 1000000), (0, .ref x0), (1, .int x1), (2, .int x2)]) hx hb dX2_leastCost_20 rfl hl (by decide) rfl (fun ls hl => ?_)
    refine lv_iconst (v := 0) hx hb dX2_leastCost_21 (by decide) ?_
    refine lv_istore (lv' := [(4, .int 0), (3, .int 1000000), (0, .ref x0), (1, .int x1), (2, .int x2)]) hx hb dX2_leastCost_22 hl (by decide) rfl (fun ls hl => ?_)
    exact j24 N x0 x1 x2 1000000 0 h sz _ _ _ hf hs (lv_sub hl [2, 3, 4, 1, 0] rfl)
  unfold fX2_leastCost at hf
  refine lv_iload_n hx hb dX2_leastCost_0 rfl (lv_at hl 1 rfl) ?_
  refine lv_aload_n hx hb dX2_leastCost_1 rfl (lv_at hl 0 rfl) ?_
  obtain ⟨v4, e4, hf⟩ := tk_bi hf
  refine tk_getI hx hb ht inX2 hown hE hs rfl 6 (by decide) (ht _ wfX2_26) e4 dX2_leastCost_2 ?_
  refine lv_icmp_ne (tgt := 18) hx hb dX2_leastCost_5 (by decide) (fun c5 => ?_) (fun c5 => ?_)
  · rw [if_neg c5] at hf
    exact j18 x0 x1 x2 h sz _ _ _ hf hs (lv_sub hl [0, 1, 2] rfl)
  · rw [if_pos c5] at hf
    refine lv_iload_n hx hb dX2_leastCost_8 rfl (lv_at hl 2 rfl) ?_
    refine lv_aload_n hx hb dX2_leastCost_9 rfl (lv_at hl 0 rfl) ?_
    obtain ⟨v6, e6, hf⟩ := tk_bi hf
    refine tk_getI hx hb ht inX2 hown hE hs rfl 7 (by decide) (ht _ wfX2_29) e6 dX2_leastCost_10 ?_
    refine lv_icmp_ne (tgt := 18) hx hb dX2_leastCost_13 (by decide) (fun c7 => ?_) (fun c7 => ?_)
    · rw [if_neg c7] at hf
      exact j18 x0 x1 x2 h sz _ _ _ hf hs (lv_sub hl [0, 1, 2] rfl)
    · rw [if_pos c7] at hf
      refine lv_iconst (v := 0) hx hb dX2_leastCost_16 (by decide) ?_
      cases hf
      exact tk_iret hx hb hr hlocks hs dX2_leastCost_17
def fX2_fillCosts_14 (N : Nat) (k5 : Nat → Int32 → tk_AH → Nat → Option (tk_AH × Nat)) : Nat → Nat → Int32 → Int32 → tk_AH → Nat → Option (tk_AH × Nat)
  | 0, _, _, _, _, _ => none
  | n + 1, x0, x1, x2, h, sz =>
  if x2 < 0 then (
  k5 x0 (x1 + (-1)) h sz) else (
  (tk_gR h 2 1 x0).bind fun v2 =>
  (tk_ok h 2 x0).bind fun _ =>
  (fX2_leastCost N x0 x1 x2 h sz).bind fun o3 =>
  (tk_sI o3.2.1 0 v2 ((x1 * 41) + x2) o3.1).bind fun h5 =>
  fX2_fillCosts_14 N k5 n x0 x1 (x2 + (-1)) h5 o3.2.2)
def fX2_fillCosts_5 (N : Nat) : Nat → Nat → Int32 → tk_AH → Nat → Option (tk_AH × Nat)
  | 0, _, _, _, _ => none
  | n + 1, x0, x1, h, sz =>
  if x1 < 0 then (
  some (h, sz)) else (
  (tk_gI h 2 7 x0).bind fun v7 =>
  fX2_fillCosts_14 N (fX2_fillCosts_5 N n) N x0 x1 v7 h sz)
def fX2_fillCosts (N : Nat) (x0 : Nat) (h : tk_AH) (sz : Nat) : Option (tk_AH × Nat) :=
  (tk_gI h 2 6 x0).bind fun v8 =>
  fX2_fillCosts_5 N N x0 v8 h sz
set_option maxHeartbeats 8000000 in
set_option maxRecDepth 100000 in
theorem cX2_fillCosts_ok (l : Launch) (hl0 : l.stackTraces = false) (G : tk_AG) (N : Nat) (x0 : Nat) (h : tk_AH) (sz : Nat) (h9 : tk_AH) (sz9 : Nat) (hf : fX2_fillCosts N x0 h sz = some (h9, sz9)) : Met l yX2_fillCosts (coX2_fillCosts :: tk_W) ({ frames := 3, cells := 0, slots := 0, locals := 72 }) (tk_pc G [.ref x0] h sz) (tk_qc G none h9 sz9) 0 0 (tk_ag G) := by
  refine Met.ofW (cc := cX2_fillCosts) (maxL := 3) (ret := none) (by decide) rfl ?_
  intro p e s m args below meth c s₁ B hml hv
  obtain ⟨hav, hE, hrp, hsz, hgs⟩ := hv
  have hx := B.exec
  have hb := B.bytes
  have hr := B.returns
  have hts := atoms_spec (ws := coX2_fillCosts :: tk_W) B.pre
  have ht : ∀ w ∈ tk_W, w.before args s = true := fun w h => hts w (List.mem_cons_of_mem _ h)
  have hown : s.vm.findClass RX2 = some m.cls := findClass_of_methodNamed B.named
  have hlocks := B.notSynchronized
  have hs : tk_sw G s h sz s.heap [] := ⟨hrp, hsz, by rw [hsz]; exact hgs, va_S.rf⟩
  have hl := lv_entry ([.ref x0]) (n := 3) (Nat.le_of_ble_eq_true rfl)
  have hent : entryFrame m args 3 = F0 m 0 (lg_sl ([.ref x0]) ++ List.replicate (3 - (lg_sl ([.ref x0])).length) Slot.unset).toArray [] := by rw [hav, lg_entry_eq]
  rw [hent]
  clear hent
  generalize (lg_sl ([.ref x0]) ++ List.replicate (3 - (lg_sl ([.ref x0])).length) Slot.unset).toArray = ls at hl ⊢
  have hl : lv_has ls 3 [(0, .ref x0)] := hl
  have j14 : ∀ (k5 : Nat → Int32 → tk_AH → Nat → Option (tk_AH × Nat)), (∀ (x0 : Nat) (x1 : Int32) (h : tk_AH) (sz : Nat) (H : Heap) (locs : List Loc) (ls : Array Slot), k5 x0 x1 h sz = some (h9, sz9) → tk_sw G s h sz H locs → lv_has ls 3 [(0, .ref x0), (1, .int x1)] → W p l e (headSpec (coX2_fillCosts :: tk_W) ({ frames := 3, cells := 0, slots := 0, locals := 72 })).room s m args below meth c H locs 0 (0) (MQ below (tk_qc G none h9 sz9) args s 0 0 (tk_ag G)) (F0 m 5 ls [])) → ∀ (n : Nat), ∀ (x0 : Nat) (x1 : Int32) (x2 : Int32) (h : tk_AH) (sz : Nat) (H : Heap) (locs : List Loc) (ls : Array Slot), fX2_fillCosts_14 N k5 n x0 x1 x2 h sz = some (h9, sz9) → tk_sw G s h sz H locs → lv_has ls 3 [(0, .ref x0), (1, .int x1), (2, .int x2)] → W p l e (headSpec (coX2_fillCosts :: tk_W) ({ frames := 3, cells := 0, slots := 0, locals := 72 })).room s m args below meth c H locs 0 (0) (MQ below (tk_qc G none h9 sz9) args s 0 0 (tk_ag G)) (F0 m 14 ls []) := by
    intro k5 hk5 n
    induction n with
    | zero =>
      intro x0 x1 x2 h sz H locs ls hf
      cases hf
    | succ n ih =>
      intro x0 x1 x2 h sz H locs ls hf hs hl
      rw [fX2_fillCosts_14] at hf
      refine lv_iload_n hx hb dX2_fillCosts_14 rfl (lv_at hl 2 rfl) ?_
      refine lv_if_lt (tgt := 41) hx hb dX2_fillCosts_15 (by decide) (fun c1 => ?_) (fun c1 => ?_)
      · rw [if_pos c1] at hf
        refine lv_iinc (v := x1 + (-1)) (lv' := [(1, .int (x1 + (-1))), (0, .ref x0), (2, .int x2)]) hx hb dX2_fillCosts_41 hl (k := 1) rfl rfl (by decide) rfl (fun ls hl => ?_)
        refine lv_goto (tgt := 5) hx hb dX2_fillCosts_44 (by decide) ?_
        exact hk5 x0 (x1 + (-1)) h sz _ _ _ hf hs (lv_sub hl [1, 0] rfl)
      · rw [if_neg c1] at hf
        refine lv_aload_n hx hb dX2_fillCosts_18 rfl (lv_at hl 0 rfl) ?_
        obtain ⟨v2, e2, hf⟩ := tk_bi hf
        refine tk_getR hx hb ht inX2 hown hE hs rfl 1 (by decide) (ht _ wfX2_13) e2 dX2_fillCosts_19 ?_
        refine lv_iload_n hx hb dX2_fillCosts_22 rfl (lv_at hl 1 rfl) ?_
        refine lv_bipush (v := 41) hx hb dX2_fillCosts_23 (by decide) ?_
        refine lv_imul hx hb dX2_fillCosts_25 ?_
        refine lv_iload_n hx hb dX2_fillCosts_26 rfl (lv_at hl 2 rfl) ?_
        refine lv_iadd hx hb dX2_fillCosts_27 ?_
        refine lv_aload_n hx hb dX2_fillCosts_28 rfl (lv_at hl 0 rfl) ?_
        refine lv_iload_n hx hb dX2_fillCosts_29 rfl (lv_at hl 1 rfl) ?_
        refine lv_iload_n hx hb dX2_fillCosts_30 rfl (lv_at hl 2 rfl) ?_
        obtain ⟨_, p3, hf⟩ := tk_bi hf
        obtain ⟨o3, e3, hf⟩ := tk_bi hf
        refine tk_call0 (v := some (.int o3.1)) hs (va_runV (As := [.int x1, .int x2]) (rest := [.int ((x1 * 41) + x2), .ref v2]) ⟨hx, hb, hml, hown, ht⟩ (cX2_leastCost_ok l hl0 G N x0 x1 x2 h sz o3.1 o3.2.1 o3.2.2 e3) (kwX2_leastCost ht wmX2_38 rfl rfl ⟨Nat.le_of_ble_eq_true rfl, Nat.le_of_ble_eq_true rfl⟩) (tk_preV hE hs (tk_ok_ok p3) rfl) rfl rfl hl.1 rfl (lv_room (Nat.le_of_ble_eq_true rfl)) dX2_fillCosts_31 ⟨(Nat.le_of_ble_eq_true rfl), (Nat.le_of_ble_eq_true rfl)⟩) (fun H locs hs => ?_)
        refine W.eq (g2 := F0 m 34 ls [.int o3.1, .int ((x1 * 41) + x2), .ref v2]) rfl ?_
        obtain ⟨h5, e5, hf⟩ := tk_bi hf
        refine tk_iast hx hb hE hs e5 dX2_fillCosts_34 (fun H locs hs => ?_)
        refine lv_iinc (v := x2 + (-1)) (lv' := [(2, .int (x2 + (-1))), (0, .ref x0), (1, .int x1)]) hx hb dX2_fillCosts_35 hl (k := 2) rfl rfl (by decide) rfl (fun ls hl => ?_)
        refine lv_goto (tgt := 14) hx hb dX2_fillCosts_38 (by decide) ?_
        exact ih x0 x1 (x2 + (-1)) h5 o3.2.2 _ _ _ hf hs (lv_sub hl [1, 2, 0] rfl)
  have j5 : ∀ (n : Nat), ∀ (x0 : Nat) (x1 : Int32) (h : tk_AH) (sz : Nat) (H : Heap) (locs : List Loc) (ls : Array Slot), fX2_fillCosts_5 N n x0 x1 h sz = some (h9, sz9) → tk_sw G s h sz H locs → lv_has ls 3 [(0, .ref x0), (1, .int x1)] → W p l e (headSpec (coX2_fillCosts :: tk_W) ({ frames := 3, cells := 0, slots := 0, locals := 72 })).room s m args below meth c H locs 0 (0) (MQ below (tk_qc G none h9 sz9) args s 0 0 (tk_ag G)) (F0 m 5 ls []) := by
    intro n
    induction n with
    | zero =>
      intro x0 x1 h sz H locs ls hf
      cases hf
    | succ n ih =>
      intro x0 x1 h sz H locs ls hf hs hl
      rw [fX2_fillCosts_5] at hf
      refine lv_iload_n hx hb dX2_fillCosts_5 rfl (lv_at hl 1 rfl) ?_
      refine lv_if_lt (tgt := 47) hx hb dX2_fillCosts_6 (by decide) (fun c6 => ?_) (fun c6 => ?_)
      · rw [if_pos c6] at hf
        cases hf
        exact tk_vret hx hb hr hlocks hs dX2_fillCosts_47
      · rw [if_neg c6] at hf
        refine lv_aload_n hx hb dX2_fillCosts_9 rfl (lv_at hl 0 rfl) ?_
        obtain ⟨v7, e7, hf⟩ := tk_bi hf
        refine tk_getI hx hb ht inX2 hown hE hs rfl 7 (by decide) (ht _ wfX2_29) e7 dX2_fillCosts_10 ?_
        refine lv_istore_n (lv' := [(2, .int v7), (0, .ref x0), (1, .int x1)]) hx hb dX2_fillCosts_13 rfl hl (by decide) rfl (fun ls hl => ?_)
        exact j14 (fX2_fillCosts_5 N n) ih N x0 x1 v7 h sz _ _ _ hf hs (lv_sub hl [1, 2, 0] rfl)
  unfold fX2_fillCosts at hf
  refine lv_aload_n hx hb dX2_fillCosts_0 rfl (lv_at hl 0 rfl) ?_
  obtain ⟨v8, e8, hf⟩ := tk_bi hf
  refine tk_getI hx hb ht inX2 hown hE hs rfl 6 (by decide) (ht _ wfX2_26) e8 dX2_fillCosts_1 ?_
  refine lv_istore_n (lv' := [(1, .int v8), (0, .ref x0)]) hx hb dX2_fillCosts_4 rfl hl (by decide) rfl (fun ls hl => ?_)
  exact j5 N x0 v8 h sz _ _ _ hf hs (lv_sub hl [1, 0] rfl)
def fX2_firstKind_39 (N : Nat) (x4 : Int32) (h : tk_AH) (sz : Nat) : Option (Int32 × tk_AH × Nat) :=
  some (x4, h, sz)
def fX2_firstKind_15 (N : Nat) (k39 : Int32 → tk_AH → Nat → Option (Int32 × tk_AH × Nat)) : Nat → Nat → Int32 → Int32 → Int32 → Int32 → tk_AH → Nat → Option (Int32 × tk_AH × Nat)
  | 0, _, _, _, _, _, _, _ => none
  | n + 1, x0, x1, x2, x3, x4, h, sz =>
  if 4 ≤ x4 then (
  k39 x4 h sz) else (
  (tk_ok h 2 x0).bind fun _ =>
  (fX2_costBy N x0 x4 x1 x2 h sz).bind fun o2 =>
  if o2.1 = x3 then (
  k39 x4 o2.2.1 o2.2.2) else (
  fX2_firstKind_15 N k39 n x0 x1 x2 x3 (x4 + 1) o2.2.1 o2.2.2))
def fX2_firstKind (N : Nat) (x0 : Nat) (x1 : Int32) (x2 : Int32) (h : tk_AH) (sz : Nat) : Option (Int32 × tk_AH × Nat) :=
  (tk_gR h 2 1 x0).bind fun v5 =>
  (tk_aI h 0 v5 ((x1 * 41) + x2)).bind fun v6 =>
  fX2_firstKind_15 N (fX2_firstKind_39 N) N x0 x1 x2 v6 0 h sz
set_option maxHeartbeats 8000000 in
set_option maxRecDepth 100000 in
theorem cX2_firstKind_ok (l : Launch) (hl0 : l.stackTraces = false) (G : tk_AG) (N : Nat) (x0 : Nat) (x1 : Int32) (x2 : Int32) (h : tk_AH) (sz : Nat) (r9 : Int32) (h9 : tk_AH) (sz9 : Nat) (hf : fX2_firstKind N x0 x1 x2 h sz = some (r9, h9, sz9)) : Met l yX2_firstKind (coX2_firstKind :: tk_W) ({ frames := 2, cells := 0, slots := 0, locals := 48 }) (tk_pc G [.ref x0, .int x1, .int x2] h sz) (tk_qc G (some (.int r9)) h9 sz9) 0 0 (tk_ag G) := by
  refine Met.ofW (cc := cX2_firstKind) (maxL := 5) (ret := (some .int)) (by decide) rfl ?_
  intro p e s m args below meth c s₁ B hml hv
  obtain ⟨hav, hE, hrp, hsz, hgs⟩ := hv
  have hx := B.exec
  have hb := B.bytes
  have hr := B.returns
  have hts := atoms_spec (ws := coX2_firstKind :: tk_W) B.pre
  have ht : ∀ w ∈ tk_W, w.before args s = true := fun w h => hts w (List.mem_cons_of_mem _ h)
  have hown : s.vm.findClass RX2 = some m.cls := findClass_of_methodNamed B.named
  have hlocks := B.notSynchronized
  have hs : tk_sw G s h sz s.heap [] := ⟨hrp, hsz, by rw [hsz]; exact hgs, va_S.rf⟩
  have hl := lv_entry ([.ref x0, .int x1, .int x2]) (n := 5) (Nat.le_of_ble_eq_true rfl)
  have hent : entryFrame m args 5 = F0 m 0 (lg_sl ([.ref x0, .int x1, .int x2]) ++ List.replicate (5 - (lg_sl ([.ref x0, .int x1, .int x2])).length) Slot.unset).toArray [] := by rw [hav, lg_entry_eq]
  rw [hent]
  clear hent
  generalize (lg_sl ([.ref x0, .int x1, .int x2]) ++ List.replicate (5 - (lg_sl ([.ref x0, .int x1, .int x2])).length) Slot.unset).toArray = ls at hl ⊢
  have hl : lv_has ls 5 [(0, .ref x0), (1, .int x1), (2, .int x2)] := hl
  have j39 : ∀ (x4 : Int32) (h : tk_AH) (sz : Nat) (H : Heap) (locs : List Loc) (ls : Array Slot), fX2_firstKind_39 N x4 h sz = some (r9, h9, sz9) → tk_sw G s h sz H locs → lv_has ls 5 [(4, .int x4)] → W p l e (headSpec (coX2_firstKind :: tk_W) ({ frames := 2, cells := 0, slots := 0, locals := 48 })).room s m args below meth c H locs 0 (0) (MQ below (tk_qc G (some (.int r9)) h9 sz9) args s 0 0 (tk_ag G)) (F0 m 39 ls []) := by
    intro x4 h sz H locs ls hf hs hl
    unfold fX2_firstKind_39 at hf
    refine lv_iload hx hb dX2_firstKind_39 (lv_at hl 0 rfl) ?_
    cases hf
    exact tk_iret hx hb hr hlocks hs dX2_firstKind_41
  have j15 : ∀ (k39 : Int32 → tk_AH → Nat → Option (Int32 × tk_AH × Nat)), (∀ (x4 : Int32) (h : tk_AH) (sz : Nat) (H : Heap) (locs : List Loc) (ls : Array Slot), k39 x4 h sz = some (r9, h9, sz9) → tk_sw G s h sz H locs → lv_has ls 5 [(4, .int x4)] → W p l e (headSpec (coX2_firstKind :: tk_W) ({ frames := 2, cells := 0, slots := 0, locals := 48 })).room s m args below meth c H locs 0 (0) (MQ below (tk_qc G (some (.int r9)) h9 sz9) args s 0 0 (tk_ag G)) (F0 m 39 ls [])) → ∀ (n : Nat), ∀ (x0 : Nat) (x1 : Int32) (x2 : Int32) (x3 : Int32) (x4 : Int32) (h : tk_AH) (sz : Nat) (H : Heap) (locs : List Loc) (ls : Array Slot), fX2_firstKind_15 N k39 n x0 x1 x2 x3 x4 h sz = some (r9, h9, sz9) → tk_sw G s h sz H locs → lv_has ls 5 [(0, .ref x0), (1, .int x1), (2, .int x2), (3, .int x3), (4, .int x4)] → W p l e (headSpec (coX2_firstKind :: tk_W) ({ frames := 2, cells := 0, slots := 0, locals := 48 })).room s m args below meth c H locs 0 (0) (MQ below (tk_qc G (some (.int r9)) h9 sz9) args s 0 0 (tk_ag G)) (F0 m 15 ls []) := by
    intro k39 hk39 n
    induction n with
    | zero =>
      intro x0 x1 x2 x3 x4 h sz H locs ls hf
      cases hf
    | succ n ih =>
      intro x0 x1 x2 x3 x4 h sz H locs ls hf hs hl
      rw [fX2_firstKind_15] at hf
      refine lv_iload hx hb dX2_firstKind_15 (lv_at hl 4 rfl) ?_
      refine lv_iconst (v := 4) hx hb dX2_firstKind_17 (by decide) ?_
      refine lv_icmp_ge (tgt := 39) hx hb dX2_firstKind_18 (by decide) (fun c1 => ?_) (fun c1 => ?_)
      · rw [if_pos c1] at hf
        exact hk39 x4 h sz _ _ _ hf hs (lv_sub hl [4] rfl)
      · rw [if_neg c1] at hf
        refine lv_aload_n hx hb dX2_firstKind_21 rfl (lv_at hl 0 rfl) ?_
        refine lv_iload hx hb dX2_firstKind_22 (lv_at hl 4 rfl) ?_
        refine lv_iload_n hx hb dX2_firstKind_24 rfl (lv_at hl 1 rfl) ?_
        refine lv_iload_n hx hb dX2_firstKind_25 rfl (lv_at hl 2 rfl) ?_
        obtain ⟨_, p2, hf⟩ := tk_bi hf
        obtain ⟨o2, e2, hf⟩ := tk_bi hf
        refine tk_call0 (v := some (.int o2.1)) hs (va_runV (As := [.int x4, .int x1, .int x2]) (rest := []) ⟨hx, hb, hml, hown, ht⟩ (cX2_costBy_ok l hl0 G N x0 x4 x1 x2 h sz o2.1 o2.2.1 o2.2.2 e2) (kwX2_costBy ht wmX2_43 rfl rfl ⟨Nat.le_of_ble_eq_true rfl, Nat.le_of_ble_eq_true rfl⟩) (tk_preV hE hs (tk_ok_ok p2) rfl) rfl rfl hl.1 rfl (lv_room (Nat.le_of_ble_eq_true rfl)) dX2_firstKind_26 ⟨(Nat.le_of_ble_eq_true rfl), (Nat.le_of_ble_eq_true rfl)⟩) (fun H locs hs => ?_)
        refine W.eq (g2 := F0 m 29 ls [.int o2.1]) rfl ?_
        refine lv_iload_n hx hb dX2_firstKind_29 rfl (lv_at hl 3 rfl) ?_
        refine lv_icmp_eq (tgt := 39) hx hb dX2_firstKind_30 (by decide) (fun c4 => ?_) (fun c4 => ?_)
        · rw [if_pos c4] at hf
          exact hk39 x4 o2.2.1 o2.2.2 _ _ _ hf hs (lv_sub hl [4] rfl)
        · rw [if_neg c4] at hf
          refine lv_iinc (v := x4 + 1) (lv' := [(4, .int (x4 + 1)), (0, .ref x0), (1, .int x1), (2, .int x2), (3, .int x3)]) hx hb dX2_firstKind_33 hl (k := 4) rfl rfl (by decide) rfl (fun ls hl => ?_)
          refine lv_goto (tgt := 15) hx hb dX2_firstKind_36 (by decide) ?_
          exact ih x0 x1 x2 x3 (x4 + 1) o2.2.1 o2.2.2 _ _ _ hf hs (lv_sub hl [1, 2, 3, 4, 0] rfl)
  unfold fX2_firstKind at hf
  refine lv_aload_n hx hb dX2_firstKind_0 rfl (lv_at hl 0 rfl) ?_
  obtain ⟨v5, e5, hf⟩ := tk_bi hf
  refine tk_getR hx hb ht inX2 hown hE hs rfl 1 (by decide) (ht _ wfX2_13) e5 dX2_firstKind_1 ?_
  refine lv_iload_n hx hb dX2_firstKind_4 rfl (lv_at hl 1 rfl) ?_
  refine lv_bipush (v := 41) hx hb dX2_firstKind_5 (by decide) ?_
  refine lv_imul hx hb dX2_firstKind_7 ?_
  refine lv_iload_n hx hb dX2_firstKind_8 rfl (lv_at hl 2 rfl) ?_
  refine lv_iadd hx hb dX2_firstKind_9 ?_
  obtain ⟨v6, e6, hf⟩ := tk_bi hf
  refine tk_iald hx hb hE hs e6 dX2_firstKind_10 ?_
  refine lv_istore_n (lv' := [(3, .int v6), (0, .ref x0), (1, .int x1), (2, .int x2)]) hx hb dX2_firstKind_11 rfl hl (by decide) rfl (fun ls hl => ?_)
  refine lv_iconst (v := 0) hx hb dX2_firstKind_12 (by decide) ?_
  refine lv_istore (lv' := [(4, .int 0), (3, .int v6), (0, .ref x0), (1, .int x1), (2, .int x2)]) hx hb dX2_firstKind_13 hl (by decide) rfl (fun ls hl => ?_)
  exact j15 (fX2_firstKind_39 N) (j39) N x0 x1 x2 v6 0 h sz _ _ _ hf hs (lv_sub hl [2, 3, 4, 1, 0] rfl)
def fX2_writeMarks_110 (N : Nat) (h : tk_AH) (sz : Nat) : Option (tk_AH × Nat) :=
  some (h, sz)
def fX2_writeMarks_54 (N : Nat) (k29 : Nat → Int32 → Int32 → tk_AH → Nat → Option (tk_AH × Nat)) (x0 : Nat) (x1 : Int32) (x2 : Int32) (h : tk_AH) (sz : Nat) : Option (tk_AH × Nat) :=
  (tk_ok h 2 x0).bind fun _ =>
  (fX2_firstKind N x0 x1 x2 h sz).bind fun o1 =>
  (tk_gR o1.2.1 2 2 x0).bind fun v3 =>
  (tk_gI o1.2.1 2 5 x0).bind fun v4 =>
  (tk_sI o1.2.1 0 v3 v4 o1.1).bind fun h5 =>
  (tk_gI h5 2 5 x0).bind fun v6 =>
  (tk_pF h5 2 5 x0 (.int (v6 + 1))).bind fun h7 =>
  (tk_gR h7 2 3 x0).bind fun v8 =>
  (tk_aI h7 0 v8 o1.1).bind fun v9 =>
  (tk_sI h7 0 v8 o1.1 (v9 + 1)).bind fun h10 =>
  (tk_tab [1, 1, 1, 0, 2] o1.1).bind fun v12 =>
  (tk_tab [1, 1, 0, 1, 2] o1.1).bind fun v14 =>
  k29 x0 (x1 + v12) (x2 + v14) h10 o1.2.2
def fX2_writeMarks_29 (N : Nat) (k110 : tk_AH → Nat → Option (tk_AH × Nat)) : Nat → Nat → Int32 → Int32 → tk_AH → Nat → Option (tk_AH × Nat)
  | 0, _, _, _, _, _ => none
  | n + 1, x0, x1, x2, h, sz =>
  (tk_gI h 2 5 x0).bind fun v15 =>
  if 80 ≤ v15 then (
  k110 h sz) else (
  (tk_gI h 2 6 x0).bind fun v17 =>
  if x1 < v17 then (
  fX2_writeMarks_54 N (fX2_writeMarks_29 N k110 n) x0 x1 x2 h sz) else (
  (tk_gI h 2 7 x0).bind fun v19 =>
  if v19 ≤ x2 then (
  k110 h sz) else (
  fX2_writeMarks_54 N (fX2_writeMarks_29 N k110 n) x0 x1 x2 h sz)))
def fX2_writeMarks_7 (N : Nat) (k29 : Nat → Int32 → Int32 → tk_AH → Nat → Option (tk_AH × Nat)) : Nat → Nat → Int32 → tk_AH → Nat → Option (tk_AH × Nat)
  | 0, _, _, _, _ => none
  | n + 1, x0, x1, h, sz =>
  if 5 ≤ x1 then (
  k29 x0 0 0 h sz) else (
  (tk_gR h 2 3 x0).bind fun v22 =>
  (tk_sI h 0 v22 x1 0).bind fun h23 =>
  fX2_writeMarks_7 N k29 n x0 (x1 + 1) h23 sz)
def fX2_writeMarks (N : Nat) (x0 : Nat) (h : tk_AH) (sz : Nat) : Option (tk_AH × Nat) :=
  (tk_pF h 2 5 x0 (.int 0)).bind fun h24 =>
  fX2_writeMarks_7 N (fX2_writeMarks_29 N (fX2_writeMarks_110 N) N) N x0 0 h24 sz
set_option maxHeartbeats 8000000 in
set_option maxRecDepth 100000 in
theorem cX2_writeMarks_ok (l : Launch) (hl0 : l.stackTraces = false) (G : tk_AG) (N : Nat) (x0 : Nat) (h : tk_AH) (sz : Nat) (h9 : tk_AH) (sz9 : Nat) (hf : fX2_writeMarks N x0 h sz = some (h9, sz9)) : Met l yX2_writeMarks (coX2_writeMarks :: tk_W) ({ frames := 3, cells := 0, slots := 0, locals := 72 }) (tk_pc G [.ref x0] h sz) (tk_qc G none h9 sz9) 0 0 (tk_ag G) := by
  refine Met.ofW (cc := cX2_writeMarks) (maxL := 4) (ret := none) (by decide) rfl ?_
  intro p e s m args below meth c s₁ B hml hv
  obtain ⟨hav, hE, hrp, hsz, hgs⟩ := hv
  have hx := B.exec
  have hb := B.bytes
  have hr := B.returns
  have hts := atoms_spec (ws := coX2_writeMarks :: tk_W) B.pre
  have ht : ∀ w ∈ tk_W, w.before args s = true := fun w h => hts w (List.mem_cons_of_mem _ h)
  have hown : s.vm.findClass RX2 = some m.cls := findClass_of_methodNamed B.named
  have hlocks := B.notSynchronized
  have hs : tk_sw G s h sz s.heap [] := ⟨hrp, hsz, by rw [hsz]; exact hgs, va_S.rf⟩
  have hl := lv_entry ([.ref x0]) (n := 4) (Nat.le_of_ble_eq_true rfl)
  have hent : entryFrame m args 4 = F0 m 0 (lg_sl ([.ref x0]) ++ List.replicate (4 - (lg_sl ([.ref x0])).length) Slot.unset).toArray [] := by rw [hav, lg_entry_eq]
  rw [hent]
  clear hent
  generalize (lg_sl ([.ref x0]) ++ List.replicate (4 - (lg_sl ([.ref x0])).length) Slot.unset).toArray = ls at hl ⊢
  have hl : lv_has ls 4 [(0, .ref x0)] := hl
  have j110 : ∀ (h : tk_AH) (sz : Nat) (H : Heap) (locs : List Loc) (ls : Array Slot), fX2_writeMarks_110 N h sz = some (h9, sz9) → tk_sw G s h sz H locs → lv_has ls 4 [] → W p l e (headSpec (coX2_writeMarks :: tk_W) ({ frames := 3, cells := 0, slots := 0, locals := 72 })).room s m args below meth c H locs 0 (0) (MQ below (tk_qc G none h9 sz9) args s 0 0 (tk_ag G)) (F0 m 110 ls []) := by
    intro h sz H locs ls hf hs hl
    unfold fX2_writeMarks_110 at hf
    cases hf
    exact tk_vret hx hb hr hlocks hs dX2_writeMarks_110
  have j54 : ∀ (k29 : Nat → Int32 → Int32 → tk_AH → Nat → Option (tk_AH × Nat)), (∀ (x0 : Nat) (x1 : Int32) (x2 : Int32) (h : tk_AH) (sz : Nat) (H : Heap) (locs : List Loc) (ls : Array Slot), k29 x0 x1 x2 h sz = some (h9, sz9) → tk_sw G s h sz H locs → lv_has ls 4 [(0, .ref x0), (1, .int x1), (2, .int x2)] → W p l e (headSpec (coX2_writeMarks :: tk_W) ({ frames := 3, cells := 0, slots := 0, locals := 72 })).room s m args below meth c H locs 0 (0) (MQ below (tk_qc G none h9 sz9) args s 0 0 (tk_ag G)) (F0 m 29 ls [])) → ∀ (x0 : Nat) (x1 : Int32) (x2 : Int32) (h : tk_AH) (sz : Nat) (H : Heap) (locs : List Loc) (ls : Array Slot), fX2_writeMarks_54 N k29 x0 x1 x2 h sz = some (h9, sz9) → tk_sw G s h sz H locs → lv_has ls 4 [(0, .ref x0), (1, .int x1), (2, .int x2)] → W p l e (headSpec (coX2_writeMarks :: tk_W) ({ frames := 3, cells := 0, slots := 0, locals := 72 })).room s m args below meth c H locs 0 (0) (MQ below (tk_qc G none h9 sz9) args s 0 0 (tk_ag G)) (F0 m 54 ls []) := by
    intro k29 hk29 x0 x1 x2 h sz H locs ls hf hs hl
    unfold fX2_writeMarks_54 at hf
    refine lv_aload_n hx hb dX2_writeMarks_54 rfl (lv_at hl 0 rfl) ?_
    refine lv_iload_n hx hb dX2_writeMarks_55 rfl (lv_at hl 1 rfl) ?_
    refine lv_iload_n hx hb dX2_writeMarks_56 rfl (lv_at hl 2 rfl) ?_
    obtain ⟨_, p1, hf⟩ := tk_bi hf
    obtain ⟨o1, e1, hf⟩ := tk_bi hf
    refine tk_call0 (v := some (.int o1.1)) hs (va_runV (As := [.int x1, .int x2]) (rest := []) ⟨hx, hb, hml, hown, ht⟩ (cX2_firstKind_ok l hl0 G N x0 x1 x2 h sz o1.1 o1.2.1 o1.2.2 e1) (kwX2_firstKind ht wmX2_55 rfl rfl ⟨Nat.le_of_ble_eq_true rfl, Nat.le_of_ble_eq_true rfl⟩) (tk_preV hE hs (tk_ok_ok p1) rfl) rfl rfl hl.1 rfl (lv_room (Nat.le_of_ble_eq_true rfl)) dX2_writeMarks_57 ⟨(Nat.le_of_ble_eq_true rfl), (Nat.le_of_ble_eq_true rfl)⟩) (fun H locs hs => ?_)
    refine W.eq (g2 := F0 m 60 ls [.int o1.1]) rfl ?_
    refine lv_istore_n (lv' := [(3, .int o1.1), (0, .ref x0), (1, .int x1), (2, .int x2)]) hx hb dX2_writeMarks_60 rfl hl (by decide) rfl (fun ls hl => ?_)
    refine lv_aload_n hx hb dX2_writeMarks_61 rfl (lv_at hl 1 rfl) ?_
    obtain ⟨v3, e3, hf⟩ := tk_bi hf
    refine tk_getR hx hb ht inX2 hown hE hs rfl 2 (by decide) (ht _ wfX2_16) e3 dX2_writeMarks_62 ?_
    refine lv_aload_n hx hb dX2_writeMarks_65 rfl (lv_at hl 1 rfl) ?_
    obtain ⟨v4, e4, hf⟩ := tk_bi hf
    refine tk_getI hx hb ht inX2 hown hE hs rfl 5 (by decide) (ht _ wfX2_52) e4 dX2_writeMarks_66 ?_
    refine lv_iload_n hx hb dX2_writeMarks_69 rfl (lv_at hl 0 rfl) ?_
    obtain ⟨h5, e5, hf⟩ := tk_bi hf
    refine tk_iast hx hb hE hs e5 dX2_writeMarks_70 (fun H locs hs => ?_)
    refine lv_aload_n hx hb dX2_writeMarks_71 rfl (lv_at hl 1 rfl) ?_
    refine lv_dup hx hb dX2_writeMarks_72 rfl ?_
    obtain ⟨v6, e6, hf⟩ := tk_bi hf
    refine tk_getI hx hb ht inX2 hown hE hs rfl 5 (by decide) (ht _ wfX2_52) e6 dX2_writeMarks_73 ?_
    refine lv_iconst (v := 1) hx hb dX2_writeMarks_76 (by decide) ?_
    refine lv_iadd hx hb dX2_writeMarks_77 ?_
    obtain ⟨h7, e7, hf⟩ := tk_bi hf
    refine tk_put hx hb ht inX2 tyX2 tyX2_ok nmX2 hown hE hs rfl 5 (by decide) (ht _ wfX2_52) rfl rfl rfl e7 dX2_writeMarks_78 (fun H locs hs => ?_)
    refine lv_aload_n hx hb dX2_writeMarks_81 rfl (lv_at hl 1 rfl) ?_
    obtain ⟨v8, e8, hf⟩ := tk_bi hf
    refine tk_getR hx hb ht inX2 hown hE hs rfl 3 (by decide) (ht _ wfX2_19) e8 dX2_writeMarks_82 ?_
    refine lv_iload_n hx hb dX2_writeMarks_85 rfl (lv_at hl 0 rfl) ?_
    refine lv_dup2_11 hx hb dX2_writeMarks_86 rfl rfl ?_
    obtain ⟨v9, e9, hf⟩ := tk_bi hf
    refine tk_iald hx hb hE hs e9 dX2_writeMarks_87 ?_
    refine lv_iconst (v := 1) hx hb dX2_writeMarks_88 (by decide) ?_
    refine lv_iadd hx hb dX2_writeMarks_89 ?_
    obtain ⟨h10, e10, hf⟩ := tk_bi hf
    refine tk_iast hx hb hE hs e10 dX2_writeMarks_90 (fun H locs hs => ?_)
    refine lv_iload_n hx hb dX2_writeMarks_91 rfl (lv_at hl 2 rfl) ?_
    obtain ⟨t11, z11, tt11⟩ := hE.2.2.2.2.1 ("SAID_STEPS", [1, 1, 1, 0, 2]) (by simp [tk_stats])
    refine va_gets (v := .ref t11) hx hb z11 hs.2.2.2 hown (ht _ wfX2_58) (fun _ h => h) dX2_writeMarks_92 ?_
    refine lv_iload_n hx hb dX2_writeMarks_95 rfl (lv_at hl 0 rfl) ?_
    obtain ⟨v12, e12, hf⟩ := tk_bi hf
    obtain ⟨i12, u12⟩ := tk_tab_ok e12
    refine va_ti hx hb tt11 hs.2.2.2 i12 (v := .int v12) (congrArg Value.int u12) dX2_writeMarks_96 ?_
    refine lv_iadd hx hb dX2_writeMarks_97 ?_
    refine lv_istore_n (lv' := [(1, .int (x1 + v12)), (3, .int o1.1), (0, .ref x0), (2, .int x2)]) hx hb dX2_writeMarks_98 rfl hl (by decide) rfl (fun ls hl => ?_)
    refine lv_iload_n hx hb dX2_writeMarks_99 rfl (lv_at hl 3 rfl) ?_
    obtain ⟨t13, z13, tt13⟩ := hE.2.2.2.2.1 ("MEANT_STEPS", [1, 1, 0, 1, 2]) (by simp [tk_stats])
    refine va_gets (v := .ref t13) hx hb z13 hs.2.2.2 hown (ht _ wfX2_61) (fun _ h => h) dX2_writeMarks_100 ?_
    refine lv_iload_n hx hb dX2_writeMarks_103 rfl (lv_at hl 1 rfl) ?_
    obtain ⟨v14, e14, hf⟩ := tk_bi hf
    obtain ⟨i14, u14⟩ := tk_tab_ok e14
    refine va_ti hx hb tt13 hs.2.2.2 i14 (v := .int v14) (congrArg Value.int u14) dX2_writeMarks_104 ?_
    refine lv_iadd hx hb dX2_writeMarks_105 ?_
    refine lv_istore_n (lv' := [(2, .int (x2 + v14)), (1, .int (x1 + v12)), (3, .int o1.1), (0, .ref x0)]) hx hb dX2_writeMarks_106 rfl hl (by decide) rfl (fun ls hl => ?_)
    refine lv_goto (tgt := 29) hx hb dX2_writeMarks_107 (by decide) ?_
    exact hk29 x0 (x1 + v12) (x2 + v14) h10 o1.2.2 _ _ _ hf hs (lv_sub hl [3, 1, 0] rfl)
  have j29 : ∀ (k110 : tk_AH → Nat → Option (tk_AH × Nat)), (∀ (h : tk_AH) (sz : Nat) (H : Heap) (locs : List Loc) (ls : Array Slot), k110 h sz = some (h9, sz9) → tk_sw G s h sz H locs → lv_has ls 4 [] → W p l e (headSpec (coX2_writeMarks :: tk_W) ({ frames := 3, cells := 0, slots := 0, locals := 72 })).room s m args below meth c H locs 0 (0) (MQ below (tk_qc G none h9 sz9) args s 0 0 (tk_ag G)) (F0 m 110 ls [])) → ∀ (n : Nat), ∀ (x0 : Nat) (x1 : Int32) (x2 : Int32) (h : tk_AH) (sz : Nat) (H : Heap) (locs : List Loc) (ls : Array Slot), fX2_writeMarks_29 N k110 n x0 x1 x2 h sz = some (h9, sz9) → tk_sw G s h sz H locs → lv_has ls 4 [(0, .ref x0), (1, .int x1), (2, .int x2)] → W p l e (headSpec (coX2_writeMarks :: tk_W) ({ frames := 3, cells := 0, slots := 0, locals := 72 })).room s m args below meth c H locs 0 (0) (MQ below (tk_qc G none h9 sz9) args s 0 0 (tk_ag G)) (F0 m 29 ls []) := by
    intro k110 hk110 n
    induction n with
    | zero =>
      intro x0 x1 x2 h sz H locs ls hf
      cases hf
    | succ n ih =>
      intro x0 x1 x2 h sz H locs ls hf hs hl
      rw [fX2_writeMarks_29] at hf
      refine lv_aload_n hx hb dX2_writeMarks_29 rfl (lv_at hl 0 rfl) ?_
      obtain ⟨v15, e15, hf⟩ := tk_bi hf
      refine tk_getI hx hb ht inX2 hown hE hs rfl 5 (by decide) (ht _ wfX2_52) e15 dX2_writeMarks_30 ?_
      refine lv_bipush (v := 80) hx hb dX2_writeMarks_33 (by decide) ?_
      refine lv_icmp_ge (tgt := 110) hx hb dX2_writeMarks_35 (by decide) (fun c16 => ?_) (fun c16 => ?_)
      · rw [if_pos c16] at hf
        exact hk110 h sz _ _ _ hf hs (lv_sub hl [] rfl)
      · rw [if_neg c16] at hf
        refine lv_iload_n hx hb dX2_writeMarks_38 rfl (lv_at hl 1 rfl) ?_
        refine lv_aload_n hx hb dX2_writeMarks_39 rfl (lv_at hl 0 rfl) ?_
        obtain ⟨v17, e17, hf⟩ := tk_bi hf
        refine tk_getI hx hb ht inX2 hown hE hs rfl 6 (by decide) (ht _ wfX2_26) e17 dX2_writeMarks_40 ?_
        refine lv_icmp_lt (tgt := 54) hx hb dX2_writeMarks_43 (by decide) (fun c18 => ?_) (fun c18 => ?_)
        · rw [if_pos c18] at hf
          exact j54 (fX2_writeMarks_29 N k110 n) ih x0 x1 x2 h sz _ _ _ hf hs (lv_sub hl [0, 1, 2] rfl)
        · rw [if_neg c18] at hf
          refine lv_iload_n hx hb dX2_writeMarks_46 rfl (lv_at hl 2 rfl) ?_
          refine lv_aload_n hx hb dX2_writeMarks_47 rfl (lv_at hl 0 rfl) ?_
          obtain ⟨v19, e19, hf⟩ := tk_bi hf
          refine tk_getI hx hb ht inX2 hown hE hs rfl 7 (by decide) (ht _ wfX2_29) e19 dX2_writeMarks_48 ?_
          refine lv_icmp_ge (tgt := 110) hx hb dX2_writeMarks_51 (by decide) (fun c20 => ?_) (fun c20 => ?_)
          · rw [if_pos c20] at hf
            exact hk110 h sz _ _ _ hf hs (lv_sub hl [] rfl)
          · rw [if_neg c20] at hf
            exact j54 (fX2_writeMarks_29 N k110 n) ih x0 x1 x2 h sz _ _ _ hf hs (lv_sub hl [0, 1, 2] rfl)
  have j7 : ∀ (k29 : Nat → Int32 → Int32 → tk_AH → Nat → Option (tk_AH × Nat)), (∀ (x0 : Nat) (x1 : Int32) (x2 : Int32) (h : tk_AH) (sz : Nat) (H : Heap) (locs : List Loc) (ls : Array Slot), k29 x0 x1 x2 h sz = some (h9, sz9) → tk_sw G s h sz H locs → lv_has ls 4 [(0, .ref x0), (1, .int x1), (2, .int x2)] → W p l e (headSpec (coX2_writeMarks :: tk_W) ({ frames := 3, cells := 0, slots := 0, locals := 72 })).room s m args below meth c H locs 0 (0) (MQ below (tk_qc G none h9 sz9) args s 0 0 (tk_ag G)) (F0 m 29 ls [])) → ∀ (n : Nat), ∀ (x0 : Nat) (x1 : Int32) (h : tk_AH) (sz : Nat) (H : Heap) (locs : List Loc) (ls : Array Slot), fX2_writeMarks_7 N k29 n x0 x1 h sz = some (h9, sz9) → tk_sw G s h sz H locs → lv_has ls 4 [(0, .ref x0), (1, .int x1)] → W p l e (headSpec (coX2_writeMarks :: tk_W) ({ frames := 3, cells := 0, slots := 0, locals := 72 })).room s m args below meth c H locs 0 (0) (MQ below (tk_qc G none h9 sz9) args s 0 0 (tk_ag G)) (F0 m 7 ls []) := by
    intro k29 hk29 n
    induction n with
    | zero =>
      intro x0 x1 h sz H locs ls hf
      cases hf
    | succ n ih =>
      intro x0 x1 h sz H locs ls hf hs hl
      rw [fX2_writeMarks_7] at hf
      refine lv_iload_n hx hb dX2_writeMarks_7 rfl (lv_at hl 1 rfl) ?_
      refine lv_iconst (v := 5) hx hb dX2_writeMarks_8 (by decide) ?_
      refine lv_icmp_ge (tgt := 25) hx hb dX2_writeMarks_9 (by decide) (fun c21 => ?_) (fun c21 => ?_)
      · rw [if_pos c21] at hf
        refine lv_iconst (v := 0) hx hb dX2_writeMarks_25 (by decide) ?_
        refine lv_istore_n (lv' := [(1, .int 0), (0, .ref x0)]) hx hb dX2_writeMarks_26 rfl hl (by decide) rfl (fun ls hl => ?_)
        refine lv_iconst (v := 0) hx hb dX2_writeMarks_27 (by decide) ?_
        refine lv_istore_n (lv' := [(2, .int 0), (1, .int 0), (0, .ref x0)]) hx hb dX2_writeMarks_28 rfl hl (by decide) rfl (fun ls hl => ?_)
        exact hk29 x0 0 0 h sz _ _ _ hf hs (lv_sub hl [2, 1, 0] rfl)
      · rw [if_neg c21] at hf
        refine lv_aload_n hx hb dX2_writeMarks_12 rfl (lv_at hl 0 rfl) ?_
        obtain ⟨v22, e22, hf⟩ := tk_bi hf
        refine tk_getR hx hb ht inX2 hown hE hs rfl 3 (by decide) (ht _ wfX2_19) e22 dX2_writeMarks_13 ?_
        refine lv_iload_n hx hb dX2_writeMarks_16 rfl (lv_at hl 1 rfl) ?_
        refine lv_iconst (v := 0) hx hb dX2_writeMarks_17 (by decide) ?_
        obtain ⟨h23, e23, hf⟩ := tk_bi hf
        refine tk_iast hx hb hE hs e23 dX2_writeMarks_18 (fun H locs hs => ?_)
        refine lv_iinc (v := x1 + 1) (lv' := [(1, .int (x1 + 1)), (0, .ref x0)]) hx hb dX2_writeMarks_19 hl (k := 1) rfl rfl (by decide) rfl (fun ls hl => ?_)
        refine lv_goto (tgt := 7) hx hb dX2_writeMarks_22 (by decide) ?_
        exact ih x0 (x1 + 1) h23 sz _ _ _ hf hs (lv_sub hl [1, 0] rfl)
  unfold fX2_writeMarks at hf
  refine lv_aload_n hx hb dX2_writeMarks_0 rfl (lv_at hl 0 rfl) ?_
  refine lv_iconst (v := 0) hx hb dX2_writeMarks_1 (by decide) ?_
  obtain ⟨h24, e24, hf⟩ := tk_bi hf
  refine tk_put hx hb ht inX2 tyX2 tyX2_ok nmX2 hown hE hs rfl 5 (by decide) (ht _ wfX2_52) rfl rfl rfl e24 dX2_writeMarks_2 (fun H locs hs => ?_)
  refine lv_iconst (v := 0) hx hb dX2_writeMarks_5 (by decide) ?_
  refine lv_istore_n (lv' := [(1, .int 0), (0, .ref x0)]) hx hb dX2_writeMarks_6 rfl hl (by decide) rfl (fun ls hl => ?_)
  exact j7 (fX2_writeMarks_29 N (fX2_writeMarks_110 N) N) (j29 (fX2_writeMarks_110 N) (j110) N) N x0 0 h24 sz _ _ _ hf hs (lv_sub hl [1, 0] rfl)
def fX2_compare (N : Nat) (x0 : Nat) (x1 : Int32) (x2 : Int32) (h : tk_AH) (sz : Nat) : Option (Int32 × tk_AH × Nat) :=
  (tk_pF h 2 6 x0 (.int x1)).bind fun h1 =>
  (tk_pF h1 2 7 x0 (.int x2)).bind fun h2 =>
  (tk_ok h2 2 x0).bind fun _ =>
  (fX2_fillCosts N x0 h2 sz).bind fun o3 =>
  (tk_ok o3.1 2 x0).bind fun _ =>
  (fX2_writeMarks N x0 o3.1 o3.2).bind fun o5 =>
  (tk_pF o5.1 2 4 x0 (.int 0)).bind fun h7 =>
  (tk_gR h7 2 1 x0).bind fun v8 =>
  (tk_aI h7 0 v8 0).bind fun v9 =>
  some (v9, h7, o5.2)
set_option maxHeartbeats 8000000 in
set_option maxRecDepth 100000 in
theorem cX2_compare_ok (l : Launch) (hl0 : l.stackTraces = false) (G : tk_AG) (N : Nat) (x0 : Nat) (x1 : Int32) (x2 : Int32) (h : tk_AH) (sz : Nat) (r9 : Int32) (h9 : tk_AH) (sz9 : Nat) (hf : fX2_compare N x0 x1 x2 h sz = some (r9, h9, sz9)) : Met l yX2_compare (coX2_compare :: tk_W) ({ frames := 4, cells := 0, slots := 0, locals := 95 }) (tk_pc G [.ref x0, .int x1, .int x2] h sz) (tk_qc G (some (.int r9)) h9 sz9) 0 0 (tk_ag G) := by
  refine Met.ofW (cc := cX2_compare) (maxL := 3) (ret := (some .int)) (by decide) rfl ?_
  intro p e s m args below meth c s₁ B hml hv
  obtain ⟨hav, hE, hrp, hsz, hgs⟩ := hv
  have hx := B.exec
  have hb := B.bytes
  have hr := B.returns
  have hts := atoms_spec (ws := coX2_compare :: tk_W) B.pre
  have ht : ∀ w ∈ tk_W, w.before args s = true := fun w h => hts w (List.mem_cons_of_mem _ h)
  have hown : s.vm.findClass RX2 = some m.cls := findClass_of_methodNamed B.named
  have hlocks := B.notSynchronized
  have hs : tk_sw G s h sz s.heap [] := ⟨hrp, hsz, by rw [hsz]; exact hgs, va_S.rf⟩
  have hl := lv_entry ([.ref x0, .int x1, .int x2]) (n := 3) (Nat.le_of_ble_eq_true rfl)
  have hent : entryFrame m args 3 = F0 m 0 (lg_sl ([.ref x0, .int x1, .int x2]) ++ List.replicate (3 - (lg_sl ([.ref x0, .int x1, .int x2])).length) Slot.unset).toArray [] := by rw [hav, lg_entry_eq]
  rw [hent]
  clear hent
  generalize (lg_sl ([.ref x0, .int x1, .int x2]) ++ List.replicate (3 - (lg_sl ([.ref x0, .int x1, .int x2])).length) Slot.unset).toArray = ls at hl ⊢
  have hl : lv_has ls 3 [(0, .ref x0), (1, .int x1), (2, .int x2)] := hl
  unfold fX2_compare at hf
  refine lv_aload_n hx hb dX2_compare_0 rfl (lv_at hl 0 rfl) ?_
  refine lv_iload_n hx hb dX2_compare_1 rfl (lv_at hl 1 rfl) ?_
  obtain ⟨h1, e1, hf⟩ := tk_bi hf
  refine tk_put hx hb ht inX2 tyX2 tyX2_ok nmX2 hown hE hs rfl 6 (by decide) (ht _ wfX2_26) rfl rfl rfl e1 dX2_compare_2 (fun H locs hs => ?_)
  refine lv_aload_n hx hb dX2_compare_5 rfl (lv_at hl 0 rfl) ?_
  refine lv_iload_n hx hb dX2_compare_6 rfl (lv_at hl 2 rfl) ?_
  obtain ⟨h2, e2, hf⟩ := tk_bi hf
  refine tk_put hx hb ht inX2 tyX2 tyX2_ok nmX2 hown hE hs rfl 7 (by decide) (ht _ wfX2_29) rfl rfl rfl e2 dX2_compare_7 (fun H locs hs => ?_)
  refine lv_aload_n hx hb dX2_compare_10 rfl (lv_at hl 0 rfl) ?_
  obtain ⟨_, p3, hf⟩ := tk_bi hf
  obtain ⟨o3, e3, hf⟩ := tk_bi hf
  refine tk_call0 (v := none) hs (va_runV (As := []) (rest := []) ⟨hx, hb, hml, hown, ht⟩ (cX2_fillCosts_ok l hl0 G N x0 h2 sz o3.1 o3.2 e3) (kwX2_fillCosts ht wmX2_32 rfl rfl ⟨Nat.le_of_ble_eq_true rfl, Nat.le_of_ble_eq_true rfl⟩) (tk_preV hE hs (tk_ok_ok p3) rfl) rfl rfl hl.1 rfl (lv_room (Nat.le_of_ble_eq_true rfl)) dX2_compare_11 ⟨(Nat.le_of_ble_eq_true rfl), (Nat.le_of_ble_eq_true rfl)⟩) (fun H locs hs => ?_)
  refine W.eq (g2 := F0 m 14 ls []) rfl ?_
  refine lv_aload_n hx hb dX2_compare_14 rfl (lv_at hl 0 rfl) ?_
  obtain ⟨_, p5, hf⟩ := tk_bi hf
  obtain ⟨o5, e5, hf⟩ := tk_bi hf
  refine tk_call0 (v := none) hs (va_runV (As := []) (rest := []) ⟨hx, hb, hml, hown, ht⟩ (cX2_writeMarks_ok l hl0 G N x0 o3.1 o3.2 o5.1 o5.2 e5) (kwX2_writeMarks ht wmX2_35 rfl rfl ⟨Nat.le_of_ble_eq_true rfl, Nat.le_of_ble_eq_true rfl⟩) (tk_preV hE hs (tk_ok_ok p5) rfl) rfl rfl hl.1 rfl (lv_room (Nat.le_of_ble_eq_true rfl)) dX2_compare_15 ⟨(Nat.le_of_ble_eq_true rfl), (Nat.le_of_ble_eq_true rfl)⟩) (fun H locs hs => ?_)
  refine W.eq (g2 := F0 m 18 ls []) rfl ?_
  refine lv_aload_n hx hb dX2_compare_18 rfl (lv_at hl 0 rfl) ?_
  refine lv_iconst (v := 0) hx hb dX2_compare_19 (by decide) ?_
  obtain ⟨h7, e7, hf⟩ := tk_bi hf
  refine tk_put hx hb ht inX2 tyX2 tyX2_ok nmX2 hown hE hs rfl 4 (by decide) (ht _ wfX2_22) rfl rfl rfl e7 dX2_compare_20 (fun H locs hs => ?_)
  refine lv_aload_n hx hb dX2_compare_23 rfl (lv_at hl 0 rfl) ?_
  obtain ⟨v8, e8, hf⟩ := tk_bi hf
  refine tk_getR hx hb ht inX2 hown hE hs rfl 1 (by decide) (ht _ wfX2_13) e8 dX2_compare_24 ?_
  refine lv_iconst (v := 0) hx hb dX2_compare_27 (by decide) ?_
  obtain ⟨v9, e9, hf⟩ := tk_bi hf
  refine tk_iald hx hb hE hs e9 dX2_compare_28 ?_
  cases hf
  exact tk_iret hx hb hr hlocks hs dX2_compare_29
