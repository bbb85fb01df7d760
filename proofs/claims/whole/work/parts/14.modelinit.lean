def fX5_init (N : Nat) (x0 : Nat) (h : tk_AH) (sz : Nat) : Option (tk_AH × Nat) :=
  (tk_pF (tk_nI h sz 14) 5 5 x0 (.ref sz)).bind fun h1 =>
  (tk_pF (tk_nI h1 (sz + 1) 112) 5 6 x0 (.ref (sz + 1))).bind fun h2 =>
  (tk_pF (tk_nI h2 ((sz + 1) + 1) 112) 5 7 x0 (.ref ((sz + 1) + 1))).bind fun h3 =>
  (tk_pF (tk_nI h3 (((sz + 1) + 1) + 1) 112) 5 8 x0 (.ref (((sz + 1) + 1) + 1))).bind fun h4 =>
  (tk_pF (tk_nI h4 ((((sz + 1) + 1) + 1) + 1) 112) 5 9 x0 (.ref ((((sz + 1) + 1) + 1) + 1))).bind fun h5 =>
  (tk_pF (tk_nI h5 (((((sz + 1) + 1) + 1) + 1) + 1) 112) 5 10 x0 (.ref (((((sz + 1) + 1) + 1) + 1) + 1))).bind fun h6 =>
  (tk_pF (tk_nI h6 ((((((sz + 1) + 1) + 1) + 1) + 1) + 1) 28) 5 11 x0 (.ref ((((((sz + 1) + 1) + 1) + 1) + 1) + 1))).bind fun h7 =>
  (tk_pF (tk_nI h7 (((((((sz + 1) + 1) + 1) + 1) + 1) + 1) + 1) 14) 5 12 x0 (.ref (((((((sz + 1) + 1) + 1) + 1) + 1) + 1) + 1))).bind fun h8 =>
  (tk_pF (tk_nI h8 ((((((((sz + 1) + 1) + 1) + 1) + 1) + 1) + 1) + 1) 14) 5 13 x0 (.ref ((((((((sz + 1) + 1) + 1) + 1) + 1) + 1) + 1) + 1))).bind fun h9 =>
  (tk_pF (tk_nI h9 (((((((((sz + 1) + 1) + 1) + 1) + 1) + 1) + 1) + 1) + 1) 14) 5 14 x0 (.ref (((((((((sz + 1) + 1) + 1) + 1) + 1) + 1) + 1) + 1) + 1))).bind fun h10 =>
  (tk_pF (tk_nI h10 ((((((((((sz + 1) + 1) + 1) + 1) + 1) + 1) + 1) + 1) + 1) + 1) 21) 5 16 x0 (.ref ((((((((((sz + 1) + 1) + 1) + 1) + 1) + 1) + 1) + 1) + 1) + 1))).bind fun h11 =>
  (tk_pF (tk_nI h11 (((((((((((sz + 1) + 1) + 1) + 1) + 1) + 1) + 1) + 1) + 1) + 1) + 1) 21) 5 17 x0 (.ref (((((((((((sz + 1) + 1) + 1) + 1) + 1) + 1) + 1) + 1) + 1) + 1) + 1))).bind fun h12 =>
  (tk_pF (tk_nZ h12 ((((((((((((sz + 1) + 1) + 1) + 1) + 1) + 1) + 1) + 1) + 1) + 1) + 1) + 1) 14) 5 18 x0 (.ref ((((((((((((sz + 1) + 1) + 1) + 1) + 1) + 1) + 1) + 1) + 1) + 1) + 1) + 1))).bind fun h13 =>
  (tk_pF (tk_nI h13 (((((((((((((sz + 1) + 1) + 1) + 1) + 1) + 1) + 1) + 1) + 1) + 1) + 1) + 1) + 1) 14) 5 19 x0 (.ref (((((((((((((sz + 1) + 1) + 1) + 1) + 1) + 1) + 1) + 1) + 1) + 1) + 1) + 1) + 1))).bind fun h14 =>
  (tk_pF (tk_nI h14 ((((((((((((((sz + 1) + 1) + 1) + 1) + 1) + 1) + 1) + 1) + 1) + 1) + 1) + 1) + 1) + 1) 560) 5 20 x0 (.ref ((((((((((((((sz + 1) + 1) + 1) + 1) + 1) + 1) + 1) + 1) + 1) + 1) + 1) + 1) + 1) + 1))).bind fun h15 =>
  (tk_pF (tk_nI h15 (((((((((((((((sz + 1) + 1) + 1) + 1) + 1) + 1) + 1) + 1) + 1) + 1) + 1) + 1) + 1) + 1) + 1) 560) 5 21 x0 (.ref (((((((((((((((sz + 1) + 1) + 1) + 1) + 1) + 1) + 1) + 1) + 1) + 1) + 1) + 1) + 1) + 1) + 1))).bind fun h16 =>
  (tk_pF (tk_nI h16 ((((((((((((((((sz + 1) + 1) + 1) + 1) + 1) + 1) + 1) + 1) + 1) + 1) + 1) + 1) + 1) + 1) + 1) + 1) 80) 5 22 x0 (.ref ((((((((((((((((sz + 1) + 1) + 1) + 1) + 1) + 1) + 1) + 1) + 1) + 1) + 1) + 1) + 1) + 1) + 1) + 1))).bind fun h17 =>
  (tk_pF (tk_nI h17 (((((((((((((((((sz + 1) + 1) + 1) + 1) + 1) + 1) + 1) + 1) + 1) + 1) + 1) + 1) + 1) + 1) + 1) + 1) + 1) 80) 5 25 x0 (.ref (((((((((((((((((sz + 1) + 1) + 1) + 1) + 1) + 1) + 1) + 1) + 1) + 1) + 1) + 1) + 1) + 1) + 1) + 1) + 1))).bind fun h18 =>
  (tk_pF (tk_nI h18 ((((((((((((((((((sz + 1) + 1) + 1) + 1) + 1) + 1) + 1) + 1) + 1) + 1) + 1) + 1) + 1) + 1) + 1) + 1) + 1) + 1) 3) 5 26 x0 (.ref ((((((((((((((((((sz + 1) + 1) + 1) + 1) + 1) + 1) + 1) + 1) + 1) + 1) + 1) + 1) + 1) + 1) + 1) + 1) + 1) + 1))).bind fun h19 =>
  (tk_pF (tk_nI h19 (((((((((((((((((((sz + 1) + 1) + 1) + 1) + 1) + 1) + 1) + 1) + 1) + 1) + 1) + 1) + 1) + 1) + 1) + 1) + 1) + 1) + 1) 2460) 5 28 x0 (.ref (((((((((((((((((((sz + 1) + 1) + 1) + 1) + 1) + 1) + 1) + 1) + 1) + 1) + 1) + 1) + 1) + 1) + 1) + 1) + 1) + 1) + 1))).bind fun h20 =>
  (tk_pF (tk_nI h20 ((((((((((((((((((((sz + 1) + 1) + 1) + 1) + 1) + 1) + 1) + 1) + 1) + 1) + 1) + 1) + 1) + 1) + 1) + 1) + 1) + 1) + 1) + 1) 820) 5 29 x0 (.ref ((((((((((((((((((((sz + 1) + 1) + 1) + 1) + 1) + 1) + 1) + 1) + 1) + 1) + 1) + 1) + 1) + 1) + 1) + 1) + 1) + 1) + 1) + 1))).bind fun h21 =>
  (tk_pF (tk_nI h21 (((((((((((((((((((((sz + 1) + 1) + 1) + 1) + 1) + 1) + 1) + 1) + 1) + 1) + 1) + 1) + 1) + 1) + 1) + 1) + 1) + 1) + 1) + 1) + 1) 820) 5 30 x0 (.ref (((((((((((((((((((((sz + 1) + 1) + 1) + 1) + 1) + 1) + 1) + 1) + 1) + 1) + 1) + 1) + 1) + 1) + 1) + 1) + 1) + 1) + 1) + 1) + 1))).bind fun h22 =>
  (tk_pF (tk_nI h22 ((((((((((((((((((((((sz + 1) + 1) + 1) + 1) + 1) + 1) + 1) + 1) + 1) + 1) + 1) + 1) + 1) + 1) + 1) + 1) + 1) + 1) + 1) + 1) + 1) + 1) 15) 5 31 x0 (.ref ((((((((((((((((((((((sz + 1) + 1) + 1) + 1) + 1) + 1) + 1) + 1) + 1) + 1) + 1) + 1) + 1) + 1) + 1) + 1) + 1) + 1) + 1) + 1) + 1) + 1))).bind fun h23 =>
  (tk_pF (tk_nI h23 (((((((((((((((((((((((sz + 1) + 1) + 1) + 1) + 1) + 1) + 1) + 1) + 1) + 1) + 1) + 1) + 1) + 1) + 1) + 1) + 1) + 1) + 1) + 1) + 1) + 1) + 1) 16384) 5 32 x0 (.ref (((((((((((((((((((((((sz + 1) + 1) + 1) + 1) + 1) + 1) + 1) + 1) + 1) + 1) + 1) + 1) + 1) + 1) + 1) + 1) + 1) + 1) + 1) + 1) + 1) + 1) + 1))).bind fun h24 =>
  (tk_pF (tk_nI h24 ((((((((((((((((((((((((sz + 1) + 1) + 1) + 1) + 1) + 1) + 1) + 1) + 1) + 1) + 1) + 1) + 1) + 1) + 1) + 1) + 1) + 1) + 1) + 1) + 1) + 1) + 1) + 1) 16384) 5 33 x0 (.ref ((((((((((((((((((((((((sz + 1) + 1) + 1) + 1) + 1) + 1) + 1) + 1) + 1) + 1) + 1) + 1) + 1) + 1) + 1) + 1) + 1) + 1) + 1) + 1) + 1) + 1) + 1) + 1))).bind fun h25 =>
  (tk_pF (tk_nI h25 (((((((((((((((((((((((((sz + 1) + 1) + 1) + 1) + 1) + 1) + 1) + 1) + 1) + 1) + 1) + 1) + 1) + 1) + 1) + 1) + 1) + 1) + 1) + 1) + 1) + 1) + 1) + 1) + 1) 1681) 5 34 x0 (.ref (((((((((((((((((((((((((sz + 1) + 1) + 1) + 1) + 1) + 1) + 1) + 1) + 1) + 1) + 1) + 1) + 1) + 1) + 1) + 1) + 1) + 1) + 1) + 1) + 1) + 1) + 1) + 1) + 1))).bind fun h26 =>
  some (h26, (((((((((((((((((((((((((sz + 1) + 1) + 1) + 1) + 1) + 1) + 1) + 1) + 1) + 1) + 1) + 1) + 1) + 1) + 1) + 1) + 1) + 1) + 1) + 1) + 1) + 1) + 1) + 1) + 1) + 1)
set_option maxHeartbeats 8000000 in
set_option maxRecDepth 100000 in
theorem cX5_init_ok (l : Launch) (hl0 : l.stackTraces = false) (G : tk_AG) (N : Nat) (x0 : Nat) (h : tk_AH) (sz : Nat) (h9 : tk_AH) (sz9 : Nat) (hf : fX5_init N x0 h sz = some (h9, sz9)) : Met l yX5_init (coX5_init :: tk_W) ({ frames := 1, cells := 26, slots := 40561, locals := 24 }) (tk_pc G [.ref x0] h sz) (tk_qc G none h9 sz9) 26 40561 (tk_ag G) := by
  refine Met.ofW (cc := cX5_init) (maxL := 1) (ret := none) (by decide) rfl ?_
  intro p e s m args below meth c s₁ B hml hv
  obtain ⟨hav, hE, hrp, hsz, hgs⟩ := hv
  have hx := B.exec
  have hb := B.bytes
  have hr := B.returns
  have hts := atoms_spec (ws := coX5_init :: tk_W) B.pre
  have ht : ∀ w ∈ tk_W, w.before args s = true := fun w h => hts w (List.mem_cons_of_mem _ h)
  have hown : s.vm.findClass RX5 = some m.cls := findClass_of_methodNamed B.named
  have hlocks := B.notSynchronized
  have hin : meth.name = "<init>" := (name_of_methodNamed B.named B.method).1
  have hs : tk_sw G s h sz s.heap [] := ⟨hrp, hsz, by rw [hsz]; exact hgs, va_S.rf⟩
  have hl := lv_entry ([.ref x0]) (n := 1) (Nat.le_of_ble_eq_true rfl)
  have hent : entryFrame m args 1 = F0 m 0 (lg_sl ([.ref x0]) ++ List.replicate (1 - (lg_sl ([.ref x0])).length) Slot.unset).toArray [] := by rw [hav, lg_entry_eq]
  rw [hent]
  clear hent
  generalize (lg_sl ([.ref x0]) ++ List.replicate (1 - (lg_sl ([.ref x0])).length) Slot.unset).toArray = ls at hl ⊢
  have hl : lv_has ls 1 [(0, .ref x0)] := hl
  unfold fX5_init at hf
  refine lv_aload_n hx hb dX5_init_0 rfl (lv_at hl 0 rfl) ?_
  refine W.objInit hx hb hown (ht _ wmX5_1) (ht _ wiOb) (ht _ wcOb) rfl (by rw [hml]; exact hl.1) rfl dX5_init_1 (Nat.le_of_ble_eq_true rfl) (Nat.le_of_ble_eq_true rfl) ?_
  refine W.eq (g2 := F0 m 4 ls []) rfl ?_
  refine lv_aload_n hx hb dX5_init_4 rfl (lv_at hl 0 rfl) ?_
  refine lv_bipush (v := 14) hx hb dX5_init_5 (by decide) ?_
  refine tk_newI hx hb (ht _ waint) hE hs (N := 14) (by decide) (by decide) (by decide) (Nat.le_of_ble_eq_true rfl) (Nat.le_of_ble_eq_true rfl) dX5_init_7 (fun H hs => ?_)
  refine W.widen (k := 1) (n := 14) (by omega) (by omega) ?_
  obtain ⟨h1, e1, hf⟩ := tk_bi hf
  refine tk_putF hx hb ht inX5 tyX5 tyX5_ok nmX5 hown hE hs rfl 5 (by decide) (ht _ wfX5_7) rfl hin rfl rfl rfl e1 dX5_init_9 (fun H locs hs => ?_)
  refine lv_aload_n hx hb dX5_init_12 rfl (lv_at hl 0 rfl) ?_
  refine lv_bipush (v := 112) hx hb dX5_init_13 (by decide) ?_
  refine tk_newI hx hb (ht _ waint) hE hs (N := 112) (by decide) (by decide) (by decide) (Nat.le_of_ble_eq_true rfl) (Nat.le_of_ble_eq_true rfl) dX5_init_15 (fun H hs => ?_)
  refine W.widen (k := 2) (n := 126) (by omega) (by omega) ?_
  obtain ⟨h2, e2, hf⟩ := tk_bi hf
  refine tk_putF hx hb ht inX5 tyX5 tyX5_ok nmX5 hown hE hs rfl 6 (by decide) (ht _ wfX5_13) rfl hin rfl rfl rfl e2 dX5_init_17 (fun H locs hs => ?_)
  refine lv_aload_n hx hb dX5_init_20 rfl (lv_at hl 0 rfl) ?_
  refine lv_bipush (v := 112) hx hb dX5_init_21 (by decide) ?_
  refine tk_newI hx hb (ht _ waint) hE hs (N := 112) (by decide) (by decide) (by decide) (Nat.le_of_ble_eq_true rfl) (Nat.le_of_ble_eq_true rfl) dX5_init_23 (fun H hs => ?_)
  refine W.widen (k := 3) (n := 238) (by omega) (by omega) ?_
  obtain ⟨h3, e3, hf⟩ := tk_bi hf
  refine tk_putF hx hb ht inX5 tyX5 tyX5_ok nmX5 hown hE hs rfl 7 (by decide) (ht _ wfX5_16) rfl hin rfl rfl rfl e3 dX5_init_25 (fun H locs hs => ?_)
  refine lv_aload_n hx hb dX5_init_28 rfl (lv_at hl 0 rfl) ?_
  refine lv_bipush (v := 112) hx hb dX5_init_29 (by decide) ?_
  refine tk_newI hx hb (ht _ waint) hE hs (N := 112) (by decide) (by decide) (by decide) (Nat.le_of_ble_eq_true rfl) (Nat.le_of_ble_eq_true rfl) dX5_init_31 (fun H hs => ?_)
  refine W.widen (k := 4) (n := 350) (by omega) (by omega) ?_
  obtain ⟨h4, e4, hf⟩ := tk_bi hf
  refine tk_putF hx hb ht inX5 tyX5 tyX5_ok nmX5 hown hE hs rfl 8 (by decide) (ht _ wfX5_19) rfl hin rfl rfl rfl e4 dX5_init_33 (fun H locs hs => ?_)
  refine lv_aload_n hx hb dX5_init_36 rfl (lv_at hl 0 rfl) ?_
  refine lv_bipush (v := 112) hx hb dX5_init_37 (by decide) ?_
  refine tk_newI hx hb (ht _ waint) hE hs (N := 112) (by decide) (by decide) (by decide) (Nat.le_of_ble_eq_true rfl) (Nat.le_of_ble_eq_true rfl) dX5_init_39 (fun H hs => ?_)
  refine W.widen (k := 5) (n := 462) (by omega) (by omega) ?_
  obtain ⟨h5, e5, hf⟩ := tk_bi hf
  refine tk_putF hx hb ht inX5 tyX5 tyX5_ok nmX5 hown hE hs rfl 9 (by decide) (ht _ wfX5_22) rfl hin rfl rfl rfl e5 dX5_init_41 (fun H locs hs => ?_)
  refine lv_aload_n hx hb dX5_init_44 rfl (lv_at hl 0 rfl) ?_
  refine lv_bipush (v := 112) hx hb dX5_init_45 (by decide) ?_
  refine tk_newI hx hb (ht _ waint) hE hs (N := 112) (by decide) (by decide) (by decide) (Nat.le_of_ble_eq_true rfl) (Nat.le_of_ble_eq_true rfl) dX5_init_47 (fun H hs => ?_)
  refine W.widen (k := 6) (n := 574) (by omega) (by omega) ?_
  obtain ⟨h6, e6, hf⟩ := tk_bi hf
  refine tk_putF hx hb ht inX5 tyX5 tyX5_ok nmX5 hown hE hs rfl 10 (by decide) (ht _ wfX5_25) rfl hin rfl rfl rfl e6 dX5_init_49 (fun H locs hs => ?_)
  refine lv_aload_n hx hb dX5_init_52 rfl (lv_at hl 0 rfl) ?_
  refine lv_bipush (v := 28) hx hb dX5_init_53 (by decide) ?_
  refine tk_newI hx hb (ht _ waint) hE hs (N := 28) (by decide) (by decide) (by decide) (Nat.le_of_ble_eq_true rfl) (Nat.le_of_ble_eq_true rfl) dX5_init_55 (fun H hs => ?_)
  refine W.widen (k := 7) (n := 602) (by omega) (by omega) ?_
  obtain ⟨h7, e7, hf⟩ := tk_bi hf
  refine tk_putF hx hb ht inX5 tyX5 tyX5_ok nmX5 hown hE hs rfl 11 (by decide) (ht _ wfX5_28) rfl hin rfl rfl rfl e7 dX5_init_57 (fun H locs hs => ?_)
  refine lv_aload_n hx hb dX5_init_60 rfl (lv_at hl 0 rfl) ?_
  refine lv_bipush (v := 14) hx hb dX5_init_61 (by decide) ?_
  refine tk_newI hx hb (ht _ waint) hE hs (N := 14) (by decide) (by decide) (by decide) (Nat.le_of_ble_eq_true rfl) (Nat.le_of_ble_eq_true rfl) dX5_init_63 (fun H hs => ?_)
  refine W.widen (k := 8) (n := 616) (by omega) (by omega) ?_
  obtain ⟨h8, e8, hf⟩ := tk_bi hf
  refine tk_putF hx hb ht inX5 tyX5 tyX5_ok nmX5 hown hE hs rfl 12 (by decide) (ht _ wfX5_31) rfl hin rfl rfl rfl e8 dX5_init_65 (fun H locs hs => ?_)
  refine lv_aload_n hx hb dX5_init_68 rfl (lv_at hl 0 rfl) ?_
  refine lv_bipush (v := 14) hx hb dX5_init_69 (by decide) ?_
  refine tk_newI hx hb (ht _ waint) hE hs (N := 14) (by decide) (by decide) (by decide) (Nat.le_of_ble_eq_true rfl) (Nat.le_of_ble_eq_true rfl) dX5_init_71 (fun H hs => ?_)
  refine W.widen (k := 9) (n := 630) (by omega) (by omega) ?_
  obtain ⟨h9, e9, hf⟩ := tk_bi hf
  refine tk_putF hx hb ht inX5 tyX5 tyX5_ok nmX5 hown hE hs rfl 13 (by decide) (ht _ wfX5_34) rfl hin rfl rfl rfl e9 dX5_init_73 (fun H locs hs => ?_)
  refine lv_aload_n hx hb dX5_init_76 rfl (lv_at hl 0 rfl) ?_
  refine lv_bipush (v := 14) hx hb dX5_init_77 (by decide) ?_
  refine tk_newI hx hb (ht _ waint) hE hs (N := 14) (by decide) (by decide) (by decide) (Nat.le_of_ble_eq_true rfl) (Nat.le_of_ble_eq_true rfl) dX5_init_79 (fun H hs => ?_)
  refine W.widen (k := 10) (n := 644) (by omega) (by omega) ?_
  obtain ⟨h10, e10, hf⟩ := tk_bi hf
  refine tk_putF hx hb ht inX5 tyX5 tyX5_ok nmX5 hown hE hs rfl 14 (by decide) (ht _ wfX5_37) rfl hin rfl rfl rfl e10 dX5_init_81 (fun H locs hs => ?_)
  refine lv_aload_n hx hb dX5_init_84 rfl (lv_at hl 0 rfl) ?_
  refine lv_bipush (v := 21) hx hb dX5_init_85 (by decide) ?_
  refine tk_newI hx hb (ht _ waint) hE hs (N := 21) (by decide) (by decide) (by decide) (Nat.le_of_ble_eq_true rfl) (Nat.le_of_ble_eq_true rfl) dX5_init_87 (fun H hs => ?_)
  refine W.widen (k := 11) (n := 665) (by omega) (by omega) ?_
  obtain ⟨h11, e11, hf⟩ := tk_bi hf
  refine tk_putF hx hb ht inX5 tyX5 tyX5_ok nmX5 hown hE hs rfl 16 (by decide) (ht _ wfX5_40) rfl hin rfl rfl rfl e11 dX5_init_89 (fun H locs hs => ?_)
  refine lv_aload_n hx hb dX5_init_92 rfl (lv_at hl 0 rfl) ?_
  refine lv_bipush (v := 21) hx hb dX5_init_93 (by decide) ?_
  refine tk_newI hx hb (ht _ waint) hE hs (N := 21) (by decide) (by decide) (by decide) (Nat.le_of_ble_eq_true rfl) (Nat.le_of_ble_eq_true rfl) dX5_init_95 (fun H hs => ?_)
  refine W.widen (k := 12) (n := 686) (by omega) (by omega) ?_
  obtain ⟨h12, e12, hf⟩ := tk_bi hf
  refine tk_putF hx hb ht inX5 tyX5 tyX5_ok nmX5 hown hE hs rfl 17 (by decide) (ht _ wfX5_43) rfl hin rfl rfl rfl e12 dX5_init_97 (fun H locs hs => ?_)
  refine lv_aload_n hx hb dX5_init_100 rfl (lv_at hl 0 rfl) ?_
  refine lv_bipush (v := 14) hx hb dX5_init_101 (by decide) ?_
  refine tk_newZ hx hb (ht _ waboolean) hE hs (N := 14) (by decide) (by decide) (by decide) (Nat.le_of_ble_eq_true rfl) (Nat.le_of_ble_eq_true rfl) dX5_init_103 (fun H hs => ?_)
  refine W.widen (k := 13) (n := 700) (by omega) (by omega) ?_
  obtain ⟨h13, e13, hf⟩ := tk_bi hf
  refine tk_putF hx hb ht inX5 tyX5 tyX5_ok nmX5 hown hE hs rfl 18 (by decide) (ht _ wfX5_46) rfl hin rfl rfl rfl e13 dX5_init_105 (fun H locs hs => ?_)
  refine lv_aload_n hx hb dX5_init_108 rfl (lv_at hl 0 rfl) ?_
  refine lv_bipush (v := 14) hx hb dX5_init_109 (by decide) ?_
  refine tk_newI hx hb (ht _ waint) hE hs (N := 14) (by decide) (by decide) (by decide) (Nat.le_of_ble_eq_true rfl) (Nat.le_of_ble_eq_true rfl) dX5_init_111 (fun H hs => ?_)
  refine W.widen (k := 14) (n := 714) (by omega) (by omega) ?_
  obtain ⟨h14, e14, hf⟩ := tk_bi hf
  refine tk_putF hx hb ht inX5 tyX5 tyX5_ok nmX5 hown hE hs rfl 19 (by decide) (ht _ wfX5_50) rfl hin rfl rfl rfl e14 dX5_init_113 (fun H locs hs => ?_)
  refine lv_aload_n hx hb dX5_init_116 rfl (lv_at hl 0 rfl) ?_
  refine lv_sipush (v := 560) hx hb dX5_init_117 (by decide) ?_
  refine tk_newI hx hb (ht _ waint) hE hs (N := 560) (by decide) (by decide) (by decide) (Nat.le_of_ble_eq_true rfl) (Nat.le_of_ble_eq_true rfl) dX5_init_120 (fun H hs => ?_)
  refine W.widen (k := 15) (n := 1274) (by omega) (by omega) ?_
  obtain ⟨h15, e15, hf⟩ := tk_bi hf
  refine tk_putF hx hb ht inX5 tyX5 tyX5_ok nmX5 hown hE hs rfl 20 (by decide) (ht _ wfX5_53) rfl hin rfl rfl rfl e15 dX5_init_122 (fun H locs hs => ?_)
  refine lv_aload_n hx hb dX5_init_125 rfl (lv_at hl 0 rfl) ?_
  refine lv_sipush (v := 560) hx hb dX5_init_126 (by decide) ?_
  refine tk_newI hx hb (ht _ waint) hE hs (N := 560) (by decide) (by decide) (by decide) (Nat.le_of_ble_eq_true rfl) (Nat.le_of_ble_eq_true rfl) dX5_init_129 (fun H hs => ?_)
  refine W.widen (k := 16) (n := 1834) (by omega) (by omega) ?_
  obtain ⟨h16, e16, hf⟩ := tk_bi hf
  refine tk_putF hx hb ht inX5 tyX5 tyX5_ok nmX5 hown hE hs rfl 21 (by decide) (ht _ wfX5_56) rfl hin rfl rfl rfl e16 dX5_init_131 (fun H locs hs => ?_)
  refine lv_aload_n hx hb dX5_init_134 rfl (lv_at hl 0 rfl) ?_
  refine lv_bipush (v := 80) hx hb dX5_init_135 (by decide) ?_
  refine tk_newI hx hb (ht _ waint) hE hs (N := 80) (by decide) (by decide) (by decide) (Nat.le_of_ble_eq_true rfl) (Nat.le_of_ble_eq_true rfl) dX5_init_137 (fun H hs => ?_)
  refine W.widen (k := 17) (n := 1914) (by omega) (by omega) ?_
  obtain ⟨h17, e17, hf⟩ := tk_bi hf
  refine tk_putF hx hb ht inX5 tyX5 tyX5_ok nmX5 hown hE hs rfl 22 (by decide) (ht _ wfX5_59) rfl hin rfl rfl rfl e17 dX5_init_139 (fun H locs hs => ?_)
  refine lv_aload_n hx hb dX5_init_142 rfl (lv_at hl 0 rfl) ?_
  refine lv_bipush (v := 80) hx hb dX5_init_143 (by decide) ?_
  refine tk_newI hx hb (ht _ waint) hE hs (N := 80) (by decide) (by decide) (by decide) (Nat.le_of_ble_eq_true rfl) (Nat.le_of_ble_eq_true rfl) dX5_init_145 (fun H hs => ?_)
  refine W.widen (k := 18) (n := 1994) (by omega) (by omega) ?_
  obtain ⟨h18, e18, hf⟩ := tk_bi hf
  refine tk_putF hx hb ht inX5 tyX5 tyX5_ok nmX5 hown hE hs rfl 25 (by decide) (ht _ wfX5_62) rfl hin rfl rfl rfl e18 dX5_init_147 (fun H locs hs => ?_)
  refine lv_aload_n hx hb dX5_init_150 rfl (lv_at hl 0 rfl) ?_
  refine lv_iconst (v := 3) hx hb dX5_init_151 (by decide) ?_
  refine tk_newI hx hb (ht _ waint) hE hs (N := 3) (by decide) (by decide) (by decide) (Nat.le_of_ble_eq_true rfl) (Nat.le_of_ble_eq_true rfl) dX5_init_152 (fun H hs => ?_)
  refine W.widen (k := 19) (n := 1997) (by omega) (by omega) ?_
  obtain ⟨h19, e19, hf⟩ := tk_bi hf
  refine tk_putF hx hb ht inX5 tyX5 tyX5_ok nmX5 hown hE hs rfl 26 (by decide) (ht _ wfX5_65) rfl hin rfl rfl rfl e19 dX5_init_154 (fun H locs hs => ?_)
  refine lv_aload_n hx hb dX5_init_157 rfl (lv_at hl 0 rfl) ?_
  refine lv_sipush (v := 2460) hx hb dX5_init_158 (by decide) ?_
  refine tk_newI hx hb (ht _ waint) hE hs (N := 2460) (by decide) (by decide) (by decide) (Nat.le_of_ble_eq_true rfl) (Nat.le_of_ble_eq_true rfl) dX5_init_161 (fun H hs => ?_)
  refine W.widen (k := 20) (n := 4457) (by omega) (by omega) ?_
  obtain ⟨h20, e20, hf⟩ := tk_bi hf
  refine tk_putF hx hb ht inX5 tyX5 tyX5_ok nmX5 hown hE hs rfl 28 (by decide) (ht _ wfX5_68) rfl hin rfl rfl rfl e20 dX5_init_163 (fun H locs hs => ?_)
  refine lv_aload_n hx hb dX5_init_166 rfl (lv_at hl 0 rfl) ?_
  refine lv_sipush (v := 820) hx hb dX5_init_167 (by decide) ?_
  refine tk_newI hx hb (ht _ waint) hE hs (N := 820) (by decide) (by decide) (by decide) (Nat.le_of_ble_eq_true rfl) (Nat.le_of_ble_eq_true rfl) dX5_init_170 (fun H hs => ?_)
  refine W.widen (k := 21) (n := 5277) (by omega) (by omega) ?_
  obtain ⟨h21, e21, hf⟩ := tk_bi hf
  refine tk_putF hx hb ht inX5 tyX5 tyX5_ok nmX5 hown hE hs rfl 29 (by decide) (ht _ wfX5_71) rfl hin rfl rfl rfl e21 dX5_init_172 (fun H locs hs => ?_)
  refine lv_aload_n hx hb dX5_init_175 rfl (lv_at hl 0 rfl) ?_
  refine lv_sipush (v := 820) hx hb dX5_init_176 (by decide) ?_
  refine tk_newI hx hb (ht _ waint) hE hs (N := 820) (by decide) (by decide) (by decide) (Nat.le_of_ble_eq_true rfl) (Nat.le_of_ble_eq_true rfl) dX5_init_179 (fun H hs => ?_)
  refine W.widen (k := 22) (n := 6097) (by omega) (by omega) ?_
  obtain ⟨h22, e22, hf⟩ := tk_bi hf
  refine tk_putF hx hb ht inX5 tyX5 tyX5_ok nmX5 hown hE hs rfl 30 (by decide) (ht _ wfX5_74) rfl hin rfl rfl rfl e22 dX5_init_181 (fun H locs hs => ?_)
  refine lv_aload_n hx hb dX5_init_184 rfl (lv_at hl 0 rfl) ?_
  refine lv_bipush (v := 15) hx hb dX5_init_185 (by decide) ?_
  refine tk_newI hx hb (ht _ waint) hE hs (N := 15) (by decide) (by decide) (by decide) (Nat.le_of_ble_eq_true rfl) (Nat.le_of_ble_eq_true rfl) dX5_init_187 (fun H hs => ?_)
  refine W.widen (k := 23) (n := 6112) (by omega) (by omega) ?_
  obtain ⟨h23, e23, hf⟩ := tk_bi hf
  refine tk_putF hx hb ht inX5 tyX5 tyX5_ok nmX5 hown hE hs rfl 31 (by decide) (ht _ wfX5_77) rfl hin rfl rfl rfl e23 dX5_init_189 (fun H locs hs => ?_)
  refine lv_aload_n hx hb dX5_init_192 rfl (lv_at hl 0 rfl) ?_
  refine lv_sipush (v := 16384) hx hb dX5_init_193 (by decide) ?_
  refine tk_newI hx hb (ht _ waint) hE hs (N := 16384) (by decide) (by decide) (by decide) (Nat.le_of_ble_eq_true rfl) (Nat.le_of_ble_eq_true rfl) dX5_init_196 (fun H hs => ?_)
  refine W.widen (k := 24) (n := 22496) (by omega) (by omega) ?_
  obtain ⟨h24, e24, hf⟩ := tk_bi hf
  refine tk_putF hx hb ht inX5 tyX5 tyX5_ok nmX5 hown hE hs rfl 32 (by decide) (ht _ wfX5_80) rfl hin rfl rfl rfl e24 dX5_init_198 (fun H locs hs => ?_)
  refine lv_aload_n hx hb dX5_init_201 rfl (lv_at hl 0 rfl) ?_
  refine lv_sipush (v := 16384) hx hb dX5_init_202 (by decide) ?_
  refine tk_newI hx hb (ht _ waint) hE hs (N := 16384) (by decide) (by decide) (by decide) (Nat.le_of_ble_eq_true rfl) (Nat.le_of_ble_eq_true rfl) dX5_init_205 (fun H hs => ?_)
  refine W.widen (k := 25) (n := 38880) (by omega) (by omega) ?_
  obtain ⟨h25, e25, hf⟩ := tk_bi hf
  refine tk_putF hx hb ht inX5 tyX5 tyX5_ok nmX5 hown hE hs rfl 33 (by decide) (ht _ wfX5_83) rfl hin rfl rfl rfl e25 dX5_init_207 (fun H locs hs => ?_)
  refine lv_aload_n hx hb dX5_init_210 rfl (lv_at hl 0 rfl) ?_
  refine lv_sipush (v := 1681) hx hb dX5_init_211 (by decide) ?_
  refine tk_newI hx hb (ht _ waint) hE hs (N := 1681) (by decide) (by decide) (by decide) (Nat.le_of_ble_eq_true rfl) (Nat.le_of_ble_eq_true rfl) dX5_init_214 (fun H hs => ?_)
  refine W.widen (k := 26) (n := 40561) (by omega) (by omega) ?_
  obtain ⟨h26, e26, hf⟩ := tk_bi hf
  refine tk_putF hx hb ht inX5 tyX5 tyX5_ok nmX5 hown hE hs rfl 34 (by decide) (ht _ wfX5_86) rfl hin rfl rfl rfl e26 dX5_init_216 (fun H locs hs => ?_)
  cases hf
  exact tk_vret hx hb hr hlocks hs dX5_init_219
