def fX4_lookAtTies_64 (N : Nat) (k18 : Nat → Int32 → Nat → Int32 → tk_AH → Nat → Option ((Unit ⊕ String) × tk_AH × Nat)) (x0 : Nat) (x1 : Int32) (x2 : Nat) (x3 : Int32) (h : tk_AH) (sz : Nat) : Option ((Unit ⊕ String) × tk_AH × Nat) :=
  k18 x0 x1 x2 (x3 + 1) h sz
def fX4_lookAtTies_55 (N : Nat) (k18 : Nat → Int32 → Nat → Int32 → tk_AH → Nat → Option ((Unit ⊕ String) × tk_AH × Nat)) (x0 : Nat) (x1 : Int32) (x2 : Nat) (x3 : Int32) (y0 : Int32) (y1 : Int32) (y2 : Int32) (y3 : Nat) (h : tk_AH) (sz : Nat) : Option ((Unit ⊕ String) × tk_AH × Nat) :=
  (tk_ok h 4 x0).bind fun _ =>
  (fX4_commonHours N x0 x1 x3 h sz).bind fun o1 =>
  Sum.elim (fun r1 =>
  (tk_ok o1.2.1 3 y3).bind fun _ =>
  (fX3_setTie N y3 y2 y1 y0 r1 o1.2.1 o1.2.2).bind fun o3 =>
  fX4_lookAtTies_64 N k18 x0 x1 x2 x3 o3.1 o3.2) (fun E1 => some (Sum.inr E1, o1.2.1, o1.2.2)) o1.1
def fX4_lookAtTies_18 (N : Nat) (k2 : Nat → Int32 → tk_AH → Nat → Option ((Unit ⊕ String) × tk_AH × Nat)) : Nat → Nat → Int32 → Nat → Int32 → tk_AH → Nat → Option ((Unit ⊕ String) × tk_AH × Nat)
  | 0, _, _, _, _, _, _ => none
  | n + 1, x0, x1, x2, x3, h, sz =>
  (tk_gI h 4 6 x0).bind fun v5 =>
  if v5 ≤ x3 then (
  k2 x0 (x1 + 1) h sz) else (
  if x1 = x3 then (
  fX4_lookAtTies_64 N (fX4_lookAtTies_18 N k2 n) x0 x1 x2 x3 h sz) else (
  (tk_gR h 4 1 x0).bind fun v8 =>
  (tk_ok h 4 x0).bind fun _ =>
  (fX4_find N x0 x3 h sz).bind fun o9 =>
  Sum.elim (fun r9 =>
  (tk_ok o9.2.1 0 x2).bind fun _ =>
  (fX0_giftTo N x2 r9 o9.2.1 o9.2.2).bind fun o11 =>
  if o11.1 = (-1) then (
  fX4_lookAtTies_55 N (fX4_lookAtTies_18 N k2 n) x0 x1 x2 x3 0 x3 x1 v8 o11.2.1 o11.2.2) else (
  fX4_lookAtTies_55 N (fX4_lookAtTies_18 N k2 n) x0 x1 x2 x3 1 x3 x1 v8 o11.2.1 o11.2.2)) (fun E9 => some (Sum.inr E9, o9.2.1, o9.2.2)) o9.1))
def fX4_lookAtTies_2 (N : Nat) : Nat → Nat → Int32 → tk_AH → Nat → Option ((Unit ⊕ String) × tk_AH × Nat)
  | 0, _, _, _, _ => none
  | n + 1, x0, x1, h, sz =>
  (tk_gI h 4 6 x0).bind fun v14 =>
  if v14 ≤ x1 then (
  some (Sum.inl (), h, sz)) else (
  (tk_ok h 4 x0).bind fun _ =>
  (fX4_find N x0 x1 h sz).bind fun o16 =>
  Sum.elim (fun r16 =>
  fX4_lookAtTies_18 N (fX4_lookAtTies_2 N n) N x0 x1 r16 0 o16.2.1 o16.2.2) (fun E16 => some (Sum.inr E16, o16.2.1, o16.2.2)) o16.1)
def fX4_lookAtTies (N : Nat) (x0 : Nat) (h : tk_AH) (sz : Nat) : Option ((Unit ⊕ String) × tk_AH × Nat) :=
  fX4_lookAtTies_2 N N x0 0 h sz
set_option maxHeartbeats 8000000 in
set_option maxRecDepth 100000 in
theorem cX4_lookAtTies_ok (l : Launch) (hl0 : l.stackTraces = false) (G : tk_AG) (N : Nat) (x0 : Nat) (h : tk_AH) (sz : Nat) (o9 : Unit ⊕ String) (h9 : tk_AH) (sz9 : Nat) (hf : fX4_lookAtTies N x0 h sz = some (o9, h9, sz9)) : vx_Met l yX4_lookAtTies (coX4_lookAtTies :: tk_W) ({ frames := 8, cells := tk_xc o9 0, slots := tk_xs o9 0, locals := 145 }) (tk_pc G [.ref x0] h sz) (tk_qx G (tk_ov o9) h9 sz9) (tk_xx G (tk_ov o9) h9 sz9) (tk_xc o9 0) (tk_xs o9 0) (tk_ag G) := by
  refine vx_ofW (cc := cX4_lookAtTies) (maxL := 4) (ret := none) (by decide) rfl ?_
  intro p e s m args below meth c s₁ B hml hout hv
  obtain ⟨hav, hE, hrp, hsz, hgs⟩ := hv
  have hx := B.exec
  have hb := B.bytes
  have hr := B.returns
  have hts := atoms_spec (ws := coX4_lookAtTies :: tk_W) B.pre
  have ht : ∀ w ∈ tk_W, w.before args s = true := fun w h => hts w (List.mem_cons_of_mem _ h)
  have hown : s.vm.findClass RX4 = some m.cls := findClass_of_methodNamed B.named
  have hlocks := B.notSynchronized
  have hs : tk_sw G s h sz s.heap [] := ⟨hrp, hsz, by rw [hsz]; exact hgs, va_S.rf⟩
  have hl := lv_entry ([.ref x0]) (n := 4) (Nat.le_of_ble_eq_true rfl)
  have hent : entryFrame m args 4 = F0 m 0 (lg_sl ([.ref x0]) ++ List.replicate (4 - (lg_sl ([.ref x0])).length) Slot.unset).toArray [] := by rw [hav, lg_entry_eq]
  rw [hent]
  clear hent
  generalize (lg_sl ([.ref x0]) ++ List.replicate (4 - (lg_sl ([.ref x0])).length) Slot.unset).toArray = ls at hl ⊢
  have hl : lv_has ls 4 [(0, .ref x0)] := hl
  have j64 : ∀ (k18 : Nat → Int32 → Nat → Int32 → tk_AH → Nat → Option ((Unit ⊕ String) × tk_AH × Nat)), (∀ (x0 : Nat) (x1 : Int32) (x2 : Nat) (x3 : Int32) (h : tk_AH) (sz : Nat) (H : Heap) (locs : List Loc) (ls : Array Slot), k18 x0 x1 x2 x3 h sz = some (o9, h9, sz9) → tk_sw G s h sz H locs → lv_has ls 4 [(0, .ref x0), (1, .int x1), (2, .ref x2), (3, .int x3)] → W p l e (headSpec (coX4_lookAtTies :: tk_W) ({ frames := 8, cells := tk_xc o9 0, slots := tk_xs o9 0, locals := 145 })).room s m args below meth c H locs 0 (0) (vx_MQ below (tk_qx G (tk_ov o9) h9 sz9) (tk_xx G (tk_ov o9) h9 sz9) args s (tk_xc o9 0) (tk_xs o9 0) (tk_ag G)) (F0 m 18 ls [])) → ∀ (x0 : Nat) (x1 : Int32) (x2 : Nat) (x3 : Int32) (h : tk_AH) (sz : Nat) (H : Heap) (locs : List Loc) (ls : Array Slot), fX4_lookAtTies_64 N k18 x0 x1 x2 x3 h sz = some (o9, h9, sz9) → tk_sw G s h sz H locs → lv_has ls 4 [(0, .ref x0), (1, .int x1), (2, .ref x2), (3, .int x3)] → W p l e (headSpec (coX4_lookAtTies :: tk_W) ({ frames := 8, cells := tk_xc o9 0, slots := tk_xs o9 0, locals := 145 })).room s m args below meth c H locs 0 (0) (vx_MQ below (tk_qx G (tk_ov o9) h9 sz9) (tk_xx G (tk_ov o9) h9 sz9) args s (tk_xc o9 0) (tk_xs o9 0) (tk_ag G)) (F0 m 64 ls []) := by
    intro k18 hk18 x0 x1 x2 x3 h sz H locs ls hf hs hl
    unfold fX4_lookAtTies_64 at hf
    refine lv_iinc (v := x3 + 1) (lv' := [(3, .int (x3 + 1)), (0, .ref x0), (1, .int x1), (2, .ref x2)]) hx hb dX4_lookAtTies_64 hl (k := 3) rfl rfl (by decide) rfl (fun ls hl => ?_)
    refine lv_goto (tgt := 18) hx hb dX4_lookAtTies_67 (by decide) ?_
    exact hk18 x0 x1 x2 (x3 + 1) h sz _ _ _ hf hs (lv_sub hl [1, 2, 3, 0] rfl)
  have j55 : ∀ (k18 : Nat → Int32 → Nat → Int32 → tk_AH → Nat → Option ((Unit ⊕ String) × tk_AH × Nat)), (∀ (x0 : Nat) (x1 : Int32) (x2 : Nat) (x3 : Int32) (h : tk_AH) (sz : Nat) (H : Heap) (locs : List Loc) (ls : Array Slot), k18 x0 x1 x2 x3 h sz = some (o9, h9, sz9) → tk_sw G s h sz H locs → lv_has ls 4 [(0, .ref x0), (1, .int x1), (2, .ref x2), (3, .int x3)] → W p l e (headSpec (coX4_lookAtTies :: tk_W) ({ frames := 8, cells := tk_xc o9 0, slots := tk_xs o9 0, locals := 145 })).room s m args below meth c H locs 0 (0) (vx_MQ below (tk_qx G (tk_ov o9) h9 sz9) (tk_xx G (tk_ov o9) h9 sz9) args s (tk_xc o9 0) (tk_xs o9 0) (tk_ag G)) (F0 m 18 ls [])) → ∀ (x0 : Nat) (x1 : Int32) (x2 : Nat) (x3 : Int32) (y0 : Int32) (y1 : Int32) (y2 : Int32) (y3 : Nat) (h : tk_AH) (sz : Nat) (H : Heap) (locs : List Loc) (ls : Array Slot), fX4_lookAtTies_55 N k18 x0 x1 x2 x3 y0 y1 y2 y3 h sz = some (o9, h9, sz9) → tk_sw G s h sz H locs → lv_has ls 4 [(0, .ref x0), (1, .int x1), (2, .ref x2), (3, .int x3)] → W p l e (headSpec (coX4_lookAtTies :: tk_W) ({ frames := 8, cells := tk_xc o9 0, slots := tk_xs o9 0, locals := 145 })).room s m args below meth c H locs 0 (0) (vx_MQ below (tk_qx G (tk_ov o9) h9 sz9) (tk_xx G (tk_ov o9) h9 sz9) args s (tk_xc o9 0) (tk_xs o9 0) (tk_ag G)) (F0 m 55 ls [.int y0, .int y1, .int y2, .ref y3]) := by
    intro k18 hk18 x0 x1 x2 x3 y0 y1 y2 y3 h sz H locs ls hf hs hl
    unfold fX4_lookAtTies_55 at hf
    refine lv_aload_n hx hb dX4_lookAtTies_55 rfl (lv_at hl 0 rfl) ?_
    refine lv_iload_n hx hb dX4_lookAtTies_56 rfl (lv_at hl 1 rfl) ?_
    refine lv_iload_n hx hb dX4_lookAtTies_57 rfl (lv_at hl 3 rfl) ?_
    obtain ⟨_, p1, hf⟩ := tk_bi hf
    obtain ⟨o1, e1, hf⟩ := tk_bi hf
    rcases w1 : o1.1 with r1 | E1
    · rw [w1, Sum.elim_inl] at hf
      refine tk_xret0 (v := some (.int r1)) hs (vx_runV (As := [.int x1, .int x3]) (rest := [.int y0, .int y1, .int y2, .ref y3]) ⟨hx, hb, hml, hown, ht⟩ (cX4_commonHours_ok l hl0 G N x0 x1 x3 h sz (Sum.inl r1) o1.2.1 o1.2.2 (by rw [e1, ← w1])) (kwX4_commonHours ht wmX4_117 rfl rfl ⟨Nat.le_of_ble_eq_true rfl, Nat.le_of_ble_eq_true rfl⟩) (tk_preV hE hs (tk_ok_ok p1) rfl) rfl rfl hl.1 rfl (lv_room (Nat.le_of_ble_eq_true rfl)) dX4_lookAtTies_58 ⟨(Nat.zero_le _), (Nat.zero_le _)⟩) rfl rfl (fun H locs hs => ?_)
      refine W.eq (g2 := F0 m 61 ls [.int r1, .int y0, .int y1, .int y2, .ref y3]) rfl ?_
      obtain ⟨_, p3, hf⟩ := tk_bi hf
      obtain ⟨o3, e3, hf⟩ := tk_bi hf
      refine tk_call0 (v := none) hs (va_runV (As := [.int y2, .int y1, .int y0, .int r1]) (rest := []) ⟨hx, hb, hml, hown, ht⟩ (cX3_setTie_ok l hl0 G N y3 y2 y1 y0 r1 o1.2.1 o1.2.2 o3.1 o3.2 e3) (kwX3_setTie ht wmX4_259 rfl rfl ⟨Nat.le_of_ble_eq_true rfl, Nat.le_of_ble_eq_true rfl⟩) (tk_preV hE hs (tk_ok_ok p3) rfl) rfl rfl hl.1 rfl (lv_room (Nat.le_of_ble_eq_true rfl)) dX4_lookAtTies_61 ⟨(Nat.zero_le _), (Nat.zero_le _)⟩) (fun H locs hs => ?_)
      refine W.eq (g2 := F0 m 64 ls []) rfl ?_
      exact j64 k18 hk18 x0 x1 x2 x3 o3.1 o3.2 _ _ _ hf hs (lv_sub hl [0, 1, 2, 3] rfl)
    · rw [w1, Sum.elim_inr] at hf
      cases hf
      exact tk_xthr hs (vx_runV (As := [.int x1, .int x3]) (rest := [.int y0, .int y1, .int y2, .ref y3]) ⟨hx, hb, hml, hown, ht⟩ (cX4_commonHours_ok l hl0 G N x0 x1 x3 h sz (Sum.inr E1) o1.2.1 o1.2.2 (by rw [e1, ← w1])) (kwX4_commonHours ht wmX4_117 rfl rfl ⟨Nat.le_of_ble_eq_true rfl, Nat.le_of_ble_eq_true rfl⟩) (tk_preV hE hs (tk_ok_ok p1) rfl) rfl rfl hl.1 rfl (lv_room (Nat.le_of_ble_eq_true rfl)) dX4_lookAtTies_58 ⟨Nat.le_of_ble_eq_true rfl, Nat.le_of_ble_eq_true rfl⟩) (fun H locs ce q9 hs hce hcv hcl => tk_xout hout hlocks hs hce hcv hcl (Nat.le_refl _) (Nat.le_refl _))
  have j18 : ∀ (k2 : Nat → Int32 → tk_AH → Nat → Option ((Unit ⊕ String) × tk_AH × Nat)), (∀ (x0 : Nat) (x1 : Int32) (h : tk_AH) (sz : Nat) (H : Heap) (locs : List Loc) (ls : Array Slot), k2 x0 x1 h sz = some (o9, h9, sz9) → tk_sw G s h sz H locs → lv_has ls 4 [(0, .ref x0), (1, .int x1)] → W p l e (headSpec (coX4_lookAtTies :: tk_W) ({ frames := 8, cells := tk_xc o9 0, slots := tk_xs o9 0, locals := 145 })).room s m args below meth c H locs 0 (0) (vx_MQ below (tk_qx G (tk_ov o9) h9 sz9) (tk_xx G (tk_ov o9) h9 sz9) args s (tk_xc o9 0) (tk_xs o9 0) (tk_ag G)) (F0 m 2 ls [])) → ∀ (n : Nat), ∀ (x0 : Nat) (x1 : Int32) (x2 : Nat) (x3 : Int32) (h : tk_AH) (sz : Nat) (H : Heap) (locs : List Loc) (ls : Array Slot), fX4_lookAtTies_18 N k2 n x0 x1 x2 x3 h sz = some (o9, h9, sz9) → tk_sw G s h sz H locs → lv_has ls 4 [(0, .ref x0), (1, .int x1), (2, .ref x2), (3, .int x3)] → W p l e (headSpec (coX4_lookAtTies :: tk_W) ({ frames := 8, cells := tk_xc o9 0, slots := tk_xs o9 0, locals := 145 })).room s m args below meth c H locs 0 (0) (vx_MQ below (tk_qx G (tk_ov o9) h9 sz9) (tk_xx G (tk_ov o9) h9 sz9) args s (tk_xc o9 0) (tk_xs o9 0) (tk_ag G)) (F0 m 18 ls []) := by
    intro k2 hk2 n
    induction n with
    | zero =>
      intro x0 x1 x2 x3 h sz H locs ls hf
      cases hf
    | succ n ih =>
      intro x0 x1 x2 x3 h sz H locs ls hf hs hl
      rw [fX4_lookAtTies_18] at hf
      refine lv_iload_n hx hb dX4_lookAtTies_18 rfl (lv_at hl 3 rfl) ?_
      refine lv_aload_n hx hb dX4_lookAtTies_19 rfl (lv_at hl 0 rfl) ?_
      obtain ⟨v5, e5, hf⟩ := tk_bi hf
      refine tk_getI hx hb ht inX4 hown hE hs rfl 6 (by decide) (ht _ wfX4_40) e5 dX4_lookAtTies_20 ?_
      refine lv_icmp_ge (tgt := 70) hx hb dX4_lookAtTies_23 (by decide) (fun c6 => ?_) (fun c6 => ?_)
      · rw [if_pos c6] at hf
        refine lv_iinc (v := x1 + 1) (lv' := [(1, .int (x1 + 1)), (0, .ref x0), (2, .ref x2), (3, .int x3)]) hx hb dX4_lookAtTies_70 hl (k := 1) rfl rfl (by decide) rfl (fun ls hl => ?_)
        refine lv_goto (tgt := 2) hx hb dX4_lookAtTies_73 (by decide) ?_
        exact hk2 x0 (x1 + 1) h sz _ _ _ hf hs (lv_sub hl [1, 0] rfl)
      · rw [if_neg c6] at hf
        refine lv_iload_n hx hb dX4_lookAtTies_26 rfl (lv_at hl 1 rfl) ?_
        refine lv_iload_n hx hb dX4_lookAtTies_27 rfl (lv_at hl 3 rfl) ?_
        refine lv_icmp_eq (tgt := 64) hx hb dX4_lookAtTies_28 (by decide) (fun c7 => ?_) (fun c7 => ?_)
        · rw [if_pos c7] at hf
          exact j64 (fX4_lookAtTies_18 N k2 n) ih x0 x1 x2 x3 h sz _ _ _ hf hs (lv_sub hl [0, 1, 2, 3] rfl)
        · rw [if_neg c7] at hf
          refine lv_aload_n hx hb dX4_lookAtTies_31 rfl (lv_at hl 0 rfl) ?_
          obtain ⟨v8, e8, hf⟩ := tk_bi hf
          refine tk_getR hx hb ht inX4 hown hE hs rfl 1 (by decide) (ht _ wfX4_18) e8 dX4_lookAtTies_32 ?_
          refine lv_iload_n hx hb dX4_lookAtTies_35 rfl (lv_at hl 1 rfl) ?_
          refine lv_iload_n hx hb dX4_lookAtTies_36 rfl (lv_at hl 3 rfl) ?_
          refine lv_aload_n hx hb dX4_lookAtTies_37 rfl (lv_at hl 2 rfl) ?_
          refine lv_aload_n hx hb dX4_lookAtTies_38 rfl (lv_at hl 0 rfl) ?_
          refine lv_iload_n hx hb dX4_lookAtTies_39 rfl (lv_at hl 3 rfl) ?_
          obtain ⟨_, p9, hf⟩ := tk_bi hf
          obtain ⟨o9, e9, hf⟩ := tk_bi hf
          rcases w9 : o9.1 with r9 | E9
          · rw [w9, Sum.elim_inl] at hf
            refine tk_xret0 (v := some (.ref r9)) hs (vx_runV (As := [.int x3]) (rest := [.ref x2, .int x3, .int x1, .ref v8]) ⟨hx, hb, hml, hown, ht⟩ (cX4_find_ok l hl0 G N x0 x3 h sz (Sum.inl r9) o9.2.1 o9.2.2 (by rw [e9, ← w9])) (kwX4_find ht wmX4_48 rfl rfl ⟨Nat.le_of_ble_eq_true rfl, Nat.le_of_ble_eq_true rfl⟩) (tk_preV hE hs (tk_ok_ok p9) rfl) rfl rfl hl.1 rfl (lv_room (Nat.le_of_ble_eq_true rfl)) dX4_lookAtTies_40 ⟨(Nat.zero_le _), (Nat.zero_le _)⟩) rfl rfl (fun H locs hs => ?_)
            refine W.eq (g2 := F0 m 43 ls [.ref r9, .ref x2, .int x3, .int x1, .ref v8]) rfl ?_
            obtain ⟨_, p11, hf⟩ := tk_bi hf
            obtain ⟨o11, e11, hf⟩ := tk_bi hf
            refine tk_call0 (v := some (.int o11.1)) hs (va_runV (As := [.ref r9]) (rest := [.int x3, .int x1, .ref v8]) ⟨hx, hb, hml, hown, ht⟩ (cX0_giftTo_ok l hl0 G N x2 r9 o9.2.1 o9.2.2 o11.1 o11.2.1 o11.2.2 e11) (kwX0_giftTo ht wmX4_113 rfl rfl ⟨Nat.le_of_ble_eq_true rfl, Nat.le_of_ble_eq_true rfl⟩) (tk_preV hE hs (tk_ok_ok p11) rfl) rfl rfl hl.1 rfl (lv_room (Nat.le_of_ble_eq_true rfl)) dX4_lookAtTies_43 ⟨(Nat.zero_le _), (Nat.zero_le _)⟩) (fun H locs hs => ?_)
            refine W.eq (g2 := F0 m 46 ls [.int o11.1, .int x3, .int x1, .ref v8]) rfl ?_
            refine lv_iconst (v := (-1)) hx hb dX4_lookAtTies_46 (by decide) ?_
            refine lv_icmp_eq (tgt := 54) hx hb dX4_lookAtTies_47 (by decide) (fun c13 => ?_) (fun c13 => ?_)
            · rw [if_pos c13] at hf
              refine lv_iconst (v := 0) hx hb dX4_lookAtTies_54 (by decide) ?_
              exact j55 (fX4_lookAtTies_18 N k2 n) ih x0 x1 x2 x3 0 x3 x1 v8 o11.2.1 o11.2.2 _ _ _ hf hs (lv_sub hl [0, 1, 2, 3] rfl)
            · rw [if_neg c13] at hf
              refine lv_iconst (v := 1) hx hb dX4_lookAtTies_50 (by decide) ?_
              refine lv_goto (tgt := 55) hx hb dX4_lookAtTies_51 (by decide) ?_
              exact j55 (fX4_lookAtTies_18 N k2 n) ih x0 x1 x2 x3 1 x3 x1 v8 o11.2.1 o11.2.2 _ _ _ hf hs (lv_sub hl [0, 1, 2, 3] rfl)
          · rw [w9, Sum.elim_inr] at hf
            cases hf
            exact tk_xthr hs (vx_runV (As := [.int x3]) (rest := [.ref x2, .int x3, .int x1, .ref v8]) ⟨hx, hb, hml, hown, ht⟩ (cX4_find_ok l hl0 G N x0 x3 h sz (Sum.inr E9) o9.2.1 o9.2.2 (by rw [e9, ← w9])) (kwX4_find ht wmX4_48 rfl rfl ⟨Nat.le_of_ble_eq_true rfl, Nat.le_of_ble_eq_true rfl⟩) (tk_preV hE hs (tk_ok_ok p9) rfl) rfl rfl hl.1 rfl (lv_room (Nat.le_of_ble_eq_true rfl)) dX4_lookAtTies_40 ⟨Nat.le_of_ble_eq_true rfl, Nat.le_of_ble_eq_true rfl⟩) (fun H locs ce q9 hs hce hcv hcl => tk_xout hout hlocks hs hce hcv hcl (Nat.le_refl _) (Nat.le_refl _))
  have j2 : ∀ (n : Nat), ∀ (x0 : Nat) (x1 : Int32) (h : tk_AH) (sz : Nat) (H : Heap) (locs : List Loc) (ls : Array Slot), fX4_lookAtTies_2 N n x0 x1 h sz = some (o9, h9, sz9) → tk_sw G s h sz H locs → lv_has ls 4 [(0, .ref x0), (1, .int x1)] → W p l e (headSpec (coX4_lookAtTies :: tk_W) ({ frames := 8, cells := tk_xc o9 0, slots := tk_xs o9 0, locals := 145 })).room s m args below meth c H locs 0 (0) (vx_MQ below (tk_qx G (tk_ov o9) h9 sz9) (tk_xx G (tk_ov o9) h9 sz9) args s (tk_xc o9 0) (tk_xs o9 0) (tk_ag G)) (F0 m 2 ls []) := by
    intro n
    induction n with
    | zero =>
      intro x0 x1 h sz H locs ls hf
      cases hf
    | succ n ih =>
      intro x0 x1 h sz H locs ls hf hs hl
      rw [fX4_lookAtTies_2] at hf
      refine lv_iload_n hx hb dX4_lookAtTies_2 rfl (lv_at hl 1 rfl) ?_
      refine lv_aload_n hx hb dX4_lookAtTies_3 rfl (lv_at hl 0 rfl) ?_
      obtain ⟨v14, e14, hf⟩ := tk_bi hf
      refine tk_getI hx hb ht inX4 hown hE hs rfl 6 (by decide) (ht _ wfX4_40) e14 dX4_lookAtTies_4 ?_
      refine lv_icmp_ge (tgt := 76) hx hb dX4_lookAtTies_7 (by decide) (fun c15 => ?_) (fun c15 => ?_)
      · rw [if_pos c15] at hf
        cases hf
        exact tk_xvret hx hb hr hlocks hs dX4_lookAtTies_76
      · rw [if_neg c15] at hf
        refine lv_aload_n hx hb dX4_lookAtTies_10 rfl (lv_at hl 0 rfl) ?_
        refine lv_iload_n hx hb dX4_lookAtTies_11 rfl (lv_at hl 1 rfl) ?_
        obtain ⟨_, p16, hf⟩ := tk_bi hf
        obtain ⟨o16, e16, hf⟩ := tk_bi hf
        rcases w16 : o16.1 with r16 | E16
        · rw [w16, Sum.elim_inl] at hf
          refine tk_xret0 (v := some (.ref r16)) hs (vx_runV (As := [.int x1]) (rest := []) ⟨hx, hb, hml, hown, ht⟩ (cX4_find_ok l hl0 G N x0 x1 h sz (Sum.inl r16) o16.2.1 o16.2.2 (by rw [e16, ← w16])) (kwX4_find ht wmX4_48 rfl rfl ⟨Nat.le_of_ble_eq_true rfl, Nat.le_of_ble_eq_true rfl⟩) (tk_preV hE hs (tk_ok_ok p16) rfl) rfl rfl hl.1 rfl (lv_room (Nat.le_of_ble_eq_true rfl)) dX4_lookAtTies_12 ⟨(Nat.zero_le _), (Nat.zero_le _)⟩) rfl rfl (fun H locs hs => ?_)
          refine W.eq (g2 := F0 m 15 ls [.ref r16]) rfl ?_
          refine lv_astore_n (lv' := [(2, .ref r16), (0, .ref x0), (1, .int x1)]) hx hb dX4_lookAtTies_15 rfl hl (by decide) rfl (fun ls hl => ?_)
          refine lv_iconst (v := 0) hx hb dX4_lookAtTies_16 (by decide) ?_
          refine lv_istore_n (lv' := [(3, .int 0), (2, .ref r16), (0, .ref x0), (1, .int x1)]) hx hb dX4_lookAtTies_17 rfl hl (by decide) rfl (fun ls hl => ?_)
          exact j18 (fX4_lookAtTies_2 N n) ih N x0 x1 r16 0 o16.2.1 o16.2.2 _ _ _ hf hs (lv_sub hl [2, 3, 1, 0] rfl)
        · rw [w16, Sum.elim_inr] at hf
          cases hf
          exact tk_xthr hs (vx_runV (As := [.int x1]) (rest := []) ⟨hx, hb, hml, hown, ht⟩ (cX4_find_ok l hl0 G N x0 x1 h sz (Sum.inr E16) o16.2.1 o16.2.2 (by rw [e16, ← w16])) (kwX4_find ht wmX4_48 rfl rfl ⟨Nat.le_of_ble_eq_true rfl, Nat.le_of_ble_eq_true rfl⟩) (tk_preV hE hs (tk_ok_ok p16) rfl) rfl rfl hl.1 rfl (lv_room (Nat.le_of_ble_eq_true rfl)) dX4_lookAtTies_12 ⟨Nat.le_of_ble_eq_true rfl, Nat.le_of_ble_eq_true rfl⟩) (fun H locs ce q9 hs hce hcv hcl => tk_xout hout hlocks hs hce hcv hcl (Nat.le_refl _) (Nat.le_refl _))
  unfold fX4_lookAtTies at hf
  refine lv_iconst (v := 0) hx hb dX4_lookAtTies_0 (by decide) ?_
  refine lv_istore_n (lv' := [(1, .int 0), (0, .ref x0)]) hx hb dX4_lookAtTies_1 rfl hl (by decide) rfl (fun ls hl => ?_)
  exact j2 N x0 0 h sz _ _ _ hf hs (lv_sub hl [1, 0] rfl)
def fX4_hourAt (N : Nat) (x0 : Int32) (x1 : Int32) (h : tk_AH) (sz : Nat) : Option (Int32 × tk_AH × Nat) :=
  some ((x0 >>> ((5 * x1) &&& 31)) &&& 31, h, sz)
set_option maxHeartbeats 8000000 in
set_option maxRecDepth 100000 in
theorem cX4_hourAt_ok (l : Launch) (hl0 : l.stackTraces = false) (G : tk_AG) (N : Nat) (x0 : Int32) (x1 : Int32) (h : tk_AH) (sz : Nat) (r9 : Int32) (h9 : tk_AH) (sz9 : Nat) (hf : fX4_hourAt N x0 x1 h sz = some (r9, h9, sz9)) : Met l yX4_hourAt (coX4_hourAt :: tk_W) ({ frames := 0, cells := 0, slots := 0, locals := 0 }) (tk_pc G [.int x0, .int x1] h sz) (tk_qc G (some (.int r9)) h9 sz9) 0 0 (tk_ag G) := by
  refine Met.ofW (cc := cX4_hourAt) (maxL := 2) (ret := (some .int)) (by decide) rfl ?_
  intro p e s m args below meth c s₁ B hml hv
  obtain ⟨hav, hE, hrp, hsz, hgs⟩ := hv
  have hx := B.exec
  have hb := B.bytes
  have hr := B.returns
  have hts := atoms_spec (ws := coX4_hourAt :: tk_W) B.pre
  have ht : ∀ w ∈ tk_W, w.before args s = true := fun w h => hts w (List.mem_cons_of_mem _ h)
  have hown : s.vm.findClass RX4 = some m.cls := findClass_of_methodNamed B.named
  have hlocks := B.notSynchronized
  have hs : tk_sw G s h sz s.heap [] := ⟨hrp, hsz, by rw [hsz]; exact hgs, va_S.rf⟩
  have hl := lv_entry ([.int x0, .int x1]) (n := 2) (Nat.le_of_ble_eq_true rfl)
  have hent : entryFrame m args 2 = F0 m 0 (lg_sl ([.int x0, .int x1]) ++ List.replicate (2 - (lg_sl ([.int x0, .int x1])).length) Slot.unset).toArray [] := by rw [hav, lg_entry_eq]
  rw [hent]
  clear hent
  generalize (lg_sl ([.int x0, .int x1]) ++ List.replicate (2 - (lg_sl ([.int x0, .int x1])).length) Slot.unset).toArray = ls at hl ⊢
  have hl : lv_has ls 2 [(0, .int x0), (1, .int x1)] := hl
  unfold fX4_hourAt at hf
  refine lv_iload_n hx hb dX4_hourAt_0 rfl (lv_at hl 0 rfl) ?_
  refine lv_iconst (v := 5) hx hb dX4_hourAt_1 (by decide) ?_
  refine lv_iload_n hx hb dX4_hourAt_2 rfl (lv_at hl 1 rfl) ?_
  refine lv_imul hx hb dX4_hourAt_3 ?_
  refine lv_ishr hx hb dX4_hourAt_4 ?_
  refine lv_bipush (v := 31) hx hb dX4_hourAt_5 (by decide) ?_
  refine lv_iand hx hb dX4_hourAt_7 ?_
  cases hf
  exact tk_iret hx hb hr hlocks hs dX4_hourAt_8
def fX4_ring_90 (N : Nat) (y0 : Int32) (h : tk_AH) (sz : Nat) : Option ((Int32 ⊕ String) × tk_AH × Nat) :=
  some (Sum.inl y0, h, sz)
def fX4_ring_47 (N : Nat) (h : tk_AH) (sz : Nat) : Option ((Int32 ⊕ String) × tk_AH × Nat) :=
  some (Sum.inr "java/util/NoSuchElementException", h, sz + 1)
def fX4_ring_33 (N : Nat) (x0 : Nat) (x1 : Int32) (x2 : Int32) (x3 : Int32) (x4 : Int32) (y0 : Int32) (h : tk_AH) (sz : Nat) : Option ((Int32 ⊕ String) × tk_AH × Nat) :=
  if x4 < 0 then (
  fX4_ring_47 N h sz) else (
  if x4 < y0 then (
  (tk_ok h 4 x0).bind fun _ =>
  (fX4_lookAtTies N x0 h sz).bind fun o3 =>
  Sum.elim (fun r3 =>
  (tk_gR o3.2.1 4 1 x0).bind fun v5 =>
  (tk_ok o3.2.1 3 v5).bind fun _ =>
  (fX3_ringHours N v5 x1 x2 x3 o3.2.1 o3.2.2).bind fun o6 =>
  if o6.1 = (-1) then (
  fX4_ring_90 N (-1) o6.2.1 o6.2.2) else (
  (fX4_hourAt N o6.1 x4 o6.2.1 o6.2.2).bind fun o9 =>
  fX4_ring_90 N o9.1 o9.2.1 o9.2.2)) (fun E3 => some (Sum.inr E3, o3.2.1, o3.2.2)) o3.1) else (
  fX4_ring_47 N h sz))
def fX4_ring_23 (N : Nat) (x0 : Nat) (x1 : Int32) (x2 : Int32) (x3 : Int32) (x4 : Int32) (h : tk_AH) (sz : Nat) : Option ((Int32 ⊕ String) × tk_AH × Nat) :=
  if x3 = (-1) then (
  fX4_ring_33 N x0 x1 x2 x3 x4 1 h sz) else (
  fX4_ring_33 N x0 x1 x2 x3 x4 3 h sz)
def fX4_ring (N : Nat) (x0 : Nat) (x1 : Int32) (x2 : Int32) (x3 : Int32) (x4 : Int32) (h : tk_AH) (sz : Nat) : Option ((Int32 ⊕ String) × tk_AH × Nat) :=
  (tk_ok h 4 x0).bind fun _ =>
  (fX4_find N x0 x1 h sz).bind fun o11 =>
  Sum.elim (fun r11 =>
  (tk_ok o11.2.1 4 x0).bind fun _ =>
  (fX4_find N x0 x2 o11.2.1 o11.2.2).bind fun o13 =>
  Sum.elim (fun r13 =>
  if x3 = (-1) then (
  fX4_ring_23 N x0 x1 x2 x3 x4 o13.2.1 o13.2.2) else (
  (tk_ok o13.2.1 4 x0).bind fun _ =>
  (fX4_find N x0 x3 o13.2.1 o13.2.2).bind fun o16 =>
  Sum.elim (fun r16 =>
  fX4_ring_23 N x0 x1 x2 x3 x4 o16.2.1 o16.2.2) (fun E16 => some (Sum.inr E16, o16.2.1, o16.2.2)) o16.1)) (fun E13 => some (Sum.inr E13, o13.2.1, o13.2.2)) o13.1) (fun E11 => some (Sum.inr E11, o11.2.1, o11.2.2)) o11.1
set_option maxHeartbeats 8000000 in
set_option maxRecDepth 100000 in
theorem cX4_ring_ok (l : Launch) (hl0 : l.stackTraces = false) (G : tk_AG) (N : Nat) (x0 : Nat) (x1 : Int32) (x2 : Int32) (x3 : Int32) (x4 : Int32) (h : tk_AH) (sz : Nat) (o9 : Int32 ⊕ String) (h9 : tk_AH) (sz9 : Nat) (hf : fX4_ring N x0 x1 x2 x3 x4 h sz = some (o9, h9, sz9)) : vx_Met l yX4_ring (coX4_ring :: tk_W) ({ frames := 9, cells := tk_xc o9 0, slots := tk_xs o9 0, locals := 168 }) (tk_pc G [.ref x0, .int x1, .int x2, .int x3, .int x4] h sz) (tk_qx G (tk_oi o9) h9 sz9) (tk_xx G (tk_oi o9) h9 sz9) (tk_xc o9 0) (tk_xs o9 0) (tk_ag G) := by
  refine vx_ofW (cc := cX4_ring) (maxL := 7) (ret := (some .int)) (by decide) rfl ?_
  intro p e s m args below meth c s₁ B hml hout hv
  obtain ⟨hav, hE, hrp, hsz, hgs⟩ := hv
  have hx := B.exec
  have hb := B.bytes
  have hr := B.returns
  have hts := atoms_spec (ws := coX4_ring :: tk_W) B.pre
  have ht : ∀ w ∈ tk_W, w.before args s = true := fun w h => hts w (List.mem_cons_of_mem _ h)
  have hown : s.vm.findClass RX4 = some m.cls := findClass_of_methodNamed B.named
  have hlocks := B.notSynchronized
  have hs : tk_sw G s h sz s.heap [] := ⟨hrp, hsz, by rw [hsz]; exact hgs, va_S.rf⟩
  have hl := lv_entry ([.ref x0, .int x1, .int x2, .int x3, .int x4]) (n := 7) (Nat.le_of_ble_eq_true rfl)
  have hent : entryFrame m args 7 = F0 m 0 (lg_sl ([.ref x0, .int x1, .int x2, .int x3, .int x4]) ++ List.replicate (7 - (lg_sl ([.ref x0, .int x1, .int x2, .int x3, .int x4])).length) Slot.unset).toArray [] := by rw [hav, lg_entry_eq]
  rw [hent]
  clear hent
  generalize (lg_sl ([.ref x0, .int x1, .int x2, .int x3, .int x4]) ++ List.replicate (7 - (lg_sl ([.ref x0, .int x1, .int x2, .int x3, .int x4])).length) Slot.unset).toArray = ls at hl ⊢
  have hl : lv_has ls 7 [(0, .ref x0), (1, .int x1), (2, .int x2), (3, .int x3), (4, .int x4)] := hl
  have j90 : ∀ (y0 : Int32) (h : tk_AH) (sz : Nat) (H : Heap) (locs : List Loc) (ls : Array Slot), fX4_ring_90 N y0 h sz = some (o9, h9, sz9) → tk_sw G s h sz H locs → lv_has ls 7 [] → W p l e (headSpec (coX4_ring :: tk_W) ({ frames := 9, cells := tk_xc o9 0, slots := tk_xs o9 0, locals := 168 })).room s m args below meth c H locs 0 (0) (vx_MQ below (tk_qx G (tk_oi o9) h9 sz9) (tk_xx G (tk_oi o9) h9 sz9) args s (tk_xc o9 0) (tk_xs o9 0) (tk_ag G)) (F0 m 90 ls [.int y0]) := by
    intro y0 h sz H locs ls hf hs hl
    unfold fX4_ring_90 at hf
    cases hf
    exact tk_xiret hx hb hr hlocks hs dX4_ring_90
  have j47 : ∀ (h : tk_AH) (sz : Nat) (H : Heap) (locs : List Loc) (ls : Array Slot), fX4_ring_47 N h sz = some (o9, h9, sz9) → tk_sw G s h sz H locs → lv_has ls 7 [] → W p l e (headSpec (coX4_ring :: tk_W) ({ frames := 9, cells := tk_xc o9 0, slots := tk_xs o9 0, locals := 168 })).room s m args below meth c H locs 0 (0) (vx_MQ below (tk_qx G (tk_oi o9) h9 sz9) (tk_xx G (tk_oi o9) h9 sz9) args s (tk_xc o9 0) (tk_xs o9 0) (tk_ag G)) (F0 m 47 ls []) := by
    intro h sz H locs ls hf hs hl
    unfold fX4_ring_47 at hf
    cases hf
    exact tk_throwNSE hx hb hml hl0 hown ht hE hs hl (by decide : ("TongueSwap", 124, "a ring has no such hour") ∈ tk_strs) dX4_ring_47 dX4_ring_50 dX4_ring_51 dX4_ring_53 dX4_ring_56 hout (Nat.le_of_ble_eq_true rfl) (Nat.le_of_ble_eq_true rfl) (Nat.le_of_ble_eq_true rfl) (Nat.le_of_ble_eq_true rfl) (Nat.le_refl _) (Nat.le_refl _) hlocks
  have j33 : ∀ (x0 : Nat) (x1 : Int32) (x2 : Int32) (x3 : Int32) (x4 : Int32) (y0 : Int32) (h : tk_AH) (sz : Nat) (H : Heap) (locs : List Loc) (ls : Array Slot), fX4_ring_33 N x0 x1 x2 x3 x4 y0 h sz = some (o9, h9, sz9) → tk_sw G s h sz H locs → lv_has ls 7 [(0, .ref x0), (1, .int x1), (2, .int x2), (3, .int x3), (4, .int x4)] → W p l e (headSpec (coX4_ring :: tk_W) ({ frames := 9, cells := tk_xc o9 0, slots := tk_xs o9 0, locals := 168 })).room s m args below meth c H locs 0 (0) (vx_MQ below (tk_qx G (tk_oi o9) h9 sz9) (tk_xx G (tk_oi o9) h9 sz9) args s (tk_xc o9 0) (tk_xs o9 0) (tk_ag G)) (F0 m 33 ls [.int y0]) := by
    intro x0 x1 x2 x3 x4 y0 h sz H locs ls hf hs hl
    unfold fX4_ring_33 at hf
    refine lv_istore (lv' := [(5, .int y0), (0, .ref x0), (1, .int x1), (2, .int x2), (3, .int x3), (4, .int x4)]) hx hb dX4_ring_33 hl (by decide) rfl (fun ls hl => ?_)
    refine lv_iload hx hb dX4_ring_35 (lv_at hl 5 rfl) ?_
    refine lv_if_lt (tgt := 47) hx hb dX4_ring_37 (by decide) (fun c1 => ?_) (fun c1 => ?_)
    · rw [if_pos c1] at hf
      exact j47 h sz _ _ _ hf hs (lv_sub hl [] rfl)
    · rw [if_neg c1] at hf
      refine lv_iload hx hb dX4_ring_40 (lv_at hl 5 rfl) ?_
      refine lv_iload hx hb dX4_ring_42 (lv_at hl 0 rfl) ?_
      refine lv_icmp_lt (tgt := 57) hx hb dX4_ring_44 (by decide) (fun c2 => ?_) (fun c2 => ?_)
      · rw [if_pos c2] at hf
        refine lv_aload_n hx hb dX4_ring_57 rfl (lv_at hl 1 rfl) ?_
        obtain ⟨_, p3, hf⟩ := tk_bi hf
        obtain ⟨o3, e3, hf⟩ := tk_bi hf
        rcases w3 : o3.1 with r3 | E3
        · rw [w3, Sum.elim_inl] at hf
          refine tk_xret0 (v := none) hs (vx_runV (As := []) (rest := []) ⟨hx, hb, hml, hown, ht⟩ (cX4_lookAtTies_ok l hl0 G N x0 h sz (Sum.inl r3) o3.2.1 o3.2.2 (by rw [e3, ← w3])) (kwX4_lookAtTies ht wmX4_126 rfl rfl ⟨Nat.le_of_ble_eq_true rfl, Nat.le_of_ble_eq_true rfl⟩) (tk_preV hE hs (tk_ok_ok p3) rfl) rfl rfl hl.1 rfl (lv_room (Nat.le_of_ble_eq_true rfl)) dX4_ring_58 ⟨(Nat.zero_le _), (Nat.zero_le _)⟩) rfl rfl (fun H locs hs => ?_)
          refine W.eq (g2 := F0 m 61 ls []) rfl ?_
          refine lv_aload_n hx hb dX4_ring_61 rfl (lv_at hl 1 rfl) ?_
          obtain ⟨v5, e5, hf⟩ := tk_bi hf
          refine tk_getR hx hb ht inX4 hown hE hs rfl 1 (by decide) (ht _ wfX4_18) e5 dX4_ring_62 ?_
          refine lv_iload_n hx hb dX4_ring_65 rfl (lv_at hl 2 rfl) ?_
          refine lv_iload_n hx hb dX4_ring_66 rfl (lv_at hl 3 rfl) ?_
          refine lv_iload_n hx hb dX4_ring_67 rfl (lv_at hl 4 rfl) ?_
          obtain ⟨_, p6, hf⟩ := tk_bi hf
          obtain ⟨o6, e6, hf⟩ := tk_bi hf
          refine tk_call0 (v := some (.int o6.1)) hs (va_runV (As := [.int x1, .int x2, .int x3]) (rest := []) ⟨hx, hb, hml, hown, ht⟩ (cX3_ringHours_ok l hl0 G N v5 x1 x2 x3 o3.2.1 o3.2.2 o6.1 o6.2.1 o6.2.2 e6) (kwX3_ringHours ht wmX4_129 rfl rfl ⟨Nat.le_of_ble_eq_true rfl, Nat.le_of_ble_eq_true rfl⟩) (tk_preV hE hs (tk_ok_ok p6) rfl) rfl rfl hl.1 rfl (lv_room (Nat.le_of_ble_eq_true rfl)) dX4_ring_68 ⟨(Nat.zero_le _), (Nat.zero_le _)⟩) (fun H locs hs => ?_)
          refine W.eq (g2 := F0 m 71 ls [.int o6.1]) rfl ?_
          refine lv_istore (lv' := [(6, .int o6.1), (5, .int y0), (0, .ref x0), (1, .int x1), (2, .int x2), (3, .int x3), (4, .int x4)]) hx hb dX4_ring_71 hl (by decide) rfl (fun ls hl => ?_)
          refine lv_iload hx hb dX4_ring_73 (lv_at hl 0 rfl) ?_
          refine lv_iconst (v := (-1)) hx hb dX4_ring_75 (by decide) ?_
          refine lv_icmp_ne (tgt := 83) hx hb dX4_ring_76 (by decide) (fun c8 => ?_) (fun c8 => ?_)
          · rw [if_neg c8] at hf
            refine lv_iload hx hb dX4_ring_83 (lv_at hl 0 rfl) ?_
            refine lv_iload hx hb dX4_ring_85 (lv_at hl 6 rfl) ?_
            obtain ⟨o9, e9, hf⟩ := tk_bi hf
            refine tk_call0 (v := some (.int o9.1)) hs (va_runS (As := [.int o6.1, .int x4]) (rest := []) ⟨hx, hb, hml, hown, ht⟩ (cX4_hourAt_ok l hl0 G N o6.1 x4 o6.2.1 o6.2.2 o9.1 o9.2.1 o9.2.2 e9) (kwX4_hourAt ht wmX4_133 rfl rfl ⟨Nat.le_of_ble_eq_true rfl, Nat.le_of_ble_eq_true rfl⟩) (tk_preS hE hs) rfl rfl hl.1 rfl (lv_room (Nat.le_of_ble_eq_true rfl)) dX4_ring_87 ⟨(Nat.zero_le _), (Nat.zero_le _)⟩) (fun H locs hs => ?_)
            refine W.eq (g2 := F0 m 90 ls [.int o9.1]) rfl ?_
            exact j90 o9.1 o9.2.1 o9.2.2 _ _ _ hf hs (lv_sub hl [] rfl)
          · rw [if_pos c8] at hf
            refine lv_iconst (v := (-1)) hx hb dX4_ring_79 (by decide) ?_
            refine lv_goto (tgt := 90) hx hb dX4_ring_80 (by decide) ?_
            exact j90 (-1) o6.2.1 o6.2.2 _ _ _ hf hs (lv_sub hl [] rfl)
        · rw [w3, Sum.elim_inr] at hf
          cases hf
          exact tk_xthr hs (vx_runV (As := []) (rest := []) ⟨hx, hb, hml, hown, ht⟩ (cX4_lookAtTies_ok l hl0 G N x0 h sz (Sum.inr E3) o3.2.1 o3.2.2 (by rw [e3, ← w3])) (kwX4_lookAtTies ht wmX4_126 rfl rfl ⟨Nat.le_of_ble_eq_true rfl, Nat.le_of_ble_eq_true rfl⟩) (tk_preV hE hs (tk_ok_ok p3) rfl) rfl rfl hl.1 rfl (lv_room (Nat.le_of_ble_eq_true rfl)) dX4_ring_58 ⟨Nat.le_of_ble_eq_true rfl, Nat.le_of_ble_eq_true rfl⟩) (fun H locs ce q9 hs hce hcv hcl => tk_xout hout hlocks hs hce hcv hcl (Nat.le_refl _) (Nat.le_refl _))
      · rw [if_neg c2] at hf
        exact j47 h sz _ _ _ hf hs (lv_sub hl [] rfl)
  have j23 : ∀ (x0 : Nat) (x1 : Int32) (x2 : Int32) (x3 : Int32) (x4 : Int32) (h : tk_AH) (sz : Nat) (H : Heap) (locs : List Loc) (ls : Array Slot), fX4_ring_23 N x0 x1 x2 x3 x4 h sz = some (o9, h9, sz9) → tk_sw G s h sz H locs → lv_has ls 7 [(0, .ref x0), (1, .int x1), (2, .int x2), (3, .int x3), (4, .int x4)] → W p l e (headSpec (coX4_ring :: tk_W) ({ frames := 9, cells := tk_xc o9 0, slots := tk_xs o9 0, locals := 168 })).room s m args below meth c H locs 0 (0) (vx_MQ below (tk_qx G (tk_oi o9) h9 sz9) (tk_xx G (tk_oi o9) h9 sz9) args s (tk_xc o9 0) (tk_xs o9 0) (tk_ag G)) (F0 m 23 ls []) := by
    intro x0 x1 x2 x3 x4 h sz H locs ls hf hs hl
    unfold fX4_ring_23 at hf
    refine lv_iload_n hx hb dX4_ring_23 rfl (lv_at hl 3 rfl) ?_
    refine lv_iconst (v := (-1)) hx hb dX4_ring_24 (by decide) ?_
    refine lv_icmp_ne (tgt := 32) hx hb dX4_ring_25 (by decide) (fun c10 => ?_) (fun c10 => ?_)
    · rw [if_neg c10] at hf
      refine lv_iconst (v := 3) hx hb dX4_ring_32 (by decide) ?_
      exact j33 x0 x1 x2 x3 x4 3 h sz _ _ _ hf hs (lv_sub hl [0, 1, 2, 3, 4] rfl)
    · rw [if_pos c10] at hf
      refine lv_iconst (v := 1) hx hb dX4_ring_28 (by decide) ?_
      refine lv_goto (tgt := 33) hx hb dX4_ring_29 (by decide) ?_
      exact j33 x0 x1 x2 x3 x4 1 h sz _ _ _ hf hs (lv_sub hl [0, 1, 2, 3, 4] rfl)
  unfold fX4_ring at hf
  refine lv_aload_n hx hb dX4_ring_0 rfl (lv_at hl 0 rfl) ?_
  refine lv_iload_n hx hb dX4_ring_1 rfl (lv_at hl 1 rfl) ?_
  obtain ⟨_, p11, hf⟩ := tk_bi hf
  obtain ⟨o11, e11, hf⟩ := tk_bi hf
  rcases w11 : o11.1 with r11 | E11
  · rw [w11, Sum.elim_inl] at hf
    refine tk_xret0 (v := some (.ref r11)) hs (vx_runV (As := [.int x1]) (rest := []) ⟨hx, hb, hml, hown, ht⟩ (cX4_find_ok l hl0 G N x0 x1 h sz (Sum.inl r11) o11.2.1 o11.2.2 (by rw [e11, ← w11])) (kwX4_find ht wmX4_48 rfl rfl ⟨Nat.le_of_ble_eq_true rfl, Nat.le_of_ble_eq_true rfl⟩) (tk_preV hE hs (tk_ok_ok p11) rfl) rfl rfl hl.1 rfl (lv_room (Nat.le_of_ble_eq_true rfl)) dX4_ring_2 ⟨(Nat.zero_le _), (Nat.zero_le _)⟩) rfl rfl (fun H locs hs => ?_)
    refine W.eq (g2 := F0 m 5 ls [.ref r11]) rfl ?_
    refine lv_pop hx hb dX4_ring_5 rfl ?_
    refine lv_aload_n hx hb dX4_ring_6 rfl (lv_at hl 0 rfl) ?_
    refine lv_iload_n hx hb dX4_ring_7 rfl (lv_at hl 2 rfl) ?_
    obtain ⟨_, p13, hf⟩ := tk_bi hf
    obtain ⟨o13, e13, hf⟩ := tk_bi hf
    rcases w13 : o13.1 with r13 | E13
    · rw [w13, Sum.elim_inl] at hf
      refine tk_xret0 (v := some (.ref r13)) hs (vx_runV (As := [.int x2]) (rest := []) ⟨hx, hb, hml, hown, ht⟩ (cX4_find_ok l hl0 G N x0 x2 o11.2.1 o11.2.2 (Sum.inl r13) o13.2.1 o13.2.2 (by rw [e13, ← w13])) (kwX4_find ht wmX4_48 rfl rfl ⟨Nat.le_of_ble_eq_true rfl, Nat.le_of_ble_eq_true rfl⟩) (tk_preV hE hs (tk_ok_ok p13) rfl) rfl rfl hl.1 rfl (lv_room (Nat.le_of_ble_eq_true rfl)) dX4_ring_8 ⟨(Nat.zero_le _), (Nat.zero_le _)⟩) rfl rfl (fun H locs hs => ?_)
      refine W.eq (g2 := F0 m 11 ls [.ref r13]) rfl ?_
      refine lv_pop hx hb dX4_ring_11 rfl ?_
      refine lv_iload_n hx hb dX4_ring_12 rfl (lv_at hl 3 rfl) ?_
      refine lv_iconst (v := (-1)) hx hb dX4_ring_13 (by decide) ?_
      refine lv_icmp_eq (tgt := 23) hx hb dX4_ring_14 (by decide) (fun c15 => ?_) (fun c15 => ?_)
      · rw [if_pos c15] at hf
        exact j23 x0 x1 x2 x3 x4 o13.2.1 o13.2.2 _ _ _ hf hs (lv_sub hl [0, 1, 2, 3, 4] rfl)
      · rw [if_neg c15] at hf
        refine lv_aload_n hx hb dX4_ring_17 rfl (lv_at hl 0 rfl) ?_
        refine lv_iload_n hx hb dX4_ring_18 rfl (lv_at hl 3 rfl) ?_
        obtain ⟨_, p16, hf⟩ := tk_bi hf
        obtain ⟨o16, e16, hf⟩ := tk_bi hf
        rcases w16 : o16.1 with r16 | E16
        · rw [w16, Sum.elim_inl] at hf
          refine tk_xret0 (v := some (.ref r16)) hs (vx_runV (As := [.int x3]) (rest := []) ⟨hx, hb, hml, hown, ht⟩ (cX4_find_ok l hl0 G N x0 x3 o13.2.1 o13.2.2 (Sum.inl r16) o16.2.1 o16.2.2 (by rw [e16, ← w16])) (kwX4_find ht wmX4_48 rfl rfl ⟨Nat.le_of_ble_eq_true rfl, Nat.le_of_ble_eq_true rfl⟩) (tk_preV hE hs (tk_ok_ok p16) rfl) rfl rfl hl.1 rfl (lv_room (Nat.le_of_ble_eq_true rfl)) dX4_ring_19 ⟨(Nat.zero_le _), (Nat.zero_le _)⟩) rfl rfl (fun H locs hs => ?_)
          refine W.eq (g2 := F0 m 22 ls [.ref r16]) rfl ?_
          refine lv_pop hx hb dX4_ring_22 rfl ?_
          exact j23 x0 x1 x2 x3 x4 o16.2.1 o16.2.2 _ _ _ hf hs (lv_sub hl [0, 1, 2, 3, 4] rfl)
        · rw [w16, Sum.elim_inr] at hf
          cases hf
          exact tk_xthr hs (vx_runV (As := [.int x3]) (rest := []) ⟨hx, hb, hml, hown, ht⟩ (cX4_find_ok l hl0 G N x0 x3 o13.2.1 o13.2.2 (Sum.inr E16) o16.2.1 o16.2.2 (by rw [e16, ← w16])) (kwX4_find ht wmX4_48 rfl rfl ⟨Nat.le_of_ble_eq_true rfl, Nat.le_of_ble_eq_true rfl⟩) (tk_preV hE hs (tk_ok_ok p16) rfl) rfl rfl hl.1 rfl (lv_room (Nat.le_of_ble_eq_true rfl)) dX4_ring_19 ⟨Nat.le_of_ble_eq_true rfl, Nat.le_of_ble_eq_true rfl⟩) (fun H locs ce q9 hs hce hcv hcl => tk_xout hout hlocks hs hce hcv hcl (Nat.le_refl _) (Nat.le_refl _))
    · rw [w13, Sum.elim_inr] at hf
      cases hf
      exact tk_xthr hs (vx_runV (As := [.int x2]) (rest := []) ⟨hx, hb, hml, hown, ht⟩ (cX4_find_ok l hl0 G N x0 x2 o11.2.1 o11.2.2 (Sum.inr E13) o13.2.1 o13.2.2 (by rw [e13, ← w13])) (kwX4_find ht wmX4_48 rfl rfl ⟨Nat.le_of_ble_eq_true rfl, Nat.le_of_ble_eq_true rfl⟩) (tk_preV hE hs (tk_ok_ok p13) rfl) rfl rfl hl.1 rfl (lv_room (Nat.le_of_ble_eq_true rfl)) dX4_ring_8 ⟨Nat.le_of_ble_eq_true rfl, Nat.le_of_ble_eq_true rfl⟩) (fun H locs ce q9 hs hce hcv hcl => tk_xout hout hlocks hs hce hcv hcl (Nat.le_refl _) (Nat.le_refl _))
  · rw [w11, Sum.elim_inr] at hf
    cases hf
    exact tk_xthr hs (vx_runV (As := [.int x1]) (rest := []) ⟨hx, hb, hml, hown, ht⟩ (cX4_find_ok l hl0 G N x0 x1 h sz (Sum.inr E11) o11.2.1 o11.2.2 (by rw [e11, ← w11])) (kwX4_find ht wmX4_48 rfl rfl ⟨Nat.le_of_ble_eq_true rfl, Nat.le_of_ble_eq_true rfl⟩) (tk_preV hE hs (tk_ok_ok p11) rfl) rfl rfl hl.1 rfl (lv_room (Nat.le_of_ble_eq_true rfl)) dX4_ring_2 ⟨Nat.le_of_ble_eq_true rfl, Nat.le_of_ble_eq_true rfl⟩) (fun H locs ce q9 hs hce hcv hcl => tk_xout hout hlocks hs hce hcv hcl (Nat.le_refl _) (Nat.le_refl _))
def fX4_takeRing_159 (N : Nat) (x0 : Nat) (y0 : Int32) (y1 : Int32) (y2 : Nat) (h : tk_AH) (sz : Nat) : Option (tk_AH × Nat) :=
  (tk_sI h 0 y2 y1 y0).bind fun h1 =>
  (tk_gI h1 4 5 x0).bind fun v2 =>
  (tk_pF h1 4 5 x0 (.int (v2 + 1))).bind fun h3 =>
  some (h3, sz)
def fX4_takeRing_134 (N : Nat) (x0 : Nat) (x4 : Int32) (x5 : Int32) (x6 : Int32) (y0 : Int32) (y1 : Int32) (y2 : Nat) (h : tk_AH) (sz : Nat) : Option (tk_AH × Nat) :=
  (tk_sI h 0 y2 y1 y0).bind fun h4 =>
  (tk_gR h4 4 4 x0).bind fun v5 =>
  if x4 = (-1) then (
  fX4_takeRing_159 N x0 (-1) (x6 + 5) v5 h4 sz) else (
  (fX4_hourAt N x5 2 h4 sz).bind fun o7 =>
  fX4_takeRing_159 N x0 o7.1 (x6 + 5) v5 o7.2.1 o7.2.2)
def fX4_takeRing (N : Nat) (x0 : Nat) (x1 : Int32) (h : tk_AH) (sz : Nat) : Option (tk_AH × Nat) :=
  (tk_gI h 4 5 x0).bind fun v8 =>
  if v8 < 7 then (
  (tk_gR h 4 2 x0).bind fun v10 =>
  (tk_gR h 1 0 v10).bind fun v11 =>
  (tk_aI h 0 v11 x1).bind fun v12 =>
  (fX4_lowestBit N v12 h sz).bind fun o13 =>
  (tk_gR o13.2.1 4 2 x0).bind fun v14 =>
  (tk_gR o13.2.1 1 1 v14).bind fun v15 =>
  (tk_aI o13.2.1 0 v15 x1).bind fun v16 =>
  (tk_gR o13.2.1 4 2 x0).bind fun v17 =>
  (tk_gR o13.2.1 1 2 v17).bind fun v18 =>
  (tk_aI o13.2.1 0 v18 x1).bind fun v19 =>
  (tk_gR o13.2.1 4 1 x0).bind fun v20 =>
  (tk_ok o13.2.1 3 v20).bind fun _ =>
  (fX3_ringHours N v20 o13.1 v16 v19 o13.2.1 o13.2.2).bind fun o21 =>
  (tk_gI o21.2.1 4 5 x0).bind fun v23 =>
  (tk_gR o21.2.1 4 4 x0).bind fun v24 =>
  (tk_sI o21.2.1 0 v24 (v23 * 6) o13.1).bind fun h25 =>
  (tk_gR h25 4 4 x0).bind fun v26 =>
  (tk_sI h25 0 v26 ((v23 * 6) + 1) v16).bind fun h27 =>
  (tk_gR h27 4 4 x0).bind fun v28 =>
  (tk_sI h27 0 v28 ((v23 * 6) + 2) v19).bind fun h29 =>
  (tk_gR h29 4 4 x0).bind fun v30 =>
  (fX4_hourAt N o21.1 0 h29 o21.2.2).bind fun o31 =>
  (tk_sI o31.2.1 0 v30 ((v23 * 6) + 3) o31.1).bind fun h32 =>
  (tk_gR h32 4 4 x0).bind fun v33 =>
  if v19 = (-1) then (
  fX4_takeRing_134 N x0 v19 o21.1 (v23 * 6) (-1) ((v23 * 6) + 4) v33 h32 o31.2.2) else (
  (fX4_hourAt N o21.1 1 h32 o31.2.2).bind fun o35 =>
  fX4_takeRing_134 N x0 v19 o21.1 (v23 * 6) o35.1 ((v23 * 6) + 4) v33 o35.2.1 o35.2.2)) else (
  some (h, sz))
set_option maxHeartbeats 8000000 in
set_option maxRecDepth 100000 in
theorem cX4_takeRing_ok (l : Launch) (hl0 : l.stackTraces = false) (G : tk_AG) (N : Nat) (x0 : Nat) (x1 : Int32) (h : tk_AH) (sz : Nat) (h9 : tk_AH) (sz9 : Nat) (hf : fX4_takeRing N x0 x1 h sz = some (h9, sz9)) : Met l yX4_takeRing (coX4_takeRing :: tk_W) ({ frames := 5, cells := 0, slots := 0, locals := 112 }) (tk_pc G [.ref x0, .int x1] h sz) (tk_qc G none h9 sz9) 0 0 (tk_ag G) := by
  refine Met.ofW (cc := cX4_takeRing) (maxL := 7) (ret := none) (by decide) rfl ?_
  intro p e s m args below meth c s₁ B hml hv
  obtain ⟨hav, hE, hrp, hsz, hgs⟩ := hv
  have hx := B.exec
  have hb := B.bytes
  have hr := B.returns
  have hts := atoms_spec (ws := coX4_takeRing :: tk_W) B.pre
  have ht : ∀ w ∈ tk_W, w.before args s = true := fun w h => hts w (List.mem_cons_of_mem _ h)
  have hown : s.vm.findClass RX4 = some m.cls := findClass_of_methodNamed B.named
  have hlocks := B.notSynchronized
  have hs : tk_sw G s h sz s.heap [] := ⟨hrp, hsz, by rw [hsz]; exact hgs, va_S.rf⟩
  have hl := lv_entry ([.ref x0, .int x1]) (n := 7) (Nat.le_of_ble_eq_true rfl)
  have hent : entryFrame m args 7 = F0 m 0 (lg_sl ([.ref x0, .int x1]) ++ List.replicate (7 - (lg_sl ([.ref x0, .int x1])).length) Slot.unset).toArray [] := by rw [hav, lg_entry_eq]
  rw [hent]
  clear hent
  generalize (lg_sl ([.ref x0, .int x1]) ++ List.replicate (7 - (lg_sl ([.ref x0, .int x1])).length) Slot.unset).toArray = ls at hl ⊢
  have hl : lv_has ls 7 [(0, .ref x0), (1, .int x1)] := hl
  have j159 : ∀ (x0 : Nat) (y0 : Int32) (y1 : Int32) (y2 : Nat) (h : tk_AH) (sz : Nat) (H : Heap) (locs : List Loc) (ls : Array Slot), fX4_takeRing_159 N x0 y0 y1 y2 h sz = some (h9, sz9) → tk_sw G s h sz H locs → lv_has ls 7 [(0, .ref x0)] → W p l e (headSpec (coX4_takeRing :: tk_W) ({ frames := 5, cells := 0, slots := 0, locals := 112 })).room s m args below meth c H locs 0 (0) (MQ below (tk_qc G none h9 sz9) args s 0 0 (tk_ag G)) (F0 m 159 ls [.int y0, .int y1, .ref y2]) := by
    intro x0 y0 y1 y2 h sz H locs ls hf hs hl
    unfold fX4_takeRing_159 at hf
    obtain ⟨h1, e1, hf⟩ := tk_bi hf
    refine tk_iast hx hb hE hs e1 dX4_takeRing_159 (fun H locs hs => ?_)
    refine lv_aload_n hx hb dX4_takeRing_160 rfl (lv_at hl 0 rfl) ?_
    refine lv_dup hx hb dX4_takeRing_161 rfl ?_
    obtain ⟨v2, e2, hf⟩ := tk_bi hf
    refine tk_getI hx hb ht inX4 hown hE hs rfl 5 (by decide) (ht _ wfX4_172) e2 dX4_takeRing_162 ?_
    refine lv_iconst (v := 1) hx hb dX4_takeRing_165 (by decide) ?_
    refine lv_iadd hx hb dX4_takeRing_166 ?_
    obtain ⟨h3, e3, hf⟩ := tk_bi hf
    refine tk_put hx hb ht inX4 tyX4 tyX4_ok nmX4 hown hE hs rfl 5 (by decide) (ht _ wfX4_172) rfl rfl rfl e3 dX4_takeRing_167 (fun H locs hs => ?_)
    cases hf
    exact tk_vret hx hb hr hlocks hs dX4_takeRing_170
  have j134 : ∀ (x0 : Nat) (x4 : Int32) (x5 : Int32) (x6 : Int32) (y0 : Int32) (y1 : Int32) (y2 : Nat) (h : tk_AH) (sz : Nat) (H : Heap) (locs : List Loc) (ls : Array Slot), fX4_takeRing_134 N x0 x4 x5 x6 y0 y1 y2 h sz = some (h9, sz9) → tk_sw G s h sz H locs → lv_has ls 7 [(0, .ref x0), (4, .int x4), (5, .int x5), (6, .int x6)] → W p l e (headSpec (coX4_takeRing :: tk_W) ({ frames := 5, cells := 0, slots := 0, locals := 112 })).room s m args below meth c H locs 0 (0) (MQ below (tk_qc G none h9 sz9) args s 0 0 (tk_ag G)) (F0 m 134 ls [.int y0, .int y1, .ref y2]) := by
    intro x0 x4 x5 x6 y0 y1 y2 h sz H locs ls hf hs hl
    unfold fX4_takeRing_134 at hf
    obtain ⟨h4, e4, hf⟩ := tk_bi hf
    refine tk_iast hx hb hE hs e4 dX4_takeRing_134 (fun H locs hs => ?_)
    refine lv_aload_n hx hb dX4_takeRing_135 rfl (lv_at hl 0 rfl) ?_
    obtain ⟨v5, e5, hf⟩ := tk_bi hf
    refine tk_getR hx hb ht inX4 hown hE hs rfl 4 (by decide) (ht _ wfX4_36) e5 dX4_takeRing_136 ?_
    refine lv_iload hx hb dX4_takeRing_139 (lv_at hl 3 rfl) ?_
    refine lv_iconst (v := 5) hx hb dX4_takeRing_141 (by decide) ?_
    refine lv_iadd hx hb dX4_takeRing_142 ?_
    refine lv_iload hx hb dX4_takeRing_143 (lv_at hl 1 rfl) ?_
    refine lv_iconst (v := (-1)) hx hb dX4_takeRing_145 (by decide) ?_
    refine lv_icmp_ne (tgt := 153) hx hb dX4_takeRing_146 (by decide) (fun c6 => ?_) (fun c6 => ?_)
    · rw [if_neg c6] at hf
      refine lv_iload hx hb dX4_takeRing_153 (lv_at hl 2 rfl) ?_
      refine lv_iconst (v := 2) hx hb dX4_takeRing_155 (by decide) ?_
      obtain ⟨o7, e7, hf⟩ := tk_bi hf
      refine tk_call0 (v := some (.int o7.1)) hs (va_runS (As := [.int x5, .int 2]) (rest := [.int (x6 + 5), .ref v5]) ⟨hx, hb, hml, hown, ht⟩ (cX4_hourAt_ok l hl0 G N x5 2 h4 sz o7.1 o7.2.1 o7.2.2 e7) (kwX4_hourAt ht wmX4_133 rfl rfl ⟨Nat.le_of_ble_eq_true rfl, Nat.le_of_ble_eq_true rfl⟩) (tk_preS hE hs) rfl rfl hl.1 rfl (lv_room (Nat.le_of_ble_eq_true rfl)) dX4_takeRing_156 ⟨(Nat.le_of_ble_eq_true rfl), (Nat.le_of_ble_eq_true rfl)⟩) (fun H locs hs => ?_)
      refine W.eq (g2 := F0 m 159 ls [.int o7.1, .int (x6 + 5), .ref v5]) rfl ?_
      exact j159 x0 o7.1 (x6 + 5) v5 o7.2.1 o7.2.2 _ _ _ hf hs (lv_sub hl [0] rfl)
    · rw [if_pos c6] at hf
      refine lv_iconst (v := (-1)) hx hb dX4_takeRing_149 (by decide) ?_
      refine lv_goto (tgt := 159) hx hb dX4_takeRing_150 (by decide) ?_
      exact j159 x0 (-1) (x6 + 5) v5 h4 sz _ _ _ hf hs (lv_sub hl [0] rfl)
  unfold fX4_takeRing at hf
  refine lv_aload_n hx hb dX4_takeRing_0 rfl (lv_at hl 0 rfl) ?_
  obtain ⟨v8, e8, hf⟩ := tk_bi hf
  refine tk_getI hx hb ht inX4 hown hE hs rfl 5 (by decide) (ht _ wfX4_172) e8 dX4_takeRing_1 ?_
  refine lv_bipush (v := 7) hx hb dX4_takeRing_4 (by decide) ?_
  refine lv_icmp_lt (tgt := 10) hx hb dX4_takeRing_6 (by decide) (fun c9 => ?_) (fun c9 => ?_)
  · rw [if_pos c9] at hf
    refine lv_aload_n hx hb dX4_takeRing_10 rfl (lv_at hl 0 rfl) ?_
    obtain ⟨v10, e10, hf⟩ := tk_bi hf
    refine tk_getR hx hb ht inX4 hown hE hs rfl 2 (by decide) (ht _ wfX4_25) e10 dX4_takeRing_11 ?_
    obtain ⟨v11, e11, hf⟩ := tk_bi hf
    refine tk_getNR (host := "TongueSwap") hx hb ht inX1 hown hE hs rfl 0 (by decide) (by decide +kernel) e11 dX4_takeRing_14 ?_
    refine lv_iload_n hx hb dX4_takeRing_17 rfl (lv_at hl 1 rfl) ?_
    obtain ⟨v12, e12, hf⟩ := tk_bi hf
    refine tk_iald hx hb hE hs e12 dX4_takeRing_18 ?_
    obtain ⟨o13, e13, hf⟩ := tk_bi hf
    refine tk_call0 (v := some (.int o13.1)) hs (va_runS (As := [.int v12]) (rest := []) ⟨hx, hb, hml, hown, ht⟩ (cX4_lowestBit_ok l hl0 G N v12 h sz o13.1 o13.2.1 o13.2.2 e13) (kwX4_lowestBit ht wmX4_121 rfl rfl ⟨Nat.le_of_ble_eq_true rfl, Nat.le_of_ble_eq_true rfl⟩) (tk_preS hE hs) rfl rfl hl.1 rfl (lv_room (Nat.le_of_ble_eq_true rfl)) dX4_takeRing_19 ⟨(Nat.le_of_ble_eq_true rfl), (Nat.le_of_ble_eq_true rfl)⟩) (fun H locs hs => ?_)
    refine W.eq (g2 := F0 m 22 ls [.int o13.1]) rfl ?_
    refine lv_istore_n (lv' := [(2, .int o13.1), (0, .ref x0), (1, .int x1)]) hx hb dX4_takeRing_22 rfl hl (by decide) rfl (fun ls hl => ?_)
    refine lv_aload_n hx hb dX4_takeRing_23 rfl (lv_at hl 1 rfl) ?_
    obtain ⟨v14, e14, hf⟩ := tk_bi hf
    refine tk_getR hx hb ht inX4 hown hE hs rfl 2 (by decide) (ht _ wfX4_25) e14 dX4_takeRing_24 ?_
    obtain ⟨v15, e15, hf⟩ := tk_bi hf
    refine tk_getNR (host := "TongueSwap") hx hb ht inX1 hown hE hs rfl 1 (by decide) (by decide +kernel) e15 dX4_takeRing_27 ?_
    refine lv_iload_n hx hb dX4_takeRing_30 rfl (lv_at hl 2 rfl) ?_
    obtain ⟨v16, e16, hf⟩ := tk_bi hf
    refine tk_iald hx hb hE hs e16 dX4_takeRing_31 ?_
    refine lv_istore_n (lv' := [(3, .int v16), (2, .int o13.1), (0, .ref x0), (1, .int x1)]) hx hb dX4_takeRing_32 rfl hl (by decide) rfl (fun ls hl => ?_)
    refine lv_aload_n hx hb dX4_takeRing_33 rfl (lv_at hl 2 rfl) ?_
    obtain ⟨v17, e17, hf⟩ := tk_bi hf
    refine tk_getR hx hb ht inX4 hown hE hs rfl 2 (by decide) (ht _ wfX4_25) e17 dX4_takeRing_34 ?_
    obtain ⟨v18, e18, hf⟩ := tk_bi hf
    refine tk_getNR (host := "TongueSwap") hx hb ht inX1 hown hE hs rfl 2 (by decide) (by decide +kernel) e18 dX4_takeRing_37 ?_
    refine lv_iload_n hx hb dX4_takeRing_40 rfl (lv_at hl 3 rfl) ?_
    obtain ⟨v19, e19, hf⟩ := tk_bi hf
    refine tk_iald hx hb hE hs e19 dX4_takeRing_41 ?_
    refine lv_istore (lv' := [(4, .int v19), (3, .int v16), (2, .int o13.1), (0, .ref x0), (1, .int x1)]) hx hb dX4_takeRing_42 hl (by decide) rfl (fun ls hl => ?_)
    refine lv_aload_n hx hb dX4_takeRing_44 rfl (lv_at hl 3 rfl) ?_
    obtain ⟨v20, e20, hf⟩ := tk_bi hf
    refine tk_getR hx hb ht inX4 hown hE hs rfl 1 (by decide) (ht _ wfX4_18) e20 dX4_takeRing_45 ?_
    refine lv_iload_n hx hb dX4_takeRing_48 rfl (lv_at hl 2 rfl) ?_
    refine lv_iload_n hx hb dX4_takeRing_49 rfl (lv_at hl 1 rfl) ?_
    refine lv_iload hx hb dX4_takeRing_50 (lv_at hl 0 rfl) ?_
    obtain ⟨_, p21, hf⟩ := tk_bi hf
    obtain ⟨o21, e21, hf⟩ := tk_bi hf
    refine tk_call0 (v := some (.int o21.1)) hs (va_runV (As := [.int o13.1, .int v16, .int v19]) (rest := []) ⟨hx, hb, hml, hown, ht⟩ (cX3_ringHours_ok l hl0 G N v20 o13.1 v16 v19 o13.2.1 o13.2.2 o21.1 o21.2.1 o21.2.2 e21) (kwX3_ringHours ht wmX4_129 rfl rfl ⟨Nat.le_of_ble_eq_true rfl, Nat.le_of_ble_eq_true rfl⟩) (tk_preV hE hs (tk_ok_ok p21) rfl) rfl rfl hl.1 rfl (lv_room (Nat.le_of_ble_eq_true rfl)) dX4_takeRing_52 ⟨(Nat.le_of_ble_eq_true rfl), (Nat.le_of_ble_eq_true rfl)⟩) (fun H locs hs => ?_)
    refine W.eq (g2 := F0 m 55 ls [.int o21.1]) rfl ?_
    refine lv_istore (lv' := [(5, .int o21.1), (4, .int v19), (3, .int v16), (2, .int o13.1), (0, .ref x0), (1, .int x1)]) hx hb dX4_takeRing_55 hl (by decide) rfl (fun ls hl => ?_)
    refine lv_aload_n hx hb dX4_takeRing_57 rfl (lv_at hl 4 rfl) ?_
    obtain ⟨v23, e23, hf⟩ := tk_bi hf
    refine tk_getI hx hb ht inX4 hown hE hs rfl 5 (by decide) (ht _ wfX4_172) e23 dX4_takeRing_58 ?_
    refine lv_bipush (v := 6) hx hb dX4_takeRing_61 (by decide) ?_
    refine lv_imul hx hb dX4_takeRing_63 ?_
    refine lv_istore (lv' := [(6, .int (v23 * 6)), (5, .int o21.1), (4, .int v19), (3, .int v16), (2, .int o13.1), (0, .ref x0), (1, .int x1)]) hx hb dX4_takeRing_64 hl (by decide) rfl (fun ls hl => ?_)
    refine lv_aload_n hx hb dX4_takeRing_66 rfl (lv_at hl 5 rfl) ?_
    obtain ⟨v24, e24, hf⟩ := tk_bi hf
    refine tk_getR hx hb ht inX4 hown hE hs rfl 4 (by decide) (ht _ wfX4_36) e24 dX4_takeRing_67 ?_
    refine lv_iload hx hb dX4_takeRing_70 (lv_at hl 0 rfl) ?_
    refine lv_iload_n hx hb dX4_takeRing_72 rfl (lv_at hl 4 rfl) ?_
    obtain ⟨h25, e25, hf⟩ := tk_bi hf
    refine tk_iast hx hb hE hs e25 dX4_takeRing_73 (fun H locs hs => ?_)
    refine lv_aload_n hx hb dX4_takeRing_74 rfl (lv_at hl 5 rfl) ?_
    obtain ⟨v26, e26, hf⟩ := tk_bi hf
    refine tk_getR hx hb ht inX4 hown hE hs rfl 4 (by decide) (ht _ wfX4_36) e26 dX4_takeRing_75 ?_
    refine lv_iload hx hb dX4_takeRing_78 (lv_at hl 0 rfl) ?_
    refine lv_iconst (v := 1) hx hb dX4_takeRing_80 (by decide) ?_
    refine lv_iadd hx hb dX4_takeRing_81 ?_
    refine lv_iload_n hx hb dX4_takeRing_82 rfl (lv_at hl 3 rfl) ?_
    obtain ⟨h27, e27, hf⟩ := tk_bi hf
    refine tk_iast hx hb hE hs e27 dX4_takeRing_83 (fun H locs hs => ?_)
    refine lv_aload_n hx hb dX4_takeRing_84 rfl (lv_at hl 5 rfl) ?_
    obtain ⟨v28, e28, hf⟩ := tk_bi hf
    refine tk_getR hx hb ht inX4 hown hE hs rfl 4 (by decide) (ht _ wfX4_36) e28 dX4_takeRing_85 ?_
    refine lv_iload hx hb dX4_takeRing_88 (lv_at hl 0 rfl) ?_
    refine lv_iconst (v := 2) hx hb dX4_takeRing_90 (by decide) ?_
    refine lv_iadd hx hb dX4_takeRing_91 ?_
    refine lv_iload hx hb dX4_takeRing_92 (lv_at hl 2 rfl) ?_
    obtain ⟨h29, e29, hf⟩ := tk_bi hf
    refine tk_iast hx hb hE hs e29 dX4_takeRing_94 (fun H locs hs => ?_)
    refine lv_aload_n hx hb dX4_takeRing_95 rfl (lv_at hl 5 rfl) ?_
    obtain ⟨v30, e30, hf⟩ := tk_bi hf
    refine tk_getR hx hb ht inX4 hown hE hs rfl 4 (by decide) (ht _ wfX4_36) e30 dX4_takeRing_96 ?_
    refine lv_iload hx hb dX4_takeRing_99 (lv_at hl 0 rfl) ?_
    refine lv_iconst (v := 3) hx hb dX4_takeRing_101 (by decide) ?_
    refine lv_iadd hx hb dX4_takeRing_102 ?_
    refine lv_iload hx hb dX4_takeRing_103 (lv_at hl 1 rfl) ?_
    refine lv_iconst (v := 0) hx hb dX4_takeRing_105 (by decide) ?_
    obtain ⟨o31, e31, hf⟩ := tk_bi hf
    refine tk_call0 (v := some (.int o31.1)) hs (va_runS (As := [.int o21.1, .int 0]) (rest := [.int ((v23 * 6) + 3), .ref v30]) ⟨hx, hb, hml, hown, ht⟩ (cX4_hourAt_ok l hl0 G N o21.1 0 h29 o21.2.2 o31.1 o31.2.1 o31.2.2 e31) (kwX4_hourAt ht wmX4_133 rfl rfl ⟨Nat.le_of_ble_eq_true rfl, Nat.le_of_ble_eq_true rfl⟩) (tk_preS hE hs) rfl rfl hl.1 rfl (lv_room (Nat.le_of_ble_eq_true rfl)) dX4_takeRing_106 ⟨(Nat.le_of_ble_eq_true rfl), (Nat.le_of_ble_eq_true rfl)⟩) (fun H locs hs => ?_)
    refine W.eq (g2 := F0 m 109 ls [.int o31.1, .int ((v23 * 6) + 3), .ref v30]) rfl ?_
    obtain ⟨h32, e32, hf⟩ := tk_bi hf
    refine tk_iast hx hb hE hs e32 dX4_takeRing_109 (fun H locs hs => ?_)
    refine lv_aload_n hx hb dX4_takeRing_110 rfl (lv_at hl 5 rfl) ?_
    obtain ⟨v33, e33, hf⟩ := tk_bi hf
    refine tk_getR hx hb ht inX4 hown hE hs rfl 4 (by decide) (ht _ wfX4_36) e33 dX4_takeRing_111 ?_
    refine lv_iload hx hb dX4_takeRing_114 (lv_at hl 0 rfl) ?_
    refine lv_iconst (v := 4) hx hb dX4_takeRing_116 (by decide) ?_
    refine lv_iadd hx hb dX4_takeRing_117 ?_
    refine lv_iload hx hb dX4_takeRing_118 (lv_at hl 2 rfl) ?_
    refine lv_iconst (v := (-1)) hx hb dX4_takeRing_120 (by decide) ?_
    refine lv_icmp_ne (tgt := 128) hx hb dX4_takeRing_121 (by decide) (fun c34 => ?_) (fun c34 => ?_)
    · rw [if_neg c34] at hf
      refine lv_iload hx hb dX4_takeRing_128 (lv_at hl 1 rfl) ?_
      refine lv_iconst (v := 1) hx hb dX4_takeRing_130 (by decide) ?_
      obtain ⟨o35, e35, hf⟩ := tk_bi hf
      refine tk_call0 (v := some (.int o35.1)) hs (va_runS (As := [.int o21.1, .int 1]) (rest := [.int ((v23 * 6) + 4), .ref v33]) ⟨hx, hb, hml, hown, ht⟩ (cX4_hourAt_ok l hl0 G N o21.1 1 h32 o31.2.2 o35.1 o35.2.1 o35.2.2 e35) (kwX4_hourAt ht wmX4_133 rfl rfl ⟨Nat.le_of_ble_eq_true rfl, Nat.le_of_ble_eq_true rfl⟩) (tk_preS hE hs) rfl rfl hl.1 rfl (lv_room (Nat.le_of_ble_eq_true rfl)) dX4_takeRing_131 ⟨(Nat.le_of_ble_eq_true rfl), (Nat.le_of_ble_eq_true rfl)⟩) (fun H locs hs => ?_)
      refine W.eq (g2 := F0 m 134 ls [.int o35.1, .int ((v23 * 6) + 4), .ref v33]) rfl ?_
      exact j134 x0 v19 o21.1 (v23 * 6) o35.1 ((v23 * 6) + 4) v33 o35.2.1 o35.2.2 _ _ _ hf hs (lv_sub hl [5, 2, 1, 0] rfl)
    · rw [if_pos c34] at hf
      refine lv_iconst (v := (-1)) hx hb dX4_takeRing_124 (by decide) ?_
      refine lv_goto (tgt := 134) hx hb dX4_takeRing_125 (by decide) ?_
      exact j134 x0 v19 o21.1 (v23 * 6) (-1) ((v23 * 6) + 4) v33 h32 o31.2.2 _ _ _ hf hs (lv_sub hl [5, 2, 1, 0] rfl)
  · rw [if_neg c9] at hf
    cases hf
    exact tk_vret hx hb hr hlocks hs dX4_takeRing_9
def fX4_membersOfTaken_35 (N : Nat) (k4 : Nat → Int32 → Int32 → Int32 → tk_AH → Nat → Option (Int32 × tk_AH × Nat)) (x0 : Nat) (x1 : Int32) (x2 : Int32) (x3 : Int32) (h : tk_AH) (sz : Nat) : Option (Int32 × tk_AH × Nat) :=
  k4 x0 x1 x2 (x3 + 1) h sz
def fX4_membersOfTaken_4 (N : Nat) : Nat → Nat → Int32 → Int32 → Int32 → tk_AH → Nat → Option (Int32 × tk_AH × Nat)
  | 0, _, _, _, _, _, _ => none
  | n + 1, x0, x1, x2, x3, h, sz =>
  if 3 ≤ x3 then (
  some (x2, h, sz)) else (
  (tk_gR h 4 4 x0).bind fun v2 =>
  (tk_aI h 0 v2 ((x1 * 6) + x3)).bind fun v3 =>
  if v3 = (-1) then (
  fX4_membersOfTaken_35 N (fX4_membersOfTaken_4 N n) x0 x1 x2 x3 h sz) else (
  fX4_membersOfTaken_35 N (fX4_membersOfTaken_4 N n) x0 x1 (x2 ||| (1 <<< (v3 &&& 31))) x3 h sz))
def fX4_membersOfTaken (N : Nat) (x0 : Nat) (x1 : Int32) (h : tk_AH) (sz : Nat) : Option (Int32 × tk_AH × Nat) :=
  fX4_membersOfTaken_4 N N x0 x1 0 0 h sz
set_option maxHeartbeats 8000000 in
set_option maxRecDepth 100000 in
theorem cX4_membersOfTaken_ok (l : Launch) (hl0 : l.stackTraces = false) (G : tk_AG) (N : Nat) (x0 : Nat) (x1 : Int32) (h : tk_AH) (sz : Nat) (r9 : Int32) (h9 : tk_AH) (sz9 : Nat) (hf : fX4_membersOfTaken N x0 x1 h sz = some (r9, h9, sz9)) : Met l yX4_membersOfTaken (coX4_membersOfTaken :: tk_W) ({ frames := 0, cells := 0, slots := 0, locals := 0 }) (tk_pc G [.ref x0, .int x1] h sz) (tk_qc G (some (.int r9)) h9 sz9) 0 0 (tk_ag G) := by
  refine Met.ofW (cc := cX4_membersOfTaken) (maxL := 5) (ret := (some .int)) (by decide) rfl ?_
  intro p e s m args below meth c s₁ B hml hv
  obtain ⟨hav, hE, hrp, hsz, hgs⟩ := hv
  have hx := B.exec
  have hb := B.bytes
  have hr := B.returns
  have hts := atoms_spec (ws := coX4_membersOfTaken :: tk_W) B.pre
  have ht : ∀ w ∈ tk_W, w.before args s = true := fun w h => hts w (List.mem_cons_of_mem _ h)
  have hown : s.vm.findClass RX4 = some m.cls := findClass_of_methodNamed B.named
  have hlocks := B.notSynchronized
  have hs : tk_sw G s h sz s.heap [] := ⟨hrp, hsz, by rw [hsz]; exact hgs, va_S.rf⟩
  have hl := lv_entry ([.ref x0, .int x1]) (n := 5) (Nat.le_of_ble_eq_true rfl)
  have hent : entryFrame m args 5 = F0 m 0 (lg_sl ([.ref x0, .int x1]) ++ List.replicate (5 - (lg_sl ([.ref x0, .int x1])).length) Slot.unset).toArray [] := by rw [hav, lg_entry_eq]
  rw [hent]
  clear hent
  generalize (lg_sl ([.ref x0, .int x1]) ++ List.replicate (5 - (lg_sl ([.ref x0, .int x1])).length) Slot.unset).toArray = ls at hl ⊢
  have hl : lv_has ls 5 [(0, .ref x0), (1, .int x1)] := hl
  have j35 : ∀ (k4 : Nat → Int32 → Int32 → Int32 → tk_AH → Nat → Option (Int32 × tk_AH × Nat)), (∀ (x0 : Nat) (x1 : Int32) (x2 : Int32) (x3 : Int32) (h : tk_AH) (sz : Nat) (H : Heap) (locs : List Loc) (ls : Array Slot), k4 x0 x1 x2 x3 h sz = some (r9, h9, sz9) → tk_sw G s h sz H locs → lv_has ls 5 [(0, .ref x0), (1, .int x1), (2, .int x2), (3, .int x3)] → W p l e (headSpec (coX4_membersOfTaken :: tk_W) ({ frames := 0, cells := 0, slots := 0, locals := 0 })).room s m args below meth c H locs 0 (0) (MQ below (tk_qc G (some (.int r9)) h9 sz9) args s 0 0 (tk_ag G)) (F0 m 4 ls [])) → ∀ (x0 : Nat) (x1 : Int32) (x2 : Int32) (x3 : Int32) (h : tk_AH) (sz : Nat) (H : Heap) (locs : List Loc) (ls : Array Slot), fX4_membersOfTaken_35 N k4 x0 x1 x2 x3 h sz = some (r9, h9, sz9) → tk_sw G s h sz H locs → lv_has ls 5 [(0, .ref x0), (1, .int x1), (2, .int x2), (3, .int x3)] → W p l e (headSpec (coX4_membersOfTaken :: tk_W) ({ frames := 0, cells := 0, slots := 0, locals := 0 })).room s m args below meth c H locs 0 (0) (MQ below (tk_qc G (some (.int r9)) h9 sz9) args s 0 0 (tk_ag G)) (F0 m 35 ls []) := by
    intro k4 hk4 x0 x1 x2 x3 h sz H locs ls hf hs hl
    unfold fX4_membersOfTaken_35 at hf
    refine lv_iinc (v := x3 + 1) (lv' := [(3, .int (x3 + 1)), (0, .ref x0), (1, .int x1), (2, .int x2)]) hx hb dX4_membersOfTaken_35 hl (k := 3) rfl rfl (by decide) rfl (fun ls hl => ?_)
    refine lv_goto (tgt := 4) hx hb dX4_membersOfTaken_38 (by decide) ?_
    exact hk4 x0 x1 x2 (x3 + 1) h sz _ _ _ hf hs (lv_sub hl [1, 2, 3, 0] rfl)
  have j4 : ∀ (n : Nat), ∀ (x0 : Nat) (x1 : Int32) (x2 : Int32) (x3 : Int32) (h : tk_AH) (sz : Nat) (H : Heap) (locs : List Loc) (ls : Array Slot), fX4_membersOfTaken_4 N n x0 x1 x2 x3 h sz = some (r9, h9, sz9) → tk_sw G s h sz H locs → lv_has ls 5 [(0, .ref x0), (1, .int x1), (2, .int x2), (3, .int x3)] → W p l e (headSpec (coX4_membersOfTaken :: tk_W) ({ frames := 0, cells := 0, slots := 0, locals := 0 })).room s m args below meth c H locs 0 (0) (MQ below (tk_qc G (some (.int r9)) h9 sz9) args s 0 0 (tk_ag G)) (F0 m 4 ls []) := by
    intro n
    induction n with
    | zero =>
      intro x0 x1 x2 x3 h sz H locs ls hf
      cases hf
    | succ n ih =>
      intro x0 x1 x2 x3 h sz H locs ls hf hs hl
      rw [fX4_membersOfTaken_4] at hf
      refine lv_iload_n hx hb dX4_membersOfTaken_4 rfl (lv_at hl 3 rfl) ?_
      refine lv_iconst (v := 3) hx hb dX4_membersOfTaken_5 (by decide) ?_
      refine lv_icmp_ge (tgt := 41) hx hb dX4_membersOfTaken_6 (by decide) (fun c1 => ?_) (fun c1 => ?_)
      · rw [if_pos c1] at hf
        refine lv_iload_n hx hb dX4_membersOfTaken_41 rfl (lv_at hl 2 rfl) ?_
        cases hf
        exact tk_iret hx hb hr hlocks hs dX4_membersOfTaken_42
      · rw [if_neg c1] at hf
        refine lv_aload_n hx hb dX4_membersOfTaken_9 rfl (lv_at hl 0 rfl) ?_
        obtain ⟨v2, e2, hf⟩ := tk_bi hf
        refine tk_getR hx hb ht inX4 hown hE hs rfl 4 (by decide) (ht _ wfX4_36) e2 dX4_membersOfTaken_10 ?_
        refine lv_iload_n hx hb dX4_membersOfTaken_13 rfl (lv_at hl 1 rfl) ?_
        refine lv_bipush (v := 6) hx hb dX4_membersOfTaken_14 (by decide) ?_
        refine lv_imul hx hb dX4_membersOfTaken_16 ?_
        refine lv_iload_n hx hb dX4_membersOfTaken_17 rfl (lv_at hl 3 rfl) ?_
        refine lv_iadd hx hb dX4_membersOfTaken_18 ?_
        obtain ⟨v3, e3, hf⟩ := tk_bi hf
        refine tk_iald hx hb hE hs e3 dX4_membersOfTaken_19 ?_
        refine lv_istore (lv' := [(4, .int v3), (0, .ref x0), (1, .int x1), (2, .int x2), (3, .int x3)]) hx hb dX4_membersOfTaken_20 hl (by decide) rfl (fun ls hl => ?_)
        refine lv_iload hx hb dX4_membersOfTaken_22 (lv_at hl 0 rfl) ?_
        refine lv_iconst (v := (-1)) hx hb dX4_membersOfTaken_24 (by decide) ?_
        refine lv_icmp_eq (tgt := 35) hx hb dX4_membersOfTaken_25 (by decide) (fun c4 => ?_) (fun c4 => ?_)
        · rw [if_pos c4] at hf
          exact j35 (fX4_membersOfTaken_4 N n) ih x0 x1 x2 x3 h sz _ _ _ hf hs (lv_sub hl [1, 2, 3, 4] rfl)
        · rw [if_neg c4] at hf
          refine lv_iload_n hx hb dX4_membersOfTaken_28 rfl (lv_at hl 3 rfl) ?_
          refine lv_iconst (v := 1) hx hb dX4_membersOfTaken_29 (by decide) ?_
          refine lv_iload hx hb dX4_membersOfTaken_30 (lv_at hl 0 rfl) ?_
          refine lv_ishl hx hb dX4_membersOfTaken_32 ?_
          refine lv_ior hx hb dX4_membersOfTaken_33 ?_
          refine lv_istore_n (lv' := [(2, .int (x2 ||| (1 <<< (v3 &&& 31)))), (4, .int v3), (0, .ref x0), (1, .int x1), (3, .int x3)]) hx hb dX4_membersOfTaken_34 rfl hl (by decide) rfl (fun ls hl => ?_)
          exact j35 (fX4_membersOfTaken_4 N n) ih x0 x1 (x2 ||| (1 <<< (v3 &&& 31))) x3 h sz _ _ _ hf hs (lv_sub hl [2, 3, 0, 4] rfl)
  unfold fX4_membersOfTaken at hf
  refine lv_iconst (v := 0) hx hb dX4_membersOfTaken_0 (by decide) ?_
  refine lv_istore_n (lv' := [(2, .int 0), (0, .ref x0), (1, .int x1)]) hx hb dX4_membersOfTaken_1 rfl hl (by decide) rfl (fun ls hl => ?_)
  refine lv_iconst (v := 0) hx hb dX4_membersOfTaken_2 (by decide) ?_
  refine lv_istore_n (lv' := [(3, .int 0), (2, .int 0), (0, .ref x0), (1, .int x1)]) hx hb dX4_membersOfTaken_3 rfl hl (by decide) rfl (fun ls hl => ?_)
  exact j4 N x0 x1 0 0 h sz _ _ _ hf hs (lv_sub hl [2, 3, 1, 0] rfl)
def fX4_takeRings_76 (N : Nat) : Nat → Nat → Int32 → Int32 → tk_AH → Nat → Option (Int32 × tk_AH × Nat)
  | 0, _, _, _, _, _ => none
  | n + 1, x0, x3, x4, h, sz =>
  (tk_gI h 4 5 x0).bind fun v1 =>
  if v1 ≤ x4 then (
  some (x3, h, sz)) else (
  (tk_ok h 4 x0).bind fun _ =>
  (fX4_membersOfTaken N x0 x4 h sz).bind fun o3 =>
  fX4_takeRings_76 N n x0 (x3 ||| o3.1) (x4 + 1) o3.2.1 o3.2.2)
def fX4_takeRings_71 (N : Nat) (x0 : Nat) (h : tk_AH) (sz : Nat) : Option (Int32 × tk_AH × Nat) :=
  fX4_takeRings_76 N N x0 0 0 h sz
def fX4_takeRings_65 (N : Nat) (k9 : Nat → Int32 → Int32 → tk_AH → Nat → Option (Int32 × tk_AH × Nat)) (x0 : Nat) (x2 : Int32) (x3 : Int32) (h : tk_AH) (sz : Nat) : Option (Int32 × tk_AH × Nat) :=
  k9 x0 x2 (x3 + 1) h sz
def fX4_takeRings_9 (N : Nat) (k71 : Nat → tk_AH → Nat → Option (Int32 × tk_AH × Nat)) : Nat → Nat → Int32 → Int32 → tk_AH → Nat → Option (Int32 × tk_AH × Nat)
  | 0, _, _, _, _, _ => none
  | n + 1, x0, x2, x3, h, sz =>
  if 14 ≤ x3 then (
  k71 x0 h sz) else (
  if x2 = 0 then (
  k71 x0 h sz) else (
  (tk_gR h 4 2 x0).bind fun v7 =>
  (tk_ok h 1 v7).bind fun _ =>
  (fX1_choiceAt N v7 x2 h sz).bind fun o8 =>
  if o8.1 = (-1) then (
  fX4_takeRings_65 N (fX4_takeRings_9 N k71 n) x0 (x2 &&& (x2 - 1)) x3 o8.2.1 o8.2.2) else (
  (tk_ok o8.2.1 4 x0).bind fun _ =>
  (fX4_takeRing N x0 o8.1 o8.2.1 o8.2.2).bind fun o11 =>
  (tk_gR o11.1 4 2 x0).bind fun v13 =>
  (tk_gR o11.1 1 0 v13).bind fun v14 =>
  (tk_aI o11.1 0 v14 o8.1).bind fun v15 =>
  fX4_takeRings_65 N (fX4_takeRings_9 N k71 n) x0 (x2 &&& (v15 ^^^ (-1))) x3 o11.1 o11.2)))
def fX4_takeRings (N : Nat) (x0 : Nat) (x1 : Int32) (h : tk_AH) (sz : Nat) : Option (Int32 × tk_AH × Nat) :=
  (tk_pF h 4 5 x0 (.int 0)).bind fun h16 =>
  fX4_takeRings_9 N (fX4_takeRings_71 N) N x0 x1 0 h16 sz
set_option maxHeartbeats 8000000 in
set_option maxRecDepth 100000 in
theorem cX4_takeRings_ok (l : Launch) (hl0 : l.stackTraces = false) (G : tk_AG) (N : Nat) (x0 : Nat) (x1 : Int32) (h : tk_AH) (sz : Nat) (r9 : Int32) (h9 : tk_AH) (sz9 : Nat) (hf : fX4_takeRings N x0 x1 h sz = some (r9, h9, sz9)) : Met l yX4_takeRings (coX4_takeRings :: tk_W) ({ frames := 6, cells := 0, slots := 0, locals := 138 }) (tk_pc G [.ref x0, .int x1] h sz) (tk_qc G (some (.int r9)) h9 sz9) 0 0 (tk_ag G) := by
  refine Met.ofW (cc := cX4_takeRings) (maxL := 5) (ret := (some .int)) (by decide) rfl ?_
  intro p e s m args below meth c s₁ B hml hv
  obtain ⟨hav, hE, hrp, hsz, hgs⟩ := hv
  have hx := B.exec
  have hb := B.bytes
  have hr := B.returns
  have hts := atoms_spec (ws := coX4_takeRings :: tk_W) B.pre
  have ht : ∀ w ∈ tk_W, w.before args s = true := fun w h => hts w (List.mem_cons_of_mem _ h)
  have hown : s.vm.findClass RX4 = some m.cls := findClass_of_methodNamed B.named
  have hlocks := B.notSynchronized
  have hs : tk_sw G s h sz s.heap [] := ⟨hrp, hsz, by rw [hsz]; exact hgs, va_S.rf⟩
  have hl := lv_entry ([.ref x0, .int x1]) (n := 5) (Nat.le_of_ble_eq_true rfl)
  have hent : entryFrame m args 5 = F0 m 0 (lg_sl ([.ref x0, .int x1]) ++ List.replicate (5 - (lg_sl ([.ref x0, .int x1])).length) Slot.unset).toArray [] := by rw [hav, lg_entry_eq]
  rw [hent]
  clear hent
  generalize (lg_sl ([.ref x0, .int x1]) ++ List.replicate (5 - (lg_sl ([.ref x0, .int x1])).length) Slot.unset).toArray = ls at hl ⊢
  have hl : lv_has ls 5 [(0, .ref x0), (1, .int x1)] := hl
  have j76 : ∀ (n : Nat), ∀ (x0 : Nat) (x3 : Int32) (x4 : Int32) (h : tk_AH) (sz : Nat) (H : Heap) (locs : List Loc) (ls : Array Slot), fX4_takeRings_76 N n x0 x3 x4 h sz = some (r9, h9, sz9) → tk_sw G s h sz H locs → lv_has ls 5 [(0, .ref x0), (3, .int x3), (4, .int x4)] → W p l e (headSpec (coX4_takeRings :: tk_W) ({ frames := 6, cells := 0, slots := 0, locals := 138 })).room s m args below meth c H locs 0 (0) (MQ below (tk_qc G (some (.int r9)) h9 sz9) args s 0 0 (tk_ag G)) (F0 m 76 ls []) := by
    intro n
    induction n with
    | zero =>
      intro x0 x3 x4 h sz H locs ls hf
      cases hf
    | succ n ih =>
      intro x0 x3 x4 h sz H locs ls hf hs hl
      rw [fX4_takeRings_76] at hf
      refine lv_iload hx hb dX4_takeRings_76 (lv_at hl 2 rfl) ?_
      refine lv_aload_n hx hb dX4_takeRings_78 rfl (lv_at hl 0 rfl) ?_
      obtain ⟨v1, e1, hf⟩ := tk_bi hf
      refine tk_getI hx hb ht inX4 hown hE hs rfl 5 (by decide) (ht _ wfX4_172) e1 dX4_takeRings_79 ?_
      refine lv_icmp_ge (tgt := 100) hx hb dX4_takeRings_82 (by decide) (fun c2 => ?_) (fun c2 => ?_)
      · rw [if_pos c2] at hf
        refine lv_iload_n hx hb dX4_takeRings_100 rfl (lv_at hl 1 rfl) ?_
        cases hf
        exact tk_iret hx hb hr hlocks hs dX4_takeRings_101
      · rw [if_neg c2] at hf
        refine lv_iload_n hx hb dX4_takeRings_85 rfl (lv_at hl 1 rfl) ?_
        refine lv_aload_n hx hb dX4_takeRings_86 rfl (lv_at hl 0 rfl) ?_
        refine lv_iload hx hb dX4_takeRings_87 (lv_at hl 2 rfl) ?_
        obtain ⟨_, p3, hf⟩ := tk_bi hf
        obtain ⟨o3, e3, hf⟩ := tk_bi hf
        refine tk_call0 (v := some (.int o3.1)) hs (va_runV (As := [.int x4]) (rest := [.int x3]) ⟨hx, hb, hml, hown, ht⟩ (cX4_membersOfTaken_ok l hl0 G N x0 x4 h sz o3.1 o3.2.1 o3.2.2 e3) (kwX4_membersOfTaken ht wmX4_272 rfl rfl ⟨Nat.le_of_ble_eq_true rfl, Nat.le_of_ble_eq_true rfl⟩) (tk_preV hE hs (tk_ok_ok p3) rfl) rfl rfl hl.1 rfl (lv_room (Nat.le_of_ble_eq_true rfl)) dX4_takeRings_89 ⟨(Nat.le_of_ble_eq_true rfl), (Nat.le_of_ble_eq_true rfl)⟩) (fun H locs hs => ?_)
        refine W.eq (g2 := F0 m 92 ls [.int o3.1, .int x3]) rfl ?_
        refine lv_ior hx hb dX4_takeRings_92 ?_
        refine lv_istore_n (lv' := [(3, .int (x3 ||| o3.1)), (0, .ref x0), (4, .int x4)]) hx hb dX4_takeRings_93 rfl hl (by decide) rfl (fun ls hl => ?_)
        refine lv_iinc (v := x4 + 1) (lv' := [(4, .int (x4 + 1)), (3, .int (x3 ||| o3.1)), (0, .ref x0)]) hx hb dX4_takeRings_94 hl (k := 2) rfl rfl (by decide) rfl (fun ls hl => ?_)
        refine lv_goto (tgt := 76) hx hb dX4_takeRings_97 (by decide) ?_
        exact ih x0 (x3 ||| o3.1) (x4 + 1) o3.2.1 o3.2.2 _ _ _ hf hs (lv_sub hl [2, 1, 0] rfl)
  have j71 : ∀ (x0 : Nat) (h : tk_AH) (sz : Nat) (H : Heap) (locs : List Loc) (ls : Array Slot), fX4_takeRings_71 N x0 h sz = some (r9, h9, sz9) → tk_sw G s h sz H locs → lv_has ls 5 [(0, .ref x0)] → W p l e (headSpec (coX4_takeRings :: tk_W) ({ frames := 6, cells := 0, slots := 0, locals := 138 })).room s m args below meth c H locs 0 (0) (MQ below (tk_qc G (some (.int r9)) h9 sz9) args s 0 0 (tk_ag G)) (F0 m 71 ls []) := by
    intro x0 h sz H locs ls hf hs hl
    unfold fX4_takeRings_71 at hf
    refine lv_iconst (v := 0) hx hb dX4_takeRings_71 (by decide) ?_
    refine lv_istore_n (lv' := [(3, .int 0), (0, .ref x0)]) hx hb dX4_takeRings_72 rfl hl (by decide) rfl (fun ls hl => ?_)
    refine lv_iconst (v := 0) hx hb dX4_takeRings_73 (by decide) ?_
    refine lv_istore (lv' := [(4, .int 0), (3, .int 0), (0, .ref x0)]) hx hb dX4_takeRings_74 hl (by decide) rfl (fun ls hl => ?_)
    exact j76 N x0 0 0 h sz _ _ _ hf hs (lv_sub hl [2, 1, 0] rfl)
  have j65 : ∀ (k9 : Nat → Int32 → Int32 → tk_AH → Nat → Option (Int32 × tk_AH × Nat)), (∀ (x0 : Nat) (x2 : Int32) (x3 : Int32) (h : tk_AH) (sz : Nat) (H : Heap) (locs : List Loc) (ls : Array Slot), k9 x0 x2 x3 h sz = some (r9, h9, sz9) → tk_sw G s h sz H locs → lv_has ls 5 [(0, .ref x0), (2, .int x2), (3, .int x3)] → W p l e (headSpec (coX4_takeRings :: tk_W) ({ frames := 6, cells := 0, slots := 0, locals := 138 })).room s m args below meth c H locs 0 (0) (MQ below (tk_qc G (some (.int r9)) h9 sz9) args s 0 0 (tk_ag G)) (F0 m 9 ls [])) → ∀ (x0 : Nat) (x2 : Int32) (x3 : Int32) (h : tk_AH) (sz : Nat) (H : Heap) (locs : List Loc) (ls : Array Slot), fX4_takeRings_65 N k9 x0 x2 x3 h sz = some (r9, h9, sz9) → tk_sw G s h sz H locs → lv_has ls 5 [(0, .ref x0), (2, .int x2), (3, .int x3)] → W p l e (headSpec (coX4_takeRings :: tk_W) ({ frames := 6, cells := 0, slots := 0, locals := 138 })).room s m args below meth c H locs 0 (0) (MQ below (tk_qc G (some (.int r9)) h9 sz9) args s 0 0 (tk_ag G)) (F0 m 65 ls []) := by
    intro k9 hk9 x0 x2 x3 h sz H locs ls hf hs hl
    unfold fX4_takeRings_65 at hf
    refine lv_iinc (v := x3 + 1) (lv' := [(3, .int (x3 + 1)), (0, .ref x0), (2, .int x2)]) hx hb dX4_takeRings_65 hl (k := 2) rfl rfl (by decide) rfl (fun ls hl => ?_)
    refine lv_goto (tgt := 9) hx hb dX4_takeRings_68 (by decide) ?_
    exact hk9 x0 x2 (x3 + 1) h sz _ _ _ hf hs (lv_sub hl [1, 2, 0] rfl)
  have j9 : ∀ (k71 : Nat → tk_AH → Nat → Option (Int32 × tk_AH × Nat)), (∀ (x0 : Nat) (h : tk_AH) (sz : Nat) (H : Heap) (locs : List Loc) (ls : Array Slot), k71 x0 h sz = some (r9, h9, sz9) → tk_sw G s h sz H locs → lv_has ls 5 [(0, .ref x0)] → W p l e (headSpec (coX4_takeRings :: tk_W) ({ frames := 6, cells := 0, slots := 0, locals := 138 })).room s m args below meth c H locs 0 (0) (MQ below (tk_qc G (some (.int r9)) h9 sz9) args s 0 0 (tk_ag G)) (F0 m 71 ls [])) → ∀ (n : Nat), ∀ (x0 : Nat) (x2 : Int32) (x3 : Int32) (h : tk_AH) (sz : Nat) (H : Heap) (locs : List Loc) (ls : Array Slot), fX4_takeRings_9 N k71 n x0 x2 x3 h sz = some (r9, h9, sz9) → tk_sw G s h sz H locs → lv_has ls 5 [(0, .ref x0), (2, .int x2), (3, .int x3)] → W p l e (headSpec (coX4_takeRings :: tk_W) ({ frames := 6, cells := 0, slots := 0, locals := 138 })).room s m args below meth c H locs 0 (0) (MQ below (tk_qc G (some (.int r9)) h9 sz9) args s 0 0 (tk_ag G)) (F0 m 9 ls []) := by
    intro k71 hk71 n
    induction n with
    | zero =>
      intro x0 x2 x3 h sz H locs ls hf
      cases hf
    | succ n ih =>
      intro x0 x2 x3 h sz H locs ls hf hs hl
      rw [fX4_takeRings_9] at hf
      refine lv_iload_n hx hb dX4_takeRings_9 rfl (lv_at hl 2 rfl) ?_
      refine lv_bipush (v := 14) hx hb dX4_takeRings_10 (by decide) ?_
      refine lv_icmp_ge (tgt := 71) hx hb dX4_takeRings_12 (by decide) (fun c5 => ?_) (fun c5 => ?_)
      · rw [if_pos c5] at hf
        exact hk71 x0 h sz _ _ _ hf hs (lv_sub hl [0] rfl)
      · rw [if_neg c5] at hf
        refine lv_iload_n hx hb dX4_takeRings_15 rfl (lv_at hl 1 rfl) ?_
        refine lv_if_eq (tgt := 71) hx hb dX4_takeRings_16 (by decide) (fun c6 => ?_) (fun c6 => ?_)
        · rw [if_pos c6] at hf
          exact hk71 x0 h sz _ _ _ hf hs (lv_sub hl [0] rfl)
        · rw [if_neg c6] at hf
          refine lv_aload_n hx hb dX4_takeRings_19 rfl (lv_at hl 0 rfl) ?_
          obtain ⟨v7, e7, hf⟩ := tk_bi hf
          refine tk_getR hx hb ht inX4 hown hE hs rfl 2 (by decide) (ht _ wfX4_25) e7 dX4_takeRings_20 ?_
          refine lv_iload_n hx hb dX4_takeRings_23 rfl (lv_at hl 1 rfl) ?_
          obtain ⟨_, p8, hf⟩ := tk_bi hf
          obtain ⟨o8, e8, hf⟩ := tk_bi hf
          refine tk_call0 (v := some (.int o8.1)) hs (va_runV (As := [.int x2]) (rest := []) ⟨hx, hb, hml, hown, ht⟩ (cX1_choiceAt_ok l hl0 G N v7 x2 h sz o8.1 o8.2.1 o8.2.2 e8) (kwX1_choiceAt ht wmX4_263 rfl rfl ⟨Nat.le_of_ble_eq_true rfl, Nat.le_of_ble_eq_true rfl⟩) (tk_preV hE hs (tk_ok_ok p8) rfl) rfl rfl hl.1 rfl (lv_room (Nat.le_of_ble_eq_true rfl)) dX4_takeRings_24 ⟨(Nat.le_of_ble_eq_true rfl), (Nat.le_of_ble_eq_true rfl)⟩) (fun H locs hs => ?_)
          refine W.eq (g2 := F0 m 27 ls [.int o8.1]) rfl ?_
          refine lv_istore (lv' := [(4, .int o8.1), (0, .ref x0), (2, .int x2), (3, .int x3)]) hx hb dX4_takeRings_27 hl (by decide) rfl (fun ls hl => ?_)
          refine lv_iload hx hb dX4_takeRings_29 (lv_at hl 0 rfl) ?_
          refine lv_iconst (v := (-1)) hx hb dX4_takeRings_31 (by decide) ?_
          refine lv_icmp_ne (tgt := 44) hx hb dX4_takeRings_32 (by decide) (fun c10 => ?_) (fun c10 => ?_)
          · rw [if_neg c10] at hf
            refine lv_aload_n hx hb dX4_takeRings_44 rfl (lv_at hl 1 rfl) ?_
            refine lv_iload hx hb dX4_takeRings_45 (lv_at hl 0 rfl) ?_
            obtain ⟨_, p11, hf⟩ := tk_bi hf
            obtain ⟨o11, e11, hf⟩ := tk_bi hf
            refine tk_call0 (v := none) hs (va_runV (As := [.int o8.1]) (rest := []) ⟨hx, hb, hml, hown, ht⟩ (cX4_takeRing_ok l hl0 G N x0 o8.1 o8.2.1 o8.2.2 o11.1 o11.2 e11) (kwX4_takeRing ht wmX4_266 rfl rfl ⟨Nat.le_of_ble_eq_true rfl, Nat.le_of_ble_eq_true rfl⟩) (tk_preV hE hs (tk_ok_ok p11) rfl) rfl rfl hl.1 rfl (lv_room (Nat.le_of_ble_eq_true rfl)) dX4_takeRings_47 ⟨(Nat.le_of_ble_eq_true rfl), (Nat.le_of_ble_eq_true rfl)⟩) (fun H locs hs => ?_)
            refine W.eq (g2 := F0 m 50 ls []) rfl ?_
            refine lv_iload_n hx hb dX4_takeRings_50 rfl (lv_at hl 2 rfl) ?_
            refine lv_aload_n hx hb dX4_takeRings_51 rfl (lv_at hl 1 rfl) ?_
            obtain ⟨v13, e13, hf⟩ := tk_bi hf
            refine tk_getR hx hb ht inX4 hown hE hs rfl 2 (by decide) (ht _ wfX4_25) e13 dX4_takeRings_52 ?_
            obtain ⟨v14, e14, hf⟩ := tk_bi hf
            refine tk_getNR (host := "TongueSwap") hx hb ht inX1 hown hE hs rfl 0 (by decide) (by decide +kernel) e14 dX4_takeRings_55 ?_
            refine lv_iload hx hb dX4_takeRings_58 (lv_at hl 0 rfl) ?_
            obtain ⟨v15, e15, hf⟩ := tk_bi hf
            refine tk_iald hx hb hE hs e15 dX4_takeRings_60 ?_
            refine lv_iconst (v := (-1)) hx hb dX4_takeRings_61 (by decide) ?_
            refine lv_ixor hx hb dX4_takeRings_62 ?_
            refine lv_iand hx hb dX4_takeRings_63 ?_
            refine lv_istore_n (lv' := [(2, .int (x2 &&& (v15 ^^^ (-1)))), (4, .int o8.1), (0, .ref x0), (3, .int x3)]) hx hb dX4_takeRings_64 rfl hl (by decide) rfl (fun ls hl => ?_)
            exact j65 (fX4_takeRings_9 N k71 n) ih x0 (x2 &&& (v15 ^^^ (-1))) x3 o11.1 o11.2 _ _ _ hf hs (lv_sub hl [2, 0, 3] rfl)
          · rw [if_pos c10] at hf
            refine lv_iload_n hx hb dX4_takeRings_35 rfl (lv_at hl 2 rfl) ?_
            refine lv_iload_n hx hb dX4_takeRings_36 rfl (lv_at hl 2 rfl) ?_
            refine lv_iconst (v := 1) hx hb dX4_takeRings_37 (by decide) ?_
            refine lv_isub hx hb dX4_takeRings_38 ?_
            refine lv_iand hx hb dX4_takeRings_39 ?_
            refine lv_istore_n (lv' := [(2, .int (x2 &&& (x2 - 1))), (4, .int o8.1), (0, .ref x0), (3, .int x3)]) hx hb dX4_takeRings_40 rfl hl (by decide) rfl (fun ls hl => ?_)
            refine lv_goto (tgt := 65) hx hb dX4_takeRings_41 (by decide) ?_
            exact j65 (fX4_takeRings_9 N k71 n) ih x0 (x2 &&& (x2 - 1)) x3 o8.2.1 o8.2.2 _ _ _ hf hs (lv_sub hl [2, 0, 3] rfl)
  unfold fX4_takeRings at hf
  refine lv_aload_n hx hb dX4_takeRings_0 rfl (lv_at hl 0 rfl) ?_
  refine lv_iconst (v := 0) hx hb dX4_takeRings_1 (by decide) ?_
  obtain ⟨h16, e16, hf⟩ := tk_bi hf
  refine tk_put hx hb ht inX4 tyX4 tyX4_ok nmX4 hown hE hs rfl 5 (by decide) (ht _ wfX4_172) rfl rfl rfl e16 dX4_takeRings_2 (fun H locs hs => ?_)
  refine lv_iload_n hx hb dX4_takeRings_5 rfl (lv_at hl 1 rfl) ?_
  refine lv_istore_n (lv' := [(2, .int x1), (0, .ref x0), (1, .int x1)]) hx hb dX4_takeRings_6 rfl hl (by decide) rfl (fun ls hl => ?_)
  refine lv_iconst (v := 0) hx hb dX4_takeRings_7 (by decide) ?_
  refine lv_istore_n (lv' := [(3, .int 0), (2, .int x1), (0, .ref x0), (1, .int x1)]) hx hb dX4_takeRings_8 rfl hl (by decide) rfl (fun ls hl => ?_)
  exact j9 (fX4_takeRings_71 N) (j71) N x0 x1 0 h16 sz _ _ _ hf hs (lv_sub hl [2, 1, 0] rfl)
def fX4_noteWeek_107 (N : Nat) (k72 : Nat → Int32 → Int32 → Int32 → tk_AH → Nat → Option ((Unit ⊕ String) × tk_AH × Nat)) (x0 : Nat) (x2 : Int32) (x3 : Int32) (x4 : Int32) (h : tk_AH) (sz : Nat) : Option ((Unit ⊕ String) × tk_AH × Nat) :=
  k72 x0 x2 x3 (x4 + 1) h sz
def fX4_noteWeek_72 (N : Nat) (k55 : Nat → Int32 → tk_AH → Nat → Option ((Unit ⊕ String) × tk_AH × Nat)) : Nat → Nat → Int32 → Int32 → Int32 → tk_AH → Nat → Option ((Unit ⊕ String) × tk_AH × Nat)
  | 0, _, _, _, _, _, _ => none
  | n + 1, x0, x2, x3, x4, h, sz =>
  (tk_gI h 4 6 x0).bind fun v1 =>
  if v1 ≤ x4 then (
  k55 x0 (x2 + 1) h sz) else (
  if ((x3 >>> (x4 &&& 31)) &&& 1) = 0 then (
  fX4_noteWeek_107 N (fX4_noteWeek_72 N k55 n) x0 x2 x3 x4 h sz) else (
  (tk_ok h 4 x0).bind fun _ =>
  (fX4_find N x0 x4 h sz).bind fun o4 =>
  Sum.elim (fun r4 =>
  (tk_pF o4.2.1 0 13 r4 (.int (x3 &&& ((1 <<< (x4 &&& 31)) ^^^ (-1))))).bind fun h6 =>
  fX4_noteWeek_107 N (fX4_noteWeek_72 N k55 n) x0 x2 x3 x4 h6 o4.2.2) (fun E4 => some (Sum.inr E4, o4.2.1, o4.2.2)) o4.1))
def fX4_noteWeek_55 (N : Nat) : Nat → Nat → Int32 → tk_AH → Nat → Option ((Unit ⊕ String) × tk_AH × Nat)
  | 0, _, _, _, _ => none
  | n + 1, x0, x2, h, sz =>
  (tk_gI h 4 5 x0).bind fun v7 =>
  if v7 ≤ x2 then (
  some (Sum.inl (), h, sz)) else (
  (tk_ok h 4 x0).bind fun _ =>
  (fX4_membersOfTaken N x0 x2 h sz).bind fun o9 =>
  fX4_noteWeek_72 N (fX4_noteWeek_55 N n) N x0 x2 o9.1 0 o9.2.1 o9.2.2)
def fX4_noteWeek_47 (N : Nat) (k2 : Nat → Int32 → Int32 → tk_AH → Nat → Option ((Unit ⊕ String) × tk_AH × Nat)) (x0 : Nat) (x1 : Int32) (x2 : Int32) (h : tk_AH) (sz : Nat) : Option ((Unit ⊕ String) × tk_AH × Nat) :=
  k2 x0 x1 (x2 + 1) h sz
def fX4_noteWeek_2 (N : Nat) (k55 : Nat → Int32 → tk_AH → Nat → Option ((Unit ⊕ String) × tk_AH × Nat)) : Nat → Nat → Int32 → Int32 → tk_AH → Nat → Option ((Unit ⊕ String) × tk_AH × Nat)
  | 0, _, _, _, _, _ => none
  | n + 1, x0, x1, x2, h, sz =>
  (tk_gI h 4 6 x0).bind fun v11 =>
  if v11 ≤ x2 then (
  k55 x0 0 h sz) else (
  (tk_ok h 4 x0).bind fun _ =>
  (fX4_find N x0 x2 h sz).bind fun o13 =>
  Sum.elim (fun r13 =>
  (tk_pF o13.2.1 0 13 r13 (.int 0)).bind fun h15 =>
  (tk_pF h15 0 14 r13 (.int 0)).bind fun h16 =>
  if ((x1 >>> (x2 &&& 31)) &&& 1) = 0 then (
  (tk_ok h16 0 r13).bind fun _ =>
  (fX0_waitLonger N r13 1 h16 o13.2.2).bind fun o18 =>
  fX4_noteWeek_47 N (fX4_noteWeek_2 N k55 n) x0 x1 x2 o18.1 o18.2) else (
  (tk_pF h16 0 11 r13 (.int 0)).bind fun h20 =>
  fX4_noteWeek_47 N (fX4_noteWeek_2 N k55 n) x0 x1 x2 h20 o13.2.2)) (fun E13 => some (Sum.inr E13, o13.2.1, o13.2.2)) o13.1)
def fX4_noteWeek (N : Nat) (x0 : Nat) (x1 : Int32) (h : tk_AH) (sz : Nat) : Option ((Unit ⊕ String) × tk_AH × Nat) :=
  fX4_noteWeek_2 N (fX4_noteWeek_55 N N) N x0 x1 0 h sz
set_option maxHeartbeats 8000000 in
set_option maxRecDepth 100000 in
theorem cX4_noteWeek_ok (l : Launch) (hl0 : l.stackTraces = false) (G : tk_AG) (N : Nat) (x0 : Nat) (x1 : Int32) (h : tk_AH) (sz : Nat) (o9 : Unit ⊕ String) (h9 : tk_AH) (sz9 : Nat) (hf : fX4_noteWeek N x0 x1 h sz = some (o9, h9, sz9)) : vx_Met l yX4_noteWeek (coX4_noteWeek :: tk_W) ({ frames := 7, cells := tk_xc o9 0, slots := tk_xs o9 0, locals := 122 }) (tk_pc G [.ref x0, .int x1] h sz) (tk_qx G (tk_ov o9) h9 sz9) (tk_xx G (tk_ov o9) h9 sz9) (tk_xc o9 0) (tk_xs o9 0) (tk_ag G) := by
  refine vx_ofW (cc := cX4_noteWeek) (maxL := 5) (ret := none) (by decide) rfl ?_
  intro p e s m args below meth c s₁ B hml hout hv
  obtain ⟨hav, hE, hrp, hsz, hgs⟩ := hv
  have hx := B.exec
  have hb := B.bytes
  have hr := B.returns
  have hts := atoms_spec (ws := coX4_noteWeek :: tk_W) B.pre
  have ht : ∀ w ∈ tk_W, w.before args s = true := fun w h => hts w (List.mem_cons_of_mem _ h)
  have hown : s.vm.findClass RX4 = some m.cls := findClass_of_methodNamed B.named
  have hlocks := B.notSynchronized
  have hs : tk_sw G s h sz s.heap [] := ⟨hrp, hsz, by rw [hsz]; exact hgs, va_S.rf⟩
  have hl := lv_entry ([.ref x0, .int x1]) (n := 5) (Nat.le_of_ble_eq_true rfl)
  have hent : entryFrame m args 5 = F0 m 0 (lg_sl ([.ref x0, .int x1]) ++ List.replicate (5 - (lg_sl ([.ref x0, .int x1])).length) Slot.unset).toArray [] := by rw [hav, lg_entry_eq]
  rw [hent]
  clear hent
  generalize (lg_sl ([.ref x0, .int x1]) ++ List.replicate (5 - (lg_sl ([.ref x0, .int x1])).length) Slot.unset).toArray = ls at hl ⊢
  have hl : lv_has ls 5 [(0, .ref x0), (1, .int x1)] := hl
  have j107 : ∀ (k72 : Nat → Int32 → Int32 → Int32 → tk_AH → Nat → Option ((Unit ⊕ String) × tk_AH × Nat)), (∀ (x0 : Nat) (x2 : Int32) (x3 : Int32) (x4 : Int32) (h : tk_AH) (sz : Nat) (H : Heap) (locs : List Loc) (ls : Array Slot), k72 x0 x2 x3 x4 h sz = some (o9, h9, sz9) → tk_sw G s h sz H locs → lv_has ls 5 [(0, .ref x0), (2, .int x2), (3, .int x3), (4, .int x4)] → W p l e (headSpec (coX4_noteWeek :: tk_W) ({ frames := 7, cells := tk_xc o9 0, slots := tk_xs o9 0, locals := 122 })).room s m args below meth c H locs 0 (0) (vx_MQ below (tk_qx G (tk_ov o9) h9 sz9) (tk_xx G (tk_ov o9) h9 sz9) args s (tk_xc o9 0) (tk_xs o9 0) (tk_ag G)) (F0 m 72 ls [])) → ∀ (x0 : Nat) (x2 : Int32) (x3 : Int32) (x4 : Int32) (h : tk_AH) (sz : Nat) (H : Heap) (locs : List Loc) (ls : Array Slot), fX4_noteWeek_107 N k72 x0 x2 x3 x4 h sz = some (o9, h9, sz9) → tk_sw G s h sz H locs → lv_has ls 5 [(0, .ref x0), (2, .int x2), (3, .int x3), (4, .int x4)] → W p l e (headSpec (coX4_noteWeek :: tk_W) ({ frames := 7, cells := tk_xc o9 0, slots := tk_xs o9 0, locals := 122 })).room s m args below meth c H locs 0 (0) (vx_MQ below (tk_qx G (tk_ov o9) h9 sz9) (tk_xx G (tk_ov o9) h9 sz9) args s (tk_xc o9 0) (tk_xs o9 0) (tk_ag G)) (F0 m 107 ls []) := by
    intro k72 hk72 x0 x2 x3 x4 h sz H locs ls hf hs hl
    unfold fX4_noteWeek_107 at hf
    refine lv_iinc (v := x4 + 1) (lv' := [(4, .int (x4 + 1)), (0, .ref x0), (2, .int x2), (3, .int x3)]) hx hb dX4_noteWeek_107 hl (k := 3) rfl rfl (by decide) rfl (fun ls hl => ?_)
    refine lv_goto (tgt := 72) hx hb dX4_noteWeek_110 (by decide) ?_
    exact hk72 x0 x2 x3 (x4 + 1) h sz _ _ _ hf hs (lv_sub hl [1, 2, 3, 0] rfl)
  have j72 : ∀ (k55 : Nat → Int32 → tk_AH → Nat → Option ((Unit ⊕ String) × tk_AH × Nat)), (∀ (x0 : Nat) (x2 : Int32) (h : tk_AH) (sz : Nat) (H : Heap) (locs : List Loc) (ls : Array Slot), k55 x0 x2 h sz = some (o9, h9, sz9) → tk_sw G s h sz H locs → lv_has ls 5 [(0, .ref x0), (2, .int x2)] → W p l e (headSpec (coX4_noteWeek :: tk_W) ({ frames := 7, cells := tk_xc o9 0, slots := tk_xs o9 0, locals := 122 })).room s m args below meth c H locs 0 (0) (vx_MQ below (tk_qx G (tk_ov o9) h9 sz9) (tk_xx G (tk_ov o9) h9 sz9) args s (tk_xc o9 0) (tk_xs o9 0) (tk_ag G)) (F0 m 55 ls [])) → ∀ (n : Nat), ∀ (x0 : Nat) (x2 : Int32) (x3 : Int32) (x4 : Int32) (h : tk_AH) (sz : Nat) (H : Heap) (locs : List Loc) (ls : Array Slot), fX4_noteWeek_72 N k55 n x0 x2 x3 x4 h sz = some (o9, h9, sz9) → tk_sw G s h sz H locs → lv_has ls 5 [(0, .ref x0), (2, .int x2), (3, .int x3), (4, .int x4)] → W p l e (headSpec (coX4_noteWeek :: tk_W) ({ frames := 7, cells := tk_xc o9 0, slots := tk_xs o9 0, locals := 122 })).room s m args below meth c H locs 0 (0) (vx_MQ below (tk_qx G (tk_ov o9) h9 sz9) (tk_xx G (tk_ov o9) h9 sz9) args s (tk_xc o9 0) (tk_xs o9 0) (tk_ag G)) (F0 m 72 ls []) := by
    intro k55 hk55 n
    induction n with
    | zero =>
      intro x0 x2 x3 x4 h sz H locs ls hf
      cases hf
    | succ n ih =>
      intro x0 x2 x3 x4 h sz H locs ls hf hs hl
      rw [fX4_noteWeek_72] at hf
      refine lv_iload hx hb dX4_noteWeek_72 (lv_at hl 3 rfl) ?_
      refine lv_aload_n hx hb dX4_noteWeek_74 rfl (lv_at hl 0 rfl) ?_
      obtain ⟨v1, e1, hf⟩ := tk_bi hf
      refine tk_getI hx hb ht inX4 hown hE hs rfl 6 (by decide) (ht _ wfX4_40) e1 dX4_noteWeek_75 ?_
      refine lv_icmp_ge (tgt := 113) hx hb dX4_noteWeek_78 (by decide) (fun c2 => ?_) (fun c2 => ?_)
      · rw [if_pos c2] at hf
        refine lv_iinc (v := x2 + 1) (lv' := [(2, .int (x2 + 1)), (0, .ref x0), (3, .int x3), (4, .int x4)]) hx hb dX4_noteWeek_113 hl (k := 1) rfl rfl (by decide) rfl (fun ls hl => ?_)
        refine lv_goto (tgt := 55) hx hb dX4_noteWeek_116 (by decide) ?_
        exact hk55 x0 (x2 + 1) h sz _ _ _ hf hs (lv_sub hl [1, 0] rfl)
      · rw [if_neg c2] at hf
        refine lv_iload_n hx hb dX4_noteWeek_81 rfl (lv_at hl 2 rfl) ?_
        refine lv_iload hx hb dX4_noteWeek_82 (lv_at hl 3 rfl) ?_
        refine lv_ishr hx hb dX4_noteWeek_84 ?_
        refine lv_iconst (v := 1) hx hb dX4_noteWeek_85 (by decide) ?_
        refine lv_iand hx hb dX4_noteWeek_86 ?_
        refine lv_if_eq (tgt := 107) hx hb dX4_noteWeek_87 (by decide) (fun c3 => ?_) (fun c3 => ?_)
        · rw [if_pos c3] at hf
          exact j107 (fX4_noteWeek_72 N k55 n) ih x0 x2 x3 x4 h sz _ _ _ hf hs (lv_sub hl [0, 1, 2, 3] rfl)
        · rw [if_neg c3] at hf
          refine lv_aload_n hx hb dX4_noteWeek_90 rfl (lv_at hl 0 rfl) ?_
          refine lv_iload hx hb dX4_noteWeek_91 (lv_at hl 3 rfl) ?_
          obtain ⟨_, p4, hf⟩ := tk_bi hf
          obtain ⟨o4, e4, hf⟩ := tk_bi hf
          rcases w4 : o4.1 with r4 | E4
          · rw [w4, Sum.elim_inl] at hf
            refine tk_xret0 (v := some (.ref r4)) hs (vx_runV (As := [.int x4]) (rest := []) ⟨hx, hb, hml, hown, ht⟩ (cX4_find_ok l hl0 G N x0 x4 h sz (Sum.inl r4) o4.2.1 o4.2.2 (by rw [e4, ← w4])) (kwX4_find ht wmX4_48 rfl rfl ⟨Nat.le_of_ble_eq_true rfl, Nat.le_of_ble_eq_true rfl⟩) (tk_preV hE hs (tk_ok_ok p4) rfl) rfl rfl hl.1 rfl (lv_room (Nat.le_of_ble_eq_true rfl)) dX4_noteWeek_93 ⟨(Nat.zero_le _), (Nat.zero_le _)⟩) rfl rfl (fun H locs hs => ?_)
            refine W.eq (g2 := F0 m 96 ls [.ref r4]) rfl ?_
            refine lv_iload_n hx hb dX4_noteWeek_96 rfl (lv_at hl 2 rfl) ?_
            refine lv_iconst (v := 1) hx hb dX4_noteWeek_97 (by decide) ?_
            refine lv_iload hx hb dX4_noteWeek_98 (lv_at hl 3 rfl) ?_
            refine lv_ishl hx hb dX4_noteWeek_100 ?_
            refine lv_iconst (v := (-1)) hx hb dX4_noteWeek_101 (by decide) ?_
            refine lv_ixor hx hb dX4_noteWeek_102 ?_
            refine lv_iand hx hb dX4_noteWeek_103 ?_
            obtain ⟨h6, e6, hf⟩ := tk_bi hf
            refine tk_putN (host := "TongueSwap") hx hb ht inX0 tyX0 tyX0_ok nmX0 hown hE hs rfl 13 (by decide) (by decide +kernel) rfl rfl rfl e6 dX4_noteWeek_104 (fun H locs hs => ?_)
            exact j107 (fX4_noteWeek_72 N k55 n) ih x0 x2 x3 x4 h6 o4.2.2 _ _ _ hf hs (lv_sub hl [0, 1, 2, 3] rfl)
          · rw [w4, Sum.elim_inr] at hf
            cases hf
            exact tk_xthr hs (vx_runV (As := [.int x4]) (rest := []) ⟨hx, hb, hml, hown, ht⟩ (cX4_find_ok l hl0 G N x0 x4 h sz (Sum.inr E4) o4.2.1 o4.2.2 (by rw [e4, ← w4])) (kwX4_find ht wmX4_48 rfl rfl ⟨Nat.le_of_ble_eq_true rfl, Nat.le_of_ble_eq_true rfl⟩) (tk_preV hE hs (tk_ok_ok p4) rfl) rfl rfl hl.1 rfl (lv_room (Nat.le_of_ble_eq_true rfl)) dX4_noteWeek_93 ⟨Nat.le_of_ble_eq_true rfl, Nat.le_of_ble_eq_true rfl⟩) (fun H locs ce q9 hs hce hcv hcl => tk_xout hout hlocks hs hce hcv hcl (Nat.le_refl _) (Nat.le_refl _))
  have j55 : ∀ (n : Nat), ∀ (x0 : Nat) (x2 : Int32) (h : tk_AH) (sz : Nat) (H : Heap) (locs : List Loc) (ls : Array Slot), fX4_noteWeek_55 N n x0 x2 h sz = some (o9, h9, sz9) → tk_sw G s h sz H locs → lv_has ls 5 [(0, .ref x0), (2, .int x2)] → W p l e (headSpec (coX4_noteWeek :: tk_W) ({ frames := 7, cells := tk_xc o9 0, slots := tk_xs o9 0, locals := 122 })).room s m args below meth c H locs 0 (0) (vx_MQ below (tk_qx G (tk_ov o9) h9 sz9) (tk_xx G (tk_ov o9) h9 sz9) args s (tk_xc o9 0) (tk_xs o9 0) (tk_ag G)) (F0 m 55 ls []) := by
    intro n
    induction n with
    | zero =>
      intro x0 x2 h sz H locs ls hf
      cases hf
    | succ n ih =>
      intro x0 x2 h sz H locs ls hf hs hl
      rw [fX4_noteWeek_55] at hf
      refine lv_iload_n hx hb dX4_noteWeek_55 rfl (lv_at hl 1 rfl) ?_
      refine lv_aload_n hx hb dX4_noteWeek_56 rfl (lv_at hl 0 rfl) ?_
      obtain ⟨v7, e7, hf⟩ := tk_bi hf
      refine tk_getI hx hb ht inX4 hown hE hs rfl 5 (by decide) (ht _ wfX4_172) e7 dX4_noteWeek_57 ?_
      refine lv_icmp_ge (tgt := 119) hx hb dX4_noteWeek_60 (by decide) (fun c8 => ?_) (fun c8 => ?_)
      · rw [if_pos c8] at hf
        cases hf
        exact tk_xvret hx hb hr hlocks hs dX4_noteWeek_119
      · rw [if_neg c8] at hf
        refine lv_aload_n hx hb dX4_noteWeek_63 rfl (lv_at hl 0 rfl) ?_
        refine lv_iload_n hx hb dX4_noteWeek_64 rfl (lv_at hl 1 rfl) ?_
        obtain ⟨_, p9, hf⟩ := tk_bi hf
        obtain ⟨o9, e9, hf⟩ := tk_bi hf
        refine tk_call0 (v := some (.int o9.1)) hs (va_runV (As := [.int x2]) (rest := []) ⟨hx, hb, hml, hown, ht⟩ (cX4_membersOfTaken_ok l hl0 G N x0 x2 h sz o9.1 o9.2.1 o9.2.2 e9) (kwX4_membersOfTaken ht wmX4_272 rfl rfl ⟨Nat.le_of_ble_eq_true rfl, Nat.le_of_ble_eq_true rfl⟩) (tk_preV hE hs (tk_ok_ok p9) rfl) rfl rfl hl.1 rfl (lv_room (Nat.le_of_ble_eq_true rfl)) dX4_noteWeek_65 ⟨(Nat.zero_le _), (Nat.zero_le _)⟩) (fun H locs hs => ?_)
        refine W.eq (g2 := F0 m 68 ls [.int o9.1]) rfl ?_
        refine lv_istore_n (lv' := [(3, .int o9.1), (0, .ref x0), (2, .int x2)]) hx hb dX4_noteWeek_68 rfl hl (by decide) rfl (fun ls hl => ?_)
        refine lv_iconst (v := 0) hx hb dX4_noteWeek_69 (by decide) ?_
        refine lv_istore (lv' := [(4, .int 0), (3, .int o9.1), (0, .ref x0), (2, .int x2)]) hx hb dX4_noteWeek_70 hl (by decide) rfl (fun ls hl => ?_)
        exact j72 (fX4_noteWeek_55 N n) ih N x0 x2 o9.1 0 o9.2.1 o9.2.2 _ _ _ hf hs (lv_sub hl [2, 3, 1, 0] rfl)
  have j47 : ∀ (k2 : Nat → Int32 → Int32 → tk_AH → Nat → Option ((Unit ⊕ String) × tk_AH × Nat)), (∀ (x0 : Nat) (x1 : Int32) (x2 : Int32) (h : tk_AH) (sz : Nat) (H : Heap) (locs : List Loc) (ls : Array Slot), k2 x0 x1 x2 h sz = some (o9, h9, sz9) → tk_sw G s h sz H locs → lv_has ls 5 [(0, .ref x0), (1, .int x1), (2, .int x2)] → W p l e (headSpec (coX4_noteWeek :: tk_W) ({ frames := 7, cells := tk_xc o9 0, slots := tk_xs o9 0, locals := 122 })).room s m args below meth c H locs 0 (0) (vx_MQ below (tk_qx G (tk_ov o9) h9 sz9) (tk_xx G (tk_ov o9) h9 sz9) args s (tk_xc o9 0) (tk_xs o9 0) (tk_ag G)) (F0 m 2 ls [])) → ∀ (x0 : Nat) (x1 : Int32) (x2 : Int32) (h : tk_AH) (sz : Nat) (H : Heap) (locs : List Loc) (ls : Array Slot), fX4_noteWeek_47 N k2 x0 x1 x2 h sz = some (o9, h9, sz9) → tk_sw G s h sz H locs → lv_has ls 5 [(0, .ref x0), (1, .int x1), (2, .int x2)] → W p l e (headSpec (coX4_noteWeek :: tk_W) ({ frames := 7, cells := tk_xc o9 0, slots := tk_xs o9 0, locals := 122 })).room s m args below meth c H locs 0 (0) (vx_MQ below (tk_qx G (tk_ov o9) h9 sz9) (tk_xx G (tk_ov o9) h9 sz9) args s (tk_xc o9 0) (tk_xs o9 0) (tk_ag G)) (F0 m 47 ls []) := by
    intro k2 hk2 x0 x1 x2 h sz H locs ls hf hs hl
    unfold fX4_noteWeek_47 at hf
    refine lv_iinc (v := x2 + 1) (lv' := [(2, .int (x2 + 1)), (0, .ref x0), (1, .int x1)]) hx hb dX4_noteWeek_47 hl (k := 2) rfl rfl (by decide) rfl (fun ls hl => ?_)
    refine lv_goto (tgt := 2) hx hb dX4_noteWeek_50 (by decide) ?_
    exact hk2 x0 x1 (x2 + 1) h sz _ _ _ hf hs (lv_sub hl [1, 2, 0] rfl)
  have j2 : ∀ (k55 : Nat → Int32 → tk_AH → Nat → Option ((Unit ⊕ String) × tk_AH × Nat)), (∀ (x0 : Nat) (x2 : Int32) (h : tk_AH) (sz : Nat) (H : Heap) (locs : List Loc) (ls : Array Slot), k55 x0 x2 h sz = some (o9, h9, sz9) → tk_sw G s h sz H locs → lv_has ls 5 [(0, .ref x0), (2, .int x2)] → W p l e (headSpec (coX4_noteWeek :: tk_W) ({ frames := 7, cells := tk_xc o9 0, slots := tk_xs o9 0, locals := 122 })).room s m args below meth c H locs 0 (0) (vx_MQ below (tk_qx G (tk_ov o9) h9 sz9) (tk_xx G (tk_ov o9) h9 sz9) args s (tk_xc o9 0) (tk_xs o9 0) (tk_ag G)) (F0 m 55 ls [])) → ∀ (n : Nat), ∀ (x0 : Nat) (x1 : Int32) (x2 : Int32) (h : tk_AH) (sz : Nat) (H : Heap) (locs : List Loc) (ls : Array Slot), fX4_noteWeek_2 N k55 n x0 x1 x2 h sz = some (o9, h9, sz9) → tk_sw G s h sz H locs → lv_has ls 5 [(0, .ref x0), (1, .int x1), (2, .int x2)] → W p l e (headSpec (coX4_noteWeek :: tk_W) ({ frames := 7, cells := tk_xc o9 0, slots := tk_xs o9 0, locals := 122 })).room s m args below meth c H locs 0 (0) (vx_MQ below (tk_qx G (tk_ov o9) h9 sz9) (tk_xx G (tk_ov o9) h9 sz9) args s (tk_xc o9 0) (tk_xs o9 0) (tk_ag G)) (F0 m 2 ls []) := by
    intro k55 hk55 n
    induction n with
    | zero =>
      intro x0 x1 x2 h sz H locs ls hf
      cases hf
    | succ n ih =>
      intro x0 x1 x2 h sz H locs ls hf hs hl
      rw [fX4_noteWeek_2] at hf
      refine lv_iload_n hx hb dX4_noteWeek_2 rfl (lv_at hl 2 rfl) ?_
      refine lv_aload_n hx hb dX4_noteWeek_3 rfl (lv_at hl 0 rfl) ?_
      obtain ⟨v11, e11, hf⟩ := tk_bi hf
      refine tk_getI hx hb ht inX4 hown hE hs rfl 6 (by decide) (ht _ wfX4_40) e11 dX4_noteWeek_4 ?_
      refine lv_icmp_ge (tgt := 53) hx hb dX4_noteWeek_7 (by decide) (fun c12 => ?_) (fun c12 => ?_)
      · rw [if_pos c12] at hf
        refine lv_iconst (v := 0) hx hb dX4_noteWeek_53 (by decide) ?_
        refine lv_istore_n (lv' := [(2, .int 0), (0, .ref x0), (1, .int x1)]) hx hb dX4_noteWeek_54 rfl hl (by decide) rfl (fun ls hl => ?_)
        exact hk55 x0 0 h sz _ _ _ hf hs (lv_sub hl [1, 0] rfl)
      · rw [if_neg c12] at hf
        refine lv_aload_n hx hb dX4_noteWeek_10 rfl (lv_at hl 0 rfl) ?_
        refine lv_iload_n hx hb dX4_noteWeek_11 rfl (lv_at hl 2 rfl) ?_
        obtain ⟨_, p13, hf⟩ := tk_bi hf
        obtain ⟨o13, e13, hf⟩ := tk_bi hf
        rcases w13 : o13.1 with r13 | E13
        · rw [w13, Sum.elim_inl] at hf
          refine tk_xret0 (v := some (.ref r13)) hs (vx_runV (As := [.int x2]) (rest := []) ⟨hx, hb, hml, hown, ht⟩ (cX4_find_ok l hl0 G N x0 x2 h sz (Sum.inl r13) o13.2.1 o13.2.2 (by rw [e13, ← w13])) (kwX4_find ht wmX4_48 rfl rfl ⟨Nat.le_of_ble_eq_true rfl, Nat.le_of_ble_eq_true rfl⟩) (tk_preV hE hs (tk_ok_ok p13) rfl) rfl rfl hl.1 rfl (lv_room (Nat.le_of_ble_eq_true rfl)) dX4_noteWeek_12 ⟨(Nat.zero_le _), (Nat.zero_le _)⟩) rfl rfl (fun H locs hs => ?_)
          refine W.eq (g2 := F0 m 15 ls [.ref r13]) rfl ?_
          refine lv_astore_n (lv' := [(3, .ref r13), (0, .ref x0), (1, .int x1), (2, .int x2)]) hx hb dX4_noteWeek_15 rfl hl (by decide) rfl (fun ls hl => ?_)
          refine lv_aload_n hx hb dX4_noteWeek_16 rfl (lv_at hl 0 rfl) ?_
          refine lv_iconst (v := 0) hx hb dX4_noteWeek_17 (by decide) ?_
          obtain ⟨h15, e15, hf⟩ := tk_bi hf
          refine tk_putN (host := "TongueSwap") hx hb ht inX0 tyX0 tyX0_ok nmX0 hown hE hs rfl 13 (by decide) (by decide +kernel) rfl rfl rfl e15 dX4_noteWeek_18 (fun H locs hs => ?_)
          refine lv_aload_n hx hb dX4_noteWeek_21 rfl (lv_at hl 0 rfl) ?_
          refine lv_iconst (v := 0) hx hb dX4_noteWeek_22 (by decide) ?_
          obtain ⟨h16, e16, hf⟩ := tk_bi hf
          refine tk_putN (host := "TongueSwap") hx hb ht inX0 tyX0 tyX0_ok nmX0 hown hE hs rfl 14 (by decide) (by decide +kernel) rfl rfl rfl e16 dX4_noteWeek_23 (fun H locs hs => ?_)
          refine lv_iload_n hx hb dX4_noteWeek_26 rfl (lv_at hl 2 rfl) ?_
          refine lv_iload_n hx hb dX4_noteWeek_27 rfl (lv_at hl 3 rfl) ?_
          refine lv_ishr hx hb dX4_noteWeek_28 ?_
          refine lv_iconst (v := 1) hx hb dX4_noteWeek_29 (by decide) ?_
          refine lv_iand hx hb dX4_noteWeek_30 ?_
          refine lv_if_eq (tgt := 42) hx hb dX4_noteWeek_31 (by decide) (fun c17 => ?_) (fun c17 => ?_)
          · rw [if_pos c17] at hf
            refine lv_aload_n hx hb dX4_noteWeek_42 rfl (lv_at hl 0 rfl) ?_
            refine lv_iconst (v := 1) hx hb dX4_noteWeek_43 (by decide) ?_
            obtain ⟨_, p18, hf⟩ := tk_bi hf
            obtain ⟨o18, e18, hf⟩ := tk_bi hf
            refine tk_call0 (v := none) hs (va_runV (As := [.int 1]) (rest := []) ⟨hx, hb, hml, hown, ht⟩ (cX0_waitLonger_ok l hl0 G N r13 1 h16 o13.2.2 o18.1 o18.2 e18) (kwX0_waitLonger ht wmX4_186 rfl rfl ⟨Nat.le_of_ble_eq_true rfl, Nat.le_of_ble_eq_true rfl⟩) (tk_preV hE hs (tk_ok_ok p18) rfl) rfl rfl hl.1 rfl (lv_room (Nat.le_of_ble_eq_true rfl)) dX4_noteWeek_44 ⟨(Nat.zero_le _), (Nat.zero_le _)⟩) (fun H locs hs => ?_)
            refine W.eq (g2 := F0 m 47 ls []) rfl ?_
            exact j47 (fX4_noteWeek_2 N k55 n) ih x0 x1 x2 o18.1 o18.2 _ _ _ hf hs (lv_sub hl [1, 2, 3] rfl)
          · rw [if_neg c17] at hf
            refine lv_aload_n hx hb dX4_noteWeek_34 rfl (lv_at hl 0 rfl) ?_
            refine lv_iconst (v := 0) hx hb dX4_noteWeek_35 (by decide) ?_
            obtain ⟨h20, e20, hf⟩ := tk_bi hf
            refine tk_putN (host := "TongueSwap") hx hb ht inX0 tyX0 tyX0_ok nmX0 hown hE hs rfl 11 (by decide) (by decide +kernel) rfl rfl rfl e20 dX4_noteWeek_36 (fun H locs hs => ?_)
            refine lv_goto (tgt := 47) hx hb dX4_noteWeek_39 (by decide) ?_
            exact j47 (fX4_noteWeek_2 N k55 n) ih x0 x1 x2 h20 o13.2.2 _ _ _ hf hs (lv_sub hl [1, 2, 3] rfl)
        · rw [w13, Sum.elim_inr] at hf
          cases hf
          exact tk_xthr hs (vx_runV (As := [.int x2]) (rest := []) ⟨hx, hb, hml, hown, ht⟩ (cX4_find_ok l hl0 G N x0 x2 h sz (Sum.inr E13) o13.2.1 o13.2.2 (by rw [e13, ← w13])) (kwX4_find ht wmX4_48 rfl rfl ⟨Nat.le_of_ble_eq_true rfl, Nat.le_of_ble_eq_true rfl⟩) (tk_preV hE hs (tk_ok_ok p13) rfl) rfl rfl hl.1 rfl (lv_room (Nat.le_of_ble_eq_true rfl)) dX4_noteWeek_12 ⟨Nat.le_of_ble_eq_true rfl, Nat.le_of_ble_eq_true rfl⟩) (fun H locs ce q9 hs hce hcv hcl => tk_xout hout hlocks hs hce hcv hcl (Nat.le_refl _) (Nat.le_refl _))
  unfold fX4_noteWeek at hf
  refine lv_iconst (v := 0) hx hb dX4_noteWeek_0 (by decide) ?_
  refine lv_istore_n (lv' := [(2, .int 0), (0, .ref x0), (1, .int x1)]) hx hb dX4_noteWeek_1 rfl hl (by decide) rfl (fun ls hl => ?_)
  exact j2 (fX4_noteWeek_55 N N) (j55 N) N x0 x1 0 h sz _ _ _ hf hs (lv_sub hl [1, 2, 0] rfl)
def fX4_week_17 (N : Nat) (M : Nat) : Nat → Nat → Int32 → tk_AH → Nat → Option ((Int32 ⊕ String) × tk_AH × Nat)
  | 0, _, _, _, _ => none
  | n + 1, x0, x1, h, sz =>
  (tk_gI h 4 6 x0).bind fun v1 =>
  if v1 ≤ x1 then (
  (tk_gR h 4 2 x0).bind fun v3 =>
  (tk_gR h 4 1 x0).bind fun v4 =>
  (tk_ok h 1 v3).bind fun _ =>
  (fX1_gather N v3 v4 h sz).bind fun o5 =>
  (tk_gR o5.1 4 2 x0).bind fun v7 =>
  (tk_ok o5.1 1 v7).bind fun _ =>
  (fX1_choose N v7 o5.1 o5.2).bind fun o8 =>
  (tk_gI o8.1 4 6 x0).bind fun v10 =>
  (tk_ok o8.1 4 x0).bind fun _ =>
  (fX4_takeRings N x0 ((1 <<< (v10 &&& 31)) - 1) o8.1 o8.2).bind fun o11 =>
  (tk_ok o11.2.1 4 x0).bind fun _ =>
  (fX4_noteWeek N x0 o11.1 o11.2.1 o11.2.2).bind fun o13 =>
  Sum.elim (fun r13 =>
  (tk_gI o13.2.1 4 7 x0).bind fun v15 =>
  (tk_pF o13.2.1 4 7 x0 (.int (v15 + 7))).bind fun h16 =>
  (tk_gI h16 4 8 x0).bind fun v17 =>
  (tk_pF h16 4 8 x0 (.int (v17 + 1))).bind fun h18 =>
  (fJ6_bitCount_0f7a4 N o11.1 h18 o13.2.2).bind fun o19 =>
  (tk_gI o19.2.1 4 9 x0).bind fun v20 =>
  (tk_pF o19.2.1 4 9 x0 (.int (v20 + o19.1))).bind fun h21 =>
  some (Sum.inl o19.1, h21, o19.2.2)) (fun E13 => some (Sum.inr E13, o13.2.1, o13.2.2)) o13.1) else (
  (tk_gR h 4 2 x0).bind fun v22 =>
  (tk_ok h 4 x0).bind fun _ =>
  (fX4_find N x0 x1 h sz).bind fun o23 =>
  Sum.elim (fun r23 =>
  (tk_gI o23.2.1 0 11 r23).bind fun v25 =>
  (tk_ok o23.2.1 1 v22).bind fun _ =>
  (fX1_setWeight N v22 x1 (1 + v25) o23.2.1 o23.2.2).bind fun o26 =>
  fX4_week_17 N M n x0 (x1 + 1) o26.1 o26.2) (fun E23 => some (Sum.inr E23, o23.2.1, o23.2.2)) o23.1)
def fX4_week (N : Nat) (M : Nat) (x0 : Nat) (h : tk_AH) (sz : Nat) : Option ((Int32 ⊕ String) × tk_AH × Nat) :=
  (tk_ok h 4 x0).bind fun _ =>
  (fX4_lookAtTies N x0 h sz).bind fun o28 =>
  Sum.elim (fun r28 =>
  (tk_gR o28.2.1 4 2 x0).bind fun v30 =>
  (tk_gI o28.2.1 4 6 x0).bind fun v31 =>
  (tk_ok o28.2.1 1 v30).bind fun _ =>
  (fX1_begin N M v30 v31 o28.2.1 o28.2.2).bind fun o32 =>
  fX4_week_17 N M N x0 0 o32.1 o32.2) (fun E28 => some (Sum.inr E28, o28.2.1, o28.2.2)) o28.1
set_option maxHeartbeats 8000000 in
set_option maxRecDepth 100000 in
theorem cX4_week_ok (l : Launch) (hl0 : l.stackTraces = false) (G : tk_AG) (N : Nat) (M : Nat) (x0 : Nat) (h : tk_AH) (sz : Nat) (o9 : Int32 ⊕ String) (h9 : tk_AH) (sz9 : Nat) (hf : fX4_week N M x0 h sz = some (o9, h9, sz9)) : vx_Met l yX4_week (coX4_week :: tk_W) ({ frames := 20, cells := tk_xc o9 1, slots := tk_xs o9 (M), locals := 596 }) (tk_pc G [.ref x0] h sz) (tk_qx G (tk_oi o9) h9 sz9) (tk_xx G (tk_oi o9) h9 sz9) (tk_xc o9 1) (tk_xs o9 (M)) (tk_ag G) := by
  refine vx_ofW (cc := cX4_week) (maxL := 4) (ret := (some .int)) (by decide) rfl ?_
  intro p e s m args below meth c s₁ B hml hout hv
  obtain ⟨hav, hE, hrp, hsz, hgs⟩ := hv
  have hx := B.exec
  have hb := B.bytes
  have hr := B.returns
  have hts := atoms_spec (ws := coX4_week :: tk_W) B.pre
  have ht : ∀ w ∈ tk_W, w.before args s = true := fun w h => hts w (List.mem_cons_of_mem _ h)
  have hown : s.vm.findClass RX4 = some m.cls := findClass_of_methodNamed B.named
  have hlocks := B.notSynchronized
  have hs : tk_sw G s h sz s.heap [] := ⟨hrp, hsz, by rw [hsz]; exact hgs, va_S.rf⟩
  have hl := lv_entry ([.ref x0]) (n := 4) (Nat.le_of_ble_eq_true rfl)
  have hent : entryFrame m args 4 = F0 m 0 (lg_sl ([.ref x0]) ++ List.replicate (4 - (lg_sl ([.ref x0])).length) Slot.unset).toArray [] := by rw [hav, lg_entry_eq]
  rw [hent]
  clear hent
  generalize (lg_sl ([.ref x0]) ++ List.replicate (4 - (lg_sl ([.ref x0])).length) Slot.unset).toArray = ls at hl ⊢
  have hl : lv_has ls 4 [(0, .ref x0)] := hl
  have j17 : ∀ (n : Nat), ∀ (x0 : Nat) (x1 : Int32) (h : tk_AH) (sz : Nat) (H : Heap) (locs : List Loc) (ls : Array Slot), fX4_week_17 N M n x0 x1 h sz = some (o9, h9, sz9) → tk_sw G s h sz H locs → lv_has ls 4 [(0, .ref x0), (1, .int x1)] → W p l e (headSpec (coX4_week :: tk_W) ({ frames := 20, cells := tk_xc o9 1, slots := tk_xs o9 (M), locals := 596 })).room s m args below meth c H locs 1 (M) (vx_MQ below (tk_qx G (tk_oi o9) h9 sz9) (tk_xx G (tk_oi o9) h9 sz9) args s (tk_xc o9 1) (tk_xs o9 (M)) (tk_ag G)) (F0 m 17 ls []) := by
    intro n
    induction n with
    | zero =>
      intro x0 x1 h sz H locs ls hf
      cases hf
    | succ n ih =>
      intro x0 x1 h sz H locs ls hf hs hl
      rw [fX4_week_17] at hf
      refine lv_iload_n hx hb dX4_week_17 rfl (lv_at hl 1 rfl) ?_
      refine lv_aload_n hx hb dX4_week_18 rfl (lv_at hl 0 rfl) ?_
      obtain ⟨v1, e1, hf⟩ := tk_bi hf
      refine tk_getI hx hb ht inX4 hown hE hs rfl 6 (by decide) (ht _ wfX4_40) e1 dX4_week_19 ?_
      refine lv_icmp_ge (tgt := 49) hx hb dX4_week_22 (by decide) (fun c2 => ?_) (fun c2 => ?_)
      · rw [if_pos c2] at hf
        refine lv_aload_n hx hb dX4_week_49 rfl (lv_at hl 0 rfl) ?_
        obtain ⟨v3, e3, hf⟩ := tk_bi hf
        refine tk_getR hx hb ht inX4 hown hE hs rfl 2 (by decide) (ht _ wfX4_25) e3 dX4_week_50 ?_
        refine lv_aload_n hx hb dX4_week_53 rfl (lv_at hl 0 rfl) ?_
        obtain ⟨v4, e4, hf⟩ := tk_bi hf
        refine tk_getR hx hb ht inX4 hown hE hs rfl 1 (by decide) (ht _ wfX4_18) e4 dX4_week_54 ?_
        obtain ⟨_, p5, hf⟩ := tk_bi hf
        obtain ⟨o5, e5, hf⟩ := tk_bi hf
        refine tk_call0 (v := none) hs (va_runV (As := [.ref v4]) (rest := []) ⟨hx, hb, hml, hown, ht⟩ (cX1_gather_ok l hl0 G N v3 v4 h sz o5.1 o5.2 e5) (kwX1_gather ht wmX4_145 rfl rfl ⟨Nat.le_of_ble_eq_true rfl, Nat.le_of_ble_eq_true rfl⟩) (tk_preV hE hs (tk_ok_ok p5) rfl) rfl rfl hl.1 rfl (lv_room (Nat.le_of_ble_eq_true rfl)) dX4_week_57 ⟨(tk_xc_le _ _), (tk_xs_le _ _)⟩) (fun H locs hs => ?_)
        refine W.eq (g2 := F0 m 60 ls []) rfl ?_
        refine lv_aload_n hx hb dX4_week_60 rfl (lv_at hl 0 rfl) ?_
        obtain ⟨v7, e7, hf⟩ := tk_bi hf
        refine tk_getR hx hb ht inX4 hown hE hs rfl 2 (by decide) (ht _ wfX4_25) e7 dX4_week_61 ?_
        obtain ⟨_, p8, hf⟩ := tk_bi hf
        obtain ⟨o8, e8, hf⟩ := tk_bi hf
        refine tk_call0 (v := none) hs (va_runV (As := []) (rest := []) ⟨hx, hb, hml, hown, ht⟩ (cX1_choose_ok l hl0 G N v7 o5.1 o5.2 o8.1 o8.2 e8) (kwX1_choose ht wmX4_149 rfl rfl ⟨Nat.le_of_ble_eq_true rfl, Nat.le_of_ble_eq_true rfl⟩) (tk_preV hE hs (tk_ok_ok p8) rfl) rfl rfl hl.1 rfl (lv_room (Nat.le_of_ble_eq_true rfl)) dX4_week_64 ⟨(tk_xc_le _ _), (tk_xs_le _ _)⟩) (fun H locs hs => ?_)
        refine W.eq (g2 := F0 m 67 ls []) rfl ?_
        refine lv_iconst (v := 1) hx hb dX4_week_67 (by decide) ?_
        refine lv_aload_n hx hb dX4_week_68 rfl (lv_at hl 0 rfl) ?_
        obtain ⟨v10, e10, hf⟩ := tk_bi hf
        refine tk_getI hx hb ht inX4 hown hE hs rfl 6 (by decide) (ht _ wfX4_40) e10 dX4_week_69 ?_
        refine lv_ishl hx hb dX4_week_72 ?_
        refine lv_iconst (v := 1) hx hb dX4_week_73 (by decide) ?_
        refine lv_isub hx hb dX4_week_74 ?_
        refine lv_istore_n (lv' := [(1, .int ((1 <<< (v10 &&& 31)) - 1)), (0, .ref x0)]) hx hb dX4_week_75 rfl hl (by decide) rfl (fun ls hl => ?_)
        refine lv_aload_n hx hb dX4_week_76 rfl (lv_at hl 1 rfl) ?_
        refine lv_iload_n hx hb dX4_week_77 rfl (lv_at hl 0 rfl) ?_
        obtain ⟨_, p11, hf⟩ := tk_bi hf
        obtain ⟨o11, e11, hf⟩ := tk_bi hf
        refine tk_call0 (v := some (.int o11.1)) hs (va_runV (As := [.int ((1 <<< (v10 &&& 31)) - 1)]) (rest := []) ⟨hx, hb, hml, hown, ht⟩ (cX4_takeRings_ok l hl0 G N x0 ((1 <<< (v10 &&& 31)) - 1) o8.1 o8.2 o11.1 o11.2.1 o11.2.2 e11) (kwX4_takeRings ht wmX4_152 rfl rfl ⟨Nat.le_of_ble_eq_true rfl, Nat.le_of_ble_eq_true rfl⟩) (tk_preV hE hs (tk_ok_ok p11) rfl) rfl rfl hl.1 rfl (lv_room (Nat.le_of_ble_eq_true rfl)) dX4_week_78 ⟨(tk_xc_le _ _), (tk_xs_le _ _)⟩) (fun H locs hs => ?_)
        refine W.eq (g2 := F0 m 81 ls [.int o11.1]) rfl ?_
        refine lv_istore_n (lv' := [(2, .int o11.1), (1, .int ((1 <<< (v10 &&& 31)) - 1)), (0, .ref x0)]) hx hb dX4_week_81 rfl hl (by decide) rfl (fun ls hl => ?_)
        refine lv_aload_n hx hb dX4_week_82 rfl (lv_at hl 2 rfl) ?_
        refine lv_iload_n hx hb dX4_week_83 rfl (lv_at hl 0 rfl) ?_
        obtain ⟨_, p13, hf⟩ := tk_bi hf
        obtain ⟨o13, e13, hf⟩ := tk_bi hf
        rcases w13 : o13.1 with r13 | E13
        · rw [w13, Sum.elim_inl] at hf
          refine tk_xret0 (v := none) hs (vx_runV (As := [.int o11.1]) (rest := []) ⟨hx, hb, hml, hown, ht⟩ (cX4_noteWeek_ok l hl0 G N x0 o11.1 o11.2.1 o11.2.2 (Sum.inl r13) o13.2.1 o13.2.2 (by rw [e13, ← w13])) (kwX4_noteWeek ht wmX4_155 rfl rfl ⟨Nat.le_of_ble_eq_true rfl, Nat.le_of_ble_eq_true rfl⟩) (tk_preV hE hs (tk_ok_ok p13) rfl) rfl rfl hl.1 rfl (lv_room (Nat.le_of_ble_eq_true rfl)) dX4_week_84 ⟨(tk_xc_le _ _), (tk_xs_le _ _)⟩) rfl rfl (fun H locs hs => ?_)
          refine W.eq (g2 := F0 m 87 ls []) rfl ?_
          refine lv_aload_n hx hb dX4_week_87 rfl (lv_at hl 2 rfl) ?_
          refine lv_dup hx hb dX4_week_88 rfl ?_
          obtain ⟨v15, e15, hf⟩ := tk_bi hf
          refine tk_getI hx hb ht inX4 hown hE hs rfl 7 (by decide) (ht _ wfX4_158) e15 dX4_week_89 ?_
          refine lv_bipush (v := 7) hx hb dX4_week_92 (by decide) ?_
          refine lv_iadd hx hb dX4_week_94 ?_
          obtain ⟨h16, e16, hf⟩ := tk_bi hf
          refine tk_put hx hb ht inX4 tyX4 tyX4_ok nmX4 hown hE hs rfl 7 (by decide) (ht _ wfX4_158) rfl rfl rfl e16 dX4_week_95 (fun H locs hs => ?_)
          refine lv_aload_n hx hb dX4_week_98 rfl (lv_at hl 2 rfl) ?_
          refine lv_dup hx hb dX4_week_99 rfl ?_
          obtain ⟨v17, e17, hf⟩ := tk_bi hf
          refine tk_getI hx hb ht inX4 hown hE hs rfl 8 (by decide) (ht _ wfX4_161) e17 dX4_week_100 ?_
          refine lv_iconst (v := 1) hx hb dX4_week_103 (by decide) ?_
          refine lv_iadd hx hb dX4_week_104 ?_
          obtain ⟨h18, e18, hf⟩ := tk_bi hf
          refine tk_put hx hb ht inX4 tyX4 tyX4_ok nmX4 hown hE hs rfl 8 (by decide) (ht _ wfX4_161) rfl rfl rfl e18 dX4_week_105 (fun H locs hs => ?_)
          refine lv_iload_n hx hb dX4_week_108 rfl (lv_at hl 0 rfl) ?_
          obtain ⟨o19, e19, hf⟩ := tk_bi hf
          refine tk_call0 (v := some (.int o19.1)) hs (va_runS (As := [.int o11.1]) (rest := []) ⟨hx, hb, hml, hown, ht⟩ (cJ6_bitCount_0f7a4_ok l hl0 G N o11.1 h18 o13.2.2 o19.1 o19.2.1 o19.2.2 e19) (kwJ6_bitCount_0f7a4 ht wmX4_164 rfl rfl ⟨Nat.le_of_ble_eq_true rfl, Nat.le_of_ble_eq_true rfl⟩) (tk_preS hE hs) rfl rfl hl.1 rfl (lv_room (Nat.le_of_ble_eq_true rfl)) dX4_week_109 ⟨(tk_xc_le _ _), (tk_xs_le _ _)⟩) (fun H locs hs => ?_)
          refine W.eq (g2 := F0 m 112 ls [.int o19.1]) rfl ?_
          refine lv_istore_n (lv' := [(3, .int o19.1), (2, .int o11.1), (1, .int ((1 <<< (v10 &&& 31)) - 1)), (0, .ref x0)]) hx hb dX4_week_112 rfl hl (by decide) rfl (fun ls hl => ?_)
          refine lv_aload_n hx hb dX4_week_113 rfl (lv_at hl 3 rfl) ?_
          refine lv_dup hx hb dX4_week_114 rfl ?_
          obtain ⟨v20, e20, hf⟩ := tk_bi hf
          refine tk_getI hx hb ht inX4 hown hE hs rfl 9 (by decide) (ht _ wfX4_169) e20 dX4_week_115 ?_
          refine lv_iload_n hx hb dX4_week_118 rfl (lv_at hl 0 rfl) ?_
          refine lv_iadd hx hb dX4_week_119 ?_
          obtain ⟨h21, e21, hf⟩ := tk_bi hf
          refine tk_put hx hb ht inX4 tyX4 tyX4_ok nmX4 hown hE hs rfl 9 (by decide) (ht _ wfX4_169) rfl rfl rfl e21 dX4_week_120 (fun H locs hs => ?_)
          refine lv_iload_n hx hb dX4_week_123 rfl (lv_at hl 0 rfl) ?_
          cases hf
          exact tk_xiret hx hb hr hlocks hs dX4_week_124
        · rw [w13, Sum.elim_inr] at hf
          cases hf
          exact tk_xthr hs (vx_runV (As := [.int o11.1]) (rest := []) ⟨hx, hb, hml, hown, ht⟩ (cX4_noteWeek_ok l hl0 G N x0 o11.1 o11.2.1 o11.2.2 (Sum.inr E13) o13.2.1 o13.2.2 (by rw [e13, ← w13])) (kwX4_noteWeek ht wmX4_155 rfl rfl ⟨Nat.le_of_ble_eq_true rfl, Nat.le_of_ble_eq_true rfl⟩) (tk_preV hE hs (tk_ok_ok p13) rfl) rfl rfl hl.1 rfl (lv_room (Nat.le_of_ble_eq_true rfl)) dX4_week_84 ⟨by simp only [headSpec, tk_xc]; omega, by simp only [headSpec, tk_xs]; omega⟩) (fun H locs ce q9 hs hce hcv hcl => tk_xout hout hlocks hs hce hcv hcl (by simp only [tk_xc]; omega) (by simp only [tk_xs]; omega))
      · rw [if_neg c2] at hf
        refine lv_aload_n hx hb dX4_week_25 rfl (lv_at hl 0 rfl) ?_
        obtain ⟨v22, e22, hf⟩ := tk_bi hf
        refine tk_getR hx hb ht inX4 hown hE hs rfl 2 (by decide) (ht _ wfX4_25) e22 dX4_week_26 ?_
        refine lv_iload_n hx hb dX4_week_29 rfl (lv_at hl 1 rfl) ?_
        refine lv_iconst (v := 1) hx hb dX4_week_30 (by decide) ?_
        refine lv_aload_n hx hb dX4_week_31 rfl (lv_at hl 0 rfl) ?_
        refine lv_iload_n hx hb dX4_week_32 rfl (lv_at hl 1 rfl) ?_
        obtain ⟨_, p23, hf⟩ := tk_bi hf
        obtain ⟨o23, e23, hf⟩ := tk_bi hf
        rcases w23 : o23.1 with r23 | E23
        · rw [w23, Sum.elim_inl] at hf
          refine tk_xret0 (v := some (.ref r23)) hs (vx_runV (As := [.int x1]) (rest := [.int 1, .int x1, .ref v22]) ⟨hx, hb, hml, hown, ht⟩ (cX4_find_ok l hl0 G N x0 x1 h sz (Sum.inl r23) o23.2.1 o23.2.2 (by rw [e23, ← w23])) (kwX4_find ht wmX4_48 rfl rfl ⟨Nat.le_of_ble_eq_true rfl, Nat.le_of_ble_eq_true rfl⟩) (tk_preV hE hs (tk_ok_ok p23) rfl) rfl rfl hl.1 rfl (lv_room (Nat.le_of_ble_eq_true rfl)) dX4_week_33 ⟨(tk_xc_le _ _), (tk_xs_le _ _)⟩) rfl rfl (fun H locs hs => ?_)
          refine W.eq (g2 := F0 m 36 ls [.ref r23, .int 1, .int x1, .ref v22]) rfl ?_
          obtain ⟨v25, e25, hf⟩ := tk_bi hf
          refine tk_getNI (host := "TongueSwap") hx hb ht inX0 hown hE hs rfl 11 (by decide) (by decide +kernel) e25 dX4_week_36 ?_
          refine lv_iadd hx hb dX4_week_39 ?_
          obtain ⟨_, p26, hf⟩ := tk_bi hf
          obtain ⟨o26, e26, hf⟩ := tk_bi hf
          refine tk_call0 (v := none) hs (va_runV (As := [.int x1, .int (1 + v25)]) (rest := []) ⟨hx, hb, hml, hown, ht⟩ (cX1_setWeight_ok l hl0 G N v22 x1 (1 + v25) o23.2.1 o23.2.2 o26.1 o26.2 e26) (kwX1_setWeight ht wmX4_142 rfl rfl ⟨Nat.le_of_ble_eq_true rfl, Nat.le_of_ble_eq_true rfl⟩) (tk_preV hE hs (tk_ok_ok p26) rfl) rfl rfl hl.1 rfl (lv_room (Nat.le_of_ble_eq_true rfl)) dX4_week_40 ⟨(tk_xc_le _ _), (tk_xs_le _ _)⟩) (fun H locs hs => ?_)
          refine W.eq (g2 := F0 m 43 ls []) rfl ?_
          refine lv_iinc (v := x1 + 1) (lv' := [(1, .int (x1 + 1)), (0, .ref x0)]) hx hb dX4_week_43 hl (k := 1) rfl rfl (by decide) rfl (fun ls hl => ?_)
          refine lv_goto (tgt := 17) hx hb dX4_week_46 (by decide) ?_
          exact ih x0 (x1 + 1) o26.1 o26.2 _ _ _ hf hs (lv_sub hl [1, 0] rfl)
        · rw [w23, Sum.elim_inr] at hf
          cases hf
          exact tk_xthr hs (vx_runV (As := [.int x1]) (rest := [.int 1, .int x1, .ref v22]) ⟨hx, hb, hml, hown, ht⟩ (cX4_find_ok l hl0 G N x0 x1 h sz (Sum.inr E23) o23.2.1 o23.2.2 (by rw [e23, ← w23])) (kwX4_find ht wmX4_48 rfl rfl ⟨Nat.le_of_ble_eq_true rfl, Nat.le_of_ble_eq_true rfl⟩) (tk_preV hE hs (tk_ok_ok p23) rfl) rfl rfl hl.1 rfl (lv_room (Nat.le_of_ble_eq_true rfl)) dX4_week_33 ⟨by simp only [headSpec, tk_xc]; omega, by simp only [headSpec, tk_xs]; omega⟩) (fun H locs ce q9 hs hce hcv hcl => tk_xout hout hlocks hs hce hcv hcl (by simp only [tk_xc]; omega) (by simp only [tk_xs]; omega))
  unfold fX4_week at hf
  refine lv_aload_n hx hb dX4_week_0 rfl (lv_at hl 0 rfl) ?_
  obtain ⟨_, p28, hf⟩ := tk_bi hf
  obtain ⟨o28, e28, hf⟩ := tk_bi hf
  rcases w28 : o28.1 with r28 | E28
  · rw [w28, Sum.elim_inl] at hf
    refine tk_xret0 (v := none) hs (vx_runV (As := []) (rest := []) ⟨hx, hb, hml, hown, ht⟩ (cX4_lookAtTies_ok l hl0 G N x0 h sz (Sum.inl r28) o28.2.1 o28.2.2 (by rw [e28, ← w28])) (kwX4_lookAtTies ht wmX4_126 rfl rfl ⟨Nat.le_of_ble_eq_true rfl, Nat.le_of_ble_eq_true rfl⟩) (tk_preV hE hs (tk_ok_ok p28) rfl) rfl rfl hl.1 rfl (lv_room (Nat.le_of_ble_eq_true rfl)) dX4_week_1 ⟨(Nat.zero_le _), (Nat.zero_le _)⟩) rfl rfl (fun H locs hs => ?_)
    refine W.eq (g2 := F0 m 4 ls []) rfl ?_
    refine lv_aload_n hx hb dX4_week_4 rfl (lv_at hl 0 rfl) ?_
    obtain ⟨v30, e30, hf⟩ := tk_bi hf
    refine tk_getR hx hb ht inX4 hown hE hs rfl 2 (by decide) (ht _ wfX4_25) e30 dX4_week_5 ?_
    refine lv_aload_n hx hb dX4_week_8 rfl (lv_at hl 0 rfl) ?_
    obtain ⟨v31, e31, hf⟩ := tk_bi hf
    refine tk_getI hx hb ht inX4 hown hE hs rfl 6 (by decide) (ht _ wfX4_40) e31 dX4_week_9 ?_
    obtain ⟨_, p32, hf⟩ := tk_bi hf
    obtain ⟨o32, e32, hf⟩ := tk_bi hf
    refine tk_call (v := none) hs (va_runV (As := [.int v31]) (rest := []) ⟨hx, hb, hml, hown, ht⟩ (cX1_begin_ok l hl0 G N M v30 v31 o28.2.1 o28.2.2 o32.1 o32.2 e32) (kwX1_begin ht wmX4_136 rfl rfl ⟨Nat.le_of_ble_eq_true rfl, Nat.le_of_ble_eq_true rfl⟩) (tk_preV hE hs (tk_ok_ok p32) rfl) rfl rfl hl.1 rfl (lv_room (Nat.le_of_ble_eq_true rfl)) dX4_week_12 ⟨(tk_xc_le _ _), (Nat.le_trans (Nat.le_of_eq (Nat.zero_add M)) (tk_xs_le _ _))⟩) (fun H locs hs => ?_)
    refine W.eq (g2 := F0 m 15 ls []) rfl ?_
    refine W.widen (k := 1) (n := M) (by omega) (by omega) ?_
    refine lv_iconst (v := 0) hx hb dX4_week_15 (by decide) ?_
    refine lv_istore_n (lv' := [(1, .int 0), (0, .ref x0)]) hx hb dX4_week_16 rfl hl (by decide) rfl (fun ls hl => ?_)
    exact j17 N x0 0 o32.1 o32.2 _ _ _ hf hs (lv_sub hl [1, 0] rfl)
  · rw [w28, Sum.elim_inr] at hf
    cases hf
    exact tk_xthr hs (vx_runV (As := []) (rest := []) ⟨hx, hb, hml, hown, ht⟩ (cX4_lookAtTies_ok l hl0 G N x0 h sz (Sum.inr E28) o28.2.1 o28.2.2 (by rw [e28, ← w28])) (kwX4_lookAtTies ht wmX4_126 rfl rfl ⟨Nat.le_of_ble_eq_true rfl, Nat.le_of_ble_eq_true rfl⟩) (tk_preV hE hs (tk_ok_ok p28) rfl) rfl rfl hl.1 rfl (lv_room (Nat.le_of_ble_eq_true rfl)) dX4_week_1 ⟨by simp only [headSpec, tk_xc]; omega, by simp only [headSpec, tk_xs]; omega⟩) (fun H locs ce q9 hs hce hcv hcl => tk_xout hout hlocks hs hce hcv hcl (by simp only [tk_xc]; omega) (by simp only [tk_xs]; omega))
def fX4_rings (N : Nat) (x0 : Nat) (h : tk_AH) (sz : Nat) : Option (Int32 × tk_AH × Nat) :=
  (tk_gI h 4 5 x0).bind fun v1 =>
  some (v1, h, sz)
set_option maxHeartbeats 8000000 in
set_option maxRecDepth 100000 in
theorem cX4_rings_ok (l : Launch) (hl0 : l.stackTraces = false) (G : tk_AG) (N : Nat) (x0 : Nat) (h : tk_AH) (sz : Nat) (r9 : Int32) (h9 : tk_AH) (sz9 : Nat) (hf : fX4_rings N x0 h sz = some (r9, h9, sz9)) : Met l yX4_rings (coX4_rings :: tk_W) ({ frames := 0, cells := 0, slots := 0, locals := 0 }) (tk_pc G [.ref x0] h sz) (tk_qc G (some (.int r9)) h9 sz9) 0 0 (tk_ag G) := by
  refine Met.ofW (cc := cX4_rings) (maxL := 1) (ret := (some .int)) (by decide) rfl ?_
  intro p e s m args below meth c s₁ B hml hv
  obtain ⟨hav, hE, hrp, hsz, hgs⟩ := hv
  have hx := B.exec
  have hb := B.bytes
  have hr := B.returns
  have hts := atoms_spec (ws := coX4_rings :: tk_W) B.pre
  have ht : ∀ w ∈ tk_W, w.before args s = true := fun w h => hts w (List.mem_cons_of_mem _ h)
  have hown : s.vm.findClass RX4 = some m.cls := findClass_of_methodNamed B.named
  have hlocks := B.notSynchronized
  have hs : tk_sw G s h sz s.heap [] := ⟨hrp, hsz, by rw [hsz]; exact hgs, va_S.rf⟩
  have hl := lv_entry ([.ref x0]) (n := 1) (Nat.le_of_ble_eq_true rfl)
  have hent : entryFrame m args 1 = F0 m 0 (lg_sl ([.ref x0]) ++ List.replicate (1 - (lg_sl ([.ref x0])).length) Slot.unset).toArray [] := by rw [hav, lg_entry_eq]
  rw [hent]
  clear hent
  generalize (lg_sl ([.ref x0]) ++ List.replicate (1 - (lg_sl ([.ref x0])).length) Slot.unset).toArray = ls at hl ⊢
  have hl : lv_has ls 1 [(0, .ref x0)] := hl
  unfold fX4_rings at hf
  refine lv_aload_n hx hb dX4_rings_0 rfl (lv_at hl 0 rfl) ?_
  obtain ⟨v1, e1, hf⟩ := tk_bi hf
  refine tk_getI hx hb ht inX4 hown hE hs rfl 5 (by decide) (ht _ wfX4_172) e1 dX4_rings_1 ?_
  cases hf
  exact tk_iret hx hb hr hlocks hs dX4_rings_4
def fX4_ringOf_12 (N : Nat) (h : tk_AH) (sz : Nat) : Option ((Int32 ⊕ String) × tk_AH × Nat) :=
  some (Sum.inr "java/util/NoSuchElementException", h, sz + 1)
def fX4_ringOf_32 (N : Nat) (h : tk_AH) (sz : Nat) : Option ((Int32 ⊕ String) × tk_AH × Nat) :=
  some (Sum.inr "java/util/NoSuchElementException", h, sz + 1)
def fX4_ringOf (N : Nat) (x0 : Nat) (x1 : Int32) (x2 : Int32) (h : tk_AH) (sz : Nat) : Option ((Int32 ⊕ String) × tk_AH × Nat) :=
  if x1 < 0 then (
  fX4_ringOf_12 N h sz) else (
  (tk_gI h 4 5 x0).bind fun v2 =>
  if x1 < v2 then (
  if x2 < 0 then (
  fX4_ringOf_32 N h sz) else (
  if x2 < 6 then (
  (tk_gR h 4 4 x0).bind fun v6 =>
  (tk_aI h 0 v6 ((x1 * 6) + x2)).bind fun v7 =>
  some (Sum.inl v7, h, sz)) else (
  fX4_ringOf_32 N h sz))) else (
  fX4_ringOf_12 N h sz))
set_option maxHeartbeats 8000000 in
set_option maxRecDepth 100000 in
theorem cX4_ringOf_ok (l : Launch) (hl0 : l.stackTraces = false) (G : tk_AG) (N : Nat) (x0 : Nat) (x1 : Int32) (x2 : Int32) (h : tk_AH) (sz : Nat) (o9 : Int32 ⊕ String) (h9 : tk_AH) (sz9 : Nat) (hf : fX4_ringOf N x0 x1 x2 h sz = some (o9, h9, sz9)) : vx_Met l yX4_ringOf (coX4_ringOf :: tk_W) ({ frames := 6, cells := tk_xc o9 0, slots := tk_xs o9 0, locals := 100 }) (tk_pc G [.ref x0, .int x1, .int x2] h sz) (tk_qx G (tk_oi o9) h9 sz9) (tk_xx G (tk_oi o9) h9 sz9) (tk_xc o9 0) (tk_xs o9 0) (tk_ag G) := by
  refine vx_ofW (cc := cX4_ringOf) (maxL := 3) (ret := (some .int)) (by decide) rfl ?_
  intro p e s m args below meth c s₁ B hml hout hv
  obtain ⟨hav, hE, hrp, hsz, hgs⟩ := hv
  have hx := B.exec
  have hb := B.bytes
  have hr := B.returns
  have hts := atoms_spec (ws := coX4_ringOf :: tk_W) B.pre
  have ht : ∀ w ∈ tk_W, w.before args s = true := fun w h => hts w (List.mem_cons_of_mem _ h)
  have hown : s.vm.findClass RX4 = some m.cls := findClass_of_methodNamed B.named
  have hlocks := B.notSynchronized
  have hs : tk_sw G s h sz s.heap [] := ⟨hrp, hsz, by rw [hsz]; exact hgs, va_S.rf⟩
  have hl := lv_entry ([.ref x0, .int x1, .int x2]) (n := 3) (Nat.le_of_ble_eq_true rfl)
  have hent : entryFrame m args 3 = F0 m 0 (lg_sl ([.ref x0, .int x1, .int x2]) ++ List.replicate (3 - (lg_sl ([.ref x0, .int x1, .int x2])).length) Slot.unset).toArray [] := by rw [hav, lg_entry_eq]
  rw [hent]
  clear hent
  generalize (lg_sl ([.ref x0, .int x1, .int x2]) ++ List.replicate (3 - (lg_sl ([.ref x0, .int x1, .int x2])).length) Slot.unset).toArray = ls at hl ⊢
  have hl : lv_has ls 3 [(0, .ref x0), (1, .int x1), (2, .int x2)] := hl
  have j12 : ∀ (h : tk_AH) (sz : Nat) (H : Heap) (locs : List Loc) (ls : Array Slot), fX4_ringOf_12 N h sz = some (o9, h9, sz9) → tk_sw G s h sz H locs → lv_has ls 3 [] → W p l e (headSpec (coX4_ringOf :: tk_W) ({ frames := 6, cells := tk_xc o9 0, slots := tk_xs o9 0, locals := 100 })).room s m args below meth c H locs 0 (0) (vx_MQ below (tk_qx G (tk_oi o9) h9 sz9) (tk_xx G (tk_oi o9) h9 sz9) args s (tk_xc o9 0) (tk_xs o9 0) (tk_ag G)) (F0 m 12 ls []) := by
    intro h sz H locs ls hf hs hl
    unfold fX4_ringOf_12 at hf
    cases hf
    exact tk_throwNSE hx hb hml hl0 hown ht hE hs hl (by decide : ("TongueSwap", 175, "no such ring") ∈ tk_strs) dX4_ringOf_12 dX4_ringOf_15 dX4_ringOf_16 dX4_ringOf_18 dX4_ringOf_21 hout (Nat.le_of_ble_eq_true rfl) (Nat.le_of_ble_eq_true rfl) (Nat.le_of_ble_eq_true rfl) (Nat.le_of_ble_eq_true rfl) (Nat.le_refl _) (Nat.le_refl _) hlocks
  have j32 : ∀ (h : tk_AH) (sz : Nat) (H : Heap) (locs : List Loc) (ls : Array Slot), fX4_ringOf_32 N h sz = some (o9, h9, sz9) → tk_sw G s h sz H locs → lv_has ls 3 [] → W p l e (headSpec (coX4_ringOf :: tk_W) ({ frames := 6, cells := tk_xc o9 0, slots := tk_xs o9 0, locals := 100 })).room s m args below meth c H locs 0 (0) (vx_MQ below (tk_qx G (tk_oi o9) h9 sz9) (tk_xx G (tk_oi o9) h9 sz9) args s (tk_xc o9 0) (tk_xs o9 0) (tk_ag G)) (F0 m 32 ls []) := by
    intro h sz H locs ls hf hs hl
    unfold fX4_ringOf_32 at hf
    cases hf
    exact tk_throwNSE hx hb hml hl0 hown ht hE hs hl (by decide : ("TongueSwap", 177, "a ring has no such part") ∈ tk_strs) dX4_ringOf_32 dX4_ringOf_35 dX4_ringOf_36 dX4_ringOf_38 dX4_ringOf_41 hout (Nat.le_of_ble_eq_true rfl) (Nat.le_of_ble_eq_true rfl) (Nat.le_of_ble_eq_true rfl) (Nat.le_of_ble_eq_true rfl) (Nat.le_refl _) (Nat.le_refl _) hlocks
  unfold fX4_ringOf at hf
  refine lv_iload_n hx hb dX4_ringOf_0 rfl (lv_at hl 1 rfl) ?_
  refine lv_if_lt (tgt := 12) hx hb dX4_ringOf_1 (by decide) (fun c1 => ?_) (fun c1 => ?_)
  · rw [if_pos c1] at hf
    exact j12 h sz _ _ _ hf hs (lv_sub hl [] rfl)
  · rw [if_neg c1] at hf
    refine lv_iload_n hx hb dX4_ringOf_4 rfl (lv_at hl 1 rfl) ?_
    refine lv_aload_n hx hb dX4_ringOf_5 rfl (lv_at hl 0 rfl) ?_
    obtain ⟨v2, e2, hf⟩ := tk_bi hf
    refine tk_getI hx hb ht inX4 hown hE hs rfl 5 (by decide) (ht _ wfX4_172) e2 dX4_ringOf_6 ?_
    refine lv_icmp_lt (tgt := 22) hx hb dX4_ringOf_9 (by decide) (fun c3 => ?_) (fun c3 => ?_)
    · rw [if_pos c3] at hf
      refine lv_iload_n hx hb dX4_ringOf_22 rfl (lv_at hl 2 rfl) ?_
      refine lv_if_lt (tgt := 32) hx hb dX4_ringOf_23 (by decide) (fun c4 => ?_) (fun c4 => ?_)
      · rw [if_pos c4] at hf
        exact j32 h sz _ _ _ hf hs (lv_sub hl [] rfl)
      · rw [if_neg c4] at hf
        refine lv_iload_n hx hb dX4_ringOf_26 rfl (lv_at hl 2 rfl) ?_
        refine lv_bipush (v := 6) hx hb dX4_ringOf_27 (by decide) ?_
        refine lv_icmp_lt (tgt := 42) hx hb dX4_ringOf_29 (by decide) (fun c5 => ?_) (fun c5 => ?_)
        · rw [if_pos c5] at hf
          refine lv_aload_n hx hb dX4_ringOf_42 rfl (lv_at hl 0 rfl) ?_
          obtain ⟨v6, e6, hf⟩ := tk_bi hf
          refine tk_getR hx hb ht inX4 hown hE hs rfl 4 (by decide) (ht _ wfX4_36) e6 dX4_ringOf_43 ?_
          refine lv_iload_n hx hb dX4_ringOf_46 rfl (lv_at hl 1 rfl) ?_
          refine lv_bipush (v := 6) hx hb dX4_ringOf_47 (by decide) ?_
          refine lv_imul hx hb dX4_ringOf_49 ?_
          refine lv_iload_n hx hb dX4_ringOf_50 rfl (lv_at hl 2 rfl) ?_
          refine lv_iadd hx hb dX4_ringOf_51 ?_
          obtain ⟨v7, e7, hf⟩ := tk_bi hf
          refine tk_iald hx hb hE hs e7 dX4_ringOf_52 ?_
          cases hf
          exact tk_xiret hx hb hr hlocks hs dX4_ringOf_53
        · rw [if_neg c5] at hf
          exact j32 h sz _ _ _ hf hs (lv_sub hl [] rfl)
    · rw [if_neg c3] at hf
      exact j12 h sz _ _ _ hf hs (lv_sub hl [] rfl)
def fX4_missed_20 (N : Nat) (h : tk_AH) (sz : Nat) : Option ((Int32 ⊕ String) × tk_AH × Nat) :=
  (tk_bz 0).bind fun _ =>
  some (Sum.inl 0, h, sz)
def fX4_missed_57 (N : Nat) (k29 : Nat → Nat → Int32 → tk_AH → Nat → Option ((Int32 ⊕ String) × tk_AH × Nat)) (x0 : Nat) (x2 : Nat) (x3 : Int32) (h : tk_AH) (sz : Nat) : Option ((Int32 ⊕ String) × tk_AH × Nat) :=
  k29 x0 x2 (x3 + 1) h sz
def fX4_missed_29 (N : Nat) : Nat → Nat → Nat → Int32 → tk_AH → Nat → Option ((Int32 ⊕ String) × tk_AH × Nat)
  | 0, _, _, _, _, _ => none
  | n + 1, x0, x2, x3, h, sz =>
  (tk_gI h 4 6 x0).bind fun v2 =>
  if v2 ≤ x3 then (
  (tk_bz 1).bind fun _ =>
  some (Sum.inl 1, h, sz)) else (
  (tk_gI h 0 13 x2).bind fun v5 =>
  if ((v5 >>> (x3 &&& 31)) &&& 1) = 0 then (
  fX4_missed_57 N (fX4_missed_29 N n) x0 x2 x3 h sz) else (
  (tk_ok h 4 x0).bind fun _ =>
  (fX4_find N x0 x3 h sz).bind fun o7 =>
  Sum.elim (fun r7 =>
  (tk_ok o7.2.1 0 r7).bind fun _ =>
  (fX0_waitLonger N r7 3 o7.2.1 o7.2.2).bind fun o9 =>
  fX4_missed_57 N (fX4_missed_29 N n) x0 x2 x3 o9.1 o9.2) (fun E7 => some (Sum.inr E7, o7.2.1, o7.2.2)) o7.1))
def fX4_missed (N : Nat) (x0 : Nat) (x1 : Int32) (h : tk_AH) (sz : Nat) : Option ((Int32 ⊕ String) × tk_AH × Nat) :=
  (tk_ok h 4 x0).bind fun _ =>
  (fX4_find N x0 x1 h sz).bind fun o11 =>
  Sum.elim (fun r11 =>
  (tk_gI o11.2.1 0 13 r11).bind fun v13 =>
  if v13 = 0 then (
  fX4_missed_20 N o11.2.1 o11.2.2) else (
  (tk_gI o11.2.1 0 14 r11).bind fun v15 =>
  if v15 = 0 then (
  (tk_pF o11.2.1 0 14 r11 (.int 1)).bind fun h17 =>
  fX4_missed_29 N N x0 r11 0 h17 o11.2.2) else (
  fX4_missed_20 N o11.2.1 o11.2.2))) (fun E11 => some (Sum.inr E11, o11.2.1, o11.2.2)) o11.1
set_option maxHeartbeats 8000000 in
set_option maxRecDepth 100000 in
theorem cX4_missed_ok (l : Launch) (hl0 : l.stackTraces = false) (G : tk_AG) (N : Nat) (x0 : Nat) (x1 : Int32) (h : tk_AH) (sz : Nat) (o9 : Int32 ⊕ String) (h9 : tk_AH) (sz9 : Nat) (hf : fX4_missed N x0 x1 h sz = some (o9, h9, sz9)) : vx_Met l yX4_missed (coX4_missed :: tk_W) ({ frames := 7, cells := tk_xc o9 0, slots := tk_xs o9 0, locals := 122 }) (tk_pc G [.ref x0, .int x1] h sz) (tk_qx G (tk_oz o9) h9 sz9) (tk_xx G (tk_oz o9) h9 sz9) (tk_xc o9 0) (tk_xs o9 0) (tk_ag G) := by
  refine vx_ofW (cc := cX4_missed) (maxL := 4) (ret := (some .boolean)) (by decide) rfl ?_
  intro p e s m args below meth c s₁ B hml hout hv
  obtain ⟨hav, hE, hrp, hsz, hgs⟩ := hv
  have hx := B.exec
  have hb := B.bytes
  have hr := B.returns
  have hts := atoms_spec (ws := coX4_missed :: tk_W) B.pre
  have ht : ∀ w ∈ tk_W, w.before args s = true := fun w h => hts w (List.mem_cons_of_mem _ h)
  have hown : s.vm.findClass RX4 = some m.cls := findClass_of_methodNamed B.named
  have hlocks := B.notSynchronized
  have hs : tk_sw G s h sz s.heap [] := ⟨hrp, hsz, by rw [hsz]; exact hgs, va_S.rf⟩
  have hl := lv_entry ([.ref x0, .int x1]) (n := 4) (Nat.le_of_ble_eq_true rfl)
  have hent : entryFrame m args 4 = F0 m 0 (lg_sl ([.ref x0, .int x1]) ++ List.replicate (4 - (lg_sl ([.ref x0, .int x1])).length) Slot.unset).toArray [] := by rw [hav, lg_entry_eq]
  rw [hent]
  clear hent
  generalize (lg_sl ([.ref x0, .int x1]) ++ List.replicate (4 - (lg_sl ([.ref x0, .int x1])).length) Slot.unset).toArray = ls at hl ⊢
  have hl : lv_has ls 4 [(0, .ref x0), (1, .int x1)] := hl
  have j20 : ∀ (h : tk_AH) (sz : Nat) (H : Heap) (locs : List Loc) (ls : Array Slot), fX4_missed_20 N h sz = some (o9, h9, sz9) → tk_sw G s h sz H locs → lv_has ls 4 [] → W p l e (headSpec (coX4_missed :: tk_W) ({ frames := 7, cells := tk_xc o9 0, slots := tk_xs o9 0, locals := 122 })).room s m args below meth c H locs 0 (0) (vx_MQ below (tk_qx G (tk_oz o9) h9 sz9) (tk_xx G (tk_oz o9) h9 sz9) args s (tk_xc o9 0) (tk_xs o9 0) (tk_ag G)) (F0 m 20 ls []) := by
    intro h sz H locs ls hf hs hl
    unfold fX4_missed_20 at hf
    refine lv_iconst (v := 0) hx hb dX4_missed_20 (by decide) ?_
    obtain ⟨_, e1, hf⟩ := tk_bi hf
    have e1 := tk_bz_ok e1
    cases hf
    exact tk_xzret hx hb hr hlocks e1 hs dX4_missed_21
  have j57 : ∀ (k29 : Nat → Nat → Int32 → tk_AH → Nat → Option ((Int32 ⊕ String) × tk_AH × Nat)), (∀ (x0 : Nat) (x2 : Nat) (x3 : Int32) (h : tk_AH) (sz : Nat) (H : Heap) (locs : List Loc) (ls : Array Slot), k29 x0 x2 x3 h sz = some (o9, h9, sz9) → tk_sw G s h sz H locs → lv_has ls 4 [(0, .ref x0), (2, .ref x2), (3, .int x3)] → W p l e (headSpec (coX4_missed :: tk_W) ({ frames := 7, cells := tk_xc o9 0, slots := tk_xs o9 0, locals := 122 })).room s m args below meth c H locs 0 (0) (vx_MQ below (tk_qx G (tk_oz o9) h9 sz9) (tk_xx G (tk_oz o9) h9 sz9) args s (tk_xc o9 0) (tk_xs o9 0) (tk_ag G)) (F0 m 29 ls [])) → ∀ (x0 : Nat) (x2 : Nat) (x3 : Int32) (h : tk_AH) (sz : Nat) (H : Heap) (locs : List Loc) (ls : Array Slot), fX4_missed_57 N k29 x0 x2 x3 h sz = some (o9, h9, sz9) → tk_sw G s h sz H locs → lv_has ls 4 [(0, .ref x0), (2, .ref x2), (3, .int x3)] → W p l e (headSpec (coX4_missed :: tk_W) ({ frames := 7, cells := tk_xc o9 0, slots := tk_xs o9 0, locals := 122 })).room s m args below meth c H locs 0 (0) (vx_MQ below (tk_qx G (tk_oz o9) h9 sz9) (tk_xx G (tk_oz o9) h9 sz9) args s (tk_xc o9 0) (tk_xs o9 0) (tk_ag G)) (F0 m 57 ls []) := by
    intro k29 hk29 x0 x2 x3 h sz H locs ls hf hs hl
    unfold fX4_missed_57 at hf
    refine lv_iinc (v := x3 + 1) (lv' := [(3, .int (x3 + 1)), (0, .ref x0), (2, .ref x2)]) hx hb dX4_missed_57 hl (k := 2) rfl rfl (by decide) rfl (fun ls hl => ?_)
    refine lv_goto (tgt := 29) hx hb dX4_missed_60 (by decide) ?_
    exact hk29 x0 x2 (x3 + 1) h sz _ _ _ hf hs (lv_sub hl [1, 2, 0] rfl)
  have j29 : ∀ (n : Nat), ∀ (x0 : Nat) (x2 : Nat) (x3 : Int32) (h : tk_AH) (sz : Nat) (H : Heap) (locs : List Loc) (ls : Array Slot), fX4_missed_29 N n x0 x2 x3 h sz = some (o9, h9, sz9) → tk_sw G s h sz H locs → lv_has ls 4 [(0, .ref x0), (2, .ref x2), (3, .int x3)] → W p l e (headSpec (coX4_missed :: tk_W) ({ frames := 7, cells := tk_xc o9 0, slots := tk_xs o9 0, locals := 122 })).room s m args below meth c H locs 0 (0) (vx_MQ below (tk_qx G (tk_oz o9) h9 sz9) (tk_xx G (tk_oz o9) h9 sz9) args s (tk_xc o9 0) (tk_xs o9 0) (tk_ag G)) (F0 m 29 ls []) := by
    intro n
    induction n with
    | zero =>
      intro x0 x2 x3 h sz H locs ls hf
      cases hf
    | succ n ih =>
      intro x0 x2 x3 h sz H locs ls hf hs hl
      rw [fX4_missed_29] at hf
      refine lv_iload_n hx hb dX4_missed_29 rfl (lv_at hl 2 rfl) ?_
      refine lv_aload_n hx hb dX4_missed_30 rfl (lv_at hl 0 rfl) ?_
      obtain ⟨v2, e2, hf⟩ := tk_bi hf
      refine tk_getI hx hb ht inX4 hown hE hs rfl 6 (by decide) (ht _ wfX4_40) e2 dX4_missed_31 ?_
      refine lv_icmp_ge (tgt := 63) hx hb dX4_missed_34 (by decide) (fun c3 => ?_) (fun c3 => ?_)
      · rw [if_pos c3] at hf
        refine lv_iconst (v := 1) hx hb dX4_missed_63 (by decide) ?_
        obtain ⟨_, e4, hf⟩ := tk_bi hf
        have e4 := tk_bz_ok e4
        cases hf
        exact tk_xzret hx hb hr hlocks e4 hs dX4_missed_64
      · rw [if_neg c3] at hf
        refine lv_aload_n hx hb dX4_missed_37 rfl (lv_at hl 1 rfl) ?_
        obtain ⟨v5, e5, hf⟩ := tk_bi hf
        refine tk_getNI (host := "TongueSwap") hx hb ht inX0 hown hE hs rfl 13 (by decide) (by decide +kernel) e5 dX4_missed_38 ?_
        refine lv_iload_n hx hb dX4_missed_41 rfl (lv_at hl 2 rfl) ?_
        refine lv_ishr hx hb dX4_missed_42 ?_
        refine lv_iconst (v := 1) hx hb dX4_missed_43 (by decide) ?_
        refine lv_iand hx hb dX4_missed_44 ?_
        refine lv_if_eq (tgt := 57) hx hb dX4_missed_45 (by decide) (fun c6 => ?_) (fun c6 => ?_)
        · rw [if_pos c6] at hf
          exact j57 (fX4_missed_29 N n) ih x0 x2 x3 h sz _ _ _ hf hs (lv_sub hl [0, 1, 2] rfl)
        · rw [if_neg c6] at hf
          refine lv_aload_n hx hb dX4_missed_48 rfl (lv_at hl 0 rfl) ?_
          refine lv_iload_n hx hb dX4_missed_49 rfl (lv_at hl 2 rfl) ?_
          obtain ⟨_, p7, hf⟩ := tk_bi hf
          obtain ⟨o7, e7, hf⟩ := tk_bi hf
          rcases w7 : o7.1 with r7 | E7
          · rw [w7, Sum.elim_inl] at hf
            refine tk_xret0 (v := some (.ref r7)) hs (vx_runV (As := [.int x3]) (rest := []) ⟨hx, hb, hml, hown, ht⟩ (cX4_find_ok l hl0 G N x0 x3 h sz (Sum.inl r7) o7.2.1 o7.2.2 (by rw [e7, ← w7])) (kwX4_find ht wmX4_48 rfl rfl ⟨Nat.le_of_ble_eq_true rfl, Nat.le_of_ble_eq_true rfl⟩) (tk_preV hE hs (tk_ok_ok p7) rfl) rfl rfl hl.1 rfl (lv_room (Nat.le_of_ble_eq_true rfl)) dX4_missed_50 ⟨(Nat.zero_le _), (Nat.zero_le _)⟩) rfl rfl (fun H locs hs => ?_)
            refine W.eq (g2 := F0 m 53 ls [.ref r7]) rfl ?_
            refine lv_iconst (v := 3) hx hb dX4_missed_53 (by decide) ?_
            obtain ⟨_, p9, hf⟩ := tk_bi hf
            obtain ⟨o9, e9, hf⟩ := tk_bi hf
            refine tk_call0 (v := none) hs (va_runV (As := [.int 3]) (rest := []) ⟨hx, hb, hml, hown, ht⟩ (cX0_waitLonger_ok l hl0 G N r7 3 o7.2.1 o7.2.2 o9.1 o9.2 e9) (kwX0_waitLonger ht wmX4_186 rfl rfl ⟨Nat.le_of_ble_eq_true rfl, Nat.le_of_ble_eq_true rfl⟩) (tk_preV hE hs (tk_ok_ok p9) rfl) rfl rfl hl.1 rfl (lv_room (Nat.le_of_ble_eq_true rfl)) dX4_missed_54 ⟨(Nat.zero_le _), (Nat.zero_le _)⟩) (fun H locs hs => ?_)
            refine W.eq (g2 := F0 m 57 ls []) rfl ?_
            exact j57 (fX4_missed_29 N n) ih x0 x2 x3 o9.1 o9.2 _ _ _ hf hs (lv_sub hl [0, 1, 2] rfl)
          · rw [w7, Sum.elim_inr] at hf
            cases hf
            exact tk_xthr hs (vx_runV (As := [.int x3]) (rest := []) ⟨hx, hb, hml, hown, ht⟩ (cX4_find_ok l hl0 G N x0 x3 h sz (Sum.inr E7) o7.2.1 o7.2.2 (by rw [e7, ← w7])) (kwX4_find ht wmX4_48 rfl rfl ⟨Nat.le_of_ble_eq_true rfl, Nat.le_of_ble_eq_true rfl⟩) (tk_preV hE hs (tk_ok_ok p7) rfl) rfl rfl hl.1 rfl (lv_room (Nat.le_of_ble_eq_true rfl)) dX4_missed_50 ⟨Nat.le_of_ble_eq_true rfl, Nat.le_of_ble_eq_true rfl⟩) (fun H locs ce q9 hs hce hcv hcl => tk_xout hout hlocks hs hce hcv hcl (Nat.le_refl _) (Nat.le_refl _))
  unfold fX4_missed at hf
  refine lv_aload_n hx hb dX4_missed_0 rfl (lv_at hl 0 rfl) ?_
  refine lv_iload_n hx hb dX4_missed_1 rfl (lv_at hl 1 rfl) ?_
  obtain ⟨_, p11, hf⟩ := tk_bi hf
  obtain ⟨o11, e11, hf⟩ := tk_bi hf
  rcases w11 : o11.1 with r11 | E11
  · rw [w11, Sum.elim_inl] at hf
    refine tk_xret0 (v := some (.ref r11)) hs (vx_runV (As := [.int x1]) (rest := []) ⟨hx, hb, hml, hown, ht⟩ (cX4_find_ok l hl0 G N x0 x1 h sz (Sum.inl r11) o11.2.1 o11.2.2 (by rw [e11, ← w11])) (kwX4_find ht wmX4_48 rfl rfl ⟨Nat.le_of_ble_eq_true rfl, Nat.le_of_ble_eq_true rfl⟩) (tk_preV hE hs (tk_ok_ok p11) rfl) rfl rfl hl.1 rfl (lv_room (Nat.le_of_ble_eq_true rfl)) dX4_missed_2 ⟨(Nat.zero_le _), (Nat.zero_le _)⟩) rfl rfl (fun H locs hs => ?_)
    refine W.eq (g2 := F0 m 5 ls [.ref r11]) rfl ?_
    refine lv_astore_n (lv' := [(2, .ref r11), (0, .ref x0), (1, .int x1)]) hx hb dX4_missed_5 rfl hl (by decide) rfl (fun ls hl => ?_)
    refine lv_aload_n hx hb dX4_missed_6 rfl (lv_at hl 0 rfl) ?_
    obtain ⟨v13, e13, hf⟩ := tk_bi hf
    refine tk_getNI (host := "TongueSwap") hx hb ht inX0 hown hE hs rfl 13 (by decide) (by decide +kernel) e13 dX4_missed_7 ?_
    refine lv_if_eq (tgt := 20) hx hb dX4_missed_10 (by decide) (fun c14 => ?_) (fun c14 => ?_)
    · rw [if_pos c14] at hf
      exact j20 o11.2.1 o11.2.2 _ _ _ hf hs (lv_sub hl [] rfl)
    · rw [if_neg c14] at hf
      refine lv_aload_n hx hb dX4_missed_13 rfl (lv_at hl 0 rfl) ?_
      obtain ⟨v15, e15, hf⟩ := tk_bi hf
      refine tk_getNI (host := "TongueSwap") hx hb ht inX0 hown hE hs rfl 14 (by decide) (by decide +kernel) e15 dX4_missed_14 ?_
      refine lv_if_eq (tgt := 22) hx hb dX4_missed_17 (by decide) (fun c16 => ?_) (fun c16 => ?_)
      · rw [if_pos c16] at hf
        refine lv_aload_n hx hb dX4_missed_22 rfl (lv_at hl 0 rfl) ?_
        refine lv_iconst (v := 1) hx hb dX4_missed_23 (by decide) ?_
        obtain ⟨h17, e17, hf⟩ := tk_bi hf
        refine tk_putN (host := "TongueSwap") hx hb ht inX0 tyX0 tyX0_ok nmX0 hown hE hs rfl 14 (by decide) (by decide +kernel) rfl rfl rfl e17 dX4_missed_24 (fun H locs hs => ?_)
        refine lv_iconst (v := 0) hx hb dX4_missed_27 (by decide) ?_
        refine lv_istore_n (lv' := [(3, .int 0), (2, .ref r11), (0, .ref x0), (1, .int x1)]) hx hb dX4_missed_28 rfl hl (by decide) rfl (fun ls hl => ?_)
        exact j29 N x0 r11 0 h17 o11.2.2 _ _ _ hf hs (lv_sub hl [2, 1, 0] rfl)
      · rw [if_neg c16] at hf
        exact j20 o11.2.1 o11.2.2 _ _ _ hf hs (lv_sub hl [] rfl)
  · rw [w11, Sum.elim_inr] at hf
    cases hf
    exact tk_xthr hs (vx_runV (As := [.int x1]) (rest := []) ⟨hx, hb, hml, hown, ht⟩ (cX4_find_ok l hl0 G N x0 x1 h sz (Sum.inr E11) o11.2.1 o11.2.2 (by rw [e11, ← w11])) (kwX4_find ht wmX4_48 rfl rfl ⟨Nat.le_of_ble_eq_true rfl, Nat.le_of_ble_eq_true rfl⟩) (tk_preV hE hs (tk_ok_ok p11) rfl) rfl rfl hl.1 rfl (lv_room (Nat.le_of_ble_eq_true rfl)) dX4_missed_2 ⟨Nat.le_of_ble_eq_true rfl, Nat.le_of_ble_eq_true rfl⟩) (fun H locs ce q9 hs hce hcv hcl => tk_xout hout hlocks hs hce hcv hcl (Nat.le_refl _) (Nat.le_refl _))
def fX4_waited (N : Nat) (x0 : Nat) (x1 : Int32) (h : tk_AH) (sz : Nat) : Option ((Int32 ⊕ String) × tk_AH × Nat) :=
  (tk_ok h 4 x0).bind fun _ =>
  (fX4_find N x0 x1 h sz).bind fun o1 =>
  Sum.elim (fun r1 =>
  (tk_gI o1.2.1 0 11 r1).bind fun v3 =>
  some (Sum.inl v3, o1.2.1, o1.2.2)) (fun E1 => some (Sum.inr E1, o1.2.1, o1.2.2)) o1.1
set_option maxHeartbeats 8000000 in
set_option maxRecDepth 100000 in
theorem cX4_waited_ok (l : Launch) (hl0 : l.stackTraces = false) (G : tk_AG) (N : Nat) (x0 : Nat) (x1 : Int32) (h : tk_AH) (sz : Nat) (o9 : Int32 ⊕ String) (h9 : tk_AH) (sz9 : Nat) (hf : fX4_waited N x0 x1 h sz = some (o9, h9, sz9)) : vx_Met l yX4_waited (coX4_waited :: tk_W) ({ frames := 7, cells := tk_xc o9 0, slots := tk_xs o9 0, locals := 122 }) (tk_pc G [.ref x0, .int x1] h sz) (tk_qx G (tk_oi o9) h9 sz9) (tk_xx G (tk_oi o9) h9 sz9) (tk_xc o9 0) (tk_xs o9 0) (tk_ag G) := by
  refine vx_ofW (cc := cX4_waited) (maxL := 2) (ret := (some .int)) (by decide) rfl ?_
  intro p e s m args below meth c s₁ B hml hout hv
  obtain ⟨hav, hE, hrp, hsz, hgs⟩ := hv
  have hx := B.exec
  have hb := B.bytes
  have hr := B.returns
  have hts := atoms_spec (ws := coX4_waited :: tk_W) B.pre
  have ht : ∀ w ∈ tk_W, w.before args s = true := fun w h => hts w (List.mem_cons_of_mem _ h)
  have hown : s.vm.findClass RX4 = some m.cls := findClass_of_methodNamed B.named
  have hlocks := B.notSynchronized
  have hs : tk_sw G s h sz s.heap [] := ⟨hrp, hsz, by rw [hsz]; exact hgs, va_S.rf⟩
  have hl := lv_entry ([.ref x0, .int x1]) (n := 2) (Nat.le_of_ble_eq_true rfl)
  have hent : entryFrame m args 2 = F0 m 0 (lg_sl ([.ref x0, .int x1]) ++ List.replicate (2 - (lg_sl ([.ref x0, .int x1])).length) Slot.unset).toArray [] := by rw [hav, lg_entry_eq]
  rw [hent]
  clear hent
  generalize (lg_sl ([.ref x0, .int x1]) ++ List.replicate (2 - (lg_sl ([.ref x0, .int x1])).length) Slot.unset).toArray = ls at hl ⊢
  have hl : lv_has ls 2 [(0, .ref x0), (1, .int x1)] := hl
  unfold fX4_waited at hf
  refine lv_aload_n hx hb dX4_waited_0 rfl (lv_at hl 0 rfl) ?_
  refine lv_iload_n hx hb dX4_waited_1 rfl (lv_at hl 1 rfl) ?_
  obtain ⟨_, p1, hf⟩ := tk_bi hf
  obtain ⟨o1, e1, hf⟩ := tk_bi hf
  rcases w1 : o1.1 with r1 | E1
  · rw [w1, Sum.elim_inl] at hf
    refine tk_xret0 (v := some (.ref r1)) hs (vx_runV (As := [.int x1]) (rest := []) ⟨hx, hb, hml, hown, ht⟩ (cX4_find_ok l hl0 G N x0 x1 h sz (Sum.inl r1) o1.2.1 o1.2.2 (by rw [e1, ← w1])) (kwX4_find ht wmX4_48 rfl rfl ⟨Nat.le_of_ble_eq_true rfl, Nat.le_of_ble_eq_true rfl⟩) (tk_preV hE hs (tk_ok_ok p1) rfl) rfl rfl hl.1 rfl (lv_room (Nat.le_of_ble_eq_true rfl)) dX4_waited_2 ⟨(Nat.zero_le _), (Nat.zero_le _)⟩) rfl rfl (fun H locs hs => ?_)
    refine W.eq (g2 := F0 m 5 ls [.ref r1]) rfl ?_
    obtain ⟨v3, e3, hf⟩ := tk_bi hf
    refine tk_getNI (host := "TongueSwap") hx hb ht inX0 hown hE hs rfl 11 (by decide) (by decide +kernel) e3 dX4_waited_5 ?_
    cases hf
    exact tk_xiret hx hb hr hlocks hs dX4_waited_8
  · rw [w1, Sum.elim_inr] at hf
    cases hf
    exact tk_xthr hs (vx_runV (As := [.int x1]) (rest := []) ⟨hx, hb, hml, hown, ht⟩ (cX4_find_ok l hl0 G N x0 x1 h sz (Sum.inr E1) o1.2.1 o1.2.2 (by rw [e1, ← w1])) (kwX4_find ht wmX4_48 rfl rfl ⟨Nat.le_of_ble_eq_true rfl, Nat.le_of_ble_eq_true rfl⟩) (tk_preV hE hs (tk_ok_ok p1) rfl) rfl rfl hl.1 rfl (lv_room (Nat.le_of_ble_eq_true rfl)) dX4_waited_2 ⟨Nat.le_of_ble_eq_true rfl, Nat.le_of_ble_eq_true rfl⟩) (fun H locs ce q9 hs hce hcv hcl => tk_xout hout hlocks hs hce hcv hcl (Nat.le_refl _) (Nat.le_refl _))
def fX4_days_11 (N : Nat) (h : tk_AH) (sz : Nat) : Option ((Int32 ⊕ String) × tk_AH × Nat) :=
  some (Sum.inr "java/lang/IllegalArgumentException", h, sz + 1)
def fX4_days (N : Nat) (x0 : Nat) (x1 : Int32) (h : tk_AH) (sz : Nat) : Option ((Int32 ⊕ String) × tk_AH × Nat) :=
  if x1 < 0 then (
  fX4_days_11 N h sz) else (
  if x1 ≤ 1000 then (
  (tk_gI h 4 7 x0).bind fun v3 =>
  (tk_pF h 4 7 x0 (.int (v3 + x1))).bind fun h4 =>
  (tk_gI h4 4 7 x0).bind fun v5 =>
  some (Sum.inl v5, h4, sz)) else (
  fX4_days_11 N h sz))
set_option maxHeartbeats 8000000 in
set_option maxRecDepth 100000 in
theorem cX4_days_ok (l : Launch) (hl0 : l.stackTraces = false) (G : tk_AG) (N : Nat) (x0 : Nat) (x1 : Int32) (h : tk_AH) (sz : Nat) (o9 : Int32 ⊕ String) (h9 : tk_AH) (sz9 : Nat) (hf : fX4_days N x0 x1 h sz = some (o9, h9, sz9)) : vx_Met l yX4_days (coX4_days :: tk_W) ({ frames := 6, cells := tk_xc o9 0, slots := tk_xs o9 0, locals := 100 }) (tk_pc G [.ref x0, .int x1] h sz) (tk_qx G (tk_oi o9) h9 sz9) (tk_xx G (tk_oi o9) h9 sz9) (tk_xc o9 0) (tk_xs o9 0) (tk_ag G) := by
  refine vx_ofW (cc := cX4_days) (maxL := 2) (ret := (some .int)) (by decide) rfl ?_
  intro p e s m args below meth c s₁ B hml hout hv
  obtain ⟨hav, hE, hrp, hsz, hgs⟩ := hv
  have hx := B.exec
  have hb := B.bytes
  have hr := B.returns
  have hts := atoms_spec (ws := coX4_days :: tk_W) B.pre
  have ht : ∀ w ∈ tk_W, w.before args s = true := fun w h => hts w (List.mem_cons_of_mem _ h)
  have hown : s.vm.findClass RX4 = some m.cls := findClass_of_methodNamed B.named
  have hlocks := B.notSynchronized
  have hs : tk_sw G s h sz s.heap [] := ⟨hrp, hsz, by rw [hsz]; exact hgs, va_S.rf⟩
  have hl := lv_entry ([.ref x0, .int x1]) (n := 2) (Nat.le_of_ble_eq_true rfl)
  have hent : entryFrame m args 2 = F0 m 0 (lg_sl ([.ref x0, .int x1]) ++ List.replicate (2 - (lg_sl ([.ref x0, .int x1])).length) Slot.unset).toArray [] := by rw [hav, lg_entry_eq]
  rw [hent]
  clear hent
  generalize (lg_sl ([.ref x0, .int x1]) ++ List.replicate (2 - (lg_sl ([.ref x0, .int x1])).length) Slot.unset).toArray = ls at hl ⊢
  have hl : lv_has ls 2 [(0, .ref x0), (1, .int x1)] := hl
  have j11 : ∀ (h : tk_AH) (sz : Nat) (H : Heap) (locs : List Loc) (ls : Array Slot), fX4_days_11 N h sz = some (o9, h9, sz9) → tk_sw G s h sz H locs → lv_has ls 2 [] → W p l e (headSpec (coX4_days :: tk_W) ({ frames := 6, cells := tk_xc o9 0, slots := tk_xs o9 0, locals := 100 })).room s m args below meth c H locs 0 (0) (vx_MQ below (tk_qx G (tk_oi o9) h9 sz9) (tk_xx G (tk_oi o9) h9 sz9) args s (tk_xc o9 0) (tk_xs o9 0) (tk_ag G)) (F0 m 11 ls []) := by
    intro h sz H locs ls hf hs hl
    unfold fX4_days_11 at hf
    cases hf
    exact tk_throwIAE hx hb hml hl0 hown ht hE hs hl (by decide : ("TongueSwap", 189, "days are 0 to 1000") ∈ tk_strs) dX4_days_11 dX4_days_14 dX4_days_15 dX4_days_17 dX4_days_20 hout (Nat.le_of_ble_eq_true rfl) (Nat.le_of_ble_eq_true rfl) (Nat.le_of_ble_eq_true rfl) (Nat.le_of_ble_eq_true rfl) (Nat.le_refl _) (Nat.le_refl _) hlocks
  unfold fX4_days at hf
  refine lv_iload_n hx hb dX4_days_0 rfl (lv_at hl 1 rfl) ?_
  refine lv_if_lt (tgt := 11) hx hb dX4_days_1 (by decide) (fun c1 => ?_) (fun c1 => ?_)
  · rw [if_pos c1] at hf
    exact j11 h sz _ _ _ hf hs (lv_sub hl [] rfl)
  · rw [if_neg c1] at hf
    refine lv_iload_n hx hb dX4_days_4 rfl (lv_at hl 1 rfl) ?_
    refine lv_sipush (v := 1000) hx hb dX4_days_5 (by decide) ?_
    refine lv_icmp_le (tgt := 21) hx hb dX4_days_8 (by decide) (fun c2 => ?_) (fun c2 => ?_)
    · rw [if_pos c2] at hf
      refine lv_aload_n hx hb dX4_days_21 rfl (lv_at hl 0 rfl) ?_
      refine lv_dup hx hb dX4_days_22 rfl ?_
      obtain ⟨v3, e3, hf⟩ := tk_bi hf
      refine tk_getI hx hb ht inX4 hown hE hs rfl 7 (by decide) (ht _ wfX4_158) e3 dX4_days_23 ?_
      refine lv_iload_n hx hb dX4_days_26 rfl (lv_at hl 1 rfl) ?_
      refine lv_iadd hx hb dX4_days_27 ?_
      obtain ⟨h4, e4, hf⟩ := tk_bi hf
      refine tk_put hx hb ht inX4 tyX4 tyX4_ok nmX4 hown hE hs rfl 7 (by decide) (ht _ wfX4_158) rfl rfl rfl e4 dX4_days_28 (fun H locs hs => ?_)
      refine lv_aload_n hx hb dX4_days_31 rfl (lv_at hl 0 rfl) ?_
      obtain ⟨v5, e5, hf⟩ := tk_bi hf
      refine tk_getI hx hb ht inX4 hown hE hs rfl 7 (by decide) (ht _ wfX4_158) e5 dX4_days_32 ?_
      cases hf
      exact tk_xiret hx hb hr hlocks hs dX4_days_35
    · rw [if_neg c2] at hf
      exact j11 h sz _ _ _ hf hs (lv_sub hl [] rfl)
def fX4_word (N : Nat) (x0 : Nat) (x1 : Int32) (h : tk_AH) (sz : Nat) : Option ((Int32 ⊕ String) × tk_AH × Nat) :=
  (tk_ok h 4 x0).bind fun _ =>
  (fX4_find N x0 x1 h sz).bind fun o1 =>
  Sum.elim (fun r1 =>
  (tk_gI o1.2.1 4 7 x0).bind fun v3 =>
  (tk_ok o1.2.1 0 r1).bind fun _ =>
  (fX0_addWord N r1 v3 o1.2.1 o1.2.2).bind fun o4 =>
  some (Sum.inl o4.1, o4.2.1, o4.2.2)) (fun E1 => some (Sum.inr E1, o1.2.1, o1.2.2)) o1.1
set_option maxHeartbeats 8000000 in
set_option maxRecDepth 100000 in
theorem cX4_word_ok (l : Launch) (hl0 : l.stackTraces = false) (G : tk_AG) (N : Nat) (x0 : Nat) (x1 : Int32) (h : tk_AH) (sz : Nat) (o9 : Int32 ⊕ String) (h9 : tk_AH) (sz9 : Nat) (hf : fX4_word N x0 x1 h sz = some (o9, h9, sz9)) : vx_Met l yX4_word (coX4_word :: tk_W) ({ frames := 7, cells := tk_xc o9 0, slots := tk_xs o9 0, locals := 122 }) (tk_pc G [.ref x0, .int x1] h sz) (tk_qx G (tk_oi o9) h9 sz9) (tk_xx G (tk_oi o9) h9 sz9) (tk_xc o9 0) (tk_xs o9 0) (tk_ag G) := by
  refine vx_ofW (cc := cX4_word) (maxL := 2) (ret := (some .int)) (by decide) rfl ?_
  intro p e s m args below meth c s₁ B hml hout hv
  obtain ⟨hav, hE, hrp, hsz, hgs⟩ := hv
  have hx := B.exec
  have hb := B.bytes
  have hr := B.returns
  have hts := atoms_spec (ws := coX4_word :: tk_W) B.pre
  have ht : ∀ w ∈ tk_W, w.before args s = true := fun w h => hts w (List.mem_cons_of_mem _ h)
  have hown : s.vm.findClass RX4 = some m.cls := findClass_of_methodNamed B.named
  have hlocks := B.notSynchronized
  have hs : tk_sw G s h sz s.heap [] := ⟨hrp, hsz, by rw [hsz]; exact hgs, va_S.rf⟩
  have hl := lv_entry ([.ref x0, .int x1]) (n := 2) (Nat.le_of_ble_eq_true rfl)
  have hent : entryFrame m args 2 = F0 m 0 (lg_sl ([.ref x0, .int x1]) ++ List.replicate (2 - (lg_sl ([.ref x0, .int x1])).length) Slot.unset).toArray [] := by rw [hav, lg_entry_eq]
  rw [hent]
  clear hent
  generalize (lg_sl ([.ref x0, .int x1]) ++ List.replicate (2 - (lg_sl ([.ref x0, .int x1])).length) Slot.unset).toArray = ls at hl ⊢
  have hl : lv_has ls 2 [(0, .ref x0), (1, .int x1)] := hl
  unfold fX4_word at hf
  refine lv_aload_n hx hb dX4_word_0 rfl (lv_at hl 0 rfl) ?_
  refine lv_iload_n hx hb dX4_word_1 rfl (lv_at hl 1 rfl) ?_
  obtain ⟨_, p1, hf⟩ := tk_bi hf
  obtain ⟨o1, e1, hf⟩ := tk_bi hf
  rcases w1 : o1.1 with r1 | E1
  · rw [w1, Sum.elim_inl] at hf
    refine tk_xret0 (v := some (.ref r1)) hs (vx_runV (As := [.int x1]) (rest := []) ⟨hx, hb, hml, hown, ht⟩ (cX4_find_ok l hl0 G N x0 x1 h sz (Sum.inl r1) o1.2.1 o1.2.2 (by rw [e1, ← w1])) (kwX4_find ht wmX4_48 rfl rfl ⟨Nat.le_of_ble_eq_true rfl, Nat.le_of_ble_eq_true rfl⟩) (tk_preV hE hs (tk_ok_ok p1) rfl) rfl rfl hl.1 rfl (lv_room (Nat.le_of_ble_eq_true rfl)) dX4_word_2 ⟨(Nat.zero_le _), (Nat.zero_le _)⟩) rfl rfl (fun H locs hs => ?_)
    refine W.eq (g2 := F0 m 5 ls [.ref r1]) rfl ?_
    refine lv_aload_n hx hb dX4_word_5 rfl (lv_at hl 0 rfl) ?_
    obtain ⟨v3, e3, hf⟩ := tk_bi hf
    refine tk_getI hx hb ht inX4 hown hE hs rfl 7 (by decide) (ht _ wfX4_158) e3 dX4_word_6 ?_
    obtain ⟨_, p4, hf⟩ := tk_bi hf
    obtain ⟨o4, e4, hf⟩ := tk_bi hf
    refine tk_call0 (v := some (.int o4.1)) hs (va_runV (As := [.int v3]) (rest := []) ⟨hx, hb, hml, hown, ht⟩ (cX0_addWord_ok l hl0 G N r1 v3 o1.2.1 o1.2.2 o4.1 o4.2.1 o4.2.2 e4) (kwX0_addWord ht wmX4_191 rfl rfl ⟨Nat.le_of_ble_eq_true rfl, Nat.le_of_ble_eq_true rfl⟩) (tk_preV hE hs (tk_ok_ok p4) rfl) rfl rfl hl.1 rfl (lv_room (Nat.le_of_ble_eq_true rfl)) dX4_word_9 ⟨(Nat.zero_le _), (Nat.zero_le _)⟩) (fun H locs hs => ?_)
    refine W.eq (g2 := F0 m 12 ls [.int o4.1]) rfl ?_
    cases hf
    exact tk_xiret hx hb hr hlocks hs dX4_word_12
  · rw [w1, Sum.elim_inr] at hf
    cases hf
    exact tk_xthr hs (vx_runV (As := [.int x1]) (rest := []) ⟨hx, hb, hml, hown, ht⟩ (cX4_find_ok l hl0 G N x0 x1 h sz (Sum.inr E1) o1.2.1 o1.2.2 (by rw [e1, ← w1])) (kwX4_find ht wmX4_48 rfl rfl ⟨Nat.le_of_ble_eq_true rfl, Nat.le_of_ble_eq_true rfl⟩) (tk_preV hE hs (tk_ok_ok p1) rfl) rfl rfl hl.1 rfl (lv_room (Nat.le_of_ble_eq_true rfl)) dX4_word_2 ⟨Nat.le_of_ble_eq_true rfl, Nat.le_of_ble_eq_true rfl⟩) (fun H locs ce q9 hs hce hcv hcl => tk_xout hout hlocks hs hce hcv hcl (Nat.le_refl _) (Nat.le_refl _))
def fX4_requireWord_12 (N : Nat) (h : tk_AH) (sz : Nat) : Option ((Unit ⊕ String) × tk_AH × Nat) :=
  some (Sum.inr "java/util/NoSuchElementException", h, sz + 1)
def fX4_requireWord (N : Nat) (x0 : Nat) (x1 : Int32) (h : tk_AH) (sz : Nat) : Option ((Unit ⊕ String) × tk_AH × Nat) :=
  if x1 < 0 then (
  fX4_requireWord_12 N h sz) else (
  (tk_gI h 0 10 x0).bind fun v2 =>
  if x1 < v2 then (
  some (Sum.inl (), h, sz)) else (
  fX4_requireWord_12 N h sz))
set_option maxHeartbeats 8000000 in
set_option maxRecDepth 100000 in
theorem cX4_requireWord_ok (l : Launch) (hl0 : l.stackTraces = false) (G : tk_AG) (N : Nat) (x0 : Nat) (x1 : Int32) (h : tk_AH) (sz : Nat) (o9 : Unit ⊕ String) (h9 : tk_AH) (sz9 : Nat) (hf : fX4_requireWord N x0 x1 h sz = some (o9, h9, sz9)) : vx_Met l yX4_requireWord (coX4_requireWord :: tk_W) ({ frames := 6, cells := tk_xc o9 0, slots := tk_xs o9 0, locals := 100 }) (tk_pc G [.ref x0, .int x1] h sz) (tk_qx G (tk_ov o9) h9 sz9) (tk_xx G (tk_ov o9) h9 sz9) (tk_xc o9 0) (tk_xs o9 0) (tk_ag G) := by
  refine vx_ofW (cc := cX4_requireWord) (maxL := 2) (ret := none) (by decide) rfl ?_
  intro p e s m args below meth c s₁ B hml hout hv
  obtain ⟨hav, hE, hrp, hsz, hgs⟩ := hv
  have hx := B.exec
  have hb := B.bytes
  have hr := B.returns
  have hts := atoms_spec (ws := coX4_requireWord :: tk_W) B.pre
  have ht : ∀ w ∈ tk_W, w.before args s = true := fun w h => hts w (List.mem_cons_of_mem _ h)
  have hown : s.vm.findClass RX4 = some m.cls := findClass_of_methodNamed B.named
  have hlocks := B.notSynchronized
  have hs : tk_sw G s h sz s.heap [] := ⟨hrp, hsz, by rw [hsz]; exact hgs, va_S.rf⟩
  have hl := lv_entry ([.ref x0, .int x1]) (n := 2) (Nat.le_of_ble_eq_true rfl)
  have hent : entryFrame m args 2 = F0 m 0 (lg_sl ([.ref x0, .int x1]) ++ List.replicate (2 - (lg_sl ([.ref x0, .int x1])).length) Slot.unset).toArray [] := by rw [hav, lg_entry_eq]
  rw [hent]
  clear hent
  generalize (lg_sl ([.ref x0, .int x1]) ++ List.replicate (2 - (lg_sl ([.ref x0, .int x1])).length) Slot.unset).toArray = ls at hl ⊢
  have hl : lv_has ls 2 [(0, .ref x0), (1, .int x1)] := hl
  have j12 : ∀ (h : tk_AH) (sz : Nat) (H : Heap) (locs : List Loc) (ls : Array Slot), fX4_requireWord_12 N h sz = some (o9, h9, sz9) → tk_sw G s h sz H locs → lv_has ls 2 [] → W p l e (headSpec (coX4_requireWord :: tk_W) ({ frames := 6, cells := tk_xc o9 0, slots := tk_xs o9 0, locals := 100 })).room s m args below meth c H locs 0 (0) (vx_MQ below (tk_qx G (tk_ov o9) h9 sz9) (tk_xx G (tk_ov o9) h9 sz9) args s (tk_xc o9 0) (tk_xs o9 0) (tk_ag G)) (F0 m 12 ls []) := by
    intro h sz H locs ls hf hs hl
    unfold fX4_requireWord_12 at hf
    cases hf
    exact tk_throwNSE hx hb hml hl0 hown ht hE hs hl (by decide : ("TongueSwap", 254, "no such word") ∈ tk_strs) dX4_requireWord_12 dX4_requireWord_15 dX4_requireWord_16 dX4_requireWord_18 dX4_requireWord_21 hout (Nat.le_of_ble_eq_true rfl) (Nat.le_of_ble_eq_true rfl) (Nat.le_of_ble_eq_true rfl) (Nat.le_of_ble_eq_true rfl) (Nat.le_refl _) (Nat.le_refl _) hlocks
  unfold fX4_requireWord at hf
  refine lv_iload_n hx hb dX4_requireWord_0 rfl (lv_at hl 1 rfl) ?_
  refine lv_if_lt (tgt := 12) hx hb dX4_requireWord_1 (by decide) (fun c1 => ?_) (fun c1 => ?_)
  · rw [if_pos c1] at hf
    exact j12 h sz _ _ _ hf hs (lv_sub hl [] rfl)
  · rw [if_neg c1] at hf
    refine lv_iload_n hx hb dX4_requireWord_4 rfl (lv_at hl 1 rfl) ?_
    refine lv_aload_n hx hb dX4_requireWord_5 rfl (lv_at hl 0 rfl) ?_
    obtain ⟨v2, e2, hf⟩ := tk_bi hf
    refine tk_getNI (host := "TongueSwap") hx hb ht inX0 hown hE hs rfl 10 (by decide) (by decide +kernel) e2 dX4_requireWord_6 ?_
    refine lv_icmp_lt (tgt := 22) hx hb dX4_requireWord_9 (by decide) (fun c3 => ?_) (fun c3 => ?_)
    · rw [if_pos c3] at hf
      cases hf
      exact tk_xvret hx hb hr hlocks hs dX4_requireWord_22
    · rw [if_neg c3] at hf
      exact j12 h sz _ _ _ hf hs (lv_sub hl [] rfl)
def fX4_asked (N : Nat) (x0 : Nat) (x1 : Int32) (x2 : Int32) (x3 : Int32) (h : tk_AH) (sz : Nat) : Option ((Int32 ⊕ String) × tk_AH × Nat) :=
  (tk_ok h 4 x0).bind fun _ =>
  (fX4_find N x0 x1 h sz).bind fun o1 =>
  Sum.elim (fun r1 =>
  (fX4_requireWord N r1 x2 o1.2.1 o1.2.2).bind fun o3 =>
  Sum.elim (fun r3 =>
  (tk_gI o3.2.1 4 7 x0).bind fun v4 =>
  (tk_ok o3.2.1 0 r1).bind fun _ =>
  (fX0_answerWord N r1 x2 x3 v4 o3.2.1 o3.2.2).bind fun o5 =>
  (tk_bz o5.1).bind fun _ =>
  some (Sum.inl o5.1, o5.2.1, o5.2.2)) (fun E3 => some (Sum.inr E3, o3.2.1, o3.2.2)) o3.1) (fun E1 => some (Sum.inr E1, o1.2.1, o1.2.2)) o1.1
set_option maxHeartbeats 8000000 in
set_option maxRecDepth 100000 in
theorem cX4_asked_ok (l : Launch) (hl0 : l.stackTraces = false) (G : tk_AG) (N : Nat) (x0 : Nat) (x1 : Int32) (x2 : Int32) (x3 : Int32) (h : tk_AH) (sz : Nat) (o9 : Int32 ⊕ String) (h9 : tk_AH) (sz9 : Nat) (hf : fX4_asked N x0 x1 x2 x3 h sz = some (o9, h9, sz9)) : vx_Met l yX4_asked (coX4_asked :: tk_W) ({ frames := 7, cells := tk_xc o9 0, slots := tk_xs o9 0, locals := 122 }) (tk_pc G [.ref x0, .int x1, .int x2, .int x3] h sz) (tk_qx G (tk_oz o9) h9 sz9) (tk_xx G (tk_oz o9) h9 sz9) (tk_xc o9 0) (tk_xs o9 0) (tk_ag G) := by
  refine vx_ofW (cc := cX4_asked) (maxL := 5) (ret := (some .boolean)) (by decide) rfl ?_
  intro p e s m args below meth c s₁ B hml hout hv
  obtain ⟨hav, hE, hrp, hsz, hgs⟩ := hv
  have hx := B.exec
  have hb := B.bytes
  have hr := B.returns
  have hts := atoms_spec (ws := coX4_asked :: tk_W) B.pre
  have ht : ∀ w ∈ tk_W, w.before args s = true := fun w h => hts w (List.mem_cons_of_mem _ h)
  have hown : s.vm.findClass RX4 = some m.cls := findClass_of_methodNamed B.named
  have hlocks := B.notSynchronized
  have hs : tk_sw G s h sz s.heap [] := ⟨hrp, hsz, by rw [hsz]; exact hgs, va_S.rf⟩
  have hl := lv_entry ([.ref x0, .int x1, .int x2, .int x3]) (n := 5) (Nat.le_of_ble_eq_true rfl)
  have hent : entryFrame m args 5 = F0 m 0 (lg_sl ([.ref x0, .int x1, .int x2, .int x3]) ++ List.replicate (5 - (lg_sl ([.ref x0, .int x1, .int x2, .int x3])).length) Slot.unset).toArray [] := by rw [hav, lg_entry_eq]
  rw [hent]
  clear hent
  generalize (lg_sl ([.ref x0, .int x1, .int x2, .int x3]) ++ List.replicate (5 - (lg_sl ([.ref x0, .int x1, .int x2, .int x3])).length) Slot.unset).toArray = ls at hl ⊢
  have hl : lv_has ls 5 [(0, .ref x0), (1, .int x1), (2, .int x2), (3, .int x3)] := hl
  unfold fX4_asked at hf
  refine lv_aload_n hx hb dX4_asked_0 rfl (lv_at hl 0 rfl) ?_
  refine lv_iload_n hx hb dX4_asked_1 rfl (lv_at hl 1 rfl) ?_
  obtain ⟨_, p1, hf⟩ := tk_bi hf
  obtain ⟨o1, e1, hf⟩ := tk_bi hf
  rcases w1 : o1.1 with r1 | E1
  · rw [w1, Sum.elim_inl] at hf
    refine tk_xret0 (v := some (.ref r1)) hs (vx_runV (As := [.int x1]) (rest := []) ⟨hx, hb, hml, hown, ht⟩ (cX4_find_ok l hl0 G N x0 x1 h sz (Sum.inl r1) o1.2.1 o1.2.2 (by rw [e1, ← w1])) (kwX4_find ht wmX4_48 rfl rfl ⟨Nat.le_of_ble_eq_true rfl, Nat.le_of_ble_eq_true rfl⟩) (tk_preV hE hs (tk_ok_ok p1) rfl) rfl rfl hl.1 rfl (lv_room (Nat.le_of_ble_eq_true rfl)) dX4_asked_2 ⟨(Nat.zero_le _), (Nat.zero_le _)⟩) rfl rfl (fun H locs hs => ?_)
    refine W.eq (g2 := F0 m 5 ls [.ref r1]) rfl ?_
    refine lv_astore (lv' := [(4, .ref r1), (0, .ref x0), (1, .int x1), (2, .int x2), (3, .int x3)]) hx hb dX4_asked_5 hl (by decide) rfl (fun ls hl => ?_)
    refine lv_aload hx hb dX4_asked_7 (lv_at hl 0 rfl) ?_
    refine lv_iload_n hx hb dX4_asked_9 rfl (lv_at hl 3 rfl) ?_
    obtain ⟨o3, e3, hf⟩ := tk_bi hf
    rcases w3 : o3.1 with r3 | E3
    · rw [w3, Sum.elim_inl] at hf
      refine tk_xret0 (v := none) hs (vx_runS (As := [.ref r1, .int x2]) (rest := []) ⟨hx, hb, hml, hown, ht⟩ (cX4_requireWord_ok l hl0 G N r1 x2 o1.2.1 o1.2.2 (Sum.inl r3) o3.2.1 o3.2.2 (by rw [e3, ← w3])) (kwX4_requireWord ht wmX4_194 rfl rfl ⟨Nat.le_of_ble_eq_true rfl, Nat.le_of_ble_eq_true rfl⟩) (tk_preS hE hs) rfl rfl hl.1 rfl (lv_room (Nat.le_of_ble_eq_true rfl)) dX4_asked_10 ⟨(Nat.zero_le _), (Nat.zero_le _)⟩) rfl rfl (fun H locs hs => ?_)
      refine W.eq (g2 := F0 m 13 ls []) rfl ?_
      refine lv_aload hx hb dX4_asked_13 (lv_at hl 0 rfl) ?_
      refine lv_iload_n hx hb dX4_asked_15 rfl (lv_at hl 3 rfl) ?_
      refine lv_iload_n hx hb dX4_asked_16 rfl (lv_at hl 4 rfl) ?_
      refine lv_aload_n hx hb dX4_asked_17 rfl (lv_at hl 1 rfl) ?_
      obtain ⟨v4, e4, hf⟩ := tk_bi hf
      refine tk_getI hx hb ht inX4 hown hE hs rfl 7 (by decide) (ht _ wfX4_158) e4 dX4_asked_18 ?_
      obtain ⟨_, p5, hf⟩ := tk_bi hf
      obtain ⟨o5, e5, hf⟩ := tk_bi hf
      refine tk_call0 (v := some (.int o5.1)) hs (va_runV (As := [.int x2, .int x3, .int v4]) (rest := []) ⟨hx, hb, hml, hown, ht⟩ (cX0_answerWord_ok l hl0 G N r1 x2 x3 v4 o3.2.1 o3.2.2 o5.1 o5.2.1 o5.2.2 e5) (kwX0_answerWord ht wmX4_198 rfl rfl ⟨Nat.le_of_ble_eq_true rfl, Nat.le_of_ble_eq_true rfl⟩) (tk_preV hE hs (tk_ok_ok p5) rfl) rfl rfl hl.1 rfl (lv_room (Nat.le_of_ble_eq_true rfl)) dX4_asked_21 ⟨(Nat.zero_le _), (Nat.zero_le _)⟩) (fun H locs hs => ?_)
      refine W.eq (g2 := F0 m 24 ls [.int o5.1]) rfl ?_
      obtain ⟨_, e7, hf⟩ := tk_bi hf
      have e7 := tk_bz_ok e7
      cases hf
      exact tk_xzret hx hb hr hlocks e7 hs dX4_asked_24
    · rw [w3, Sum.elim_inr] at hf
      cases hf
      exact tk_xthr hs (vx_runS (As := [.ref r1, .int x2]) (rest := []) ⟨hx, hb, hml, hown, ht⟩ (cX4_requireWord_ok l hl0 G N r1 x2 o1.2.1 o1.2.2 (Sum.inr E3) o3.2.1 o3.2.2 (by rw [e3, ← w3])) (kwX4_requireWord ht wmX4_194 rfl rfl ⟨Nat.le_of_ble_eq_true rfl, Nat.le_of_ble_eq_true rfl⟩) (tk_preS hE hs) rfl rfl hl.1 rfl (lv_room (Nat.le_of_ble_eq_true rfl)) dX4_asked_10 ⟨Nat.le_of_ble_eq_true rfl, Nat.le_of_ble_eq_true rfl⟩) (fun H locs ce q9 hs hce hcv hcl => tk_xout hout hlocks hs hce hcv hcl (Nat.le_refl _) (Nat.le_refl _))
  · rw [w1, Sum.elim_inr] at hf
    cases hf
    exact tk_xthr hs (vx_runV (As := [.int x1]) (rest := []) ⟨hx, hb, hml, hown, ht⟩ (cX4_find_ok l hl0 G N x0 x1 h sz (Sum.inr E1) o1.2.1 o1.2.2 (by rw [e1, ← w1])) (kwX4_find ht wmX4_48 rfl rfl ⟨Nat.le_of_ble_eq_true rfl, Nat.le_of_ble_eq_true rfl⟩) (tk_preV hE hs (tk_ok_ok p1) rfl) rfl rfl hl.1 rfl (lv_room (Nat.le_of_ble_eq_true rfl)) dX4_asked_2 ⟨Nat.le_of_ble_eq_true rfl, Nat.le_of_ble_eq_true rfl⟩) (fun H locs ce q9 hs hce hcv hcl => tk_xout hout hlocks hs hce hcv hcl (Nat.le_refl _) (Nat.le_refl _))
def fX4_wordOf (N : Nat) (x0 : Nat) (x1 : Int32) (x2 : Int32) (x3 : Int32) (h : tk_AH) (sz : Nat) : Option ((Int32 ⊕ String) × tk_AH × Nat) :=
  (tk_ok h 4 x0).bind fun _ =>
  (fX4_find N x0 x1 h sz).bind fun o1 =>
  Sum.elim (fun r1 =>
  (fX4_requireWord N r1 x2 o1.2.1 o1.2.2).bind fun o3 =>
  Sum.elim (fun r3 =>
  if x3 = 0 then (
  (tk_gR o3.2.1 0 6 r1).bind fun v5 =>
  (tk_aI o3.2.1 0 v5 x2).bind fun v6 =>
  some (Sum.inl v6, o3.2.1, o3.2.2)) else if x3 = 1 then (
  (tk_gR o3.2.1 0 7 r1).bind fun v8 =>
  (tk_aI o3.2.1 0 v8 x2).bind fun v9 =>
  some (Sum.inl v9, o3.2.1, o3.2.2)) else (
  some (Sum.inr "java/util/NoSuchElementException", o3.2.1, o3.2.2 + 1))) (fun E3 => some (Sum.inr E3, o3.2.1, o3.2.2)) o3.1) (fun E1 => some (Sum.inr E1, o1.2.1, o1.2.2)) o1.1
set_option maxHeartbeats 8000000 in
set_option maxRecDepth 100000 in
theorem cX4_wordOf_ok (l : Launch) (hl0 : l.stackTraces = false) (G : tk_AG) (N : Nat) (x0 : Nat) (x1 : Int32) (x2 : Int32) (x3 : Int32) (h : tk_AH) (sz : Nat) (o9 : Int32 ⊕ String) (h9 : tk_AH) (sz9 : Nat) (hf : fX4_wordOf N x0 x1 x2 x3 h sz = some (o9, h9, sz9)) : vx_Met l yX4_wordOf (coX4_wordOf :: tk_W) ({ frames := 7, cells := tk_xc o9 0, slots := tk_xs o9 0, locals := 122 }) (tk_pc G [.ref x0, .int x1, .int x2, .int x3] h sz) (tk_qx G (tk_oi o9) h9 sz9) (tk_xx G (tk_oi o9) h9 sz9) (tk_xc o9 0) (tk_xs o9 0) (tk_ag G) := by
  refine vx_ofW (cc := cX4_wordOf) (maxL := 5) (ret := (some .int)) (by decide) rfl ?_
  intro p e s m args below meth c s₁ B hml hout hv
  obtain ⟨hav, hE, hrp, hsz, hgs⟩ := hv
  have hx := B.exec
  have hb := B.bytes
  have hr := B.returns
  have hts := atoms_spec (ws := coX4_wordOf :: tk_W) B.pre
  have ht : ∀ w ∈ tk_W, w.before args s = true := fun w h => hts w (List.mem_cons_of_mem _ h)
  have hown : s.vm.findClass RX4 = some m.cls := findClass_of_methodNamed B.named
  have hlocks := B.notSynchronized
  have hs : tk_sw G s h sz s.heap [] := ⟨hrp, hsz, by rw [hsz]; exact hgs, va_S.rf⟩
  have hl := lv_entry ([.ref x0, .int x1, .int x2, .int x3]) (n := 5) (Nat.le_of_ble_eq_true rfl)
  have hent : entryFrame m args 5 = F0 m 0 (lg_sl ([.ref x0, .int x1, .int x2, .int x3]) ++ List.replicate (5 - (lg_sl ([.ref x0, .int x1, .int x2, .int x3])).length) Slot.unset).toArray [] := by rw [hav, lg_entry_eq]
  rw [hent]
  clear hent
  generalize (lg_sl ([.ref x0, .int x1, .int x2, .int x3]) ++ List.replicate (5 - (lg_sl ([.ref x0, .int x1, .int x2, .int x3])).length) Slot.unset).toArray = ls at hl ⊢
  have hl : lv_has ls 5 [(0, .ref x0), (1, .int x1), (2, .int x2), (3, .int x3)] := hl
  unfold fX4_wordOf at hf
  refine lv_aload_n hx hb dX4_wordOf_0 rfl (lv_at hl 0 rfl) ?_
  refine lv_iload_n hx hb dX4_wordOf_1 rfl (lv_at hl 1 rfl) ?_
  obtain ⟨_, p1, hf⟩ := tk_bi hf
  obtain ⟨o1, e1, hf⟩ := tk_bi hf
  rcases w1 : o1.1 with r1 | E1
  · rw [w1, Sum.elim_inl] at hf
    refine tk_xret0 (v := some (.ref r1)) hs (vx_runV (As := [.int x1]) (rest := []) ⟨hx, hb, hml, hown, ht⟩ (cX4_find_ok l hl0 G N x0 x1 h sz (Sum.inl r1) o1.2.1 o1.2.2 (by rw [e1, ← w1])) (kwX4_find ht wmX4_48 rfl rfl ⟨Nat.le_of_ble_eq_true rfl, Nat.le_of_ble_eq_true rfl⟩) (tk_preV hE hs (tk_ok_ok p1) rfl) rfl rfl hl.1 rfl (lv_room (Nat.le_of_ble_eq_true rfl)) dX4_wordOf_2 ⟨(Nat.zero_le _), (Nat.zero_le _)⟩) rfl rfl (fun H locs hs => ?_)
    refine W.eq (g2 := F0 m 5 ls [.ref r1]) rfl ?_
    refine lv_astore (lv' := [(4, .ref r1), (0, .ref x0), (1, .int x1), (2, .int x2), (3, .int x3)]) hx hb dX4_wordOf_5 hl (by decide) rfl (fun ls hl => ?_)
    refine lv_aload hx hb dX4_wordOf_7 (lv_at hl 0 rfl) ?_
    refine lv_iload_n hx hb dX4_wordOf_9 rfl (lv_at hl 3 rfl) ?_
    obtain ⟨o3, e3, hf⟩ := tk_bi hf
    rcases w3 : o3.1 with r3 | E3
    · rw [w3, Sum.elim_inl] at hf
      refine tk_xret0 (v := none) hs (vx_runS (As := [.ref r1, .int x2]) (rest := []) ⟨hx, hb, hml, hown, ht⟩ (cX4_requireWord_ok l hl0 G N r1 x2 o1.2.1 o1.2.2 (Sum.inl r3) o3.2.1 o3.2.2 (by rw [e3, ← w3])) (kwX4_requireWord ht wmX4_194 rfl rfl ⟨Nat.le_of_ble_eq_true rfl, Nat.le_of_ble_eq_true rfl⟩) (tk_preS hE hs) rfl rfl hl.1 rfl (lv_room (Nat.le_of_ble_eq_true rfl)) dX4_wordOf_10 ⟨(Nat.zero_le _), (Nat.zero_le _)⟩) rfl rfl (fun H locs hs => ?_)
      refine W.eq (g2 := F0 m 13 ls []) rfl ?_
      refine lv_iload_n hx hb dX4_wordOf_13 rfl (lv_at hl 4 rfl) ?_
      by_cases c4 : x3 = 0
      · rw [if_pos c4] at hf
        refine lv_lookup (off := 26) (tgt := 40) hx hb dX4_wordOf_14 (by decide) (by rw [c4]; decide) (by decide) ?_
        refine lv_aload hx hb dX4_wordOf_40 (lv_at hl 0 rfl) ?_
        obtain ⟨v5, e5, hf⟩ := tk_bi hf
        refine tk_getNR (host := "TongueSwap") hx hb ht inX0 hown hE hs rfl 6 (by decide) (by decide +kernel) e5 dX4_wordOf_42 ?_
        refine lv_iload_n hx hb dX4_wordOf_45 rfl (lv_at hl 3 rfl) ?_
        obtain ⟨v6, e6, hf⟩ := tk_bi hf
        refine tk_iald hx hb hE hs e6 dX4_wordOf_46 ?_
        cases hf
        exact tk_xiret hx hb hr hlocks hs dX4_wordOf_47
      rw [if_neg c4] at hf
      by_cases c7 : x3 = 1
      · rw [if_pos c7] at hf
        refine lv_lookup (off := 34) (tgt := 48) hx hb dX4_wordOf_14 (by decide) (by rw [c7]; decide) (by decide) ?_
        refine lv_aload hx hb dX4_wordOf_48 (lv_at hl 0 rfl) ?_
        obtain ⟨v8, e8, hf⟩ := tk_bi hf
        refine tk_getNR (host := "TongueSwap") hx hb ht inX0 hown hE hs rfl 7 (by decide) (by decide +kernel) e8 dX4_wordOf_50 ?_
        refine lv_iload_n hx hb dX4_wordOf_53 rfl (lv_at hl 3 rfl) ?_
        obtain ⟨v9, e9, hf⟩ := tk_bi hf
        refine tk_iald hx hb hE hs e9 dX4_wordOf_54 ?_
        cases hf
        exact tk_xiret hx hb hr hlocks hs dX4_wordOf_55
      rw [if_neg c7] at hf
      refine lv_lookup (off := 42) (tgt := 56) hx hb dX4_wordOf_14 (by decide) ((lv_osw c4 rfl).trans ((lv_osw c7 rfl).trans rfl)) (by decide) ?_
      cases hf
      exact tk_throwNSE hx hb hml hl0 hown ht hE hs hl (by decide : ("TongueSwap", 208, "a word has no such part") ∈ tk_strs) dX4_wordOf_56 dX4_wordOf_59 dX4_wordOf_60 dX4_wordOf_62 dX4_wordOf_65 hout (Nat.le_of_ble_eq_true rfl) (Nat.le_of_ble_eq_true rfl) (Nat.le_of_ble_eq_true rfl) (Nat.le_of_ble_eq_true rfl) (Nat.le_refl _) (Nat.le_refl _) hlocks
    · rw [w3, Sum.elim_inr] at hf
      cases hf
      exact tk_xthr hs (vx_runS (As := [.ref r1, .int x2]) (rest := []) ⟨hx, hb, hml, hown, ht⟩ (cX4_requireWord_ok l hl0 G N r1 x2 o1.2.1 o1.2.2 (Sum.inr E3) o3.2.1 o3.2.2 (by rw [e3, ← w3])) (kwX4_requireWord ht wmX4_194 rfl rfl ⟨Nat.le_of_ble_eq_true rfl, Nat.le_of_ble_eq_true rfl⟩) (tk_preS hE hs) rfl rfl hl.1 rfl (lv_room (Nat.le_of_ble_eq_true rfl)) dX4_wordOf_10 ⟨Nat.le_of_ble_eq_true rfl, Nat.le_of_ble_eq_true rfl⟩) (fun H locs ce q9 hs hce hcv hcl => tk_xout hout hlocks hs hce hcv hcl (Nat.le_refl _) (Nat.le_refl _))
  · rw [w1, Sum.elim_inr] at hf
    cases hf
    exact tk_xthr hs (vx_runV (As := [.int x1]) (rest := []) ⟨hx, hb, hml, hown, ht⟩ (cX4_find_ok l hl0 G N x0 x1 h sz (Sum.inr E1) o1.2.1 o1.2.2 (by rw [e1, ← w1])) (kwX4_find ht wmX4_48 rfl rfl ⟨Nat.le_of_ble_eq_true rfl, Nat.le_of_ble_eq_true rfl⟩) (tk_preV hE hs (tk_ok_ok p1) rfl) rfl rfl hl.1 rfl (lv_room (Nat.le_of_ble_eq_true rfl)) dX4_wordOf_2 ⟨Nat.le_of_ble_eq_true rfl, Nat.le_of_ble_eq_true rfl⟩) (fun H locs ce q9 hs hce hcv hcl => tk_xout hout hlocks hs hce hcv hcl (Nat.le_refl _) (Nat.le_refl _))
def fX4_next (N : Nat) (x0 : Nat) (x1 : Int32) (h : tk_AH) (sz : Nat) : Option ((Int32 ⊕ String) × tk_AH × Nat) :=
  (tk_ok h 4 x0).bind fun _ =>
  (fX4_find N x0 x1 h sz).bind fun o1 =>
  Sum.elim (fun r1 =>
  (tk_gI o1.2.1 4 7 x0).bind fun v3 =>
  (tk_ok o1.2.1 0 r1).bind fun _ =>
  (fX0_firstDue N r1 v3 o1.2.1 o1.2.2).bind fun o4 =>
  some (Sum.inl o4.1, o4.2.1, o4.2.2)) (fun E1 => some (Sum.inr E1, o1.2.1, o1.2.2)) o1.1
set_option maxHeartbeats 8000000 in
set_option maxRecDepth 100000 in
theorem cX4_next_ok (l : Launch) (hl0 : l.stackTraces = false) (G : tk_AG) (N : Nat) (x0 : Nat) (x1 : Int32) (h : tk_AH) (sz : Nat) (o9 : Int32 ⊕ String) (h9 : tk_AH) (sz9 : Nat) (hf : fX4_next N x0 x1 h sz = some (o9, h9, sz9)) : vx_Met l yX4_next (coX4_next :: tk_W) ({ frames := 7, cells := tk_xc o9 0, slots := tk_xs o9 0, locals := 122 }) (tk_pc G [.ref x0, .int x1] h sz) (tk_qx G (tk_oi o9) h9 sz9) (tk_xx G (tk_oi o9) h9 sz9) (tk_xc o9 0) (tk_xs o9 0) (tk_ag G) := by
  refine vx_ofW (cc := cX4_next) (maxL := 2) (ret := (some .int)) (by decide) rfl ?_
  intro p e s m args below meth c s₁ B hml hout hv
  obtain ⟨hav, hE, hrp, hsz, hgs⟩ := hv
  have hx := B.exec
  have hb := B.bytes
  have hr := B.returns
  have hts := atoms_spec (ws := coX4_next :: tk_W) B.pre
  have ht : ∀ w ∈ tk_W, w.before args s = true := fun w h => hts w (List.mem_cons_of_mem _ h)
  have hown : s.vm.findClass RX4 = some m.cls := findClass_of_methodNamed B.named
  have hlocks := B.notSynchronized
  have hs : tk_sw G s h sz s.heap [] := ⟨hrp, hsz, by rw [hsz]; exact hgs, va_S.rf⟩
  have hl := lv_entry ([.ref x0, .int x1]) (n := 2) (Nat.le_of_ble_eq_true rfl)
  have hent : entryFrame m args 2 = F0 m 0 (lg_sl ([.ref x0, .int x1]) ++ List.replicate (2 - (lg_sl ([.ref x0, .int x1])).length) Slot.unset).toArray [] := by rw [hav, lg_entry_eq]
  rw [hent]
  clear hent
  generalize (lg_sl ([.ref x0, .int x1]) ++ List.replicate (2 - (lg_sl ([.ref x0, .int x1])).length) Slot.unset).toArray = ls at hl ⊢
  have hl : lv_has ls 2 [(0, .ref x0), (1, .int x1)] := hl
  unfold fX4_next at hf
  refine lv_aload_n hx hb dX4_next_0 rfl (lv_at hl 0 rfl) ?_
  refine lv_iload_n hx hb dX4_next_1 rfl (lv_at hl 1 rfl) ?_
  obtain ⟨_, p1, hf⟩ := tk_bi hf
  obtain ⟨o1, e1, hf⟩ := tk_bi hf
  rcases w1 : o1.1 with r1 | E1
  · rw [w1, Sum.elim_inl] at hf
    refine tk_xret0 (v := some (.ref r1)) hs (vx_runV (As := [.int x1]) (rest := []) ⟨hx, hb, hml, hown, ht⟩ (cX4_find_ok l hl0 G N x0 x1 h sz (Sum.inl r1) o1.2.1 o1.2.2 (by rw [e1, ← w1])) (kwX4_find ht wmX4_48 rfl rfl ⟨Nat.le_of_ble_eq_true rfl, Nat.le_of_ble_eq_true rfl⟩) (tk_preV hE hs (tk_ok_ok p1) rfl) rfl rfl hl.1 rfl (lv_room (Nat.le_of_ble_eq_true rfl)) dX4_next_2 ⟨(Nat.zero_le _), (Nat.zero_le _)⟩) rfl rfl (fun H locs hs => ?_)
    refine W.eq (g2 := F0 m 5 ls [.ref r1]) rfl ?_
    refine lv_aload_n hx hb dX4_next_5 rfl (lv_at hl 0 rfl) ?_
    obtain ⟨v3, e3, hf⟩ := tk_bi hf
    refine tk_getI hx hb ht inX4 hown hE hs rfl 7 (by decide) (ht _ wfX4_158) e3 dX4_next_6 ?_
    obtain ⟨_, p4, hf⟩ := tk_bi hf
    obtain ⟨o4, e4, hf⟩ := tk_bi hf
    refine tk_call0 (v := some (.int o4.1)) hs (va_runV (As := [.int v3]) (rest := []) ⟨hx, hb, hml, hown, ht⟩ (cX0_firstDue_ok l hl0 G N r1 v3 o1.2.1 o1.2.2 o4.1 o4.2.1 o4.2.2 e4) (kwX0_firstDue ht wmX4_210 rfl rfl ⟨Nat.le_of_ble_eq_true rfl, Nat.le_of_ble_eq_true rfl⟩) (tk_preV hE hs (tk_ok_ok p4) rfl) rfl rfl hl.1 rfl (lv_room (Nat.le_of_ble_eq_true rfl)) dX4_next_9 ⟨(Nat.zero_le _), (Nat.zero_le _)⟩) (fun H locs hs => ?_)
    refine W.eq (g2 := F0 m 12 ls [.int o4.1]) rfl ?_
    cases hf
    exact tk_xiret hx hb hr hlocks hs dX4_next_12
  · rw [w1, Sum.elim_inr] at hf
    cases hf
    exact tk_xthr hs (vx_runV (As := [.int x1]) (rest := []) ⟨hx, hb, hml, hown, ht⟩ (cX4_find_ok l hl0 G N x0 x1 h sz (Sum.inr E1) o1.2.1 o1.2.2 (by rw [e1, ← w1])) (kwX4_find ht wmX4_48 rfl rfl ⟨Nat.le_of_ble_eq_true rfl, Nat.le_of_ble_eq_true rfl⟩) (tk_preV hE hs (tk_ok_ok p1) rfl) rfl rfl hl.1 rfl (lv_room (Nat.le_of_ble_eq_true rfl)) dX4_next_2 ⟨Nat.le_of_ble_eq_true rfl, Nat.le_of_ble_eq_true rfl⟩) (fun H locs ce q9 hs hce hcv hcl => tk_xout hout hlocks hs hce hcv hcl (Nat.le_refl _) (Nat.le_refl _))
def fX4_feed (N : Nat) (x0 : Nat) (x1 : Int32) (x2 : Int32) (x3 : Int32) (x4 : Int32) (x5 : Int32) (h : tk_AH) (sz : Nat) : Option (Int32 × tk_AH × Nat) :=
  (tk_gR h 4 3 x0).bind fun v1 =>
  (tk_ok h 2 v1).bind fun _ =>
  (fX2_hasRoom N v1 h sz).bind fun o2 =>
  if o2.1 = 0 then (
  some ((-1), o2.2.1, o2.2.2)) else (
  (tk_gR o2.2.1 4 3 x0).bind fun v5 =>
  (tk_ok o2.2.1 2 v5).bind fun _ =>
  (fX2_append N v5 x1 o2.2.1 o2.2.2).bind fun o6 =>
  (tk_gR o6.1 4 3 x0).bind fun v8 =>
  (tk_ok o6.1 2 v8).bind fun _ =>
  (fX2_append N v8 x2 o6.1 o6.2).bind fun o9 =>
  (tk_gR o9.1 4 3 x0).bind fun v11 =>
  (tk_ok o9.1 2 v11).bind fun _ =>
  (fX2_append N v11 x3 o9.1 o9.2).bind fun o12 =>
  (tk_gR o12.1 4 3 x0).bind fun v14 =>
  (tk_ok o12.1 2 v14).bind fun _ =>
  (fX2_append N v14 x4 o12.1 o12.2).bind fun o15 =>
  (tk_gR o15.1 4 3 x0).bind fun v17 =>
  (tk_ok o15.1 2 v17).bind fun _ =>
  (fX2_append N v17 x5 o15.1 o15.2).bind fun o18 =>
  (tk_gR o18.1 4 3 x0).bind fun v20 =>
  (tk_gI o18.1 2 4 v20).bind fun v21 =>
  some (v21, o18.1, o18.2))
set_option maxHeartbeats 8000000 in
set_option maxRecDepth 100000 in
theorem cX4_feed_ok (l : Launch) (hl0 : l.stackTraces = false) (G : tk_AG) (N : Nat) (x0 : Nat) (x1 : Int32) (x2 : Int32) (x3 : Int32) (x4 : Int32) (x5 : Int32) (h : tk_AH) (sz : Nat) (r9 : Int32) (h9 : tk_AH) (sz9 : Nat) (hf : fX4_feed N x0 x1 x2 x3 x4 x5 h sz = some (r9, h9, sz9)) : Met l yX4_feed (coX4_feed :: tk_W) ({ frames := 1, cells := 0, slots := 0, locals := 22 }) (tk_pc G [.ref x0, .int x1, .int x2, .int x3, .int x4, .int x5] h sz) (tk_qc G (some (.int r9)) h9 sz9) 0 0 (tk_ag G) := by
  refine Met.ofW (cc := cX4_feed) (maxL := 6) (ret := (some .int)) (by decide) rfl ?_
  intro p e s m args below meth c s₁ B hml hv
  obtain ⟨hav, hE, hrp, hsz, hgs⟩ := hv
  have hx := B.exec
  have hb := B.bytes
  have hr := B.returns
  have hts := atoms_spec (ws := coX4_feed :: tk_W) B.pre
  have ht : ∀ w ∈ tk_W, w.before args s = true := fun w h => hts w (List.mem_cons_of_mem _ h)
  have hown : s.vm.findClass RX4 = some m.cls := findClass_of_methodNamed B.named
  have hlocks := B.notSynchronized
  have hs : tk_sw G s h sz s.heap [] := ⟨hrp, hsz, by rw [hsz]; exact hgs, va_S.rf⟩
  have hl := lv_entry ([.ref x0, .int x1, .int x2, .int x3, .int x4, .int x5]) (n := 6) (Nat.le_of_ble_eq_true rfl)
  have hent : entryFrame m args 6 = F0 m 0 (lg_sl ([.ref x0, .int x1, .int x2, .int x3, .int x4, .int x5]) ++ List.replicate (6 - (lg_sl ([.ref x0, .int x1, .int x2, .int x3, .int x4, .int x5])).length) Slot.unset).toArray [] := by rw [hav, lg_entry_eq]
  rw [hent]
  clear hent
  generalize (lg_sl ([.ref x0, .int x1, .int x2, .int x3, .int x4, .int x5]) ++ List.replicate (6 - (lg_sl ([.ref x0, .int x1, .int x2, .int x3, .int x4, .int x5])).length) Slot.unset).toArray = ls at hl ⊢
  have hl : lv_has ls 6 [(0, .ref x0), (1, .int x1), (2, .int x2), (3, .int x3), (4, .int x4), (5, .int x5)] := hl
  unfold fX4_feed at hf
  refine lv_aload_n hx hb dX4_feed_0 rfl (lv_at hl 0 rfl) ?_
  obtain ⟨v1, e1, hf⟩ := tk_bi hf
  refine tk_getR hx hb ht inX4 hown hE hs rfl 3 (by decide) (ht _ wfX4_32) e1 dX4_feed_1 ?_
  obtain ⟨_, p2, hf⟩ := tk_bi hf
  obtain ⟨o2, e2, hf⟩ := tk_bi hf
  refine tk_call0 (v := some (.int o2.1)) hs (va_runV (As := []) (rest := []) ⟨hx, hb, hml, hown, ht⟩ (cX2_hasRoom_ok l hl0 G N v1 h sz o2.1 o2.2.1 o2.2.2 e2) (kwX2_hasRoom ht wmX4_213 rfl rfl ⟨Nat.le_of_ble_eq_true rfl, Nat.le_of_ble_eq_true rfl⟩) (tk_preV hE hs (tk_ok_ok p2) rfl) rfl rfl hl.1 rfl (lv_room (Nat.le_of_ble_eq_true rfl)) dX4_feed_4 ⟨(Nat.le_of_ble_eq_true rfl), (Nat.le_of_ble_eq_true rfl)⟩) (fun H locs hs => ?_)
  refine W.eq (g2 := F0 m 7 ls [.int o2.1]) rfl ?_
  refine lv_if_ne (tgt := 12) hx hb dX4_feed_7 (by decide) (fun c4 => ?_) (fun c4 => ?_)
  · rw [if_neg c4] at hf
    refine lv_aload_n hx hb dX4_feed_12 rfl (lv_at hl 0 rfl) ?_
    obtain ⟨v5, e5, hf⟩ := tk_bi hf
    refine tk_getR hx hb ht inX4 hown hE hs rfl 3 (by decide) (ht _ wfX4_32) e5 dX4_feed_13 ?_
    refine lv_iload_n hx hb dX4_feed_16 rfl (lv_at hl 1 rfl) ?_
    obtain ⟨_, p6, hf⟩ := tk_bi hf
    obtain ⟨o6, e6, hf⟩ := tk_bi hf
    refine tk_call0 (v := none) hs (va_runV (As := [.int x1]) (rest := []) ⟨hx, hb, hml, hown, ht⟩ (cX2_append_ok l hl0 G N v5 x1 o2.2.1 o2.2.2 o6.1 o6.2 e6) (kwX2_append ht wmX4_217 rfl rfl ⟨Nat.le_of_ble_eq_true rfl, Nat.le_of_ble_eq_true rfl⟩) (tk_preV hE hs (tk_ok_ok p6) rfl) rfl rfl hl.1 rfl (lv_room (Nat.le_of_ble_eq_true rfl)) dX4_feed_17 ⟨(Nat.le_of_ble_eq_true rfl), (Nat.le_of_ble_eq_true rfl)⟩) (fun H locs hs => ?_)
    refine W.eq (g2 := F0 m 20 ls []) rfl ?_
    refine lv_aload_n hx hb dX4_feed_20 rfl (lv_at hl 0 rfl) ?_
    obtain ⟨v8, e8, hf⟩ := tk_bi hf
    refine tk_getR hx hb ht inX4 hown hE hs rfl 3 (by decide) (ht _ wfX4_32) e8 dX4_feed_21 ?_
    refine lv_iload_n hx hb dX4_feed_24 rfl (lv_at hl 2 rfl) ?_
    obtain ⟨_, p9, hf⟩ := tk_bi hf
    obtain ⟨o9, e9, hf⟩ := tk_bi hf
    refine tk_call0 (v := none) hs (va_runV (As := [.int x2]) (rest := []) ⟨hx, hb, hml, hown, ht⟩ (cX2_append_ok l hl0 G N v8 x2 o6.1 o6.2 o9.1 o9.2 e9) (kwX2_append ht wmX4_217 rfl rfl ⟨Nat.le_of_ble_eq_true rfl, Nat.le_of_ble_eq_true rfl⟩) (tk_preV hE hs (tk_ok_ok p9) rfl) rfl rfl hl.1 rfl (lv_room (Nat.le_of_ble_eq_true rfl)) dX4_feed_25 ⟨(Nat.le_of_ble_eq_true rfl), (Nat.le_of_ble_eq_true rfl)⟩) (fun H locs hs => ?_)
    refine W.eq (g2 := F0 m 28 ls []) rfl ?_
    refine lv_aload_n hx hb dX4_feed_28 rfl (lv_at hl 0 rfl) ?_
    obtain ⟨v11, e11, hf⟩ := tk_bi hf
    refine tk_getR hx hb ht inX4 hown hE hs rfl 3 (by decide) (ht _ wfX4_32) e11 dX4_feed_29 ?_
    refine lv_iload_n hx hb dX4_feed_32 rfl (lv_at hl 3 rfl) ?_
    obtain ⟨_, p12, hf⟩ := tk_bi hf
    obtain ⟨o12, e12, hf⟩ := tk_bi hf
    refine tk_call0 (v := none) hs (va_runV (As := [.int x3]) (rest := []) ⟨hx, hb, hml, hown, ht⟩ (cX2_append_ok l hl0 G N v11 x3 o9.1 o9.2 o12.1 o12.2 e12) (kwX2_append ht wmX4_217 rfl rfl ⟨Nat.le_of_ble_eq_true rfl, Nat.le_of_ble_eq_true rfl⟩) (tk_preV hE hs (tk_ok_ok p12) rfl) rfl rfl hl.1 rfl (lv_room (Nat.le_of_ble_eq_true rfl)) dX4_feed_33 ⟨(Nat.le_of_ble_eq_true rfl), (Nat.le_of_ble_eq_true rfl)⟩) (fun H locs hs => ?_)
    refine W.eq (g2 := F0 m 36 ls []) rfl ?_
    refine lv_aload_n hx hb dX4_feed_36 rfl (lv_at hl 0 rfl) ?_
    obtain ⟨v14, e14, hf⟩ := tk_bi hf
    refine tk_getR hx hb ht inX4 hown hE hs rfl 3 (by decide) (ht _ wfX4_32) e14 dX4_feed_37 ?_
    refine lv_iload hx hb dX4_feed_40 (lv_at hl 4 rfl) ?_
    obtain ⟨_, p15, hf⟩ := tk_bi hf
    obtain ⟨o15, e15, hf⟩ := tk_bi hf
    refine tk_call0 (v := none) hs (va_runV (As := [.int x4]) (rest := []) ⟨hx, hb, hml, hown, ht⟩ (cX2_append_ok l hl0 G N v14 x4 o12.1 o12.2 o15.1 o15.2 e15) (kwX2_append ht wmX4_217 rfl rfl ⟨Nat.le_of_ble_eq_true rfl, Nat.le_of_ble_eq_true rfl⟩) (tk_preV hE hs (tk_ok_ok p15) rfl) rfl rfl hl.1 rfl (lv_room (Nat.le_of_ble_eq_true rfl)) dX4_feed_42 ⟨(Nat.le_of_ble_eq_true rfl), (Nat.le_of_ble_eq_true rfl)⟩) (fun H locs hs => ?_)
    refine W.eq (g2 := F0 m 45 ls []) rfl ?_
    refine lv_aload_n hx hb dX4_feed_45 rfl (lv_at hl 0 rfl) ?_
    obtain ⟨v17, e17, hf⟩ := tk_bi hf
    refine tk_getR hx hb ht inX4 hown hE hs rfl 3 (by decide) (ht _ wfX4_32) e17 dX4_feed_46 ?_
    refine lv_iload hx hb dX4_feed_49 (lv_at hl 5 rfl) ?_
    obtain ⟨_, p18, hf⟩ := tk_bi hf
    obtain ⟨o18, e18, hf⟩ := tk_bi hf
    refine tk_call0 (v := none) hs (va_runV (As := [.int x5]) (rest := []) ⟨hx, hb, hml, hown, ht⟩ (cX2_append_ok l hl0 G N v17 x5 o15.1 o15.2 o18.1 o18.2 e18) (kwX2_append ht wmX4_217 rfl rfl ⟨Nat.le_of_ble_eq_true rfl, Nat.le_of_ble_eq_true rfl⟩) (tk_preV hE hs (tk_ok_ok p18) rfl) rfl rfl hl.1 rfl (lv_room (Nat.le_of_ble_eq_true rfl)) dX4_feed_51 ⟨(Nat.le_of_ble_eq_true rfl), (Nat.le_of_ble_eq_true rfl)⟩) (fun H locs hs => ?_)
    refine W.eq (g2 := F0 m 54 ls []) rfl ?_
    refine lv_aload_n hx hb dX4_feed_54 rfl (lv_at hl 0 rfl) ?_
    obtain ⟨v20, e20, hf⟩ := tk_bi hf
    refine tk_getR hx hb ht inX4 hown hE hs rfl 3 (by decide) (ht _ wfX4_32) e20 dX4_feed_55 ?_
    obtain ⟨v21, e21, hf⟩ := tk_bi hf
    refine tk_getNI (host := "TongueSwap") hx hb ht inX2 hown hE hs rfl 4 (by decide) (by decide +kernel) e21 dX4_feed_58 ?_
    cases hf
    exact tk_iret hx hb hr hlocks hs dX4_feed_61
  · rw [if_pos c4] at hf
    refine lv_iconst (v := (-1)) hx hb dX4_feed_10 (by decide) ?_
    cases hf
    exact tk_iret hx hb hr hlocks hs dX4_feed_11
def fX4_correct_20 (N : Nat) (h : tk_AH) (sz : Nat) : Option ((Int32 ⊕ String) × tk_AH × Nat) :=
  some (Sum.inr "java/lang/IllegalArgumentException", h, sz + 1)
def fX4_correct (N : Nat) (x0 : Nat) (x1 : Int32) (x2 : Int32) (h : tk_AH) (sz : Nat) : Option ((Int32 ⊕ String) × tk_AH × Nat) :=
  if x1 < 0 then (
  fX4_correct_20 N h sz) else (
  if 40 < x1 then (
  fX4_correct_20 N h sz) else (
  if x2 < 0 then (
  fX4_correct_20 N h sz) else (
  if x2 ≤ 40 then (
  (tk_gR h 4 3 x0).bind fun v5 =>
  (tk_gI h 2 4 v5).bind fun v6 =>
  if (x1 + x2) ≤ v6 then (
  (tk_gR h 4 3 x0).bind fun v8 =>
  (tk_ok h 2 v8).bind fun _ =>
  (fX2_compare N v8 x1 x2 h sz).bind fun o9 =>
  some (Sum.inl o9.1, o9.2.1, o9.2.2)) else (
  some (Sum.inr "java/lang/IllegalArgumentException", h, sz + 1))) else (
  fX4_correct_20 N h sz))))
set_option maxHeartbeats 8000000 in
set_option maxRecDepth 100000 in
theorem cX4_correct_ok (l : Launch) (hl0 : l.stackTraces = false) (G : tk_AG) (N : Nat) (x0 : Nat) (x1 : Int32) (x2 : Int32) (h : tk_AH) (sz : Nat) (o9 : Int32 ⊕ String) (h9 : tk_AH) (sz9 : Nat) (hf : fX4_correct N x0 x1 x2 h sz = some (o9, h9, sz9)) : vx_Met l yX4_correct (coX4_correct :: tk_W) ({ frames := 6, cells := tk_xc o9 0, slots := tk_xs o9 0, locals := 117 }) (tk_pc G [.ref x0, .int x1, .int x2] h sz) (tk_qx G (tk_oi o9) h9 sz9) (tk_xx G (tk_oi o9) h9 sz9) (tk_xc o9 0) (tk_xs o9 0) (tk_ag G) := by
  refine vx_ofW (cc := cX4_correct) (maxL := 3) (ret := (some .int)) (by decide) rfl ?_
  intro p e s m args below meth c s₁ B hml hout hv
  obtain ⟨hav, hE, hrp, hsz, hgs⟩ := hv
  have hx := B.exec
  have hb := B.bytes
  have hr := B.returns
  have hts := atoms_spec (ws := coX4_correct :: tk_W) B.pre
  have ht : ∀ w ∈ tk_W, w.before args s = true := fun w h => hts w (List.mem_cons_of_mem _ h)
  have hown : s.vm.findClass RX4 = some m.cls := findClass_of_methodNamed B.named
  have hlocks := B.notSynchronized
  have hs : tk_sw G s h sz s.heap [] := ⟨hrp, hsz, by rw [hsz]; exact hgs, va_S.rf⟩
  have hl := lv_entry ([.ref x0, .int x1, .int x2]) (n := 3) (Nat.le_of_ble_eq_true rfl)
  have hent : entryFrame m args 3 = F0 m 0 (lg_sl ([.ref x0, .int x1, .int x2]) ++ List.replicate (3 - (lg_sl ([.ref x0, .int x1, .int x2])).length) Slot.unset).toArray [] := by rw [hav, lg_entry_eq]
  rw [hent]
  clear hent
  generalize (lg_sl ([.ref x0, .int x1, .int x2]) ++ List.replicate (3 - (lg_sl ([.ref x0, .int x1, .int x2])).length) Slot.unset).toArray = ls at hl ⊢
  have hl : lv_has ls 3 [(0, .ref x0), (1, .int x1), (2, .int x2)] := hl
  have j20 : ∀ (h : tk_AH) (sz : Nat) (H : Heap) (locs : List Loc) (ls : Array Slot), fX4_correct_20 N h sz = some (o9, h9, sz9) → tk_sw G s h sz H locs → lv_has ls 3 [] → W p l e (headSpec (coX4_correct :: tk_W) ({ frames := 6, cells := tk_xc o9 0, slots := tk_xs o9 0, locals := 117 })).room s m args below meth c H locs 0 (0) (vx_MQ below (tk_qx G (tk_oi o9) h9 sz9) (tk_xx G (tk_oi o9) h9 sz9) args s (tk_xc o9 0) (tk_xs o9 0) (tk_ag G)) (F0 m 20 ls []) := by
    intro h sz H locs ls hf hs hl
    unfold fX4_correct_20 at hf
    cases hf
    exact tk_throwIAE hx hb hml hl0 hown ht hE hs hl (by decide : ("TongueSwap", 223, "a row has 0 to 40 bytes") ∈ tk_strs) dX4_correct_20 dX4_correct_23 dX4_correct_24 dX4_correct_26 dX4_correct_29 hout (Nat.le_of_ble_eq_true rfl) (Nat.le_of_ble_eq_true rfl) (Nat.le_of_ble_eq_true rfl) (Nat.le_of_ble_eq_true rfl) (Nat.le_refl _) (Nat.le_refl _) hlocks
  unfold fX4_correct at hf
  refine lv_iload_n hx hb dX4_correct_0 rfl (lv_at hl 1 rfl) ?_
  refine lv_if_lt (tgt := 20) hx hb dX4_correct_1 (by decide) (fun c1 => ?_) (fun c1 => ?_)
  · rw [if_pos c1] at hf
    exact j20 h sz _ _ _ hf hs (lv_sub hl [] rfl)
  · rw [if_neg c1] at hf
    refine lv_iload_n hx hb dX4_correct_4 rfl (lv_at hl 1 rfl) ?_
    refine lv_bipush (v := 40) hx hb dX4_correct_5 (by decide) ?_
    refine lv_icmp_gt (tgt := 20) hx hb dX4_correct_7 (by decide) (fun c2 => ?_) (fun c2 => ?_)
    · rw [if_pos c2] at hf
      exact j20 h sz _ _ _ hf hs (lv_sub hl [] rfl)
    · rw [if_neg c2] at hf
      refine lv_iload_n hx hb dX4_correct_10 rfl (lv_at hl 2 rfl) ?_
      refine lv_if_lt (tgt := 20) hx hb dX4_correct_11 (by decide) (fun c3 => ?_) (fun c3 => ?_)
      · rw [if_pos c3] at hf
        exact j20 h sz _ _ _ hf hs (lv_sub hl [] rfl)
      · rw [if_neg c3] at hf
        refine lv_iload_n hx hb dX4_correct_14 rfl (lv_at hl 2 rfl) ?_
        refine lv_bipush (v := 40) hx hb dX4_correct_15 (by decide) ?_
        refine lv_icmp_le (tgt := 30) hx hb dX4_correct_17 (by decide) (fun c4 => ?_) (fun c4 => ?_)
        · rw [if_pos c4] at hf
          refine lv_iload_n hx hb dX4_correct_30 rfl (lv_at hl 1 rfl) ?_
          refine lv_iload_n hx hb dX4_correct_31 rfl (lv_at hl 2 rfl) ?_
          refine lv_iadd hx hb dX4_correct_32 ?_
          refine lv_aload_n hx hb dX4_correct_33 rfl (lv_at hl 0 rfl) ?_
          obtain ⟨v5, e5, hf⟩ := tk_bi hf
          refine tk_getR hx hb ht inX4 hown hE hs rfl 3 (by decide) (ht _ wfX4_32) e5 dX4_correct_34 ?_
          obtain ⟨v6, e6, hf⟩ := tk_bi hf
          refine tk_getNI (host := "TongueSwap") hx hb ht inX2 hown hE hs rfl 4 (by decide) (by decide +kernel) e6 dX4_correct_37 ?_
          refine lv_icmp_le (tgt := 53) hx hb dX4_correct_40 (by decide) (fun c7 => ?_) (fun c7 => ?_)
          · rw [if_pos c7] at hf
            refine lv_aload_n hx hb dX4_correct_53 rfl (lv_at hl 0 rfl) ?_
            obtain ⟨v8, e8, hf⟩ := tk_bi hf
            refine tk_getR hx hb ht inX4 hown hE hs rfl 3 (by decide) (ht _ wfX4_32) e8 dX4_correct_54 ?_
            refine lv_iload_n hx hb dX4_correct_57 rfl (lv_at hl 1 rfl) ?_
            refine lv_iload_n hx hb dX4_correct_58 rfl (lv_at hl 2 rfl) ?_
            obtain ⟨_, p9, hf⟩ := tk_bi hf
            obtain ⟨o9, e9, hf⟩ := tk_bi hf
            refine tk_call0 (v := some (.int o9.1)) hs (va_runV (As := [.int x1, .int x2]) (rest := []) ⟨hx, hb, hml, hown, ht⟩ (cX2_compare_ok l hl0 G N v8 x1 x2 h sz o9.1 o9.2.1 o9.2.2 e9) (kwX2_compare ht wmX4_227 rfl rfl ⟨Nat.le_of_ble_eq_true rfl, Nat.le_of_ble_eq_true rfl⟩) (tk_preV hE hs (tk_ok_ok p9) rfl) rfl rfl hl.1 rfl (lv_room (Nat.le_of_ble_eq_true rfl)) dX4_correct_59 ⟨(Nat.zero_le _), (Nat.zero_le _)⟩) (fun H locs hs => ?_)
            refine W.eq (g2 := F0 m 62 ls [.int o9.1]) rfl ?_
            cases hf
            exact tk_xiret hx hb hr hlocks hs dX4_correct_62
          · rw [if_neg c7] at hf
            cases hf
            exact tk_throwIAE hx hb hml hl0 hown ht hE hs hl (by decide : ("TongueSwap", 225, "the tape has not so many bytes") ∈ tk_strs) dX4_correct_43 dX4_correct_46 dX4_correct_47 dX4_correct_49 dX4_correct_52 hout (Nat.le_of_ble_eq_true rfl) (Nat.le_of_ble_eq_true rfl) (Nat.le_of_ble_eq_true rfl) (Nat.le_of_ble_eq_true rfl) (Nat.le_refl _) (Nat.le_refl _) hlocks
        · rw [if_neg c4] at hf
          exact j20 h sz _ _ _ hf hs (lv_sub hl [] rfl)
def fX4_mark_28 (N : Nat) (h : tk_AH) (sz : Nat) : Option ((Int32 ⊕ String) × tk_AH × Nat) :=
  some (Sum.inr "java/util/NoSuchElementException", h, sz + 1)
def fX4_mark (N : Nat) (x0 : Nat) (x1 : Int32) (h : tk_AH) (sz : Nat) : Option ((Int32 ⊕ String) × tk_AH × Nat) :=
  if x1 = (-1) then (
  (tk_gR h 4 3 x0).bind fun v9 =>
  (tk_gI h 2 5 v9).bind fun v10 =>
  some (Sum.inl v10, h, sz)) else (
  if x1 < 0 then (
  fX4_mark_28 N h sz) else (
  (tk_gR h 4 3 x0).bind fun v3 =>
  (tk_gI h 2 5 v3).bind fun v4 =>
  if x1 < v4 then (
  (tk_gR h 4 3 x0).bind fun v6 =>
  (tk_gR h 2 2 v6).bind fun v7 =>
  (tk_aI h 0 v7 x1).bind fun v8 =>
  some (Sum.inl v8, h, sz)) else (
  fX4_mark_28 N h sz)))
set_option maxHeartbeats 8000000 in
set_option maxRecDepth 100000 in
theorem cX4_mark_ok (l : Launch) (hl0 : l.stackTraces = false) (G : tk_AG) (N : Nat) (x0 : Nat) (x1 : Int32) (h : tk_AH) (sz : Nat) (o9 : Int32 ⊕ String) (h9 : tk_AH) (sz9 : Nat) (hf : fX4_mark N x0 x1 h sz = some (o9, h9, sz9)) : vx_Met l yX4_mark (coX4_mark :: tk_W) ({ frames := 6, cells := tk_xc o9 0, slots := tk_xs o9 0, locals := 100 }) (tk_pc G [.ref x0, .int x1] h sz) (tk_qx G (tk_oi o9) h9 sz9) (tk_xx G (tk_oi o9) h9 sz9) (tk_xc o9 0) (tk_xs o9 0) (tk_ag G) := by
  refine vx_ofW (cc := cX4_mark) (maxL := 2) (ret := (some .int)) (by decide) rfl ?_
  intro p e s m args below meth c s₁ B hml hout hv
  obtain ⟨hav, hE, hrp, hsz, hgs⟩ := hv
  have hx := B.exec
  have hb := B.bytes
  have hr := B.returns
  have hts := atoms_spec (ws := coX4_mark :: tk_W) B.pre
  have ht : ∀ w ∈ tk_W, w.before args s = true := fun w h => hts w (List.mem_cons_of_mem _ h)
  have hown : s.vm.findClass RX4 = some m.cls := findClass_of_methodNamed B.named
  have hlocks := B.notSynchronized
  have hs : tk_sw G s h sz s.heap [] := ⟨hrp, hsz, by rw [hsz]; exact hgs, va_S.rf⟩
  have hl := lv_entry ([.ref x0, .int x1]) (n := 2) (Nat.le_of_ble_eq_true rfl)
  have hent : entryFrame m args 2 = F0 m 0 (lg_sl ([.ref x0, .int x1]) ++ List.replicate (2 - (lg_sl ([.ref x0, .int x1])).length) Slot.unset).toArray [] := by rw [hav, lg_entry_eq]
  rw [hent]
  clear hent
  generalize (lg_sl ([.ref x0, .int x1]) ++ List.replicate (2 - (lg_sl ([.ref x0, .int x1])).length) Slot.unset).toArray = ls at hl ⊢
  have hl : lv_has ls 2 [(0, .ref x0), (1, .int x1)] := hl
  have j28 : ∀ (h : tk_AH) (sz : Nat) (H : Heap) (locs : List Loc) (ls : Array Slot), fX4_mark_28 N h sz = some (o9, h9, sz9) → tk_sw G s h sz H locs → lv_has ls 2 [] → W p l e (headSpec (coX4_mark :: tk_W) ({ frames := 6, cells := tk_xc o9 0, slots := tk_xs o9 0, locals := 100 })).room s m args below meth c H locs 0 (0) (vx_MQ below (tk_qx G (tk_oi o9) h9 sz9) (tk_xx G (tk_oi o9) h9 sz9) args s (tk_xc o9 0) (tk_xs o9 0) (tk_ag G)) (F0 m 28 ls []) := by
    intro h sz H locs ls hf hs hl
    unfold fX4_mark_28 at hf
    cases hf
    exact tk_throwNSE hx hb hml hl0 hown ht hE hs hl (by decide : ("TongueSwap", 233, "no such mark") ∈ tk_strs) dX4_mark_28 dX4_mark_31 dX4_mark_32 dX4_mark_34 dX4_mark_37 hout (Nat.le_of_ble_eq_true rfl) (Nat.le_of_ble_eq_true rfl) (Nat.le_of_ble_eq_true rfl) (Nat.le_of_ble_eq_true rfl) (Nat.le_refl _) (Nat.le_refl _) hlocks
  unfold fX4_mark at hf
  refine lv_iload_n hx hb dX4_mark_0 rfl (lv_at hl 1 rfl) ?_
  refine lv_iconst (v := (-1)) hx hb dX4_mark_1 (by decide) ?_
  refine lv_icmp_ne (tgt := 13) hx hb dX4_mark_2 (by decide) (fun c1 => ?_) (fun c1 => ?_)
  · rw [if_neg c1] at hf
    refine lv_iload_n hx hb dX4_mark_13 rfl (lv_at hl 1 rfl) ?_
    refine lv_if_lt (tgt := 28) hx hb dX4_mark_14 (by decide) (fun c2 => ?_) (fun c2 => ?_)
    · rw [if_pos c2] at hf
      exact j28 h sz _ _ _ hf hs (lv_sub hl [] rfl)
    · rw [if_neg c2] at hf
      refine lv_iload_n hx hb dX4_mark_17 rfl (lv_at hl 1 rfl) ?_
      refine lv_aload_n hx hb dX4_mark_18 rfl (lv_at hl 0 rfl) ?_
      obtain ⟨v3, e3, hf⟩ := tk_bi hf
      refine tk_getR hx hb ht inX4 hown hE hs rfl 3 (by decide) (ht _ wfX4_32) e3 dX4_mark_19 ?_
      obtain ⟨v4, e4, hf⟩ := tk_bi hf
      refine tk_getNI (host := "TongueSwap") hx hb ht inX2 hown hE hs rfl 5 (by decide) (by decide +kernel) e4 dX4_mark_22 ?_
      refine lv_icmp_lt (tgt := 38) hx hb dX4_mark_25 (by decide) (fun c5 => ?_) (fun c5 => ?_)
      · rw [if_pos c5] at hf
        refine lv_aload_n hx hb dX4_mark_38 rfl (lv_at hl 0 rfl) ?_
        obtain ⟨v6, e6, hf⟩ := tk_bi hf
        refine tk_getR hx hb ht inX4 hown hE hs rfl 3 (by decide) (ht _ wfX4_32) e6 dX4_mark_39 ?_
        obtain ⟨v7, e7, hf⟩ := tk_bi hf
        refine tk_getNR (host := "TongueSwap") hx hb ht inX2 hown hE hs rfl 2 (by decide) (by decide +kernel) e7 dX4_mark_42 ?_
        refine lv_iload_n hx hb dX4_mark_45 rfl (lv_at hl 1 rfl) ?_
        obtain ⟨v8, e8, hf⟩ := tk_bi hf
        refine tk_iald hx hb hE hs e8 dX4_mark_46 ?_
        cases hf
        exact tk_xiret hx hb hr hlocks hs dX4_mark_47
      · rw [if_neg c5] at hf
        exact j28 h sz _ _ _ hf hs (lv_sub hl [] rfl)
  · rw [if_pos c1] at hf
    refine lv_aload_n hx hb dX4_mark_5 rfl (lv_at hl 0 rfl) ?_
    obtain ⟨v9, e9, hf⟩ := tk_bi hf
    refine tk_getR hx hb ht inX4 hown hE hs rfl 3 (by decide) (ht _ wfX4_32) e9 dX4_mark_6 ?_
    obtain ⟨v10, e10, hf⟩ := tk_bi hf
    refine tk_getNI (host := "TongueSwap") hx hb ht inX2 hown hE hs rfl 5 (by decide) (by decide +kernel) e10 dX4_mark_9 ?_
    cases hf
    exact tk_xiret hx hb hr hlocks hs dX4_mark_12
def fX4_marks_9 (N : Nat) (h : tk_AH) (sz : Nat) : Option ((Int32 ⊕ String) × tk_AH × Nat) :=
  some (Sum.inr "java/util/NoSuchElementException", h, sz + 1)
def fX4_marks (N : Nat) (x0 : Nat) (x1 : Int32) (h : tk_AH) (sz : Nat) : Option ((Int32 ⊕ String) × tk_AH × Nat) :=
  if x1 < 0 then (
  fX4_marks_9 N h sz) else (
  if x1 < 5 then (
  (tk_gR h 4 3 x0).bind fun v3 =>
  (tk_gR h 2 3 v3).bind fun v4 =>
  (tk_aI h 0 v4 x1).bind fun v5 =>
  some (Sum.inl v5, h, sz)) else (
  fX4_marks_9 N h sz))
set_option maxHeartbeats 8000000 in
set_option maxRecDepth 100000 in
theorem cX4_marks_ok (l : Launch) (hl0 : l.stackTraces = false) (G : tk_AG) (N : Nat) (x0 : Nat) (x1 : Int32) (h : tk_AH) (sz : Nat) (o9 : Int32 ⊕ String) (h9 : tk_AH) (sz9 : Nat) (hf : fX4_marks N x0 x1 h sz = some (o9, h9, sz9)) : vx_Met l yX4_marks (coX4_marks :: tk_W) ({ frames := 6, cells := tk_xc o9 0, slots := tk_xs o9 0, locals := 100 }) (tk_pc G [.ref x0, .int x1] h sz) (tk_qx G (tk_oi o9) h9 sz9) (tk_xx G (tk_oi o9) h9 sz9) (tk_xc o9 0) (tk_xs o9 0) (tk_ag G) := by
  refine vx_ofW (cc := cX4_marks) (maxL := 2) (ret := (some .int)) (by decide) rfl ?_
  intro p e s m args below meth c s₁ B hml hout hv
  obtain ⟨hav, hE, hrp, hsz, hgs⟩ := hv
  have hx := B.exec
  have hb := B.bytes
  have hr := B.returns
  have hts := atoms_spec (ws := coX4_marks :: tk_W) B.pre
  have ht : ∀ w ∈ tk_W, w.before args s = true := fun w h => hts w (List.mem_cons_of_mem _ h)
  have hown : s.vm.findClass RX4 = some m.cls := findClass_of_methodNamed B.named
  have hlocks := B.notSynchronized
  have hs : tk_sw G s h sz s.heap [] := ⟨hrp, hsz, by rw [hsz]; exact hgs, va_S.rf⟩
  have hl := lv_entry ([.ref x0, .int x1]) (n := 2) (Nat.le_of_ble_eq_true rfl)
  have hent : entryFrame m args 2 = F0 m 0 (lg_sl ([.ref x0, .int x1]) ++ List.replicate (2 - (lg_sl ([.ref x0, .int x1])).length) Slot.unset).toArray [] := by rw [hav, lg_entry_eq]
  rw [hent]
  clear hent
  generalize (lg_sl ([.ref x0, .int x1]) ++ List.replicate (2 - (lg_sl ([.ref x0, .int x1])).length) Slot.unset).toArray = ls at hl ⊢
  have hl : lv_has ls 2 [(0, .ref x0), (1, .int x1)] := hl
  have j9 : ∀ (h : tk_AH) (sz : Nat) (H : Heap) (locs : List Loc) (ls : Array Slot), fX4_marks_9 N h sz = some (o9, h9, sz9) → tk_sw G s h sz H locs → lv_has ls 2 [] → W p l e (headSpec (coX4_marks :: tk_W) ({ frames := 6, cells := tk_xc o9 0, slots := tk_xs o9 0, locals := 100 })).room s m args below meth c H locs 0 (0) (vx_MQ below (tk_qx G (tk_oi o9) h9 sz9) (tk_xx G (tk_oi o9) h9 sz9) args s (tk_xc o9 0) (tk_xs o9 0) (tk_ag G)) (F0 m 9 ls []) := by
    intro h sz H locs ls hf hs hl
    unfold fX4_marks_9 at hf
    cases hf
    exact tk_throwNSE hx hb hml hl0 hown ht hE hs hl (by decide : ("TongueSwap", 238, "no such kind of mark") ∈ tk_strs) dX4_marks_9 dX4_marks_12 dX4_marks_13 dX4_marks_15 dX4_marks_18 hout (Nat.le_of_ble_eq_true rfl) (Nat.le_of_ble_eq_true rfl) (Nat.le_of_ble_eq_true rfl) (Nat.le_of_ble_eq_true rfl) (Nat.le_refl _) (Nat.le_refl _) hlocks
  unfold fX4_marks at hf
  refine lv_iload_n hx hb dX4_marks_0 rfl (lv_at hl 1 rfl) ?_
  refine lv_if_lt (tgt := 9) hx hb dX4_marks_1 (by decide) (fun c1 => ?_) (fun c1 => ?_)
  · rw [if_pos c1] at hf
    exact j9 h sz _ _ _ hf hs (lv_sub hl [] rfl)
  · rw [if_neg c1] at hf
    refine lv_iload_n hx hb dX4_marks_4 rfl (lv_at hl 1 rfl) ?_
    refine lv_iconst (v := 5) hx hb dX4_marks_5 (by decide) ?_
    refine lv_icmp_lt (tgt := 19) hx hb dX4_marks_6 (by decide) (fun c2 => ?_) (fun c2 => ?_)
    · rw [if_pos c2] at hf
      refine lv_aload_n hx hb dX4_marks_19 rfl (lv_at hl 0 rfl) ?_
      obtain ⟨v3, e3, hf⟩ := tk_bi hf
      refine tk_getR hx hb ht inX4 hown hE hs rfl 3 (by decide) (ht _ wfX4_32) e3 dX4_marks_20 ?_
      obtain ⟨v4, e4, hf⟩ := tk_bi hf
      refine tk_getNR (host := "TongueSwap") hx hb ht inX2 hown hE hs rfl 3 (by decide) (by decide +kernel) e4 dX4_marks_23 ?_
      refine lv_iload_n hx hb dX4_marks_26 rfl (lv_at hl 1 rfl) ?_
      obtain ⟨v5, e5, hf⟩ := tk_bi hf
      refine tk_iald hx hb hE hs e5 dX4_marks_27 ?_
      cases hf
      exact tk_xiret hx hb hr hlocks hs dX4_marks_28
    · rw [if_neg c2] at hf
      exact j9 h sz _ _ _ hf hs (lv_sub hl [] rfl)
def fX4_count (N : Nat) (x0 : Nat) (x1 : Int32) (h : tk_AH) (sz : Nat) : Option ((Int32 ⊕ String) × tk_AH × Nat) :=
  if x1 = 0 then (
  (tk_gI h 4 6 x0).bind fun v2 =>
  some (Sum.inl v2, h, sz)) else if x1 = 1 then (
  (tk_gI h 4 7 x0).bind fun v4 =>
  some (Sum.inl v4, h, sz)) else if x1 = 2 then (
  (tk_gI h 4 8 x0).bind fun v6 =>
  some (Sum.inl v6, h, sz)) else if x1 = 3 then (
  (tk_gI h 4 9 x0).bind fun v8 =>
  some (Sum.inl v8, h, sz)) else if x1 = 4 then (
  (tk_gR h 4 3 x0).bind fun v10 =>
  (tk_gI h 2 4 v10).bind fun v11 =>
  some (Sum.inl v11, h, sz)) else (
  some (Sum.inr "java/util/NoSuchElementException", h, sz + 1))
set_option maxHeartbeats 8000000 in
set_option maxRecDepth 100000 in
theorem cX4_count_ok (l : Launch) (hl0 : l.stackTraces = false) (G : tk_AG) (N : Nat) (x0 : Nat) (x1 : Int32) (h : tk_AH) (sz : Nat) (o9 : Int32 ⊕ String) (h9 : tk_AH) (sz9 : Nat) (hf : fX4_count N x0 x1 h sz = some (o9, h9, sz9)) : vx_Met l yX4_count (coX4_count :: tk_W) ({ frames := 6, cells := tk_xc o9 0, slots := tk_xs o9 0, locals := 100 }) (tk_pc G [.ref x0, .int x1] h sz) (tk_qx G (tk_oi o9) h9 sz9) (tk_xx G (tk_oi o9) h9 sz9) (tk_xc o9 0) (tk_xs o9 0) (tk_ag G) := by
  refine vx_ofW (cc := cX4_count) (maxL := 2) (ret := (some .int)) (by decide) rfl ?_
  intro p e s m args below meth c s₁ B hml hout hv
  obtain ⟨hav, hE, hrp, hsz, hgs⟩ := hv
  have hx := B.exec
  have hb := B.bytes
  have hr := B.returns
  have hts := atoms_spec (ws := coX4_count :: tk_W) B.pre
  have ht : ∀ w ∈ tk_W, w.before args s = true := fun w h => hts w (List.mem_cons_of_mem _ h)
  have hown : s.vm.findClass RX4 = some m.cls := findClass_of_methodNamed B.named
  have hlocks := B.notSynchronized
  have hs : tk_sw G s h sz s.heap [] := ⟨hrp, hsz, by rw [hsz]; exact hgs, va_S.rf⟩
  have hl := lv_entry ([.ref x0, .int x1]) (n := 2) (Nat.le_of_ble_eq_true rfl)
  have hent : entryFrame m args 2 = F0 m 0 (lg_sl ([.ref x0, .int x1]) ++ List.replicate (2 - (lg_sl ([.ref x0, .int x1])).length) Slot.unset).toArray [] := by rw [hav, lg_entry_eq]
  rw [hent]
  clear hent
  generalize (lg_sl ([.ref x0, .int x1]) ++ List.replicate (2 - (lg_sl ([.ref x0, .int x1])).length) Slot.unset).toArray = ls at hl ⊢
  have hl : lv_has ls 2 [(0, .ref x0), (1, .int x1)] := hl
  unfold fX4_count at hf
  refine lv_iload_n hx hb dX4_count_0 rfl (lv_at hl 1 rfl) ?_
  by_cases c1 : x1 = 0
  · rw [if_pos c1] at hf
    refine lv_tableIn (off := 35) (tgt := 36) hx hb dX4_count_1 (by rw [c1]; decide) (by rw [c1]; decide) (by rw [c1]; rfl) (by decide) ?_
    refine lv_aload_n hx hb dX4_count_36 rfl (lv_at hl 0 rfl) ?_
    obtain ⟨v2, e2, hf⟩ := tk_bi hf
    refine tk_getI hx hb ht inX4 hown hE hs rfl 6 (by decide) (ht _ wfX4_40) e2 dX4_count_37 ?_
    cases hf
    exact tk_xiret hx hb hr hlocks hs dX4_count_40
  rw [if_neg c1] at hf
  by_cases c3 : x1 = 1
  · rw [if_pos c3] at hf
    refine lv_tableIn (off := 40) (tgt := 41) hx hb dX4_count_1 (by rw [c3]; decide) (by rw [c3]; decide) (by rw [c3]; rfl) (by decide) ?_
    refine lv_aload_n hx hb dX4_count_41 rfl (lv_at hl 0 rfl) ?_
    obtain ⟨v4, e4, hf⟩ := tk_bi hf
    refine tk_getI hx hb ht inX4 hown hE hs rfl 7 (by decide) (ht _ wfX4_158) e4 dX4_count_42 ?_
    cases hf
    exact tk_xiret hx hb hr hlocks hs dX4_count_45
  rw [if_neg c3] at hf
  by_cases c5 : x1 = 2
  · rw [if_pos c5] at hf
    refine lv_tableIn (off := 45) (tgt := 46) hx hb dX4_count_1 (by rw [c5]; decide) (by rw [c5]; decide) (by rw [c5]; rfl) (by decide) ?_
    refine lv_aload_n hx hb dX4_count_46 rfl (lv_at hl 0 rfl) ?_
    obtain ⟨v6, e6, hf⟩ := tk_bi hf
    refine tk_getI hx hb ht inX4 hown hE hs rfl 8 (by decide) (ht _ wfX4_161) e6 dX4_count_47 ?_
    cases hf
    exact tk_xiret hx hb hr hlocks hs dX4_count_50
  rw [if_neg c5] at hf
  by_cases c7 : x1 = 3
  · rw [if_pos c7] at hf
    refine lv_tableIn (off := 50) (tgt := 51) hx hb dX4_count_1 (by rw [c7]; decide) (by rw [c7]; decide) (by rw [c7]; rfl) (by decide) ?_
    refine lv_aload_n hx hb dX4_count_51 rfl (lv_at hl 0 rfl) ?_
    obtain ⟨v8, e8, hf⟩ := tk_bi hf
    refine tk_getI hx hb ht inX4 hown hE hs rfl 9 (by decide) (ht _ wfX4_169) e8 dX4_count_52 ?_
    cases hf
    exact tk_xiret hx hb hr hlocks hs dX4_count_55
  rw [if_neg c7] at hf
  by_cases c9 : x1 = 4
  · rw [if_pos c9] at hf
    refine lv_tableIn (off := 55) (tgt := 56) hx hb dX4_count_1 (by rw [c9]; decide) (by rw [c9]; decide) (by rw [c9]; rfl) (by decide) ?_
    refine lv_aload_n hx hb dX4_count_56 rfl (lv_at hl 0 rfl) ?_
    obtain ⟨v10, e10, hf⟩ := tk_bi hf
    refine tk_getR hx hb ht inX4 hown hE hs rfl 3 (by decide) (ht _ wfX4_32) e10 dX4_count_57 ?_
    obtain ⟨v11, e11, hf⟩ := tk_bi hf
    refine tk_getNI (host := "TongueSwap") hx hb ht inX2 hown hE hs rfl 4 (by decide) (by decide +kernel) e11 dX4_count_60 ?_
    cases hf
    exact tk_xiret hx hb hr hlocks hs dX4_count_63
  rw [if_neg c9] at hf
  refine lv_tableOut (tgt := 64) hx hb dX4_count_1 (tk_out 4 (fun k hk => match k, hk with | 0, _ => c1 | 1, _ => c3 | 2, _ => c5 | 3, _ => c7 | 4, _ => c9 | n9 + 5, h9 => absurd h9 (by omega)) (by decide)) (by decide) ?_
  cases hf
  exact tk_throwNSE hx hb hml hl0 hown ht hE hs hl (by decide : ("TongueSwap", 243, "no such count") ∈ tk_strs) dX4_count_64 dX4_count_67 dX4_count_68 dX4_count_70 dX4_count_73 hout (Nat.le_of_ble_eq_true rfl) (Nat.le_of_ble_eq_true rfl) (Nat.le_of_ble_eq_true rfl) (Nat.le_of_ble_eq_true rfl) (Nat.le_refl _) (Nat.le_refl _) hlocks
