def fL_hours (N : Nat) (x0 : Nat) (x1 : Int32) (x2 : Int32) (x3 : Nat) (h : tk_AH) (sz : Nat) : Option (Int32 × tk_AH × Nat) :=
  (tk_ok h 4 x0).bind fun _ =>
  (fX4_hours N x0 x1 x2 h sz).bind fun o1 =>
  Sum.elim (fun r1 =>
  (tk_sJ o1.2.1 2 x3 0 r1.toInt64).bind fun h3 =>
  some (0, h3, o1.2.2)) (fun E1 =>
  if E1 = "java/util/NoSuchElementException" then (
  some (1, o1.2.1, o1.2.2)) else (
  none)) o1.1
set_option maxHeartbeats 8000000 in
set_option maxRecDepth 100000 in
theorem cL_hours_ok (l : Launch) (hl0 : l.stackTraces = false) (G : tk_AG) (N : Nat) (x0 : Nat) (x1 : Int32) (x2 : Int32) (x3 : Nat) (h : tk_AH) (sz : Nat) (r9 : Int32) (h9 : tk_AH) (sz9 : Nat) (hf : fL_hours N x0 x1 x2 x3 h sz = some (r9, h9, sz9)) : Met l yL_hours (coL_hours :: tk_W) ({ frames := 8, cells := 1, slots := 6, locals := 146 }) (tk_pc G [.ref x0, .int x1, .int x2, .ref x3] h sz) (tk_qc G (some (.int r9)) h9 sz9) 1 6 (tk_ag G) := by
  refine va_MetW (cc := cL_hours) (maxL := 5) (ret := (some .int)) (hh := [(0, 10, 13, 13)]) (by decide) rfl ?_
  intro p e s m args below meth c s₁ B hml hv
  obtain ⟨hav, hE, hrp, hsz, hgs⟩ := hv
  have hx := B.exec
  have hb := B.bytes
  have hr := B.returns
  have hts := atoms_spec (ws := coL_hours :: tk_W) B.pre
  have ht : ∀ w ∈ tk_W, w.before args s = true := fun w h => hts w (List.mem_cons_of_mem _ h)
  have hown : s.vm.findClass RL = some m.cls := findClass_of_methodNamed B.named
  have hlocks := B.notSynchronized
  have htab : c.exceptionTable.toList = tableOf [(0, 10, 13, 13)] := vx_table (x := yL_hours) B (hts _ List.mem_cons_self)
  have hs : tk_sw G s h sz s.heap [] := ⟨hrp, hsz, by rw [hsz]; exact hgs, va_S.rf⟩
  have hl := lv_entry ([.ref x0, .int x1, .int x2, .ref x3]) (n := 5) (Nat.le_of_ble_eq_true rfl)
  have hent : entryFrame m args 5 = F0 m 0 (lg_sl ([.ref x0, .int x1, .int x2, .ref x3]) ++ List.replicate (5 - (lg_sl ([.ref x0, .int x1, .int x2, .ref x3])).length) Slot.unset).toArray [] := by rw [hav, lg_entry_eq]
  rw [hent]
  clear hent
  generalize (lg_sl ([.ref x0, .int x1, .int x2, .ref x3]) ++ List.replicate (5 - (lg_sl ([.ref x0, .int x1, .int x2, .ref x3])).length) Slot.unset).toArray = ls at hl ⊢
  have hl : lv_has ls 5 [(0, .ref x0), (1, .int x1), (2, .int x2), (3, .ref x3)] := hl
  unfold fL_hours at hf
  refine lv_aload_n hx hb dL_hours_0 rfl (lv_at hl 3 rfl) ?_
  refine lv_iconst (v := 0) hx hb dL_hours_1 (by decide) ?_
  refine lv_aload_n hx hb dL_hours_2 rfl (lv_at hl 0 rfl) ?_
  refine lv_iload_n hx hb dL_hours_3 rfl (lv_at hl 1 rfl) ?_
  refine lv_iload_n hx hb dL_hours_4 rfl (lv_at hl 2 rfl) ?_
  obtain ⟨_, p1, hf⟩ := tk_bi hf
  obtain ⟨o1, e1, hf⟩ := tk_bi hf
  rcases w1 : o1.1 with r1 | E1
  · rw [w1, Sum.elim_inl] at hf
    refine tk_xret0 (v := some (.int r1)) hs (vx_runV (As := [.int x1, .int x2]) (rest := [.int 0, .ref x3]) ⟨hx, hb, hml, hown, ht⟩ (cX4_hours_ok l hl0 G N x0 x1 x2 h sz (Sum.inl r1) o1.2.1 o1.2.2 (by rw [e1, ← w1])) (kwX4_hours ht wmL_7 rfl rfl ⟨Nat.le_of_ble_eq_true rfl, Nat.le_of_ble_eq_true rfl⟩) (tk_preV hE hs (tk_ok_ok p1) rfl) rfl rfl hl.1 rfl (lv_room (Nat.le_of_ble_eq_true rfl)) dL_hours_5 ⟨(Nat.le_of_ble_eq_true rfl), (Nat.le_of_ble_eq_true rfl)⟩) rfl rfl (fun H locs hs => ?_)
    refine W.eq (g2 := F0 m 8 ls [.int r1, .int 0, .ref x3]) rfl ?_
    refine lv_i2l (v := r1.toInt64) hx hb dL_hours_8 rfl ?_
    obtain ⟨h3, e3, hf⟩ := tk_bi hf
    refine tk_last hx hb hE hs e3 dL_hours_9 (fun H locs hs => ?_)
    refine lv_goto (tgt := 17) hx hb dL_hours_10 (by decide) ?_
    refine lv_iconst (v := 0) hx hb dL_hours_17 (by decide) ?_
    cases hf
    refine W.widen (k := 1) (n := 6) (by omega) (by omega) ?_
    exact tk_iret hx hb hr hlocks hs dL_hours_18
  · rw [w1, Sum.elim_inr] at hf
    by_cases c4 : E1 = "java/util/NoSuchElementException"
    · subst c4
      rw [if_pos rfl] at hf
      refine tk_xthr hs (vx_runV (As := [.int x1, .int x2]) (rest := [.int 0, .ref x3]) ⟨hx, hb, hml, hown, ht⟩ (cX4_hours_ok l hl0 G N x0 x1 x2 h sz (Sum.inr "java/util/NoSuchElementException") o1.2.1 o1.2.2 (by rw [e1, ← w1])) (kwX4_hours ht wmL_7 rfl rfl ⟨Nat.le_of_ble_eq_true rfl, Nat.le_of_ble_eq_true rfl⟩) (tk_preV hE hs (tk_ok_ok p1) rfl) rfl rfl hl.1 rfl (lv_room (Nat.le_of_ble_eq_true rfl)) dL_hours_5 ⟨Nat.le_of_ble_eq_true rfl, Nat.le_of_ble_eq_true rfl⟩) (fun H locs ce q9 hs hce hcv hcl => ?_)
      refine vx_catch (own := RL) (name := "java/util/NoSuchElementException") hown [] ⟨0, 10, 13, 13⟩ [] htab (fun z hz => nomatch hz) (by decide) (by decide) (ht _ wlL_13) (tk_use rfl (hE.2.2.1 _ (by decide +kernel))) hce hcv hcl ?_
      refine W.widen (k := 1) (n := 6) (Nat.le_refl _) (Nat.le_refl _) ?_
      refine W.eq (g2 := F0 m 13 ls [.ref q9]) rfl ?_
      refine lv_astore (lv' := [(4, .ref q9), (0, .ref x0), (1, .int x1), (2, .int x2), (3, .ref x3)]) hx hb dL_hours_13 hl (by decide) rfl (fun ls hl => ?_)
      refine lv_iconst (v := 1) hx hb dL_hours_15 (by decide) ?_
      cases hf
      exact tk_iret hx hb hr hlocks hs dL_hours_16
    rw [if_neg c4] at hf
    cases hf
def fL_claim (N : Nat) (x0 : Nat) (x1 : Int32) (x2 : Int32) (x3 : Int32) (x4 : Nat) (h : tk_AH) (sz : Nat) : Option (Int32 × tk_AH × Nat) :=
  (tk_ok h 4 x0).bind fun _ =>
  (fX4_claim N x0 x1 x2 x3 h sz).bind fun o1 =>
  Sum.elim (fun r1 =>
  (tk_sJ o1.2.1 2 x4 0 r1.toInt64).bind fun h3 =>
  some (0, h3, o1.2.2)) (fun E1 =>
  if E1 = "java/util/NoSuchElementException" then (
  some (1, o1.2.1, o1.2.2)) else (
  if E1 = "java/lang/IllegalArgumentException" then (
  some (2, o1.2.1, o1.2.2)) else (
  none))) o1.1
set_option maxHeartbeats 8000000 in
set_option maxRecDepth 100000 in
theorem cL_claim_ok (l : Launch) (hl0 : l.stackTraces = false) (G : tk_AG) (N : Nat) (x0 : Nat) (x1 : Int32) (x2 : Int32) (x3 : Int32) (x4 : Nat) (h : tk_AH) (sz : Nat) (r9 : Int32) (h9 : tk_AH) (sz9 : Nat) (hf : fL_claim N x0 x1 x2 x3 x4 h sz = some (r9, h9, sz9)) : Met l yL_claim (coL_claim :: tk_W) ({ frames := 8, cells := 1, slots := 6, locals := 147 }) (tk_pc G [.ref x0, .int x1, .int x2, .int x3, .ref x4] h sz) (tk_qc G (some (.int r9)) h9 sz9) 1 6 (tk_ag G) := by
  refine va_MetW (cc := cL_claim) (maxL := 6) (ret := (some .int)) (hh := [(0, 12, 15, 13), (0, 12, 19, 19)]) (by decide) rfl ?_
  intro p e s m args below meth c s₁ B hml hv
  obtain ⟨hav, hE, hrp, hsz, hgs⟩ := hv
  have hx := B.exec
  have hb := B.bytes
  have hr := B.returns
  have hts := atoms_spec (ws := coL_claim :: tk_W) B.pre
  have ht : ∀ w ∈ tk_W, w.before args s = true := fun w h => hts w (List.mem_cons_of_mem _ h)
  have hown : s.vm.findClass RL = some m.cls := findClass_of_methodNamed B.named
  have hlocks := B.notSynchronized
  have htab : c.exceptionTable.toList = tableOf [(0, 12, 15, 13), (0, 12, 19, 19)] := vx_table (x := yL_claim) B (hts _ List.mem_cons_self)
  have hs : tk_sw G s h sz s.heap [] := ⟨hrp, hsz, by rw [hsz]; exact hgs, va_S.rf⟩
  have hl := lv_entry ([.ref x0, .int x1, .int x2, .int x3, .ref x4]) (n := 6) (Nat.le_of_ble_eq_true rfl)
  have hent : entryFrame m args 6 = F0 m 0 (lg_sl ([.ref x0, .int x1, .int x2, .int x3, .ref x4]) ++ List.replicate (6 - (lg_sl ([.ref x0, .int x1, .int x2, .int x3, .ref x4])).length) Slot.unset).toArray [] := by rw [hav, lg_entry_eq]
  rw [hent]
  clear hent
  generalize (lg_sl ([.ref x0, .int x1, .int x2, .int x3, .ref x4]) ++ List.replicate (6 - (lg_sl ([.ref x0, .int x1, .int x2, .int x3, .ref x4])).length) Slot.unset).toArray = ls at hl ⊢
  have hl : lv_has ls 6 [(0, .ref x0), (1, .int x1), (2, .int x2), (3, .int x3), (4, .ref x4)] := hl
  unfold fL_claim at hf
  refine lv_aload hx hb dL_claim_0 (lv_at hl 4 rfl) ?_
  refine lv_iconst (v := 0) hx hb dL_claim_2 (by decide) ?_
  refine lv_aload_n hx hb dL_claim_3 rfl (lv_at hl 0 rfl) ?_
  refine lv_iload_n hx hb dL_claim_4 rfl (lv_at hl 1 rfl) ?_
  refine lv_iload_n hx hb dL_claim_5 rfl (lv_at hl 2 rfl) ?_
  refine lv_iload_n hx hb dL_claim_6 rfl (lv_at hl 3 rfl) ?_
  obtain ⟨_, p1, hf⟩ := tk_bi hf
  obtain ⟨o1, e1, hf⟩ := tk_bi hf
  rcases w1 : o1.1 with r1 | E1
  · rw [w1, Sum.elim_inl] at hf
    refine tk_xret0 (v := some (.int r1)) hs (vx_runV (As := [.int x1, .int x2, .int x3]) (rest := [.int 0, .ref x4]) ⟨hx, hb, hml, hown, ht⟩ (cX4_claim_ok l hl0 G N x0 x1 x2 x3 h sz (Sum.inl r1) o1.2.1 o1.2.2 (by rw [e1, ← w1])) (kwX4_claim ht wmL_15 rfl rfl ⟨Nat.le_of_ble_eq_true rfl, Nat.le_of_ble_eq_true rfl⟩) (tk_preV hE hs (tk_ok_ok p1) rfl) rfl rfl hl.1 rfl (lv_room (Nat.le_of_ble_eq_true rfl)) dL_claim_7 ⟨(Nat.le_of_ble_eq_true rfl), (Nat.le_of_ble_eq_true rfl)⟩) rfl rfl (fun H locs hs => ?_)
    refine W.eq (g2 := F0 m 10 ls [.int r1, .int 0, .ref x4]) rfl ?_
    refine lv_i2l (v := r1.toInt64) hx hb dL_claim_10 rfl ?_
    obtain ⟨h3, e3, hf⟩ := tk_bi hf
    refine tk_last hx hb hE hs e3 dL_claim_11 (fun H locs hs => ?_)
    refine lv_goto (tgt := 23) hx hb dL_claim_12 (by decide) ?_
    refine lv_iconst (v := 0) hx hb dL_claim_23 (by decide) ?_
    cases hf
    refine W.widen (k := 1) (n := 6) (by omega) (by omega) ?_
    exact tk_iret hx hb hr hlocks hs dL_claim_24
  · rw [w1, Sum.elim_inr] at hf
    by_cases c4 : E1 = "java/util/NoSuchElementException"
    · subst c4
      rw [if_pos rfl] at hf
      refine tk_xthr hs (vx_runV (As := [.int x1, .int x2, .int x3]) (rest := [.int 0, .ref x4]) ⟨hx, hb, hml, hown, ht⟩ (cX4_claim_ok l hl0 G N x0 x1 x2 x3 h sz (Sum.inr "java/util/NoSuchElementException") o1.2.1 o1.2.2 (by rw [e1, ← w1])) (kwX4_claim ht wmL_15 rfl rfl ⟨Nat.le_of_ble_eq_true rfl, Nat.le_of_ble_eq_true rfl⟩) (tk_preV hE hs (tk_ok_ok p1) rfl) rfl rfl hl.1 rfl (lv_room (Nat.le_of_ble_eq_true rfl)) dL_claim_7 ⟨Nat.le_of_ble_eq_true rfl, Nat.le_of_ble_eq_true rfl⟩) (fun H locs ce q9 hs hce hcv hcl => ?_)
      refine vx_catch (own := RL) (name := "java/util/NoSuchElementException") hown [] ⟨0, 12, 15, 13⟩ [⟨0, 12, 19, 19⟩] htab (fun z hz => nomatch hz) (by decide) (by decide) (ht _ wlL_13) (tk_use rfl (hE.2.2.1 _ (by decide +kernel))) hce hcv hcl ?_
      refine W.widen (k := 1) (n := 6) (Nat.le_refl _) (Nat.le_refl _) ?_
      refine W.eq (g2 := F0 m 15 ls [.ref q9]) rfl ?_
      refine lv_astore (lv' := [(5, .ref q9), (0, .ref x0), (1, .int x1), (2, .int x2), (3, .int x3), (4, .ref x4)]) hx hb dL_claim_15 hl (by decide) rfl (fun ls hl => ?_)
      refine lv_iconst (v := 1) hx hb dL_claim_17 (by decide) ?_
      cases hf
      exact tk_iret hx hb hr hlocks hs dL_claim_18
    rw [if_neg c4] at hf
    by_cases c5 : E1 = "java/lang/IllegalArgumentException"
    · subst c5
      rw [if_pos rfl] at hf
      refine tk_xthr hs (vx_runV (As := [.int x1, .int x2, .int x3]) (rest := [.int 0, .ref x4]) ⟨hx, hb, hml, hown, ht⟩ (cX4_claim_ok l hl0 G N x0 x1 x2 x3 h sz (Sum.inr "java/lang/IllegalArgumentException") o1.2.1 o1.2.2 (by rw [e1, ← w1])) (kwX4_claim ht wmL_15 rfl rfl ⟨Nat.le_of_ble_eq_true rfl, Nat.le_of_ble_eq_true rfl⟩) (tk_preV hE hs (tk_ok_ok p1) rfl) rfl rfl hl.1 rfl (lv_room (Nat.le_of_ble_eq_true rfl)) dL_claim_7 ⟨Nat.le_of_ble_eq_true rfl, Nat.le_of_ble_eq_true rfl⟩) (fun H locs ce q9 hs hce hcv hcl => ?_)
      refine vx_catch (own := RL) (name := "java/lang/IllegalArgumentException") hown [⟨0, 12, 15, 13⟩] ⟨0, 12, 19, 19⟩ [] htab (fun z hz => by have hz : z = ⟨0, 12, 15, 13⟩ := List.mem_singleton.mp hz; subst hz; exact Or.inr ⟨by decide, "java/util/NoSuchElementException", ht _ wlL_13, hE.2.2.2.2.2.2.1⟩) (by decide) (by decide) (ht _ wlL_19) (tk_use rfl (hE.2.2.1 _ (by decide +kernel))) hce hcv hcl ?_
      refine W.widen (k := 1) (n := 6) (Nat.le_refl _) (Nat.le_refl _) ?_
      refine W.eq (g2 := F0 m 19 ls [.ref q9]) rfl ?_
      refine lv_astore (lv' := [(5, .ref q9), (0, .ref x0), (1, .int x1), (2, .int x2), (3, .int x3), (4, .ref x4)]) hx hb dL_claim_19 hl (by decide) rfl (fun ls hl => ?_)
      refine lv_iconst (v := 2) hx hb dL_claim_21 (by decide) ?_
      cases hf
      exact tk_iret hx hb hr hlocks hs dL_claim_22
    rw [if_neg c5] at hf
    cases hf
def fL_want (N : Nat) (x0 : Nat) (x1 : Int32) (x2 : Int32) (x3 : Nat) (h : tk_AH) (sz : Nat) : Option (Int32 × tk_AH × Nat) :=
  (tk_ok h 4 x0).bind fun _ =>
  (fX4_want N x0 x1 x2 h sz).bind fun o1 =>
  Sum.elim (fun r1 =>
  (tk_sJ o1.2.1 2 x3 0 r1.toInt64).bind fun h3 =>
  some (0, h3, o1.2.2)) (fun E1 =>
  if E1 = "java/util/NoSuchElementException" then (
  some (1, o1.2.1, o1.2.2)) else (
  none)) o1.1
set_option maxHeartbeats 8000000 in
set_option maxRecDepth 100000 in
theorem cL_want_ok (l : Launch) (hl0 : l.stackTraces = false) (G : tk_AG) (N : Nat) (x0 : Nat) (x1 : Int32) (x2 : Int32) (x3 : Nat) (h : tk_AH) (sz : Nat) (r9 : Int32) (h9 : tk_AH) (sz9 : Nat) (hf : fL_want N x0 x1 x2 x3 h sz = some (r9, h9, sz9)) : Met l yL_want (coL_want :: tk_W) ({ frames := 8, cells := 1, slots := 6, locals := 145 }) (tk_pc G [.ref x0, .int x1, .int x2, .ref x3] h sz) (tk_qc G (some (.int r9)) h9 sz9) 1 6 (tk_ag G) := by
  refine va_MetW (cc := cL_want) (maxL := 5) (ret := (some .int)) (hh := [(0, 10, 13, 13)]) (by decide) rfl ?_
  intro p e s m args below meth c s₁ B hml hv
  obtain ⟨hav, hE, hrp, hsz, hgs⟩ := hv
  have hx := B.exec
  have hb := B.bytes
  have hr := B.returns
  have hts := atoms_spec (ws := coL_want :: tk_W) B.pre
  have ht : ∀ w ∈ tk_W, w.before args s = true := fun w h => hts w (List.mem_cons_of_mem _ h)
  have hown : s.vm.findClass RL = some m.cls := findClass_of_methodNamed B.named
  have hlocks := B.notSynchronized
  have htab : c.exceptionTable.toList = tableOf [(0, 10, 13, 13)] := vx_table (x := yL_want) B (hts _ List.mem_cons_self)
  have hs : tk_sw G s h sz s.heap [] := ⟨hrp, hsz, by rw [hsz]; exact hgs, va_S.rf⟩
  have hl := lv_entry ([.ref x0, .int x1, .int x2, .ref x3]) (n := 5) (Nat.le_of_ble_eq_true rfl)
  have hent : entryFrame m args 5 = F0 m 0 (lg_sl ([.ref x0, .int x1, .int x2, .ref x3]) ++ List.replicate (5 - (lg_sl ([.ref x0, .int x1, .int x2, .ref x3])).length) Slot.unset).toArray [] := by rw [hav, lg_entry_eq]
  rw [hent]
  clear hent
  generalize (lg_sl ([.ref x0, .int x1, .int x2, .ref x3]) ++ List.replicate (5 - (lg_sl ([.ref x0, .int x1, .int x2, .ref x3])).length) Slot.unset).toArray = ls at hl ⊢
  have hl : lv_has ls 5 [(0, .ref x0), (1, .int x1), (2, .int x2), (3, .ref x3)] := hl
  unfold fL_want at hf
  refine lv_aload_n hx hb dL_want_0 rfl (lv_at hl 3 rfl) ?_
  refine lv_iconst (v := 0) hx hb dL_want_1 (by decide) ?_
  refine lv_aload_n hx hb dL_want_2 rfl (lv_at hl 0 rfl) ?_
  refine lv_iload_n hx hb dL_want_3 rfl (lv_at hl 1 rfl) ?_
  refine lv_iload_n hx hb dL_want_4 rfl (lv_at hl 2 rfl) ?_
  obtain ⟨_, p1, hf⟩ := tk_bi hf
  obtain ⟨o1, e1, hf⟩ := tk_bi hf
  rcases w1 : o1.1 with r1 | E1
  · rw [w1, Sum.elim_inl] at hf
    refine tk_xret0 (v := some (.int r1)) hs (vx_runV (As := [.int x1, .int x2]) (rest := [.int 0, .ref x3]) ⟨hx, hb, hml, hown, ht⟩ (cX4_want_ok l hl0 G N x0 x1 x2 h sz (Sum.inl r1) o1.2.1 o1.2.2 (by rw [e1, ← w1])) (kwX4_want ht wmL_21 rfl rfl ⟨Nat.le_of_ble_eq_true rfl, Nat.le_of_ble_eq_true rfl⟩) (tk_preV hE hs (tk_ok_ok p1) rfl) rfl rfl hl.1 rfl (lv_room (Nat.le_of_ble_eq_true rfl)) dL_want_5 ⟨(Nat.le_of_ble_eq_true rfl), (Nat.le_of_ble_eq_true rfl)⟩) rfl rfl (fun H locs hs => ?_)
    refine W.eq (g2 := F0 m 8 ls [.int r1, .int 0, .ref x3]) rfl ?_
    refine lv_i2l (v := r1.toInt64) hx hb dL_want_8 rfl ?_
    obtain ⟨h3, e3, hf⟩ := tk_bi hf
    refine tk_last hx hb hE hs e3 dL_want_9 (fun H locs hs => ?_)
    refine lv_goto (tgt := 17) hx hb dL_want_10 (by decide) ?_
    refine lv_iconst (v := 0) hx hb dL_want_17 (by decide) ?_
    cases hf
    refine W.widen (k := 1) (n := 6) (by omega) (by omega) ?_
    exact tk_iret hx hb hr hlocks hs dL_want_18
  · rw [w1, Sum.elim_inr] at hf
    by_cases c4 : E1 = "java/util/NoSuchElementException"
    · subst c4
      rw [if_pos rfl] at hf
      refine tk_xthr hs (vx_runV (As := [.int x1, .int x2]) (rest := [.int 0, .ref x3]) ⟨hx, hb, hml, hown, ht⟩ (cX4_want_ok l hl0 G N x0 x1 x2 h sz (Sum.inr "java/util/NoSuchElementException") o1.2.1 o1.2.2 (by rw [e1, ← w1])) (kwX4_want ht wmL_21 rfl rfl ⟨Nat.le_of_ble_eq_true rfl, Nat.le_of_ble_eq_true rfl⟩) (tk_preV hE hs (tk_ok_ok p1) rfl) rfl rfl hl.1 rfl (lv_room (Nat.le_of_ble_eq_true rfl)) dL_want_5 ⟨Nat.le_of_ble_eq_true rfl, Nat.le_of_ble_eq_true rfl⟩) (fun H locs ce q9 hs hce hcv hcl => ?_)
      refine vx_catch (own := RL) (name := "java/util/NoSuchElementException") hown [] ⟨0, 10, 13, 13⟩ [] htab (fun z hz => nomatch hz) (by decide) (by decide) (ht _ wlL_13) (tk_use rfl (hE.2.2.1 _ (by decide +kernel))) hce hcv hcl ?_
      refine W.widen (k := 1) (n := 6) (Nat.le_refl _) (Nat.le_refl _) ?_
      refine W.eq (g2 := F0 m 13 ls [.ref q9]) rfl ?_
      refine lv_astore (lv' := [(4, .ref q9), (0, .ref x0), (1, .int x1), (2, .int x2), (3, .ref x3)]) hx hb dL_want_13 hl (by decide) rfl (fun ls hl => ?_)
      refine lv_iconst (v := 1) hx hb dL_want_15 (by decide) ?_
      cases hf
      exact tk_iret hx hb hr hlocks hs dL_want_16
    rw [if_neg c4] at hf
    cases hf
def fL_unwant (N : Nat) (x0 : Nat) (x1 : Int32) (x2 : Nat) (h : tk_AH) (sz : Nat) : Option (Int32 × tk_AH × Nat) :=
  (tk_ok h 4 x0).bind fun _ =>
  (fX4_unwant N x0 x1 h sz).bind fun o1 =>
  Sum.elim (fun r1 =>
  (tk_sJ o1.2.1 2 x2 0 r1.toInt64).bind fun h3 =>
  some (0, h3, o1.2.2)) (fun E1 =>
  if E1 = "java/util/NoSuchElementException" then (
  some (1, o1.2.1, o1.2.2)) else (
  none)) o1.1
set_option maxHeartbeats 8000000 in
set_option maxRecDepth 100000 in
theorem cL_unwant_ok (l : Launch) (hl0 : l.stackTraces = false) (G : tk_AG) (N : Nat) (x0 : Nat) (x1 : Int32) (x2 : Nat) (h : tk_AH) (sz : Nat) (r9 : Int32) (h9 : tk_AH) (sz9 : Nat) (hf : fL_unwant N x0 x1 x2 h sz = some (r9, h9, sz9)) : Met l yL_unwant (coL_unwant :: tk_W) ({ frames := 8, cells := 1, slots := 6, locals := 145 }) (tk_pc G [.ref x0, .int x1, .ref x2] h sz) (tk_qc G (some (.int r9)) h9 sz9) 1 6 (tk_ag G) := by
  refine va_MetW (cc := cL_unwant) (maxL := 4) (ret := (some .int)) (hh := [(0, 9, 12, 13)]) (by decide) rfl ?_
  intro p e s m args below meth c s₁ B hml hv
  obtain ⟨hav, hE, hrp, hsz, hgs⟩ := hv
  have hx := B.exec
  have hb := B.bytes
  have hr := B.returns
  have hts := atoms_spec (ws := coL_unwant :: tk_W) B.pre
  have ht : ∀ w ∈ tk_W, w.before args s = true := fun w h => hts w (List.mem_cons_of_mem _ h)
  have hown : s.vm.findClass RL = some m.cls := findClass_of_methodNamed B.named
  have hlocks := B.notSynchronized
  have htab : c.exceptionTable.toList = tableOf [(0, 9, 12, 13)] := vx_table (x := yL_unwant) B (hts _ List.mem_cons_self)
  have hs : tk_sw G s h sz s.heap [] := ⟨hrp, hsz, by rw [hsz]; exact hgs, va_S.rf⟩
  have hl := lv_entry ([.ref x0, .int x1, .ref x2]) (n := 4) (Nat.le_of_ble_eq_true rfl)
  have hent : entryFrame m args 4 = F0 m 0 (lg_sl ([.ref x0, .int x1, .ref x2]) ++ List.replicate (4 - (lg_sl ([.ref x0, .int x1, .ref x2])).length) Slot.unset).toArray [] := by rw [hav, lg_entry_eq]
  rw [hent]
  clear hent
  generalize (lg_sl ([.ref x0, .int x1, .ref x2]) ++ List.replicate (4 - (lg_sl ([.ref x0, .int x1, .ref x2])).length) Slot.unset).toArray = ls at hl ⊢
  have hl : lv_has ls 4 [(0, .ref x0), (1, .int x1), (2, .ref x2)] := hl
  unfold fL_unwant at hf
  refine lv_aload_n hx hb dL_unwant_0 rfl (lv_at hl 2 rfl) ?_
  refine lv_iconst (v := 0) hx hb dL_unwant_1 (by decide) ?_
  refine lv_aload_n hx hb dL_unwant_2 rfl (lv_at hl 0 rfl) ?_
  refine lv_iload_n hx hb dL_unwant_3 rfl (lv_at hl 1 rfl) ?_
  obtain ⟨_, p1, hf⟩ := tk_bi hf
  obtain ⟨o1, e1, hf⟩ := tk_bi hf
  rcases w1 : o1.1 with r1 | E1
  · rw [w1, Sum.elim_inl] at hf
    refine tk_xret0 (v := some (.int r1)) hs (vx_runV (As := [.int x1]) (rest := [.int 0, .ref x2]) ⟨hx, hb, hml, hown, ht⟩ (cX4_unwant_ok l hl0 G N x0 x1 h sz (Sum.inl r1) o1.2.1 o1.2.2 (by rw [e1, ← w1])) (kwX4_unwant ht wmL_24 rfl rfl ⟨Nat.le_of_ble_eq_true rfl, Nat.le_of_ble_eq_true rfl⟩) (tk_preV hE hs (tk_ok_ok p1) rfl) rfl rfl hl.1 rfl (lv_room (Nat.le_of_ble_eq_true rfl)) dL_unwant_4 ⟨(Nat.le_of_ble_eq_true rfl), (Nat.le_of_ble_eq_true rfl)⟩) rfl rfl (fun H locs hs => ?_)
    refine W.eq (g2 := F0 m 7 ls [.int r1, .int 0, .ref x2]) rfl ?_
    refine lv_i2l (v := r1.toInt64) hx hb dL_unwant_7 rfl ?_
    obtain ⟨h3, e3, hf⟩ := tk_bi hf
    refine tk_last hx hb hE hs e3 dL_unwant_8 (fun H locs hs => ?_)
    refine lv_goto (tgt := 15) hx hb dL_unwant_9 (by decide) ?_
    refine lv_iconst (v := 0) hx hb dL_unwant_15 (by decide) ?_
    cases hf
    refine W.widen (k := 1) (n := 6) (by omega) (by omega) ?_
    exact tk_iret hx hb hr hlocks hs dL_unwant_16
  · rw [w1, Sum.elim_inr] at hf
    by_cases c4 : E1 = "java/util/NoSuchElementException"
    · subst c4
      rw [if_pos rfl] at hf
      refine tk_xthr hs (vx_runV (As := [.int x1]) (rest := [.int 0, .ref x2]) ⟨hx, hb, hml, hown, ht⟩ (cX4_unwant_ok l hl0 G N x0 x1 h sz (Sum.inr "java/util/NoSuchElementException") o1.2.1 o1.2.2 (by rw [e1, ← w1])) (kwX4_unwant ht wmL_24 rfl rfl ⟨Nat.le_of_ble_eq_true rfl, Nat.le_of_ble_eq_true rfl⟩) (tk_preV hE hs (tk_ok_ok p1) rfl) rfl rfl hl.1 rfl (lv_room (Nat.le_of_ble_eq_true rfl)) dL_unwant_4 ⟨Nat.le_of_ble_eq_true rfl, Nat.le_of_ble_eq_true rfl⟩) (fun H locs ce q9 hs hce hcv hcl => ?_)
      refine vx_catch (own := RL) (name := "java/util/NoSuchElementException") hown [] ⟨0, 9, 12, 13⟩ [] htab (fun z hz => nomatch hz) (by decide) (by decide) (ht _ wlL_13) (tk_use rfl (hE.2.2.1 _ (by decide +kernel))) hce hcv hcl ?_
      refine W.widen (k := 1) (n := 6) (Nat.le_refl _) (Nat.le_refl _) ?_
      refine W.eq (g2 := F0 m 12 ls [.ref q9]) rfl ?_
      refine lv_astore_n (lv' := [(3, .ref q9), (0, .ref x0), (1, .int x1), (2, .ref x2)]) hx hb dL_unwant_12 rfl hl (by decide) rfl (fun ls hl => ?_)
      refine lv_iconst (v := 1) hx hb dL_unwant_13 (by decide) ?_
      cases hf
      exact tk_iret hx hb hr hlocks hs dL_unwant_14
    rw [if_neg c4] at hf
    cases hf
def fL_bar_18 (N : Nat) (y0 : Int64) (y1 : Int32) (y2 : Nat) (h : tk_AH) (sz : Nat) : Option (Int32 × tk_AH × Nat) :=
  (tk_sJ h 2 y2 y1 y0).bind fun h1 =>
  some (0, h1, sz)
def fL_bar (N : Nat) (x0 : Nat) (x1 : Int32) (x2 : Int32) (x3 : Int32) (x4 : Nat) (h : tk_AH) (sz : Nat) : Option (Int32 × tk_AH × Nat) :=
  (tk_ok h 4 x0).bind fun _ =>
  (fX4_bar N x0 x1 x2 x3 h sz).bind fun o2 =>
  Sum.elim (fun r2 =>
  if r2 = 0 then (
  fL_bar_18 N 0 0 x4 o2.2.1 o2.2.2) else (
  fL_bar_18 N 1 0 x4 o2.2.1 o2.2.2)) (fun E2 =>
  if E2 = "java/util/NoSuchElementException" then (
  some (1, o2.2.1, o2.2.2)) else (
  none)) o2.1
set_option maxHeartbeats 8000000 in
set_option maxRecDepth 100000 in
theorem cL_bar_ok (l : Launch) (hl0 : l.stackTraces = false) (G : tk_AG) (N : Nat) (x0 : Nat) (x1 : Int32) (x2 : Int32) (x3 : Int32) (x4 : Nat) (h : tk_AH) (sz : Nat) (r9 : Int32) (h9 : tk_AH) (sz9 : Nat) (hf : fL_bar N x0 x1 x2 x3 x4 h sz = some (r9, h9, sz9)) : Met l yL_bar (coL_bar :: tk_W) ({ frames := 9, cells := 1, slots := 6, locals := 170 }) (tk_pc G [.ref x0, .int x1, .int x2, .int x3, .ref x4] h sz) (tk_qc G (some (.int r9)) h9 sz9) 1 6 (tk_ag G) := by
  refine va_MetW (cc := cL_bar) (maxL := 6) (ret := (some .int)) (hh := [(0, 19, 22, 13)]) (by decide) rfl ?_
  intro p e s m args below meth c s₁ B hml hv
  obtain ⟨hav, hE, hrp, hsz, hgs⟩ := hv
  have hx := B.exec
  have hb := B.bytes
  have hr := B.returns
  have hts := atoms_spec (ws := coL_bar :: tk_W) B.pre
  have ht : ∀ w ∈ tk_W, w.before args s = true := fun w h => hts w (List.mem_cons_of_mem _ h)
  have hown : s.vm.findClass RL = some m.cls := findClass_of_methodNamed B.named
  have hlocks := B.notSynchronized
  have htab : c.exceptionTable.toList = tableOf [(0, 19, 22, 13)] := vx_table (x := yL_bar) B (hts _ List.mem_cons_self)
  have hs : tk_sw G s h sz s.heap [] := ⟨hrp, hsz, by rw [hsz]; exact hgs, va_S.rf⟩
  have hl := lv_entry ([.ref x0, .int x1, .int x2, .int x3, .ref x4]) (n := 6) (Nat.le_of_ble_eq_true rfl)
  have hent : entryFrame m args 6 = F0 m 0 (lg_sl ([.ref x0, .int x1, .int x2, .int x3, .ref x4]) ++ List.replicate (6 - (lg_sl ([.ref x0, .int x1, .int x2, .int x3, .ref x4])).length) Slot.unset).toArray [] := by rw [hav, lg_entry_eq]
  rw [hent]
  clear hent
  generalize (lg_sl ([.ref x0, .int x1, .int x2, .int x3, .ref x4]) ++ List.replicate (6 - (lg_sl ([.ref x0, .int x1, .int x2, .int x3, .ref x4])).length) Slot.unset).toArray = ls at hl ⊢
  have hl : lv_has ls 6 [(0, .ref x0), (1, .int x1), (2, .int x2), (3, .int x3), (4, .ref x4)] := hl
  have j18 : ∀ (y0 : Int64) (y1 : Int32) (y2 : Nat) (h : tk_AH) (sz : Nat) (H : Heap) (locs : List Loc) (ls : Array Slot), fL_bar_18 N y0 y1 y2 h sz = some (r9, h9, sz9) → tk_sw G s h sz H locs → lv_has ls 6 [] → W p l e (headSpec (coL_bar :: tk_W) ({ frames := 9, cells := 1, slots := 6, locals := 170 })).room s m args below meth c H locs 0 (0) (MQ below (tk_qc G (some (.int r9)) h9 sz9) args s 1 6 (tk_ag G)) (F0 m 18 ls [.long y0, .int y1, .ref y2]) := by
    intro y0 y1 y2 h sz H locs ls hf hs hl
    unfold fL_bar_18 at hf
    obtain ⟨h1, e1, hf⟩ := tk_bi hf
    refine tk_last hx hb hE hs e1 dL_bar_18 (fun H locs hs => ?_)
    refine lv_goto (tgt := 26) hx hb dL_bar_19 (by decide) ?_
    refine lv_iconst (v := 0) hx hb dL_bar_26 (by decide) ?_
    cases hf
    refine W.widen (k := 1) (n := 6) (by omega) (by omega) ?_
    exact tk_iret hx hb hr hlocks hs dL_bar_27
  unfold fL_bar at hf
  refine lv_aload hx hb dL_bar_0 (lv_at hl 4 rfl) ?_
  refine lv_iconst (v := 0) hx hb dL_bar_2 (by decide) ?_
  refine lv_aload_n hx hb dL_bar_3 rfl (lv_at hl 0 rfl) ?_
  refine lv_iload_n hx hb dL_bar_4 rfl (lv_at hl 1 rfl) ?_
  refine lv_iload_n hx hb dL_bar_5 rfl (lv_at hl 2 rfl) ?_
  refine lv_iload_n hx hb dL_bar_6 rfl (lv_at hl 3 rfl) ?_
  obtain ⟨_, p2, hf⟩ := tk_bi hf
  obtain ⟨o2, e2, hf⟩ := tk_bi hf
  rcases w2 : o2.1 with r2 | E2
  · rw [w2, Sum.elim_inl] at hf
    refine tk_xret0 (v := some (.int r2)) hs (vx_runV (As := [.int x1, .int x2, .int x3]) (rest := [.int 0, .ref x4]) ⟨hx, hb, hml, hown, ht⟩ (cX4_bar_ok l hl0 G N x0 x1 x2 x3 h sz (Sum.inl r2) o2.2.1 o2.2.2 (by rw [e2, ← w2])) (kwX4_bar ht wmL_28 rfl rfl ⟨Nat.le_of_ble_eq_true rfl, Nat.le_of_ble_eq_true rfl⟩) (tk_preV hE hs (tk_ok_ok p2) rfl) rfl rfl hl.1 rfl (lv_room (Nat.le_of_ble_eq_true rfl)) dL_bar_7 ⟨(Nat.le_of_ble_eq_true rfl), (Nat.le_of_ble_eq_true rfl)⟩) rfl rfl (fun H locs hs => ?_)
    refine W.eq (g2 := F0 m 10 ls [.int r2, .int 0, .ref x4]) rfl ?_
    refine lv_if_eq (tgt := 17) hx hb dL_bar_10 (by decide) (fun c4 => ?_) (fun c4 => ?_)
    · rw [if_pos c4] at hf
      refine lv_lconst (v := 0) hx hb dL_bar_17 (by decide) ?_
      exact j18 0 0 x4 o2.2.1 o2.2.2 _ _ _ hf hs (lv_sub hl [] rfl)
    · rw [if_neg c4] at hf
      refine lv_lconst (v := 1) hx hb dL_bar_13 (by decide) ?_
      refine lv_goto (tgt := 18) hx hb dL_bar_14 (by decide) ?_
      exact j18 1 0 x4 o2.2.1 o2.2.2 _ _ _ hf hs (lv_sub hl [] rfl)
  · rw [w2, Sum.elim_inr] at hf
    by_cases c5 : E2 = "java/util/NoSuchElementException"
    · subst c5
      rw [if_pos rfl] at hf
      refine tk_xthr hs (vx_runV (As := [.int x1, .int x2, .int x3]) (rest := [.int 0, .ref x4]) ⟨hx, hb, hml, hown, ht⟩ (cX4_bar_ok l hl0 G N x0 x1 x2 x3 h sz (Sum.inr "java/util/NoSuchElementException") o2.2.1 o2.2.2 (by rw [e2, ← w2])) (kwX4_bar ht wmL_28 rfl rfl ⟨Nat.le_of_ble_eq_true rfl, Nat.le_of_ble_eq_true rfl⟩) (tk_preV hE hs (tk_ok_ok p2) rfl) rfl rfl hl.1 rfl (lv_room (Nat.le_of_ble_eq_true rfl)) dL_bar_7 ⟨Nat.le_of_ble_eq_true rfl, Nat.le_of_ble_eq_true rfl⟩) (fun H locs ce q9 hs hce hcv hcl => ?_)
      refine vx_catch (own := RL) (name := "java/util/NoSuchElementException") hown [] ⟨0, 19, 22, 13⟩ [] htab (fun z hz => nomatch hz) (by decide) (by decide) (ht _ wlL_13) (tk_use rfl (hE.2.2.1 _ (by decide +kernel))) hce hcv hcl ?_
      refine W.widen (k := 1) (n := 6) (Nat.le_refl _) (Nat.le_refl _) ?_
      refine W.eq (g2 := F0 m 22 ls [.ref q9]) rfl ?_
      refine lv_astore (lv' := [(5, .ref q9), (0, .ref x0), (1, .int x1), (2, .int x2), (3, .int x3), (4, .ref x4)]) hx hb dL_bar_22 hl (by decide) rfl (fun ls hl => ?_)
      refine lv_iconst (v := 1) hx hb dL_bar_24 (by decide) ?_
      cases hf
      exact tk_iret hx hb hr hlocks hs dL_bar_25
    rw [if_neg c5] at hf
    cases hf
def fL_test_20 (N : Nat) (y0 : Int64) (y1 : Int32) (y2 : Nat) (h : tk_AH) (sz : Nat) : Option (Int32 × tk_AH × Nat) :=
  (tk_sJ h 2 y2 y1 y0).bind fun h1 =>
  some (0, h1, sz)
def fL_test (N : Nat) (x0 : Nat) (x1 : Int32) (x2 : Int32) (x3 : Int32) (x4 : Int32) (x5 : Nat) (h : tk_AH) (sz : Nat) : Option (Int32 × tk_AH × Nat) :=
  (tk_ok h 4 x0).bind fun _ =>
  (fX4_test N x0 x1 x2 x3 x4 h sz).bind fun o2 =>
  Sum.elim (fun r2 =>
  if r2 = 0 then (
  fL_test_20 N 0 0 x5 o2.2.1 o2.2.2) else (
  fL_test_20 N 1 0 x5 o2.2.1 o2.2.2)) (fun E2 =>
  if E2 = "java/util/NoSuchElementException" then (
  some (1, o2.2.1, o2.2.2)) else (
  if E2 = "java/lang/IllegalArgumentException" then (
  some (2, o2.2.1, o2.2.2)) else (
  none))) o2.1
set_option maxHeartbeats 8000000 in
set_option maxRecDepth 100000 in
theorem cL_test_ok (l : Launch) (hl0 : l.stackTraces = false) (G : tk_AG) (N : Nat) (x0 : Nat) (x1 : Int32) (x2 : Int32) (x3 : Int32) (x4 : Int32) (x5 : Nat) (h : tk_AH) (sz : Nat) (r9 : Int32) (h9 : tk_AH) (sz9 : Nat) (hf : fL_test N x0 x1 x2 x3 x4 x5 h sz = some (r9, h9, sz9)) : Met l yL_test (coL_test :: tk_W) ({ frames := 8, cells := 1, slots := 6, locals := 147 }) (tk_pc G [.ref x0, .int x1, .int x2, .int x3, .int x4, .ref x5] h sz) (tk_qc G (some (.int r9)) h9 sz9) 1 6 (tk_ag G) := by
  refine va_MetW (cc := cL_test) (maxL := 7) (ret := (some .int)) (hh := [(0, 21, 24, 13), (0, 21, 28, 19)]) (by decide) rfl ?_
  intro p e s m args below meth c s₁ B hml hv
  obtain ⟨hav, hE, hrp, hsz, hgs⟩ := hv
  have hx := B.exec
  have hb := B.bytes
  have hr := B.returns
  have hts := atoms_spec (ws := coL_test :: tk_W) B.pre
  have ht : ∀ w ∈ tk_W, w.before args s = true := fun w h => hts w (List.mem_cons_of_mem _ h)
  have hown : s.vm.findClass RL = some m.cls := findClass_of_methodNamed B.named
  have hlocks := B.notSynchronized
  have htab : c.exceptionTable.toList = tableOf [(0, 21, 24, 13), (0, 21, 28, 19)] := vx_table (x := yL_test) B (hts _ List.mem_cons_self)
  have hs : tk_sw G s h sz s.heap [] := ⟨hrp, hsz, by rw [hsz]; exact hgs, va_S.rf⟩
  have hl := lv_entry ([.ref x0, .int x1, .int x2, .int x3, .int x4, .ref x5]) (n := 7) (Nat.le_of_ble_eq_true rfl)
  have hent : entryFrame m args 7 = F0 m 0 (lg_sl ([.ref x0, .int x1, .int x2, .int x3, .int x4, .ref x5]) ++ List.replicate (7 - (lg_sl ([.ref x0, .int x1, .int x2, .int x3, .int x4, .ref x5])).length) Slot.unset).toArray [] := by rw [hav, lg_entry_eq]
  rw [hent]
  clear hent
  generalize (lg_sl ([.ref x0, .int x1, .int x2, .int x3, .int x4, .ref x5]) ++ List.replicate (7 - (lg_sl ([.ref x0, .int x1, .int x2, .int x3, .int x4, .ref x5])).length) Slot.unset).toArray = ls at hl ⊢
  have hl : lv_has ls 7 [(0, .ref x0), (1, .int x1), (2, .int x2), (3, .int x3), (4, .int x4), (5, .ref x5)] := hl
  have j20 : ∀ (y0 : Int64) (y1 : Int32) (y2 : Nat) (h : tk_AH) (sz : Nat) (H : Heap) (locs : List Loc) (ls : Array Slot), fL_test_20 N y0 y1 y2 h sz = some (r9, h9, sz9) → tk_sw G s h sz H locs → lv_has ls 7 [] → W p l e (headSpec (coL_test :: tk_W) ({ frames := 8, cells := 1, slots := 6, locals := 147 })).room s m args below meth c H locs 0 (0) (MQ below (tk_qc G (some (.int r9)) h9 sz9) args s 1 6 (tk_ag G)) (F0 m 20 ls [.long y0, .int y1, .ref y2]) := by
    intro y0 y1 y2 h sz H locs ls hf hs hl
    unfold fL_test_20 at hf
    obtain ⟨h1, e1, hf⟩ := tk_bi hf
    refine tk_last hx hb hE hs e1 dL_test_20 (fun H locs hs => ?_)
    refine lv_goto (tgt := 32) hx hb dL_test_21 (by decide) ?_
    refine lv_iconst (v := 0) hx hb dL_test_32 (by decide) ?_
    cases hf
    refine W.widen (k := 1) (n := 6) (by omega) (by omega) ?_
    exact tk_iret hx hb hr hlocks hs dL_test_33
  unfold fL_test at hf
  refine lv_aload hx hb dL_test_0 (lv_at hl 5 rfl) ?_
  refine lv_iconst (v := 0) hx hb dL_test_2 (by decide) ?_
  refine lv_aload_n hx hb dL_test_3 rfl (lv_at hl 0 rfl) ?_
  refine lv_iload_n hx hb dL_test_4 rfl (lv_at hl 1 rfl) ?_
  refine lv_iload_n hx hb dL_test_5 rfl (lv_at hl 2 rfl) ?_
  refine lv_iload_n hx hb dL_test_6 rfl (lv_at hl 3 rfl) ?_
  refine lv_iload hx hb dL_test_7 (lv_at hl 4 rfl) ?_
  obtain ⟨_, p2, hf⟩ := tk_bi hf
  obtain ⟨o2, e2, hf⟩ := tk_bi hf
  rcases w2 : o2.1 with r2 | E2
  · rw [w2, Sum.elim_inl] at hf
    refine tk_xret0 (v := some (.int r2)) hs (vx_runV (As := [.int x1, .int x2, .int x3, .int x4]) (rest := [.int 0, .ref x5]) ⟨hx, hb, hml, hown, ht⟩ (cX4_test_ok l hl0 G N x0 x1 x2 x3 x4 h sz (Sum.inl r2) o2.2.1 o2.2.2 (by rw [e2, ← w2])) (kwX4_test ht wmL_32 rfl rfl ⟨Nat.le_of_ble_eq_true rfl, Nat.le_of_ble_eq_true rfl⟩) (tk_preV hE hs (tk_ok_ok p2) rfl) rfl rfl hl.1 rfl (lv_room (Nat.le_of_ble_eq_true rfl)) dL_test_9 ⟨(Nat.le_of_ble_eq_true rfl), (Nat.le_of_ble_eq_true rfl)⟩) rfl rfl (fun H locs hs => ?_)
    refine W.eq (g2 := F0 m 12 ls [.int r2, .int 0, .ref x5]) rfl ?_
    refine lv_if_eq (tgt := 19) hx hb dL_test_12 (by decide) (fun c4 => ?_) (fun c4 => ?_)
    · rw [if_pos c4] at hf
      refine lv_lconst (v := 0) hx hb dL_test_19 (by decide) ?_
      exact j20 0 0 x5 o2.2.1 o2.2.2 _ _ _ hf hs (lv_sub hl [] rfl)
    · rw [if_neg c4] at hf
      refine lv_lconst (v := 1) hx hb dL_test_15 (by decide) ?_
      refine lv_goto (tgt := 20) hx hb dL_test_16 (by decide) ?_
      exact j20 1 0 x5 o2.2.1 o2.2.2 _ _ _ hf hs (lv_sub hl [] rfl)
  · rw [w2, Sum.elim_inr] at hf
    by_cases c5 : E2 = "java/util/NoSuchElementException"
    · subst c5
      rw [if_pos rfl] at hf
      refine tk_xthr hs (vx_runV (As := [.int x1, .int x2, .int x3, .int x4]) (rest := [.int 0, .ref x5]) ⟨hx, hb, hml, hown, ht⟩ (cX4_test_ok l hl0 G N x0 x1 x2 x3 x4 h sz (Sum.inr "java/util/NoSuchElementException") o2.2.1 o2.2.2 (by rw [e2, ← w2])) (kwX4_test ht wmL_32 rfl rfl ⟨Nat.le_of_ble_eq_true rfl, Nat.le_of_ble_eq_true rfl⟩) (tk_preV hE hs (tk_ok_ok p2) rfl) rfl rfl hl.1 rfl (lv_room (Nat.le_of_ble_eq_true rfl)) dL_test_9 ⟨Nat.le_of_ble_eq_true rfl, Nat.le_of_ble_eq_true rfl⟩) (fun H locs ce q9 hs hce hcv hcl => ?_)
      refine vx_catch (own := RL) (name := "java/util/NoSuchElementException") hown [] ⟨0, 21, 24, 13⟩ [⟨0, 21, 28, 19⟩] htab (fun z hz => nomatch hz) (by decide) (by decide) (ht _ wlL_13) (tk_use rfl (hE.2.2.1 _ (by decide +kernel))) hce hcv hcl ?_
      refine W.widen (k := 1) (n := 6) (Nat.le_refl _) (Nat.le_refl _) ?_
      refine W.eq (g2 := F0 m 24 ls [.ref q9]) rfl ?_
      refine lv_astore (lv' := [(6, .ref q9), (0, .ref x0), (1, .int x1), (2, .int x2), (3, .int x3), (4, .int x4), (5, .ref x5)]) hx hb dL_test_24 hl (by decide) rfl (fun ls hl => ?_)
      refine lv_iconst (v := 1) hx hb dL_test_26 (by decide) ?_
      cases hf
      exact tk_iret hx hb hr hlocks hs dL_test_27
    rw [if_neg c5] at hf
    by_cases c6 : E2 = "java/lang/IllegalArgumentException"
    · subst c6
      rw [if_pos rfl] at hf
      refine tk_xthr hs (vx_runV (As := [.int x1, .int x2, .int x3, .int x4]) (rest := [.int 0, .ref x5]) ⟨hx, hb, hml, hown, ht⟩ (cX4_test_ok l hl0 G N x0 x1 x2 x3 x4 h sz (Sum.inr "java/lang/IllegalArgumentException") o2.2.1 o2.2.2 (by rw [e2, ← w2])) (kwX4_test ht wmL_32 rfl rfl ⟨Nat.le_of_ble_eq_true rfl, Nat.le_of_ble_eq_true rfl⟩) (tk_preV hE hs (tk_ok_ok p2) rfl) rfl rfl hl.1 rfl (lv_room (Nat.le_of_ble_eq_true rfl)) dL_test_9 ⟨Nat.le_of_ble_eq_true rfl, Nat.le_of_ble_eq_true rfl⟩) (fun H locs ce q9 hs hce hcv hcl => ?_)
      refine vx_catch (own := RL) (name := "java/lang/IllegalArgumentException") hown [⟨0, 21, 24, 13⟩] ⟨0, 21, 28, 19⟩ [] htab (fun z hz => by have hz : z = ⟨0, 21, 24, 13⟩ := List.mem_singleton.mp hz; subst hz; exact Or.inr ⟨by decide, "java/util/NoSuchElementException", ht _ wlL_13, hE.2.2.2.2.2.2.1⟩) (by decide) (by decide) (ht _ wlL_19) (tk_use rfl (hE.2.2.1 _ (by decide +kernel))) hce hcv hcl ?_
      refine W.widen (k := 1) (n := 6) (Nat.le_refl _) (Nat.le_refl _) ?_
      refine W.eq (g2 := F0 m 28 ls [.ref q9]) rfl ?_
      refine lv_astore (lv' := [(6, .ref q9), (0, .ref x0), (1, .int x1), (2, .int x2), (3, .int x3), (4, .int x4), (5, .ref x5)]) hx hb dL_test_28 hl (by decide) rfl (fun ls hl => ?_)
      refine lv_iconst (v := 2) hx hb dL_test_30 (by decide) ?_
      cases hf
      exact tk_iret hx hb hr hlocks hs dL_test_31
    rw [if_neg c6] at hf
    cases hf
def fL_level (N : Nat) (x0 : Nat) (x1 : Int32) (x2 : Int32) (x3 : Int32) (x4 : Nat) (h : tk_AH) (sz : Nat) : Option (Int32 × tk_AH × Nat) :=
  (tk_ok h 4 x0).bind fun _ =>
  (fX4_level N x0 x1 x2 x3 h sz).bind fun o1 =>
  Sum.elim (fun r1 =>
  (tk_sJ o1.2.1 2 x4 0 r1.toInt64).bind fun h3 =>
  some (0, h3, o1.2.2)) (fun E1 =>
  if E1 = "java/util/NoSuchElementException" then (
  some (1, o1.2.1, o1.2.2)) else (
  none)) o1.1
set_option maxHeartbeats 8000000 in
set_option maxRecDepth 100000 in
theorem cL_level_ok (l : Launch) (hl0 : l.stackTraces = false) (G : tk_AG) (N : Nat) (x0 : Nat) (x1 : Int32) (x2 : Int32) (x3 : Int32) (x4 : Nat) (h : tk_AH) (sz : Nat) (r9 : Int32) (h9 : tk_AH) (sz9 : Nat) (hf : fL_level N x0 x1 x2 x3 x4 h sz = some (r9, h9, sz9)) : Met l yL_level (coL_level :: tk_W) ({ frames := 8, cells := 1, slots := 6, locals := 146 }) (tk_pc G [.ref x0, .int x1, .int x2, .int x3, .ref x4] h sz) (tk_qc G (some (.int r9)) h9 sz9) 1 6 (tk_ag G) := by
  refine va_MetW (cc := cL_level) (maxL := 6) (ret := (some .int)) (hh := [(0, 12, 15, 13)]) (by decide) rfl ?_
  intro p e s m args below meth c s₁ B hml hv
  obtain ⟨hav, hE, hrp, hsz, hgs⟩ := hv
  have hx := B.exec
  have hb := B.bytes
  have hr := B.returns
  have hts := atoms_spec (ws := coL_level :: tk_W) B.pre
  have ht : ∀ w ∈ tk_W, w.before args s = true := fun w h => hts w (List.mem_cons_of_mem _ h)
  have hown : s.vm.findClass RL = some m.cls := findClass_of_methodNamed B.named
  have hlocks := B.notSynchronized
  have htab : c.exceptionTable.toList = tableOf [(0, 12, 15, 13)] := vx_table (x := yL_level) B (hts _ List.mem_cons_self)
  have hs : tk_sw G s h sz s.heap [] := ⟨hrp, hsz, by rw [hsz]; exact hgs, va_S.rf⟩
  have hl := lv_entry ([.ref x0, .int x1, .int x2, .int x3, .ref x4]) (n := 6) (Nat.le_of_ble_eq_true rfl)
  have hent : entryFrame m args 6 = F0 m 0 (lg_sl ([.ref x0, .int x1, .int x2, .int x3, .ref x4]) ++ List.replicate (6 - (lg_sl ([.ref x0, .int x1, .int x2, .int x3, .ref x4])).length) Slot.unset).toArray [] := by rw [hav, lg_entry_eq]
  rw [hent]
  clear hent
  generalize (lg_sl ([.ref x0, .int x1, .int x2, .int x3, .ref x4]) ++ List.replicate (6 - (lg_sl ([.ref x0, .int x1, .int x2, .int x3, .ref x4])).length) Slot.unset).toArray = ls at hl ⊢
  have hl : lv_has ls 6 [(0, .ref x0), (1, .int x1), (2, .int x2), (3, .int x3), (4, .ref x4)] := hl
  unfold fL_level at hf
  refine lv_aload hx hb dL_level_0 (lv_at hl 4 rfl) ?_
  refine lv_iconst (v := 0) hx hb dL_level_2 (by decide) ?_
  refine lv_aload_n hx hb dL_level_3 rfl (lv_at hl 0 rfl) ?_
  refine lv_iload_n hx hb dL_level_4 rfl (lv_at hl 1 rfl) ?_
  refine lv_iload_n hx hb dL_level_5 rfl (lv_at hl 2 rfl) ?_
  refine lv_iload_n hx hb dL_level_6 rfl (lv_at hl 3 rfl) ?_
  obtain ⟨_, p1, hf⟩ := tk_bi hf
  obtain ⟨o1, e1, hf⟩ := tk_bi hf
  rcases w1 : o1.1 with r1 | E1
  · rw [w1, Sum.elim_inl] at hf
    refine tk_xret0 (v := some (.int r1)) hs (vx_runV (As := [.int x1, .int x2, .int x3]) (rest := [.int 0, .ref x4]) ⟨hx, hb, hml, hown, ht⟩ (cX4_level_ok l hl0 G N x0 x1 x2 x3 h sz (Sum.inl r1) o1.2.1 o1.2.2 (by rw [e1, ← w1])) (kwX4_level ht wmL_36 rfl rfl ⟨Nat.le_of_ble_eq_true rfl, Nat.le_of_ble_eq_true rfl⟩) (tk_preV hE hs (tk_ok_ok p1) rfl) rfl rfl hl.1 rfl (lv_room (Nat.le_of_ble_eq_true rfl)) dL_level_7 ⟨(Nat.le_of_ble_eq_true rfl), (Nat.le_of_ble_eq_true rfl)⟩) rfl rfl (fun H locs hs => ?_)
    refine W.eq (g2 := F0 m 10 ls [.int r1, .int 0, .ref x4]) rfl ?_
    refine lv_i2l (v := r1.toInt64) hx hb dL_level_10 rfl ?_
    obtain ⟨h3, e3, hf⟩ := tk_bi hf
    refine tk_last hx hb hE hs e3 dL_level_11 (fun H locs hs => ?_)
    refine lv_goto (tgt := 19) hx hb dL_level_12 (by decide) ?_
    refine lv_iconst (v := 0) hx hb dL_level_19 (by decide) ?_
    cases hf
    refine W.widen (k := 1) (n := 6) (by omega) (by omega) ?_
    exact tk_iret hx hb hr hlocks hs dL_level_20
  · rw [w1, Sum.elim_inr] at hf
    by_cases c4 : E1 = "java/util/NoSuchElementException"
    · subst c4
      rw [if_pos rfl] at hf
      refine tk_xthr hs (vx_runV (As := [.int x1, .int x2, .int x3]) (rest := [.int 0, .ref x4]) ⟨hx, hb, hml, hown, ht⟩ (cX4_level_ok l hl0 G N x0 x1 x2 x3 h sz (Sum.inr "java/util/NoSuchElementException") o1.2.1 o1.2.2 (by rw [e1, ← w1])) (kwX4_level ht wmL_36 rfl rfl ⟨Nat.le_of_ble_eq_true rfl, Nat.le_of_ble_eq_true rfl⟩) (tk_preV hE hs (tk_ok_ok p1) rfl) rfl rfl hl.1 rfl (lv_room (Nat.le_of_ble_eq_true rfl)) dL_level_7 ⟨Nat.le_of_ble_eq_true rfl, Nat.le_of_ble_eq_true rfl⟩) (fun H locs ce q9 hs hce hcv hcl => ?_)
      refine vx_catch (own := RL) (name := "java/util/NoSuchElementException") hown [] ⟨0, 12, 15, 13⟩ [] htab (fun z hz => nomatch hz) (by decide) (by decide) (ht _ wlL_13) (tk_use rfl (hE.2.2.1 _ (by decide +kernel))) hce hcv hcl ?_
      refine W.widen (k := 1) (n := 6) (Nat.le_refl _) (Nat.le_refl _) ?_
      refine W.eq (g2 := F0 m 15 ls [.ref q9]) rfl ?_
      refine lv_astore (lv' := [(5, .ref q9), (0, .ref x0), (1, .int x1), (2, .int x2), (3, .int x3), (4, .ref x4)]) hx hb dL_level_15 hl (by decide) rfl (fun ls hl => ?_)
      refine lv_iconst (v := 1) hx hb dL_level_17 (by decide) ?_
      cases hf
      exact tk_iret hx hb hr hlocks hs dL_level_18
    rw [if_neg c4] at hf
    cases hf
def fL_gift (N : Nat) (x0 : Nat) (x1 : Int32) (x2 : Int32) (x3 : Nat) (h : tk_AH) (sz : Nat) : Option (Int32 × tk_AH × Nat) :=
  (tk_ok h 4 x0).bind fun _ =>
  (fX4_gift N x0 x1 x2 h sz).bind fun o1 =>
  Sum.elim (fun r1 =>
  (tk_sJ o1.2.1 2 x3 0 r1.toInt64).bind fun h3 =>
  some (0, h3, o1.2.2)) (fun E1 =>
  if E1 = "java/util/NoSuchElementException" then (
  some (1, o1.2.1, o1.2.2)) else (
  none)) o1.1
set_option maxHeartbeats 8000000 in
set_option maxRecDepth 100000 in
theorem cL_gift_ok (l : Launch) (hl0 : l.stackTraces = false) (G : tk_AG) (N : Nat) (x0 : Nat) (x1 : Int32) (x2 : Int32) (x3 : Nat) (h : tk_AH) (sz : Nat) (r9 : Int32) (h9 : tk_AH) (sz9 : Nat) (hf : fL_gift N x0 x1 x2 x3 h sz = some (r9, h9, sz9)) : Met l yL_gift (coL_gift :: tk_W) ({ frames := 9, cells := 1, slots := 6, locals := 166 }) (tk_pc G [.ref x0, .int x1, .int x2, .ref x3] h sz) (tk_qc G (some (.int r9)) h9 sz9) 1 6 (tk_ag G) := by
  refine va_MetW (cc := cL_gift) (maxL := 5) (ret := (some .int)) (hh := [(0, 10, 13, 13)]) (by decide) rfl ?_
  intro p e s m args below meth c s₁ B hml hv
  obtain ⟨hav, hE, hrp, hsz, hgs⟩ := hv
  have hx := B.exec
  have hb := B.bytes
  have hr := B.returns
  have hts := atoms_spec (ws := coL_gift :: tk_W) B.pre
  have ht : ∀ w ∈ tk_W, w.before args s = true := fun w h => hts w (List.mem_cons_of_mem _ h)
  have hown : s.vm.findClass RL = some m.cls := findClass_of_methodNamed B.named
  have hlocks := B.notSynchronized
  have htab : c.exceptionTable.toList = tableOf [(0, 10, 13, 13)] := vx_table (x := yL_gift) B (hts _ List.mem_cons_self)
  have hs : tk_sw G s h sz s.heap [] := ⟨hrp, hsz, by rw [hsz]; exact hgs, va_S.rf⟩
  have hl := lv_entry ([.ref x0, .int x1, .int x2, .ref x3]) (n := 5) (Nat.le_of_ble_eq_true rfl)
  have hent : entryFrame m args 5 = F0 m 0 (lg_sl ([.ref x0, .int x1, .int x2, .ref x3]) ++ List.replicate (5 - (lg_sl ([.ref x0, .int x1, .int x2, .ref x3])).length) Slot.unset).toArray [] := by rw [hav, lg_entry_eq]
  rw [hent]
  clear hent
  generalize (lg_sl ([.ref x0, .int x1, .int x2, .ref x3]) ++ List.replicate (5 - (lg_sl ([.ref x0, .int x1, .int x2, .ref x3])).length) Slot.unset).toArray = ls at hl ⊢
  have hl : lv_has ls 5 [(0, .ref x0), (1, .int x1), (2, .int x2), (3, .ref x3)] := hl
  unfold fL_gift at hf
  refine lv_aload_n hx hb dL_gift_0 rfl (lv_at hl 3 rfl) ?_
  refine lv_iconst (v := 0) hx hb dL_gift_1 (by decide) ?_
  refine lv_aload_n hx hb dL_gift_2 rfl (lv_at hl 0 rfl) ?_
  refine lv_iload_n hx hb dL_gift_3 rfl (lv_at hl 1 rfl) ?_
  refine lv_iload_n hx hb dL_gift_4 rfl (lv_at hl 2 rfl) ?_
  obtain ⟨_, p1, hf⟩ := tk_bi hf
  obtain ⟨o1, e1, hf⟩ := tk_bi hf
  rcases w1 : o1.1 with r1 | E1
  · rw [w1, Sum.elim_inl] at hf
    refine tk_xret0 (v := some (.int r1)) hs (vx_runV (As := [.int x1, .int x2]) (rest := [.int 0, .ref x3]) ⟨hx, hb, hml, hown, ht⟩ (cX4_gift_ok l hl0 G N x0 x1 x2 h sz (Sum.inl r1) o1.2.1 o1.2.2 (by rw [e1, ← w1])) (kwX4_gift ht wmL_39 rfl rfl ⟨Nat.le_of_ble_eq_true rfl, Nat.le_of_ble_eq_true rfl⟩) (tk_preV hE hs (tk_ok_ok p1) rfl) rfl rfl hl.1 rfl (lv_room (Nat.le_of_ble_eq_true rfl)) dL_gift_5 ⟨(Nat.le_of_ble_eq_true rfl), (Nat.le_of_ble_eq_true rfl)⟩) rfl rfl (fun H locs hs => ?_)
    refine W.eq (g2 := F0 m 8 ls [.int r1, .int 0, .ref x3]) rfl ?_
    refine lv_i2l (v := r1.toInt64) hx hb dL_gift_8 rfl ?_
    obtain ⟨h3, e3, hf⟩ := tk_bi hf
    refine tk_last hx hb hE hs e3 dL_gift_9 (fun H locs hs => ?_)
    refine lv_goto (tgt := 17) hx hb dL_gift_10 (by decide) ?_
    refine lv_iconst (v := 0) hx hb dL_gift_17 (by decide) ?_
    cases hf
    refine W.widen (k := 1) (n := 6) (by omega) (by omega) ?_
    exact tk_iret hx hb hr hlocks hs dL_gift_18
  · rw [w1, Sum.elim_inr] at hf
    by_cases c4 : E1 = "java/util/NoSuchElementException"
    · subst c4
      rw [if_pos rfl] at hf
      refine tk_xthr hs (vx_runV (As := [.int x1, .int x2]) (rest := [.int 0, .ref x3]) ⟨hx, hb, hml, hown, ht⟩ (cX4_gift_ok l hl0 G N x0 x1 x2 h sz (Sum.inr "java/util/NoSuchElementException") o1.2.1 o1.2.2 (by rw [e1, ← w1])) (kwX4_gift ht wmL_39 rfl rfl ⟨Nat.le_of_ble_eq_true rfl, Nat.le_of_ble_eq_true rfl⟩) (tk_preV hE hs (tk_ok_ok p1) rfl) rfl rfl hl.1 rfl (lv_room (Nat.le_of_ble_eq_true rfl)) dL_gift_5 ⟨Nat.le_of_ble_eq_true rfl, Nat.le_of_ble_eq_true rfl⟩) (fun H locs ce q9 hs hce hcv hcl => ?_)
      refine vx_catch (own := RL) (name := "java/util/NoSuchElementException") hown [] ⟨0, 10, 13, 13⟩ [] htab (fun z hz => nomatch hz) (by decide) (by decide) (ht _ wlL_13) (tk_use rfl (hE.2.2.1 _ (by decide +kernel))) hce hcv hcl ?_
      refine W.widen (k := 1) (n := 6) (Nat.le_refl _) (Nat.le_refl _) ?_
      refine W.eq (g2 := F0 m 13 ls [.ref q9]) rfl ?_
      refine lv_astore (lv' := [(4, .ref q9), (0, .ref x0), (1, .int x1), (2, .int x2), (3, .ref x3)]) hx hb dL_gift_13 hl (by decide) rfl (fun ls hl => ?_)
      refine lv_iconst (v := 1) hx hb dL_gift_15 (by decide) ?_
      cases hf
      exact tk_iret hx hb hr hlocks hs dL_gift_16
    rw [if_neg c4] at hf
    cases hf
def fL_meet (N : Nat) (x0 : Nat) (x1 : Int32) (x2 : Int32) (x3 : Nat) (h : tk_AH) (sz : Nat) : Option (Int32 × tk_AH × Nat) :=
  (tk_ok h 4 x0).bind fun _ =>
  (fX4_meet N x0 x1 x2 h sz).bind fun o1 =>
  Sum.elim (fun r1 =>
  (tk_sJ o1.2.1 2 x3 0 r1.toInt64).bind fun h3 =>
  some (0, h3, o1.2.2)) (fun E1 =>
  if E1 = "java/util/NoSuchElementException" then (
  some (1, o1.2.1, o1.2.2)) else (
  none)) o1.1
set_option maxHeartbeats 8000000 in
set_option maxRecDepth 100000 in
theorem cL_meet_ok (l : Launch) (hl0 : l.stackTraces = false) (G : tk_AG) (N : Nat) (x0 : Nat) (x1 : Int32) (x2 : Int32) (x3 : Nat) (h : tk_AH) (sz : Nat) (r9 : Int32) (h9 : tk_AH) (sz9 : Nat) (hf : fL_meet N x0 x1 x2 x3 h sz = some (r9, h9, sz9)) : Met l yL_meet (coL_meet :: tk_W) ({ frames := 9, cells := 1, slots := 6, locals := 167 }) (tk_pc G [.ref x0, .int x1, .int x2, .ref x3] h sz) (tk_qc G (some (.int r9)) h9 sz9) 1 6 (tk_ag G) := by
  refine va_MetW (cc := cL_meet) (maxL := 5) (ret := (some .int)) (hh := [(0, 10, 13, 13)]) (by decide) rfl ?_
  intro p e s m args below meth c s₁ B hml hv
  obtain ⟨hav, hE, hrp, hsz, hgs⟩ := hv
  have hx := B.exec
  have hb := B.bytes
  have hr := B.returns
  have hts := atoms_spec (ws := coL_meet :: tk_W) B.pre
  have ht : ∀ w ∈ tk_W, w.before args s = true := fun w h => hts w (List.mem_cons_of_mem _ h)
  have hown : s.vm.findClass RL = some m.cls := findClass_of_methodNamed B.named
  have hlocks := B.notSynchronized
  have htab : c.exceptionTable.toList = tableOf [(0, 10, 13, 13)] := vx_table (x := yL_meet) B (hts _ List.mem_cons_self)
  have hs : tk_sw G s h sz s.heap [] := ⟨hrp, hsz, by rw [hsz]; exact hgs, va_S.rf⟩
  have hl := lv_entry ([.ref x0, .int x1, .int x2, .ref x3]) (n := 5) (Nat.le_of_ble_eq_true rfl)
  have hent : entryFrame m args 5 = F0 m 0 (lg_sl ([.ref x0, .int x1, .int x2, .ref x3]) ++ List.replicate (5 - (lg_sl ([.ref x0, .int x1, .int x2, .ref x3])).length) Slot.unset).toArray [] := by rw [hav, lg_entry_eq]
  rw [hent]
  clear hent
  generalize (lg_sl ([.ref x0, .int x1, .int x2, .ref x3]) ++ List.replicate (5 - (lg_sl ([.ref x0, .int x1, .int x2, .ref x3])).length) Slot.unset).toArray = ls at hl ⊢
  have hl : lv_has ls 5 [(0, .ref x0), (1, .int x1), (2, .int x2), (3, .ref x3)] := hl
  unfold fL_meet at hf
  refine lv_aload_n hx hb dL_meet_0 rfl (lv_at hl 3 rfl) ?_
  refine lv_iconst (v := 0) hx hb dL_meet_1 (by decide) ?_
  refine lv_aload_n hx hb dL_meet_2 rfl (lv_at hl 0 rfl) ?_
  refine lv_iload_n hx hb dL_meet_3 rfl (lv_at hl 1 rfl) ?_
  refine lv_iload_n hx hb dL_meet_4 rfl (lv_at hl 2 rfl) ?_
  obtain ⟨_, p1, hf⟩ := tk_bi hf
  obtain ⟨o1, e1, hf⟩ := tk_bi hf
  rcases w1 : o1.1 with r1 | E1
  · rw [w1, Sum.elim_inl] at hf
    refine tk_xret0 (v := some (.int r1)) hs (vx_runV (As := [.int x1, .int x2]) (rest := [.int 0, .ref x3]) ⟨hx, hb, hml, hown, ht⟩ (cX4_meet_ok l hl0 G N x0 x1 x2 h sz (Sum.inl r1) o1.2.1 o1.2.2 (by rw [e1, ← w1])) (kwX4_meet ht wmL_42 rfl rfl ⟨Nat.le_of_ble_eq_true rfl, Nat.le_of_ble_eq_true rfl⟩) (tk_preV hE hs (tk_ok_ok p1) rfl) rfl rfl hl.1 rfl (lv_room (Nat.le_of_ble_eq_true rfl)) dL_meet_5 ⟨(Nat.le_of_ble_eq_true rfl), (Nat.le_of_ble_eq_true rfl)⟩) rfl rfl (fun H locs hs => ?_)
    refine W.eq (g2 := F0 m 8 ls [.int r1, .int 0, .ref x3]) rfl ?_
    refine lv_i2l (v := r1.toInt64) hx hb dL_meet_8 rfl ?_
    obtain ⟨h3, e3, hf⟩ := tk_bi hf
    refine tk_last hx hb hE hs e3 dL_meet_9 (fun H locs hs => ?_)
    refine lv_goto (tgt := 17) hx hb dL_meet_10 (by decide) ?_
    refine lv_iconst (v := 0) hx hb dL_meet_17 (by decide) ?_
    cases hf
    refine W.widen (k := 1) (n := 6) (by omega) (by omega) ?_
    exact tk_iret hx hb hr hlocks hs dL_meet_18
  · rw [w1, Sum.elim_inr] at hf
    by_cases c4 : E1 = "java/util/NoSuchElementException"
    · subst c4
      rw [if_pos rfl] at hf
      refine tk_xthr hs (vx_runV (As := [.int x1, .int x2]) (rest := [.int 0, .ref x3]) ⟨hx, hb, hml, hown, ht⟩ (cX4_meet_ok l hl0 G N x0 x1 x2 h sz (Sum.inr "java/util/NoSuchElementException") o1.2.1 o1.2.2 (by rw [e1, ← w1])) (kwX4_meet ht wmL_42 rfl rfl ⟨Nat.le_of_ble_eq_true rfl, Nat.le_of_ble_eq_true rfl⟩) (tk_preV hE hs (tk_ok_ok p1) rfl) rfl rfl hl.1 rfl (lv_room (Nat.le_of_ble_eq_true rfl)) dL_meet_5 ⟨Nat.le_of_ble_eq_true rfl, Nat.le_of_ble_eq_true rfl⟩) (fun H locs ce q9 hs hce hcv hcl => ?_)
      refine vx_catch (own := RL) (name := "java/util/NoSuchElementException") hown [] ⟨0, 10, 13, 13⟩ [] htab (fun z hz => nomatch hz) (by decide) (by decide) (ht _ wlL_13) (tk_use rfl (hE.2.2.1 _ (by decide +kernel))) hce hcv hcl ?_
      refine W.widen (k := 1) (n := 6) (Nat.le_refl _) (Nat.le_refl _) ?_
      refine W.eq (g2 := F0 m 13 ls [.ref q9]) rfl ?_
      refine lv_astore (lv' := [(4, .ref q9), (0, .ref x0), (1, .int x1), (2, .int x2), (3, .ref x3)]) hx hb dL_meet_13 hl (by decide) rfl (fun ls hl => ?_)
      refine lv_iconst (v := 1) hx hb dL_meet_15 (by decide) ?_
      cases hf
      exact tk_iret hx hb hr hlocks hs dL_meet_16
    rw [if_neg c4] at hf
    cases hf
def fL_ring (N : Nat) (x0 : Nat) (x1 : Int32) (x2 : Int32) (x3 : Int32) (x4 : Int32) (x5 : Nat) (h : tk_AH) (sz : Nat) : Option (Int32 × tk_AH × Nat) :=
  (tk_ok h 4 x0).bind fun _ =>
  (fX4_ring N x0 x1 x2 x3 x4 h sz).bind fun o1 =>
  Sum.elim (fun r1 =>
  (tk_sJ o1.2.1 2 x5 0 r1.toInt64).bind fun h3 =>
  some (0, h3, o1.2.2)) (fun E1 =>
  if E1 = "java/util/NoSuchElementException" then (
  some (1, o1.2.1, o1.2.2)) else (
  none)) o1.1
set_option maxHeartbeats 8000000 in
set_option maxRecDepth 100000 in
theorem cL_ring_ok (l : Launch) (hl0 : l.stackTraces = false) (G : tk_AG) (N : Nat) (x0 : Nat) (x1 : Int32) (x2 : Int32) (x3 : Int32) (x4 : Int32) (x5 : Nat) (h : tk_AH) (sz : Nat) (r9 : Int32) (h9 : tk_AH) (sz9 : Nat) (hf : fL_ring N x0 x1 x2 x3 x4 x5 h sz = some (r9, h9, sz9)) : Met l yL_ring (coL_ring :: tk_W) ({ frames := 10, cells := 1, slots := 6, locals := 194 }) (tk_pc G [.ref x0, .int x1, .int x2, .int x3, .int x4, .ref x5] h sz) (tk_qc G (some (.int r9)) h9 sz9) 1 6 (tk_ag G) := by
  refine va_MetW (cc := cL_ring) (maxL := 7) (ret := (some .int)) (hh := [(0, 14, 17, 13)]) (by decide) rfl ?_
  intro p e s m args below meth c s₁ B hml hv
  obtain ⟨hav, hE, hrp, hsz, hgs⟩ := hv
  have hx := B.exec
  have hb := B.bytes
  have hr := B.returns
  have hts := atoms_spec (ws := coL_ring :: tk_W) B.pre
  have ht : ∀ w ∈ tk_W, w.before args s = true := fun w h => hts w (List.mem_cons_of_mem _ h)
  have hown : s.vm.findClass RL = some m.cls := findClass_of_methodNamed B.named
  have hlocks := B.notSynchronized
  have htab : c.exceptionTable.toList = tableOf [(0, 14, 17, 13)] := vx_table (x := yL_ring) B (hts _ List.mem_cons_self)
  have hs : tk_sw G s h sz s.heap [] := ⟨hrp, hsz, by rw [hsz]; exact hgs, va_S.rf⟩
  have hl := lv_entry ([.ref x0, .int x1, .int x2, .int x3, .int x4, .ref x5]) (n := 7) (Nat.le_of_ble_eq_true rfl)
  have hent : entryFrame m args 7 = F0 m 0 (lg_sl ([.ref x0, .int x1, .int x2, .int x3, .int x4, .ref x5]) ++ List.replicate (7 - (lg_sl ([.ref x0, .int x1, .int x2, .int x3, .int x4, .ref x5])).length) Slot.unset).toArray [] := by rw [hav, lg_entry_eq]
  rw [hent]
  clear hent
  generalize (lg_sl ([.ref x0, .int x1, .int x2, .int x3, .int x4, .ref x5]) ++ List.replicate (7 - (lg_sl ([.ref x0, .int x1, .int x2, .int x3, .int x4, .ref x5])).length) Slot.unset).toArray = ls at hl ⊢
  have hl : lv_has ls 7 [(0, .ref x0), (1, .int x1), (2, .int x2), (3, .int x3), (4, .int x4), (5, .ref x5)] := hl
  unfold fL_ring at hf
  refine lv_aload hx hb dL_ring_0 (lv_at hl 5 rfl) ?_
  refine lv_iconst (v := 0) hx hb dL_ring_2 (by decide) ?_
  refine lv_aload_n hx hb dL_ring_3 rfl (lv_at hl 0 rfl) ?_
  refine lv_iload_n hx hb dL_ring_4 rfl (lv_at hl 1 rfl) ?_
  refine lv_iload_n hx hb dL_ring_5 rfl (lv_at hl 2 rfl) ?_
  refine lv_iload_n hx hb dL_ring_6 rfl (lv_at hl 3 rfl) ?_
  refine lv_iload hx hb dL_ring_7 (lv_at hl 4 rfl) ?_
  obtain ⟨_, p1, hf⟩ := tk_bi hf
  obtain ⟨o1, e1, hf⟩ := tk_bi hf
  rcases w1 : o1.1 with r1 | E1
  · rw [w1, Sum.elim_inl] at hf
    refine tk_xret0 (v := some (.int r1)) hs (vx_runV (As := [.int x1, .int x2, .int x3, .int x4]) (rest := [.int 0, .ref x5]) ⟨hx, hb, hml, hown, ht⟩ (cX4_ring_ok l hl0 G N x0 x1 x2 x3 x4 h sz (Sum.inl r1) o1.2.1 o1.2.2 (by rw [e1, ← w1])) (kwX4_ring ht wmL_45 rfl rfl ⟨Nat.le_of_ble_eq_true rfl, Nat.le_of_ble_eq_true rfl⟩) (tk_preV hE hs (tk_ok_ok p1) rfl) rfl rfl hl.1 rfl (lv_room (Nat.le_of_ble_eq_true rfl)) dL_ring_9 ⟨(Nat.le_of_ble_eq_true rfl), (Nat.le_of_ble_eq_true rfl)⟩) rfl rfl (fun H locs hs => ?_)
    refine W.eq (g2 := F0 m 12 ls [.int r1, .int 0, .ref x5]) rfl ?_
    refine lv_i2l (v := r1.toInt64) hx hb dL_ring_12 rfl ?_
    obtain ⟨h3, e3, hf⟩ := tk_bi hf
    refine tk_last hx hb hE hs e3 dL_ring_13 (fun H locs hs => ?_)
    refine lv_goto (tgt := 21) hx hb dL_ring_14 (by decide) ?_
    refine lv_iconst (v := 0) hx hb dL_ring_21 (by decide) ?_
    cases hf
    refine W.widen (k := 1) (n := 6) (by omega) (by omega) ?_
    exact tk_iret hx hb hr hlocks hs dL_ring_22
  · rw [w1, Sum.elim_inr] at hf
    by_cases c4 : E1 = "java/util/NoSuchElementException"
    · subst c4
      rw [if_pos rfl] at hf
      refine tk_xthr hs (vx_runV (As := [.int x1, .int x2, .int x3, .int x4]) (rest := [.int 0, .ref x5]) ⟨hx, hb, hml, hown, ht⟩ (cX4_ring_ok l hl0 G N x0 x1 x2 x3 x4 h sz (Sum.inr "java/util/NoSuchElementException") o1.2.1 o1.2.2 (by rw [e1, ← w1])) (kwX4_ring ht wmL_45 rfl rfl ⟨Nat.le_of_ble_eq_true rfl, Nat.le_of_ble_eq_true rfl⟩) (tk_preV hE hs (tk_ok_ok p1) rfl) rfl rfl hl.1 rfl (lv_room (Nat.le_of_ble_eq_true rfl)) dL_ring_9 ⟨Nat.le_of_ble_eq_true rfl, Nat.le_of_ble_eq_true rfl⟩) (fun H locs ce q9 hs hce hcv hcl => ?_)
      refine vx_catch (own := RL) (name := "java/util/NoSuchElementException") hown [] ⟨0, 14, 17, 13⟩ [] htab (fun z hz => nomatch hz) (by decide) (by decide) (ht _ wlL_13) (tk_use rfl (hE.2.2.1 _ (by decide +kernel))) hce hcv hcl ?_
      refine W.widen (k := 1) (n := 6) (Nat.le_refl _) (Nat.le_refl _) ?_
      refine W.eq (g2 := F0 m 17 ls [.ref q9]) rfl ?_
      refine lv_astore (lv' := [(6, .ref q9), (0, .ref x0), (1, .int x1), (2, .int x2), (3, .int x3), (4, .int x4), (5, .ref x5)]) hx hb dL_ring_17 hl (by decide) rfl (fun ls hl => ?_)
      refine lv_iconst (v := 1) hx hb dL_ring_19 (by decide) ?_
      cases hf
      exact tk_iret hx hb hr hlocks hs dL_ring_20
    rw [if_neg c4] at hf
    cases hf
def fL_ringOf (N : Nat) (x0 : Nat) (x1 : Int32) (x2 : Int32) (x3 : Nat) (h : tk_AH) (sz : Nat) : Option (Int32 × tk_AH × Nat) :=
  (tk_ok h 4 x0).bind fun _ =>
  (fX4_ringOf N x0 x1 x2 h sz).bind fun o1 =>
  Sum.elim (fun r1 =>
  (tk_sJ o1.2.1 2 x3 0 r1.toInt64).bind fun h3 =>
  some (0, h3, o1.2.2)) (fun E1 =>
  if E1 = "java/util/NoSuchElementException" then (
  some (1, o1.2.1, o1.2.2)) else (
  none)) o1.1
set_option maxHeartbeats 8000000 in
set_option maxRecDepth 100000 in
theorem cL_ringOf_ok (l : Launch) (hl0 : l.stackTraces = false) (G : tk_AG) (N : Nat) (x0 : Nat) (x1 : Int32) (x2 : Int32) (x3 : Nat) (h : tk_AH) (sz : Nat) (r9 : Int32) (h9 : tk_AH) (sz9 : Nat) (hf : fL_ringOf N x0 x1 x2 x3 h sz = some (r9, h9, sz9)) : Met l yL_ringOf (coL_ringOf :: tk_W) ({ frames := 7, cells := 1, slots := 6, locals := 122 }) (tk_pc G [.ref x0, .int x1, .int x2, .ref x3] h sz) (tk_qc G (some (.int r9)) h9 sz9) 1 6 (tk_ag G) := by
  refine va_MetW (cc := cL_ringOf) (maxL := 5) (ret := (some .int)) (hh := [(0, 10, 13, 13)]) (by decide) rfl ?_
  intro p e s m args below meth c s₁ B hml hv
  obtain ⟨hav, hE, hrp, hsz, hgs⟩ := hv
  have hx := B.exec
  have hb := B.bytes
  have hr := B.returns
  have hts := atoms_spec (ws := coL_ringOf :: tk_W) B.pre
  have ht : ∀ w ∈ tk_W, w.before args s = true := fun w h => hts w (List.mem_cons_of_mem _ h)
  have hown : s.vm.findClass RL = some m.cls := findClass_of_methodNamed B.named
  have hlocks := B.notSynchronized
  have htab : c.exceptionTable.toList = tableOf [(0, 10, 13, 13)] := vx_table (x := yL_ringOf) B (hts _ List.mem_cons_self)
  have hs : tk_sw G s h sz s.heap [] := ⟨hrp, hsz, by rw [hsz]; exact hgs, va_S.rf⟩
  have hl := lv_entry ([.ref x0, .int x1, .int x2, .ref x3]) (n := 5) (Nat.le_of_ble_eq_true rfl)
  have hent : entryFrame m args 5 = F0 m 0 (lg_sl ([.ref x0, .int x1, .int x2, .ref x3]) ++ List.replicate (5 - (lg_sl ([.ref x0, .int x1, .int x2, .ref x3])).length) Slot.unset).toArray [] := by rw [hav, lg_entry_eq]
  rw [hent]
  clear hent
  generalize (lg_sl ([.ref x0, .int x1, .int x2, .ref x3]) ++ List.replicate (5 - (lg_sl ([.ref x0, .int x1, .int x2, .ref x3])).length) Slot.unset).toArray = ls at hl ⊢
  have hl : lv_has ls 5 [(0, .ref x0), (1, .int x1), (2, .int x2), (3, .ref x3)] := hl
  unfold fL_ringOf at hf
  refine lv_aload_n hx hb dL_ringOf_0 rfl (lv_at hl 3 rfl) ?_
  refine lv_iconst (v := 0) hx hb dL_ringOf_1 (by decide) ?_
  refine lv_aload_n hx hb dL_ringOf_2 rfl (lv_at hl 0 rfl) ?_
  refine lv_iload_n hx hb dL_ringOf_3 rfl (lv_at hl 1 rfl) ?_
  refine lv_iload_n hx hb dL_ringOf_4 rfl (lv_at hl 2 rfl) ?_
  obtain ⟨_, p1, hf⟩ := tk_bi hf
  obtain ⟨o1, e1, hf⟩ := tk_bi hf
  rcases w1 : o1.1 with r1 | E1
  · rw [w1, Sum.elim_inl] at hf
    refine tk_xret0 (v := some (.int r1)) hs (vx_runV (As := [.int x1, .int x2]) (rest := [.int 0, .ref x3]) ⟨hx, hb, hml, hown, ht⟩ (cX4_ringOf_ok l hl0 G N x0 x1 x2 h sz (Sum.inl r1) o1.2.1 o1.2.2 (by rw [e1, ← w1])) (kwX4_ringOf ht wmL_49 rfl rfl ⟨Nat.le_of_ble_eq_true rfl, Nat.le_of_ble_eq_true rfl⟩) (tk_preV hE hs (tk_ok_ok p1) rfl) rfl rfl hl.1 rfl (lv_room (Nat.le_of_ble_eq_true rfl)) dL_ringOf_5 ⟨(Nat.le_of_ble_eq_true rfl), (Nat.le_of_ble_eq_true rfl)⟩) rfl rfl (fun H locs hs => ?_)
    refine W.eq (g2 := F0 m 8 ls [.int r1, .int 0, .ref x3]) rfl ?_
    refine lv_i2l (v := r1.toInt64) hx hb dL_ringOf_8 rfl ?_
    obtain ⟨h3, e3, hf⟩ := tk_bi hf
    refine tk_last hx hb hE hs e3 dL_ringOf_9 (fun H locs hs => ?_)
    refine lv_goto (tgt := 17) hx hb dL_ringOf_10 (by decide) ?_
    refine lv_iconst (v := 0) hx hb dL_ringOf_17 (by decide) ?_
    cases hf
    refine W.widen (k := 1) (n := 6) (by omega) (by omega) ?_
    exact tk_iret hx hb hr hlocks hs dL_ringOf_18
  · rw [w1, Sum.elim_inr] at hf
    by_cases c4 : E1 = "java/util/NoSuchElementException"
    · subst c4
      rw [if_pos rfl] at hf
      refine tk_xthr hs (vx_runV (As := [.int x1, .int x2]) (rest := [.int 0, .ref x3]) ⟨hx, hb, hml, hown, ht⟩ (cX4_ringOf_ok l hl0 G N x0 x1 x2 h sz (Sum.inr "java/util/NoSuchElementException") o1.2.1 o1.2.2 (by rw [e1, ← w1])) (kwX4_ringOf ht wmL_49 rfl rfl ⟨Nat.le_of_ble_eq_true rfl, Nat.le_of_ble_eq_true rfl⟩) (tk_preV hE hs (tk_ok_ok p1) rfl) rfl rfl hl.1 rfl (lv_room (Nat.le_of_ble_eq_true rfl)) dL_ringOf_5 ⟨Nat.le_of_ble_eq_true rfl, Nat.le_of_ble_eq_true rfl⟩) (fun H locs ce q9 hs hce hcv hcl => ?_)
      refine vx_catch (own := RL) (name := "java/util/NoSuchElementException") hown [] ⟨0, 10, 13, 13⟩ [] htab (fun z hz => nomatch hz) (by decide) (by decide) (ht _ wlL_13) (tk_use rfl (hE.2.2.1 _ (by decide +kernel))) hce hcv hcl ?_
      refine W.widen (k := 1) (n := 6) (Nat.le_refl _) (Nat.le_refl _) ?_
      refine W.eq (g2 := F0 m 13 ls [.ref q9]) rfl ?_
      refine lv_astore (lv' := [(4, .ref q9), (0, .ref x0), (1, .int x1), (2, .int x2), (3, .ref x3)]) hx hb dL_ringOf_13 hl (by decide) rfl (fun ls hl => ?_)
      refine lv_iconst (v := 1) hx hb dL_ringOf_15 (by decide) ?_
      cases hf
      exact tk_iret hx hb hr hlocks hs dL_ringOf_16
    rw [if_neg c4] at hf
    cases hf
def fL_missed_15 (N : Nat) (y0 : Int64) (y1 : Int32) (y2 : Nat) (h : tk_AH) (sz : Nat) : Option (Int32 × tk_AH × Nat) :=
  (tk_sJ h 2 y2 y1 y0).bind fun h1 =>
  some (0, h1, sz)
def fL_missed (N : Nat) (x0 : Nat) (x1 : Int32) (x2 : Nat) (h : tk_AH) (sz : Nat) : Option (Int32 × tk_AH × Nat) :=
  (tk_ok h 4 x0).bind fun _ =>
  (fX4_missed N x0 x1 h sz).bind fun o2 =>
  Sum.elim (fun r2 =>
  if r2 = 0 then (
  fL_missed_15 N 0 0 x2 o2.2.1 o2.2.2) else (
  fL_missed_15 N 1 0 x2 o2.2.1 o2.2.2)) (fun E2 =>
  if E2 = "java/util/NoSuchElementException" then (
  some (1, o2.2.1, o2.2.2)) else (
  none)) o2.1
set_option maxHeartbeats 8000000 in
set_option maxRecDepth 100000 in
theorem cL_missed_ok (l : Launch) (hl0 : l.stackTraces = false) (G : tk_AG) (N : Nat) (x0 : Nat) (x1 : Int32) (x2 : Nat) (h : tk_AH) (sz : Nat) (r9 : Int32) (h9 : tk_AH) (sz9 : Nat) (hf : fL_missed N x0 x1 x2 h sz = some (r9, h9, sz9)) : Met l yL_missed (coL_missed :: tk_W) ({ frames := 8, cells := 1, slots := 6, locals := 145 }) (tk_pc G [.ref x0, .int x1, .ref x2] h sz) (tk_qc G (some (.int r9)) h9 sz9) 1 6 (tk_ag G) := by
  refine va_MetW (cc := cL_missed) (maxL := 4) (ret := (some .int)) (hh := [(0, 16, 19, 13)]) (by decide) rfl ?_
  intro p e s m args below meth c s₁ B hml hv
  obtain ⟨hav, hE, hrp, hsz, hgs⟩ := hv
  have hx := B.exec
  have hb := B.bytes
  have hr := B.returns
  have hts := atoms_spec (ws := coL_missed :: tk_W) B.pre
  have ht : ∀ w ∈ tk_W, w.before args s = true := fun w h => hts w (List.mem_cons_of_mem _ h)
  have hown : s.vm.findClass RL = some m.cls := findClass_of_methodNamed B.named
  have hlocks := B.notSynchronized
  have htab : c.exceptionTable.toList = tableOf [(0, 16, 19, 13)] := vx_table (x := yL_missed) B (hts _ List.mem_cons_self)
  have hs : tk_sw G s h sz s.heap [] := ⟨hrp, hsz, by rw [hsz]; exact hgs, va_S.rf⟩
  have hl := lv_entry ([.ref x0, .int x1, .ref x2]) (n := 4) (Nat.le_of_ble_eq_true rfl)
  have hent : entryFrame m args 4 = F0 m 0 (lg_sl ([.ref x0, .int x1, .ref x2]) ++ List.replicate (4 - (lg_sl ([.ref x0, .int x1, .ref x2])).length) Slot.unset).toArray [] := by rw [hav, lg_entry_eq]
  rw [hent]
  clear hent
  generalize (lg_sl ([.ref x0, .int x1, .ref x2]) ++ List.replicate (4 - (lg_sl ([.ref x0, .int x1, .ref x2])).length) Slot.unset).toArray = ls at hl ⊢
  have hl : lv_has ls 4 [(0, .ref x0), (1, .int x1), (2, .ref x2)] := hl
  have j15 : ∀ (y0 : Int64) (y1 : Int32) (y2 : Nat) (h : tk_AH) (sz : Nat) (H : Heap) (locs : List Loc) (ls : Array Slot), fL_missed_15 N y0 y1 y2 h sz = some (r9, h9, sz9) → tk_sw G s h sz H locs → lv_has ls 4 [] → W p l e (headSpec (coL_missed :: tk_W) ({ frames := 8, cells := 1, slots := 6, locals := 145 })).room s m args below meth c H locs 0 (0) (MQ below (tk_qc G (some (.int r9)) h9 sz9) args s 1 6 (tk_ag G)) (F0 m 15 ls [.long y0, .int y1, .ref y2]) := by
    intro y0 y1 y2 h sz H locs ls hf hs hl
    unfold fL_missed_15 at hf
    obtain ⟨h1, e1, hf⟩ := tk_bi hf
    refine tk_last hx hb hE hs e1 dL_missed_15 (fun H locs hs => ?_)
    refine lv_goto (tgt := 22) hx hb dL_missed_16 (by decide) ?_
    refine lv_iconst (v := 0) hx hb dL_missed_22 (by decide) ?_
    cases hf
    refine W.widen (k := 1) (n := 6) (by omega) (by omega) ?_
    exact tk_iret hx hb hr hlocks hs dL_missed_23
  unfold fL_missed at hf
  refine lv_aload_n hx hb dL_missed_0 rfl (lv_at hl 2 rfl) ?_
  refine lv_iconst (v := 0) hx hb dL_missed_1 (by decide) ?_
  refine lv_aload_n hx hb dL_missed_2 rfl (lv_at hl 0 rfl) ?_
  refine lv_iload_n hx hb dL_missed_3 rfl (lv_at hl 1 rfl) ?_
  obtain ⟨_, p2, hf⟩ := tk_bi hf
  obtain ⟨o2, e2, hf⟩ := tk_bi hf
  rcases w2 : o2.1 with r2 | E2
  · rw [w2, Sum.elim_inl] at hf
    refine tk_xret0 (v := some (.int r2)) hs (vx_runV (As := [.int x1]) (rest := [.int 0, .ref x2]) ⟨hx, hb, hml, hown, ht⟩ (cX4_missed_ok l hl0 G N x0 x1 h sz (Sum.inl r2) o2.2.1 o2.2.2 (by rw [e2, ← w2])) (kwX4_missed ht wmL_52 rfl rfl ⟨Nat.le_of_ble_eq_true rfl, Nat.le_of_ble_eq_true rfl⟩) (tk_preV hE hs (tk_ok_ok p2) rfl) rfl rfl hl.1 rfl (lv_room (Nat.le_of_ble_eq_true rfl)) dL_missed_4 ⟨(Nat.le_of_ble_eq_true rfl), (Nat.le_of_ble_eq_true rfl)⟩) rfl rfl (fun H locs hs => ?_)
    refine W.eq (g2 := F0 m 7 ls [.int r2, .int 0, .ref x2]) rfl ?_
    refine lv_if_eq (tgt := 14) hx hb dL_missed_7 (by decide) (fun c4 => ?_) (fun c4 => ?_)
    · rw [if_pos c4] at hf
      refine lv_lconst (v := 0) hx hb dL_missed_14 (by decide) ?_
      exact j15 0 0 x2 o2.2.1 o2.2.2 _ _ _ hf hs (lv_sub hl [] rfl)
    · rw [if_neg c4] at hf
      refine lv_lconst (v := 1) hx hb dL_missed_10 (by decide) ?_
      refine lv_goto (tgt := 15) hx hb dL_missed_11 (by decide) ?_
      exact j15 1 0 x2 o2.2.1 o2.2.2 _ _ _ hf hs (lv_sub hl [] rfl)
  · rw [w2, Sum.elim_inr] at hf
    by_cases c5 : E2 = "java/util/NoSuchElementException"
    · subst c5
      rw [if_pos rfl] at hf
      refine tk_xthr hs (vx_runV (As := [.int x1]) (rest := [.int 0, .ref x2]) ⟨hx, hb, hml, hown, ht⟩ (cX4_missed_ok l hl0 G N x0 x1 h sz (Sum.inr "java/util/NoSuchElementException") o2.2.1 o2.2.2 (by rw [e2, ← w2])) (kwX4_missed ht wmL_52 rfl rfl ⟨Nat.le_of_ble_eq_true rfl, Nat.le_of_ble_eq_true rfl⟩) (tk_preV hE hs (tk_ok_ok p2) rfl) rfl rfl hl.1 rfl (lv_room (Nat.le_of_ble_eq_true rfl)) dL_missed_4 ⟨Nat.le_of_ble_eq_true rfl, Nat.le_of_ble_eq_true rfl⟩) (fun H locs ce q9 hs hce hcv hcl => ?_)
      refine vx_catch (own := RL) (name := "java/util/NoSuchElementException") hown [] ⟨0, 16, 19, 13⟩ [] htab (fun z hz => nomatch hz) (by decide) (by decide) (ht _ wlL_13) (tk_use rfl (hE.2.2.1 _ (by decide +kernel))) hce hcv hcl ?_
      refine W.widen (k := 1) (n := 6) (Nat.le_refl _) (Nat.le_refl _) ?_
      refine W.eq (g2 := F0 m 19 ls [.ref q9]) rfl ?_
      refine lv_astore_n (lv' := [(3, .ref q9), (0, .ref x0), (1, .int x1), (2, .ref x2)]) hx hb dL_missed_19 rfl hl (by decide) rfl (fun ls hl => ?_)
      refine lv_iconst (v := 1) hx hb dL_missed_20 (by decide) ?_
      cases hf
      exact tk_iret hx hb hr hlocks hs dL_missed_21
    rw [if_neg c5] at hf
    cases hf
def fL_waited (N : Nat) (x0 : Nat) (x1 : Int32) (x2 : Nat) (h : tk_AH) (sz : Nat) : Option (Int32 × tk_AH × Nat) :=
  (tk_ok h 4 x0).bind fun _ =>
  (fX4_waited N x0 x1 h sz).bind fun o1 =>
  Sum.elim (fun r1 =>
  (tk_sJ o1.2.1 2 x2 0 r1.toInt64).bind fun h3 =>
  some (0, h3, o1.2.2)) (fun E1 =>
  if E1 = "java/util/NoSuchElementException" then (
  some (1, o1.2.1, o1.2.2)) else (
  none)) o1.1
set_option maxHeartbeats 8000000 in
set_option maxRecDepth 100000 in
theorem cL_waited_ok (l : Launch) (hl0 : l.stackTraces = false) (G : tk_AG) (N : Nat) (x0 : Nat) (x1 : Int32) (x2 : Nat) (h : tk_AH) (sz : Nat) (r9 : Int32) (h9 : tk_AH) (sz9 : Nat) (hf : fL_waited N x0 x1 x2 h sz = some (r9, h9, sz9)) : Met l yL_waited (coL_waited :: tk_W) ({ frames := 8, cells := 1, slots := 6, locals := 143 }) (tk_pc G [.ref x0, .int x1, .ref x2] h sz) (tk_qc G (some (.int r9)) h9 sz9) 1 6 (tk_ag G) := by
  refine va_MetW (cc := cL_waited) (maxL := 4) (ret := (some .int)) (hh := [(0, 9, 12, 13)]) (by decide) rfl ?_
  intro p e s m args below meth c s₁ B hml hv
  obtain ⟨hav, hE, hrp, hsz, hgs⟩ := hv
  have hx := B.exec
  have hb := B.bytes
  have hr := B.returns
  have hts := atoms_spec (ws := coL_waited :: tk_W) B.pre
  have ht : ∀ w ∈ tk_W, w.before args s = true := fun w h => hts w (List.mem_cons_of_mem _ h)
  have hown : s.vm.findClass RL = some m.cls := findClass_of_methodNamed B.named
  have hlocks := B.notSynchronized
  have htab : c.exceptionTable.toList = tableOf [(0, 9, 12, 13)] := vx_table (x := yL_waited) B (hts _ List.mem_cons_self)
  have hs : tk_sw G s h sz s.heap [] := ⟨hrp, hsz, by rw [hsz]; exact hgs, va_S.rf⟩
  have hl := lv_entry ([.ref x0, .int x1, .ref x2]) (n := 4) (Nat.le_of_ble_eq_true rfl)
  have hent : entryFrame m args 4 = F0 m 0 (lg_sl ([.ref x0, .int x1, .ref x2]) ++ List.replicate (4 - (lg_sl ([.ref x0, .int x1, .ref x2])).length) Slot.unset).toArray [] := by rw [hav, lg_entry_eq]
  rw [hent]
  clear hent
  generalize (lg_sl ([.ref x0, .int x1, .ref x2]) ++ List.replicate (4 - (lg_sl ([.ref x0, .int x1, .ref x2])).length) Slot.unset).toArray = ls at hl ⊢
  have hl : lv_has ls 4 [(0, .ref x0), (1, .int x1), (2, .ref x2)] := hl
  unfold fL_waited at hf
  refine lv_aload_n hx hb dL_waited_0 rfl (lv_at hl 2 rfl) ?_
  refine lv_iconst (v := 0) hx hb dL_waited_1 (by decide) ?_
  refine lv_aload_n hx hb dL_waited_2 rfl (lv_at hl 0 rfl) ?_
  refine lv_iload_n hx hb dL_waited_3 rfl (lv_at hl 1 rfl) ?_
  obtain ⟨_, p1, hf⟩ := tk_bi hf
  obtain ⟨o1, e1, hf⟩ := tk_bi hf
  rcases w1 : o1.1 with r1 | E1
  · rw [w1, Sum.elim_inl] at hf
    refine tk_xret0 (v := some (.int r1)) hs (vx_runV (As := [.int x1]) (rest := [.int 0, .ref x2]) ⟨hx, hb, hml, hown, ht⟩ (cX4_waited_ok l hl0 G N x0 x1 h sz (Sum.inl r1) o1.2.1 o1.2.2 (by rw [e1, ← w1])) (kwX4_waited ht wmL_56 rfl rfl ⟨Nat.le_of_ble_eq_true rfl, Nat.le_of_ble_eq_true rfl⟩) (tk_preV hE hs (tk_ok_ok p1) rfl) rfl rfl hl.1 rfl (lv_room (Nat.le_of_ble_eq_true rfl)) dL_waited_4 ⟨(Nat.le_of_ble_eq_true rfl), (Nat.le_of_ble_eq_true rfl)⟩) rfl rfl (fun H locs hs => ?_)
    refine W.eq (g2 := F0 m 7 ls [.int r1, .int 0, .ref x2]) rfl ?_
    refine lv_i2l (v := r1.toInt64) hx hb dL_waited_7 rfl ?_
    obtain ⟨h3, e3, hf⟩ := tk_bi hf
    refine tk_last hx hb hE hs e3 dL_waited_8 (fun H locs hs => ?_)
    refine lv_goto (tgt := 15) hx hb dL_waited_9 (by decide) ?_
    refine lv_iconst (v := 0) hx hb dL_waited_15 (by decide) ?_
    cases hf
    refine W.widen (k := 1) (n := 6) (by omega) (by omega) ?_
    exact tk_iret hx hb hr hlocks hs dL_waited_16
  · rw [w1, Sum.elim_inr] at hf
    by_cases c4 : E1 = "java/util/NoSuchElementException"
    · subst c4
      rw [if_pos rfl] at hf
      refine tk_xthr hs (vx_runV (As := [.int x1]) (rest := [.int 0, .ref x2]) ⟨hx, hb, hml, hown, ht⟩ (cX4_waited_ok l hl0 G N x0 x1 h sz (Sum.inr "java/util/NoSuchElementException") o1.2.1 o1.2.2 (by rw [e1, ← w1])) (kwX4_waited ht wmL_56 rfl rfl ⟨Nat.le_of_ble_eq_true rfl, Nat.le_of_ble_eq_true rfl⟩) (tk_preV hE hs (tk_ok_ok p1) rfl) rfl rfl hl.1 rfl (lv_room (Nat.le_of_ble_eq_true rfl)) dL_waited_4 ⟨Nat.le_of_ble_eq_true rfl, Nat.le_of_ble_eq_true rfl⟩) (fun H locs ce q9 hs hce hcv hcl => ?_)
      refine vx_catch (own := RL) (name := "java/util/NoSuchElementException") hown [] ⟨0, 9, 12, 13⟩ [] htab (fun z hz => nomatch hz) (by decide) (by decide) (ht _ wlL_13) (tk_use rfl (hE.2.2.1 _ (by decide +kernel))) hce hcv hcl ?_
      refine W.widen (k := 1) (n := 6) (Nat.le_refl _) (Nat.le_refl _) ?_
      refine W.eq (g2 := F0 m 12 ls [.ref q9]) rfl ?_
      refine lv_astore_n (lv' := [(3, .ref q9), (0, .ref x0), (1, .int x1), (2, .ref x2)]) hx hb dL_waited_12 rfl hl (by decide) rfl (fun ls hl => ?_)
      refine lv_iconst (v := 1) hx hb dL_waited_13 (by decide) ?_
      cases hf
      exact tk_iret hx hb hr hlocks hs dL_waited_14
    rw [if_neg c4] at hf
    cases hf
def fL_days (N : Nat) (x0 : Nat) (x1 : Int32) (x2 : Nat) (h : tk_AH) (sz : Nat) : Option (Int32 × tk_AH × Nat) :=
  (tk_ok h 4 x0).bind fun _ =>
  (fX4_days N x0 x1 h sz).bind fun o1 =>
  Sum.elim (fun r1 =>
  (tk_sJ o1.2.1 2 x2 0 r1.toInt64).bind fun h3 =>
  some (0, h3, o1.2.2)) (fun E1 =>
  if E1 = "java/lang/IllegalArgumentException" then (
  some (1, o1.2.1, o1.2.2)) else (
  none)) o1.1
set_option maxHeartbeats 8000000 in
set_option maxRecDepth 100000 in
theorem cL_days_ok (l : Launch) (hl0 : l.stackTraces = false) (G : tk_AG) (N : Nat) (x0 : Nat) (x1 : Int32) (x2 : Nat) (h : tk_AH) (sz : Nat) (r9 : Int32) (h9 : tk_AH) (sz9 : Nat) (hf : fL_days N x0 x1 x2 h sz = some (r9, h9, sz9)) : Met l yL_days (coL_days :: tk_W) ({ frames := 7, cells := 1, slots := 6, locals := 121 }) (tk_pc G [.ref x0, .int x1, .ref x2] h sz) (tk_qc G (some (.int r9)) h9 sz9) 1 6 (tk_ag G) := by
  refine va_MetW (cc := cL_days) (maxL := 4) (ret := (some .int)) (hh := [(0, 9, 12, 19)]) (by decide) rfl ?_
  intro p e s m args below meth c s₁ B hml hv
  obtain ⟨hav, hE, hrp, hsz, hgs⟩ := hv
  have hx := B.exec
  have hb := B.bytes
  have hr := B.returns
  have hts := atoms_spec (ws := coL_days :: tk_W) B.pre
  have ht : ∀ w ∈ tk_W, w.before args s = true := fun w h => hts w (List.mem_cons_of_mem _ h)
  have hown : s.vm.findClass RL = some m.cls := findClass_of_methodNamed B.named
  have hlocks := B.notSynchronized
  have htab : c.exceptionTable.toList = tableOf [(0, 9, 12, 19)] := vx_table (x := yL_days) B (hts _ List.mem_cons_self)
  have hs : tk_sw G s h sz s.heap [] := ⟨hrp, hsz, by rw [hsz]; exact hgs, va_S.rf⟩
  have hl := lv_entry ([.ref x0, .int x1, .ref x2]) (n := 4) (Nat.le_of_ble_eq_true rfl)
  have hent : entryFrame m args 4 = F0 m 0 (lg_sl ([.ref x0, .int x1, .ref x2]) ++ List.replicate (4 - (lg_sl ([.ref x0, .int x1, .ref x2])).length) Slot.unset).toArray [] := by rw [hav, lg_entry_eq]
  rw [hent]
  clear hent
  generalize (lg_sl ([.ref x0, .int x1, .ref x2]) ++ List.replicate (4 - (lg_sl ([.ref x0, .int x1, .ref x2])).length) Slot.unset).toArray = ls at hl ⊢
  have hl : lv_has ls 4 [(0, .ref x0), (1, .int x1), (2, .ref x2)] := hl
  unfold fL_days at hf
  refine lv_aload_n hx hb dL_days_0 rfl (lv_at hl 2 rfl) ?_
  refine lv_iconst (v := 0) hx hb dL_days_1 (by decide) ?_
  refine lv_aload_n hx hb dL_days_2 rfl (lv_at hl 0 rfl) ?_
  refine lv_iload_n hx hb dL_days_3 rfl (lv_at hl 1 rfl) ?_
  obtain ⟨_, p1, hf⟩ := tk_bi hf
  obtain ⟨o1, e1, hf⟩ := tk_bi hf
  rcases w1 : o1.1 with r1 | E1
  · rw [w1, Sum.elim_inl] at hf
    refine tk_xret0 (v := some (.int r1)) hs (vx_runV (As := [.int x1]) (rest := [.int 0, .ref x2]) ⟨hx, hb, hml, hown, ht⟩ (cX4_days_ok l hl0 G N x0 x1 h sz (Sum.inl r1) o1.2.1 o1.2.2 (by rw [e1, ← w1])) (kwX4_days ht wmL_59 rfl rfl ⟨Nat.le_of_ble_eq_true rfl, Nat.le_of_ble_eq_true rfl⟩) (tk_preV hE hs (tk_ok_ok p1) rfl) rfl rfl hl.1 rfl (lv_room (Nat.le_of_ble_eq_true rfl)) dL_days_4 ⟨(Nat.le_of_ble_eq_true rfl), (Nat.le_of_ble_eq_true rfl)⟩) rfl rfl (fun H locs hs => ?_)
    refine W.eq (g2 := F0 m 7 ls [.int r1, .int 0, .ref x2]) rfl ?_
    refine lv_i2l (v := r1.toInt64) hx hb dL_days_7 rfl ?_
    obtain ⟨h3, e3, hf⟩ := tk_bi hf
    refine tk_last hx hb hE hs e3 dL_days_8 (fun H locs hs => ?_)
    refine lv_goto (tgt := 15) hx hb dL_days_9 (by decide) ?_
    refine lv_iconst (v := 0) hx hb dL_days_15 (by decide) ?_
    cases hf
    refine W.widen (k := 1) (n := 6) (by omega) (by omega) ?_
    exact tk_iret hx hb hr hlocks hs dL_days_16
  · rw [w1, Sum.elim_inr] at hf
    by_cases c4 : E1 = "java/lang/IllegalArgumentException"
    · subst c4
      rw [if_pos rfl] at hf
      refine tk_xthr hs (vx_runV (As := [.int x1]) (rest := [.int 0, .ref x2]) ⟨hx, hb, hml, hown, ht⟩ (cX4_days_ok l hl0 G N x0 x1 h sz (Sum.inr "java/lang/IllegalArgumentException") o1.2.1 o1.2.2 (by rw [e1, ← w1])) (kwX4_days ht wmL_59 rfl rfl ⟨Nat.le_of_ble_eq_true rfl, Nat.le_of_ble_eq_true rfl⟩) (tk_preV hE hs (tk_ok_ok p1) rfl) rfl rfl hl.1 rfl (lv_room (Nat.le_of_ble_eq_true rfl)) dL_days_4 ⟨Nat.le_of_ble_eq_true rfl, Nat.le_of_ble_eq_true rfl⟩) (fun H locs ce q9 hs hce hcv hcl => ?_)
      refine vx_catch (own := RL) (name := "java/lang/IllegalArgumentException") hown [] ⟨0, 9, 12, 19⟩ [] htab (fun z hz => nomatch hz) (by decide) (by decide) (ht _ wlL_19) (tk_use rfl (hE.2.2.1 _ (by decide +kernel))) hce hcv hcl ?_
      refine W.widen (k := 1) (n := 6) (Nat.le_refl _) (Nat.le_refl _) ?_
      refine W.eq (g2 := F0 m 12 ls [.ref q9]) rfl ?_
      refine lv_astore_n (lv' := [(3, .ref q9), (0, .ref x0), (1, .int x1), (2, .ref x2)]) hx hb dL_days_12 rfl hl (by decide) rfl (fun ls hl => ?_)
      refine lv_iconst (v := 1) hx hb dL_days_13 (by decide) ?_
      cases hf
      exact tk_iret hx hb hr hlocks hs dL_days_14
    rw [if_neg c4] at hf
    cases hf
def fL_word (N : Nat) (x0 : Nat) (x1 : Int32) (x2 : Nat) (h : tk_AH) (sz : Nat) : Option (Int32 × tk_AH × Nat) :=
  (tk_ok h 4 x0).bind fun _ =>
  (fX4_word N x0 x1 h sz).bind fun o1 =>
  Sum.elim (fun r1 =>
  (tk_sJ o1.2.1 2 x2 0 r1.toInt64).bind fun h3 =>
  some (0, h3, o1.2.2)) (fun E1 =>
  if E1 = "java/util/NoSuchElementException" then (
  some (1, o1.2.1, o1.2.2)) else (
  none)) o1.1
set_option maxHeartbeats 8000000 in
set_option maxRecDepth 100000 in
theorem cL_word_ok (l : Launch) (hl0 : l.stackTraces = false) (G : tk_AG) (N : Nat) (x0 : Nat) (x1 : Int32) (x2 : Nat) (h : tk_AH) (sz : Nat) (r9 : Int32) (h9 : tk_AH) (sz9 : Nat) (hf : fL_word N x0 x1 x2 h sz = some (r9, h9, sz9)) : Met l yL_word (coL_word :: tk_W) ({ frames := 8, cells := 1, slots := 6, locals := 143 }) (tk_pc G [.ref x0, .int x1, .ref x2] h sz) (tk_qc G (some (.int r9)) h9 sz9) 1 6 (tk_ag G) := by
  refine va_MetW (cc := cL_word) (maxL := 4) (ret := (some .int)) (hh := [(0, 9, 12, 13)]) (by decide) rfl ?_
  intro p e s m args below meth c s₁ B hml hv
  obtain ⟨hav, hE, hrp, hsz, hgs⟩ := hv
  have hx := B.exec
  have hb := B.bytes
  have hr := B.returns
  have hts := atoms_spec (ws := coL_word :: tk_W) B.pre
  have ht : ∀ w ∈ tk_W, w.before args s = true := fun w h => hts w (List.mem_cons_of_mem _ h)
  have hown : s.vm.findClass RL = some m.cls := findClass_of_methodNamed B.named
  have hlocks := B.notSynchronized
  have htab : c.exceptionTable.toList = tableOf [(0, 9, 12, 13)] := vx_table (x := yL_word) B (hts _ List.mem_cons_self)
  have hs : tk_sw G s h sz s.heap [] := ⟨hrp, hsz, by rw [hsz]; exact hgs, va_S.rf⟩
  have hl := lv_entry ([.ref x0, .int x1, .ref x2]) (n := 4) (Nat.le_of_ble_eq_true rfl)
  have hent : entryFrame m args 4 = F0 m 0 (lg_sl ([.ref x0, .int x1, .ref x2]) ++ List.replicate (4 - (lg_sl ([.ref x0, .int x1, .ref x2])).length) Slot.unset).toArray [] := by rw [hav, lg_entry_eq]
  rw [hent]
  clear hent
  generalize (lg_sl ([.ref x0, .int x1, .ref x2]) ++ List.replicate (4 - (lg_sl ([.ref x0, .int x1, .ref x2])).length) Slot.unset).toArray = ls at hl ⊢
  have hl : lv_has ls 4 [(0, .ref x0), (1, .int x1), (2, .ref x2)] := hl
  unfold fL_word at hf
  refine lv_aload_n hx hb dL_word_0 rfl (lv_at hl 2 rfl) ?_
  refine lv_iconst (v := 0) hx hb dL_word_1 (by decide) ?_
  refine lv_aload_n hx hb dL_word_2 rfl (lv_at hl 0 rfl) ?_
  refine lv_iload_n hx hb dL_word_3 rfl (lv_at hl 1 rfl) ?_
  obtain ⟨_, p1, hf⟩ := tk_bi hf
  obtain ⟨o1, e1, hf⟩ := tk_bi hf
  rcases w1 : o1.1 with r1 | E1
  · rw [w1, Sum.elim_inl] at hf
    refine tk_xret0 (v := some (.int r1)) hs (vx_runV (As := [.int x1]) (rest := [.int 0, .ref x2]) ⟨hx, hb, hml, hown, ht⟩ (cX4_word_ok l hl0 G N x0 x1 h sz (Sum.inl r1) o1.2.1 o1.2.2 (by rw [e1, ← w1])) (kwX4_word ht wmL_62 rfl rfl ⟨Nat.le_of_ble_eq_true rfl, Nat.le_of_ble_eq_true rfl⟩) (tk_preV hE hs (tk_ok_ok p1) rfl) rfl rfl hl.1 rfl (lv_room (Nat.le_of_ble_eq_true rfl)) dL_word_4 ⟨(Nat.le_of_ble_eq_true rfl), (Nat.le_of_ble_eq_true rfl)⟩) rfl rfl (fun H locs hs => ?_)
    refine W.eq (g2 := F0 m 7 ls [.int r1, .int 0, .ref x2]) rfl ?_
    refine lv_i2l (v := r1.toInt64) hx hb dL_word_7 rfl ?_
    obtain ⟨h3, e3, hf⟩ := tk_bi hf
    refine tk_last hx hb hE hs e3 dL_word_8 (fun H locs hs => ?_)
    refine lv_goto (tgt := 15) hx hb dL_word_9 (by decide) ?_
    refine lv_iconst (v := 0) hx hb dL_word_15 (by decide) ?_
    cases hf
    refine W.widen (k := 1) (n := 6) (by omega) (by omega) ?_
    exact tk_iret hx hb hr hlocks hs dL_word_16
  · rw [w1, Sum.elim_inr] at hf
    by_cases c4 : E1 = "java/util/NoSuchElementException"
    · subst c4
      rw [if_pos rfl] at hf
      refine tk_xthr hs (vx_runV (As := [.int x1]) (rest := [.int 0, .ref x2]) ⟨hx, hb, hml, hown, ht⟩ (cX4_word_ok l hl0 G N x0 x1 h sz (Sum.inr "java/util/NoSuchElementException") o1.2.1 o1.2.2 (by rw [e1, ← w1])) (kwX4_word ht wmL_62 rfl rfl ⟨Nat.le_of_ble_eq_true rfl, Nat.le_of_ble_eq_true rfl⟩) (tk_preV hE hs (tk_ok_ok p1) rfl) rfl rfl hl.1 rfl (lv_room (Nat.le_of_ble_eq_true rfl)) dL_word_4 ⟨Nat.le_of_ble_eq_true rfl, Nat.le_of_ble_eq_true rfl⟩) (fun H locs ce q9 hs hce hcv hcl => ?_)
      refine vx_catch (own := RL) (name := "java/util/NoSuchElementException") hown [] ⟨0, 9, 12, 13⟩ [] htab (fun z hz => nomatch hz) (by decide) (by decide) (ht _ wlL_13) (tk_use rfl (hE.2.2.1 _ (by decide +kernel))) hce hcv hcl ?_
      refine W.widen (k := 1) (n := 6) (Nat.le_refl _) (Nat.le_refl _) ?_
      refine W.eq (g2 := F0 m 12 ls [.ref q9]) rfl ?_
      refine lv_astore_n (lv' := [(3, .ref q9), (0, .ref x0), (1, .int x1), (2, .ref x2)]) hx hb dL_word_12 rfl hl (by decide) rfl (fun ls hl => ?_)
      refine lv_iconst (v := 1) hx hb dL_word_13 (by decide) ?_
      cases hf
      exact tk_iret hx hb hr hlocks hs dL_word_14
    rw [if_neg c4] at hf
    cases hf
def fL_asked_18 (N : Nat) (y0 : Int64) (y1 : Int32) (y2 : Nat) (h : tk_AH) (sz : Nat) : Option (Int32 × tk_AH × Nat) :=
  (tk_sJ h 2 y2 y1 y0).bind fun h1 =>
  some (0, h1, sz)
def fL_asked (N : Nat) (x0 : Nat) (x1 : Int32) (x2 : Int32) (x3 : Int32) (x4 : Nat) (h : tk_AH) (sz : Nat) : Option (Int32 × tk_AH × Nat) :=
  (tk_ok h 4 x0).bind fun _ =>
  (fX4_asked N x0 x1 x2 x3 h sz).bind fun o2 =>
  Sum.elim (fun r2 =>
  if r2 = 0 then (
  fL_asked_18 N 0 0 x4 o2.2.1 o2.2.2) else (
  fL_asked_18 N 1 0 x4 o2.2.1 o2.2.2)) (fun E2 =>
  if E2 = "java/util/NoSuchElementException" then (
  some (1, o2.2.1, o2.2.2)) else (
  none)) o2.1
set_option maxHeartbeats 8000000 in
set_option maxRecDepth 100000 in
theorem cL_asked_ok (l : Launch) (hl0 : l.stackTraces = false) (G : tk_AG) (N : Nat) (x0 : Nat) (x1 : Int32) (x2 : Int32) (x3 : Int32) (x4 : Nat) (h : tk_AH) (sz : Nat) (r9 : Int32) (h9 : tk_AH) (sz9 : Nat) (hf : fL_asked N x0 x1 x2 x3 x4 h sz = some (r9, h9, sz9)) : Met l yL_asked (coL_asked :: tk_W) ({ frames := 8, cells := 1, slots := 6, locals := 146 }) (tk_pc G [.ref x0, .int x1, .int x2, .int x3, .ref x4] h sz) (tk_qc G (some (.int r9)) h9 sz9) 1 6 (tk_ag G) := by
  refine va_MetW (cc := cL_asked) (maxL := 6) (ret := (some .int)) (hh := [(0, 19, 22, 13)]) (by decide) rfl ?_
  intro p e s m args below meth c s₁ B hml hv
  obtain ⟨hav, hE, hrp, hsz, hgs⟩ := hv
  have hx := B.exec
  have hb := B.bytes
  have hr := B.returns
  have hts := atoms_spec (ws := coL_asked :: tk_W) B.pre
  have ht : ∀ w ∈ tk_W, w.before args s = true := fun w h => hts w (List.mem_cons_of_mem _ h)
  have hown : s.vm.findClass RL = some m.cls := findClass_of_methodNamed B.named
  have hlocks := B.notSynchronized
  have htab : c.exceptionTable.toList = tableOf [(0, 19, 22, 13)] := vx_table (x := yL_asked) B (hts _ List.mem_cons_self)
  have hs : tk_sw G s h sz s.heap [] := ⟨hrp, hsz, by rw [hsz]; exact hgs, va_S.rf⟩
  have hl := lv_entry ([.ref x0, .int x1, .int x2, .int x3, .ref x4]) (n := 6) (Nat.le_of_ble_eq_true rfl)
  have hent : entryFrame m args 6 = F0 m 0 (lg_sl ([.ref x0, .int x1, .int x2, .int x3, .ref x4]) ++ List.replicate (6 - (lg_sl ([.ref x0, .int x1, .int x2, .int x3, .ref x4])).length) Slot.unset).toArray [] := by rw [hav, lg_entry_eq]
  rw [hent]
  clear hent
  generalize (lg_sl ([.ref x0, .int x1, .int x2, .int x3, .ref x4]) ++ List.replicate (6 - (lg_sl ([.ref x0, .int x1, .int x2, .int x3, .ref x4])).length) Slot.unset).toArray = ls at hl ⊢
  have hl : lv_has ls 6 [(0, .ref x0), (1, .int x1), (2, .int x2), (3, .int x3), (4, .ref x4)] := hl
  have j18 : ∀ (y0 : Int64) (y1 : Int32) (y2 : Nat) (h : tk_AH) (sz : Nat) (H : Heap) (locs : List Loc) (ls : Array Slot), fL_asked_18 N y0 y1 y2 h sz = some (r9, h9, sz9) → tk_sw G s h sz H locs → lv_has ls 6 [] → W p l e (headSpec (coL_asked :: tk_W) ({ frames := 8, cells := 1, slots := 6, locals := 146 })).room s m args below meth c H locs 0 (0) (MQ below (tk_qc G (some (.int r9)) h9 sz9) args s 1 6 (tk_ag G)) (F0 m 18 ls [.long y0, .int y1, .ref y2]) := by
    intro y0 y1 y2 h sz H locs ls hf hs hl
    unfold fL_asked_18 at hf
    obtain ⟨h1, e1, hf⟩ := tk_bi hf
    refine tk_last hx hb hE hs e1 dL_asked_18 (fun H locs hs => ?_)
    refine lv_goto (tgt := 26) hx hb dL_asked_19 (by decide) ?_
    refine lv_iconst (v := 0) hx hb dL_asked_26 (by decide) ?_
    cases hf
    refine W.widen (k := 1) (n := 6) (by omega) (by omega) ?_
    exact tk_iret hx hb hr hlocks hs dL_asked_27
  unfold fL_asked at hf
  refine lv_aload hx hb dL_asked_0 (lv_at hl 4 rfl) ?_
  refine lv_iconst (v := 0) hx hb dL_asked_2 (by decide) ?_
  refine lv_aload_n hx hb dL_asked_3 rfl (lv_at hl 0 rfl) ?_
  refine lv_iload_n hx hb dL_asked_4 rfl (lv_at hl 1 rfl) ?_
  refine lv_iload_n hx hb dL_asked_5 rfl (lv_at hl 2 rfl) ?_
  refine lv_iload_n hx hb dL_asked_6 rfl (lv_at hl 3 rfl) ?_
  obtain ⟨_, p2, hf⟩ := tk_bi hf
  obtain ⟨o2, e2, hf⟩ := tk_bi hf
  rcases w2 : o2.1 with r2 | E2
  · rw [w2, Sum.elim_inl] at hf
    refine tk_xret0 (v := some (.int r2)) hs (vx_runV (As := [.int x1, .int x2, .int x3]) (rest := [.int 0, .ref x4]) ⟨hx, hb, hml, hown, ht⟩ (cX4_asked_ok l hl0 G N x0 x1 x2 x3 h sz (Sum.inl r2) o2.2.1 o2.2.2 (by rw [e2, ← w2])) (kwX4_asked ht wmL_65 rfl rfl ⟨Nat.le_of_ble_eq_true rfl, Nat.le_of_ble_eq_true rfl⟩) (tk_preV hE hs (tk_ok_ok p2) rfl) rfl rfl hl.1 rfl (lv_room (Nat.le_of_ble_eq_true rfl)) dL_asked_7 ⟨(Nat.le_of_ble_eq_true rfl), (Nat.le_of_ble_eq_true rfl)⟩) rfl rfl (fun H locs hs => ?_)
    refine W.eq (g2 := F0 m 10 ls [.int r2, .int 0, .ref x4]) rfl ?_
    refine lv_if_eq (tgt := 17) hx hb dL_asked_10 (by decide) (fun c4 => ?_) (fun c4 => ?_)
    · rw [if_pos c4] at hf
      refine lv_lconst (v := 0) hx hb dL_asked_17 (by decide) ?_
      exact j18 0 0 x4 o2.2.1 o2.2.2 _ _ _ hf hs (lv_sub hl [] rfl)
    · rw [if_neg c4] at hf
      refine lv_lconst (v := 1) hx hb dL_asked_13 (by decide) ?_
      refine lv_goto (tgt := 18) hx hb dL_asked_14 (by decide) ?_
      exact j18 1 0 x4 o2.2.1 o2.2.2 _ _ _ hf hs (lv_sub hl [] rfl)
  · rw [w2, Sum.elim_inr] at hf
    by_cases c5 : E2 = "java/util/NoSuchElementException"
    · subst c5
      rw [if_pos rfl] at hf
      refine tk_xthr hs (vx_runV (As := [.int x1, .int x2, .int x3]) (rest := [.int 0, .ref x4]) ⟨hx, hb, hml, hown, ht⟩ (cX4_asked_ok l hl0 G N x0 x1 x2 x3 h sz (Sum.inr "java/util/NoSuchElementException") o2.2.1 o2.2.2 (by rw [e2, ← w2])) (kwX4_asked ht wmL_65 rfl rfl ⟨Nat.le_of_ble_eq_true rfl, Nat.le_of_ble_eq_true rfl⟩) (tk_preV hE hs (tk_ok_ok p2) rfl) rfl rfl hl.1 rfl (lv_room (Nat.le_of_ble_eq_true rfl)) dL_asked_7 ⟨Nat.le_of_ble_eq_true rfl, Nat.le_of_ble_eq_true rfl⟩) (fun H locs ce q9 hs hce hcv hcl => ?_)
      refine vx_catch (own := RL) (name := "java/util/NoSuchElementException") hown [] ⟨0, 19, 22, 13⟩ [] htab (fun z hz => nomatch hz) (by decide) (by decide) (ht _ wlL_13) (tk_use rfl (hE.2.2.1 _ (by decide +kernel))) hce hcv hcl ?_
      refine W.widen (k := 1) (n := 6) (Nat.le_refl _) (Nat.le_refl _) ?_
      refine W.eq (g2 := F0 m 22 ls [.ref q9]) rfl ?_
      refine lv_astore (lv' := [(5, .ref q9), (0, .ref x0), (1, .int x1), (2, .int x2), (3, .int x3), (4, .ref x4)]) hx hb dL_asked_22 hl (by decide) rfl (fun ls hl => ?_)
      refine lv_iconst (v := 1) hx hb dL_asked_24 (by decide) ?_
      cases hf
      exact tk_iret hx hb hr hlocks hs dL_asked_25
    rw [if_neg c5] at hf
    cases hf
def fL_wordOf (N : Nat) (x0 : Nat) (x1 : Int32) (x2 : Int32) (x3 : Int32) (x4 : Nat) (h : tk_AH) (sz : Nat) : Option (Int32 × tk_AH × Nat) :=
  (tk_ok h 4 x0).bind fun _ =>
  (fX4_wordOf N x0 x1 x2 x3 h sz).bind fun o1 =>
  Sum.elim (fun r1 =>
  (tk_sJ o1.2.1 2 x4 0 r1.toInt64).bind fun h3 =>
  some (0, h3, o1.2.2)) (fun E1 =>
  if E1 = "java/util/NoSuchElementException" then (
  some (1, o1.2.1, o1.2.2)) else (
  none)) o1.1
set_option maxHeartbeats 8000000 in
set_option maxRecDepth 100000 in
theorem cL_wordOf_ok (l : Launch) (hl0 : l.stackTraces = false) (G : tk_AG) (N : Nat) (x0 : Nat) (x1 : Int32) (x2 : Int32) (x3 : Int32) (x4 : Nat) (h : tk_AH) (sz : Nat) (r9 : Int32) (h9 : tk_AH) (sz9 : Nat) (hf : fL_wordOf N x0 x1 x2 x3 x4 h sz = some (r9, h9, sz9)) : Met l yL_wordOf (coL_wordOf :: tk_W) ({ frames := 8, cells := 1, slots := 6, locals := 146 }) (tk_pc G [.ref x0, .int x1, .int x2, .int x3, .ref x4] h sz) (tk_qc G (some (.int r9)) h9 sz9) 1 6 (tk_ag G) := by
  refine va_MetW (cc := cL_wordOf) (maxL := 6) (ret := (some .int)) (hh := [(0, 12, 15, 13)]) (by decide) rfl ?_
  intro p e s m args below meth c s₁ B hml hv
  obtain ⟨hav, hE, hrp, hsz, hgs⟩ := hv
  have hx := B.exec
  have hb := B.bytes
  have hr := B.returns
  have hts := atoms_spec (ws := coL_wordOf :: tk_W) B.pre
  have ht : ∀ w ∈ tk_W, w.before args s = true := fun w h => hts w (List.mem_cons_of_mem _ h)
  have hown : s.vm.findClass RL = some m.cls := findClass_of_methodNamed B.named
  have hlocks := B.notSynchronized
  have htab : c.exceptionTable.toList = tableOf [(0, 12, 15, 13)] := vx_table (x := yL_wordOf) B (hts _ List.mem_cons_self)
  have hs : tk_sw G s h sz s.heap [] := ⟨hrp, hsz, by rw [hsz]; exact hgs, va_S.rf⟩
  have hl := lv_entry ([.ref x0, .int x1, .int x2, .int x3, .ref x4]) (n := 6) (Nat.le_of_ble_eq_true rfl)
  have hent : entryFrame m args 6 = F0 m 0 (lg_sl ([.ref x0, .int x1, .int x2, .int x3, .ref x4]) ++ List.replicate (6 - (lg_sl ([.ref x0, .int x1, .int x2, .int x3, .ref x4])).length) Slot.unset).toArray [] := by rw [hav, lg_entry_eq]
  rw [hent]
  clear hent
  generalize (lg_sl ([.ref x0, .int x1, .int x2, .int x3, .ref x4]) ++ List.replicate (6 - (lg_sl ([.ref x0, .int x1, .int x2, .int x3, .ref x4])).length) Slot.unset).toArray = ls at hl ⊢
  have hl : lv_has ls 6 [(0, .ref x0), (1, .int x1), (2, .int x2), (3, .int x3), (4, .ref x4)] := hl
  unfold fL_wordOf at hf
  refine lv_aload hx hb dL_wordOf_0 (lv_at hl 4 rfl) ?_
  refine lv_iconst (v := 0) hx hb dL_wordOf_2 (by decide) ?_
  refine lv_aload_n hx hb dL_wordOf_3 rfl (lv_at hl 0 rfl) ?_
  refine lv_iload_n hx hb dL_wordOf_4 rfl (lv_at hl 1 rfl) ?_
  refine lv_iload_n hx hb dL_wordOf_5 rfl (lv_at hl 2 rfl) ?_
  refine lv_iload_n hx hb dL_wordOf_6 rfl (lv_at hl 3 rfl) ?_
  obtain ⟨_, p1, hf⟩ := tk_bi hf
  obtain ⟨o1, e1, hf⟩ := tk_bi hf
  rcases w1 : o1.1 with r1 | E1
  · rw [w1, Sum.elim_inl] at hf
    refine tk_xret0 (v := some (.int r1)) hs (vx_runV (As := [.int x1, .int x2, .int x3]) (rest := [.int 0, .ref x4]) ⟨hx, hb, hml, hown, ht⟩ (cX4_wordOf_ok l hl0 G N x0 x1 x2 x3 h sz (Sum.inl r1) o1.2.1 o1.2.2 (by rw [e1, ← w1])) (kwX4_wordOf ht wmL_68 rfl rfl ⟨Nat.le_of_ble_eq_true rfl, Nat.le_of_ble_eq_true rfl⟩) (tk_preV hE hs (tk_ok_ok p1) rfl) rfl rfl hl.1 rfl (lv_room (Nat.le_of_ble_eq_true rfl)) dL_wordOf_7 ⟨(Nat.le_of_ble_eq_true rfl), (Nat.le_of_ble_eq_true rfl)⟩) rfl rfl (fun H locs hs => ?_)
    refine W.eq (g2 := F0 m 10 ls [.int r1, .int 0, .ref x4]) rfl ?_
    refine lv_i2l (v := r1.toInt64) hx hb dL_wordOf_10 rfl ?_
    obtain ⟨h3, e3, hf⟩ := tk_bi hf
    refine tk_last hx hb hE hs e3 dL_wordOf_11 (fun H locs hs => ?_)
    refine lv_goto (tgt := 19) hx hb dL_wordOf_12 (by decide) ?_
    refine lv_iconst (v := 0) hx hb dL_wordOf_19 (by decide) ?_
    cases hf
    refine W.widen (k := 1) (n := 6) (by omega) (by omega) ?_
    exact tk_iret hx hb hr hlocks hs dL_wordOf_20
  · rw [w1, Sum.elim_inr] at hf
    by_cases c4 : E1 = "java/util/NoSuchElementException"
    · subst c4
      rw [if_pos rfl] at hf
      refine tk_xthr hs (vx_runV (As := [.int x1, .int x2, .int x3]) (rest := [.int 0, .ref x4]) ⟨hx, hb, hml, hown, ht⟩ (cX4_wordOf_ok l hl0 G N x0 x1 x2 x3 h sz (Sum.inr "java/util/NoSuchElementException") o1.2.1 o1.2.2 (by rw [e1, ← w1])) (kwX4_wordOf ht wmL_68 rfl rfl ⟨Nat.le_of_ble_eq_true rfl, Nat.le_of_ble_eq_true rfl⟩) (tk_preV hE hs (tk_ok_ok p1) rfl) rfl rfl hl.1 rfl (lv_room (Nat.le_of_ble_eq_true rfl)) dL_wordOf_7 ⟨Nat.le_of_ble_eq_true rfl, Nat.le_of_ble_eq_true rfl⟩) (fun H locs ce q9 hs hce hcv hcl => ?_)
      refine vx_catch (own := RL) (name := "java/util/NoSuchElementException") hown [] ⟨0, 12, 15, 13⟩ [] htab (fun z hz => nomatch hz) (by decide) (by decide) (ht _ wlL_13) (tk_use rfl (hE.2.2.1 _ (by decide +kernel))) hce hcv hcl ?_
      refine W.widen (k := 1) (n := 6) (Nat.le_refl _) (Nat.le_refl _) ?_
      refine W.eq (g2 := F0 m 15 ls [.ref q9]) rfl ?_
      refine lv_astore (lv' := [(5, .ref q9), (0, .ref x0), (1, .int x1), (2, .int x2), (3, .int x3), (4, .ref x4)]) hx hb dL_wordOf_15 hl (by decide) rfl (fun ls hl => ?_)
      refine lv_iconst (v := 1) hx hb dL_wordOf_17 (by decide) ?_
      cases hf
      exact tk_iret hx hb hr hlocks hs dL_wordOf_18
    rw [if_neg c4] at hf
    cases hf
def fL_next (N : Nat) (x0 : Nat) (x1 : Int32) (x2 : Nat) (h : tk_AH) (sz : Nat) : Option (Int32 × tk_AH × Nat) :=
  (tk_ok h 4 x0).bind fun _ =>
  (fX4_next N x0 x1 h sz).bind fun o1 =>
  Sum.elim (fun r1 =>
  (tk_sJ o1.2.1 2 x2 0 r1.toInt64).bind fun h3 =>
  some (0, h3, o1.2.2)) (fun E1 =>
  if E1 = "java/util/NoSuchElementException" then (
  some (1, o1.2.1, o1.2.2)) else (
  none)) o1.1
set_option maxHeartbeats 8000000 in
set_option maxRecDepth 100000 in
theorem cL_next_ok (l : Launch) (hl0 : l.stackTraces = false) (G : tk_AG) (N : Nat) (x0 : Nat) (x1 : Int32) (x2 : Nat) (h : tk_AH) (sz : Nat) (r9 : Int32) (h9 : tk_AH) (sz9 : Nat) (hf : fL_next N x0 x1 x2 h sz = some (r9, h9, sz9)) : Met l yL_next (coL_next :: tk_W) ({ frames := 8, cells := 1, slots := 6, locals := 143 }) (tk_pc G [.ref x0, .int x1, .ref x2] h sz) (tk_qc G (some (.int r9)) h9 sz9) 1 6 (tk_ag G) := by
  refine va_MetW (cc := cL_next) (maxL := 4) (ret := (some .int)) (hh := [(0, 9, 12, 13)]) (by decide) rfl ?_
  intro p e s m args below meth c s₁ B hml hv
  obtain ⟨hav, hE, hrp, hsz, hgs⟩ := hv
  have hx := B.exec
  have hb := B.bytes
  have hr := B.returns
  have hts := atoms_spec (ws := coL_next :: tk_W) B.pre
  have ht : ∀ w ∈ tk_W, w.before args s = true := fun w h => hts w (List.mem_cons_of_mem _ h)
  have hown : s.vm.findClass RL = some m.cls := findClass_of_methodNamed B.named
  have hlocks := B.notSynchronized
  have htab : c.exceptionTable.toList = tableOf [(0, 9, 12, 13)] := vx_table (x := yL_next) B (hts _ List.mem_cons_self)
  have hs : tk_sw G s h sz s.heap [] := ⟨hrp, hsz, by rw [hsz]; exact hgs, va_S.rf⟩
  have hl := lv_entry ([.ref x0, .int x1, .ref x2]) (n := 4) (Nat.le_of_ble_eq_true rfl)
  have hent : entryFrame m args 4 = F0 m 0 (lg_sl ([.ref x0, .int x1, .ref x2]) ++ List.replicate (4 - (lg_sl ([.ref x0, .int x1, .ref x2])).length) Slot.unset).toArray [] := by rw [hav, lg_entry_eq]
  rw [hent]
  clear hent
  generalize (lg_sl ([.ref x0, .int x1, .ref x2]) ++ List.replicate (4 - (lg_sl ([.ref x0, .int x1, .ref x2])).length) Slot.unset).toArray = ls at hl ⊢
  have hl : lv_has ls 4 [(0, .ref x0), (1, .int x1), (2, .ref x2)] := hl
  unfold fL_next at hf
  refine lv_aload_n hx hb dL_next_0 rfl (lv_at hl 2 rfl) ?_
  refine lv_iconst (v := 0) hx hb dL_next_1 (by decide) ?_
  refine lv_aload_n hx hb dL_next_2 rfl (lv_at hl 0 rfl) ?_
  refine lv_iload_n hx hb dL_next_3 rfl (lv_at hl 1 rfl) ?_
  obtain ⟨_, p1, hf⟩ := tk_bi hf
  obtain ⟨o1, e1, hf⟩ := tk_bi hf
  rcases w1 : o1.1 with r1 | E1
  · rw [w1, Sum.elim_inl] at hf
    refine tk_xret0 (v := some (.int r1)) hs (vx_runV (As := [.int x1]) (rest := [.int 0, .ref x2]) ⟨hx, hb, hml, hown, ht⟩ (cX4_next_ok l hl0 G N x0 x1 h sz (Sum.inl r1) o1.2.1 o1.2.2 (by rw [e1, ← w1])) (kwX4_next ht wmL_71 rfl rfl ⟨Nat.le_of_ble_eq_true rfl, Nat.le_of_ble_eq_true rfl⟩) (tk_preV hE hs (tk_ok_ok p1) rfl) rfl rfl hl.1 rfl (lv_room (Nat.le_of_ble_eq_true rfl)) dL_next_4 ⟨(Nat.le_of_ble_eq_true rfl), (Nat.le_of_ble_eq_true rfl)⟩) rfl rfl (fun H locs hs => ?_)
    refine W.eq (g2 := F0 m 7 ls [.int r1, .int 0, .ref x2]) rfl ?_
    refine lv_i2l (v := r1.toInt64) hx hb dL_next_7 rfl ?_
    obtain ⟨h3, e3, hf⟩ := tk_bi hf
    refine tk_last hx hb hE hs e3 dL_next_8 (fun H locs hs => ?_)
    refine lv_goto (tgt := 15) hx hb dL_next_9 (by decide) ?_
    refine lv_iconst (v := 0) hx hb dL_next_15 (by decide) ?_
    cases hf
    refine W.widen (k := 1) (n := 6) (by omega) (by omega) ?_
    exact tk_iret hx hb hr hlocks hs dL_next_16
  · rw [w1, Sum.elim_inr] at hf
    by_cases c4 : E1 = "java/util/NoSuchElementException"
    · subst c4
      rw [if_pos rfl] at hf
      refine tk_xthr hs (vx_runV (As := [.int x1]) (rest := [.int 0, .ref x2]) ⟨hx, hb, hml, hown, ht⟩ (cX4_next_ok l hl0 G N x0 x1 h sz (Sum.inr "java/util/NoSuchElementException") o1.2.1 o1.2.2 (by rw [e1, ← w1])) (kwX4_next ht wmL_71 rfl rfl ⟨Nat.le_of_ble_eq_true rfl, Nat.le_of_ble_eq_true rfl⟩) (tk_preV hE hs (tk_ok_ok p1) rfl) rfl rfl hl.1 rfl (lv_room (Nat.le_of_ble_eq_true rfl)) dL_next_4 ⟨Nat.le_of_ble_eq_true rfl, Nat.le_of_ble_eq_true rfl⟩) (fun H locs ce q9 hs hce hcv hcl => ?_)
      refine vx_catch (own := RL) (name := "java/util/NoSuchElementException") hown [] ⟨0, 9, 12, 13⟩ [] htab (fun z hz => nomatch hz) (by decide) (by decide) (ht _ wlL_13) (tk_use rfl (hE.2.2.1 _ (by decide +kernel))) hce hcv hcl ?_
      refine W.widen (k := 1) (n := 6) (Nat.le_refl _) (Nat.le_refl _) ?_
      refine W.eq (g2 := F0 m 12 ls [.ref q9]) rfl ?_
      refine lv_astore_n (lv' := [(3, .ref q9), (0, .ref x0), (1, .int x1), (2, .ref x2)]) hx hb dL_next_12 rfl hl (by decide) rfl (fun ls hl => ?_)
      refine lv_iconst (v := 1) hx hb dL_next_13 (by decide) ?_
      cases hf
      exact tk_iret hx hb hr hlocks hs dL_next_14
    rw [if_neg c4] at hf
    cases hf
def fL_correct (N : Nat) (x0 : Nat) (x1 : Int32) (x2 : Int32) (x3 : Nat) (h : tk_AH) (sz : Nat) : Option (Int32 × tk_AH × Nat) :=
  (tk_ok h 4 x0).bind fun _ =>
  (fX4_correct N x0 x1 x2 h sz).bind fun o1 =>
  Sum.elim (fun r1 =>
  (tk_sJ o1.2.1 2 x3 0 r1.toInt64).bind fun h3 =>
  some (0, h3, o1.2.2)) (fun E1 =>
  if E1 = "java/lang/IllegalArgumentException" then (
  some (1, o1.2.1, o1.2.2)) else (
  none)) o1.1
set_option maxHeartbeats 8000000 in
set_option maxRecDepth 100000 in
theorem cL_correct_ok (l : Launch) (hl0 : l.stackTraces = false) (G : tk_AG) (N : Nat) (x0 : Nat) (x1 : Int32) (x2 : Int32) (x3 : Nat) (h : tk_AH) (sz : Nat) (r9 : Int32) (h9 : tk_AH) (sz9 : Nat) (hf : fL_correct N x0 x1 x2 x3 h sz = some (r9, h9, sz9)) : Met l yL_correct (coL_correct :: tk_W) ({ frames := 7, cells := 1, slots := 6, locals := 139 }) (tk_pc G [.ref x0, .int x1, .int x2, .ref x3] h sz) (tk_qc G (some (.int r9)) h9 sz9) 1 6 (tk_ag G) := by
  refine va_MetW (cc := cL_correct) (maxL := 5) (ret := (some .int)) (hh := [(0, 10, 13, 19)]) (by decide) rfl ?_
  intro p e s m args below meth c s₁ B hml hv
  obtain ⟨hav, hE, hrp, hsz, hgs⟩ := hv
  have hx := B.exec
  have hb := B.bytes
  have hr := B.returns
  have hts := atoms_spec (ws := coL_correct :: tk_W) B.pre
  have ht : ∀ w ∈ tk_W, w.before args s = true := fun w h => hts w (List.mem_cons_of_mem _ h)
  have hown : s.vm.findClass RL = some m.cls := findClass_of_methodNamed B.named
  have hlocks := B.notSynchronized
  have htab : c.exceptionTable.toList = tableOf [(0, 10, 13, 19)] := vx_table (x := yL_correct) B (hts _ List.mem_cons_self)
  have hs : tk_sw G s h sz s.heap [] := ⟨hrp, hsz, by rw [hsz]; exact hgs, va_S.rf⟩
  have hl := lv_entry ([.ref x0, .int x1, .int x2, .ref x3]) (n := 5) (Nat.le_of_ble_eq_true rfl)
  have hent : entryFrame m args 5 = F0 m 0 (lg_sl ([.ref x0, .int x1, .int x2, .ref x3]) ++ List.replicate (5 - (lg_sl ([.ref x0, .int x1, .int x2, .ref x3])).length) Slot.unset).toArray [] := by rw [hav, lg_entry_eq]
  rw [hent]
  clear hent
  generalize (lg_sl ([.ref x0, .int x1, .int x2, .ref x3]) ++ List.replicate (5 - (lg_sl ([.ref x0, .int x1, .int x2, .ref x3])).length) Slot.unset).toArray = ls at hl ⊢
  have hl : lv_has ls 5 [(0, .ref x0), (1, .int x1), (2, .int x2), (3, .ref x3)] := hl
  unfold fL_correct at hf
  refine lv_aload_n hx hb dL_correct_0 rfl (lv_at hl 3 rfl) ?_
  refine lv_iconst (v := 0) hx hb dL_correct_1 (by decide) ?_
  refine lv_aload_n hx hb dL_correct_2 rfl (lv_at hl 0 rfl) ?_
  refine lv_iload_n hx hb dL_correct_3 rfl (lv_at hl 1 rfl) ?_
  refine lv_iload_n hx hb dL_correct_4 rfl (lv_at hl 2 rfl) ?_
  obtain ⟨_, p1, hf⟩ := tk_bi hf
  obtain ⟨o1, e1, hf⟩ := tk_bi hf
  rcases w1 : o1.1 with r1 | E1
  · rw [w1, Sum.elim_inl] at hf
    refine tk_xret0 (v := some (.int r1)) hs (vx_runV (As := [.int x1, .int x2]) (rest := [.int 0, .ref x3]) ⟨hx, hb, hml, hown, ht⟩ (cX4_correct_ok l hl0 G N x0 x1 x2 h sz (Sum.inl r1) o1.2.1 o1.2.2 (by rw [e1, ← w1])) (kwX4_correct ht wmL_74 rfl rfl ⟨Nat.le_of_ble_eq_true rfl, Nat.le_of_ble_eq_true rfl⟩) (tk_preV hE hs (tk_ok_ok p1) rfl) rfl rfl hl.1 rfl (lv_room (Nat.le_of_ble_eq_true rfl)) dL_correct_5 ⟨(Nat.le_of_ble_eq_true rfl), (Nat.le_of_ble_eq_true rfl)⟩) rfl rfl (fun H locs hs => ?_)
    refine W.eq (g2 := F0 m 8 ls [.int r1, .int 0, .ref x3]) rfl ?_
    refine lv_i2l (v := r1.toInt64) hx hb dL_correct_8 rfl ?_
    obtain ⟨h3, e3, hf⟩ := tk_bi hf
    refine tk_last hx hb hE hs e3 dL_correct_9 (fun H locs hs => ?_)
    refine lv_goto (tgt := 17) hx hb dL_correct_10 (by decide) ?_
    refine lv_iconst (v := 0) hx hb dL_correct_17 (by decide) ?_
    cases hf
    refine W.widen (k := 1) (n := 6) (by omega) (by omega) ?_
    exact tk_iret hx hb hr hlocks hs dL_correct_18
  · rw [w1, Sum.elim_inr] at hf
    by_cases c4 : E1 = "java/lang/IllegalArgumentException"
    · subst c4
      rw [if_pos rfl] at hf
      refine tk_xthr hs (vx_runV (As := [.int x1, .int x2]) (rest := [.int 0, .ref x3]) ⟨hx, hb, hml, hown, ht⟩ (cX4_correct_ok l hl0 G N x0 x1 x2 h sz (Sum.inr "java/lang/IllegalArgumentException") o1.2.1 o1.2.2 (by rw [e1, ← w1])) (kwX4_correct ht wmL_74 rfl rfl ⟨Nat.le_of_ble_eq_true rfl, Nat.le_of_ble_eq_true rfl⟩) (tk_preV hE hs (tk_ok_ok p1) rfl) rfl rfl hl.1 rfl (lv_room (Nat.le_of_ble_eq_true rfl)) dL_correct_5 ⟨Nat.le_of_ble_eq_true rfl, Nat.le_of_ble_eq_true rfl⟩) (fun H locs ce q9 hs hce hcv hcl => ?_)
      refine vx_catch (own := RL) (name := "java/lang/IllegalArgumentException") hown [] ⟨0, 10, 13, 19⟩ [] htab (fun z hz => nomatch hz) (by decide) (by decide) (ht _ wlL_19) (tk_use rfl (hE.2.2.1 _ (by decide +kernel))) hce hcv hcl ?_
      refine W.widen (k := 1) (n := 6) (Nat.le_refl _) (Nat.le_refl _) ?_
      refine W.eq (g2 := F0 m 13 ls [.ref q9]) rfl ?_
      refine lv_astore (lv' := [(4, .ref q9), (0, .ref x0), (1, .int x1), (2, .int x2), (3, .ref x3)]) hx hb dL_correct_13 hl (by decide) rfl (fun ls hl => ?_)
      refine lv_iconst (v := 1) hx hb dL_correct_15 (by decide) ?_
      cases hf
      exact tk_iret hx hb hr hlocks hs dL_correct_16
    rw [if_neg c4] at hf
    cases hf
def fL_mark (N : Nat) (x0 : Nat) (x1 : Int32) (x2 : Nat) (h : tk_AH) (sz : Nat) : Option (Int32 × tk_AH × Nat) :=
  (tk_ok h 4 x0).bind fun _ =>
  (fX4_mark N x0 x1 h sz).bind fun o1 =>
  Sum.elim (fun r1 =>
  (tk_sJ o1.2.1 2 x2 0 r1.toInt64).bind fun h3 =>
  some (0, h3, o1.2.2)) (fun E1 =>
  if E1 = "java/util/NoSuchElementException" then (
  some (1, o1.2.1, o1.2.2)) else (
  none)) o1.1
set_option maxHeartbeats 8000000 in
set_option maxRecDepth 100000 in
theorem cL_mark_ok (l : Launch) (hl0 : l.stackTraces = false) (G : tk_AG) (N : Nat) (x0 : Nat) (x1 : Int32) (x2 : Nat) (h : tk_AH) (sz : Nat) (r9 : Int32) (h9 : tk_AH) (sz9 : Nat) (hf : fL_mark N x0 x1 x2 h sz = some (r9, h9, sz9)) : Met l yL_mark (coL_mark :: tk_W) ({ frames := 7, cells := 1, slots := 6, locals := 121 }) (tk_pc G [.ref x0, .int x1, .ref x2] h sz) (tk_qc G (some (.int r9)) h9 sz9) 1 6 (tk_ag G) := by
  refine va_MetW (cc := cL_mark) (maxL := 4) (ret := (some .int)) (hh := [(0, 9, 12, 13)]) (by decide) rfl ?_
  intro p e s m args below meth c s₁ B hml hv
  obtain ⟨hav, hE, hrp, hsz, hgs⟩ := hv
  have hx := B.exec
  have hb := B.bytes
  have hr := B.returns
  have hts := atoms_spec (ws := coL_mark :: tk_W) B.pre
  have ht : ∀ w ∈ tk_W, w.before args s = true := fun w h => hts w (List.mem_cons_of_mem _ h)
  have hown : s.vm.findClass RL = some m.cls := findClass_of_methodNamed B.named
  have hlocks := B.notSynchronized
  have htab : c.exceptionTable.toList = tableOf [(0, 9, 12, 13)] := vx_table (x := yL_mark) B (hts _ List.mem_cons_self)
  have hs : tk_sw G s h sz s.heap [] := ⟨hrp, hsz, by rw [hsz]; exact hgs, va_S.rf⟩
  have hl := lv_entry ([.ref x0, .int x1, .ref x2]) (n := 4) (Nat.le_of_ble_eq_true rfl)
  have hent : entryFrame m args 4 = F0 m 0 (lg_sl ([.ref x0, .int x1, .ref x2]) ++ List.replicate (4 - (lg_sl ([.ref x0, .int x1, .ref x2])).length) Slot.unset).toArray [] := by rw [hav, lg_entry_eq]
  rw [hent]
  clear hent
  generalize (lg_sl ([.ref x0, .int x1, .ref x2]) ++ List.replicate (4 - (lg_sl ([.ref x0, .int x1, .ref x2])).length) Slot.unset).toArray = ls at hl ⊢
  have hl : lv_has ls 4 [(0, .ref x0), (1, .int x1), (2, .ref x2)] := hl
  unfold fL_mark at hf
  refine lv_aload_n hx hb dL_mark_0 rfl (lv_at hl 2 rfl) ?_
  refine lv_iconst (v := 0) hx hb dL_mark_1 (by decide) ?_
  refine lv_aload_n hx hb dL_mark_2 rfl (lv_at hl 0 rfl) ?_
  refine lv_iload_n hx hb dL_mark_3 rfl (lv_at hl 1 rfl) ?_
  obtain ⟨_, p1, hf⟩ := tk_bi hf
  obtain ⟨o1, e1, hf⟩ := tk_bi hf
  rcases w1 : o1.1 with r1 | E1
  · rw [w1, Sum.elim_inl] at hf
    refine tk_xret0 (v := some (.int r1)) hs (vx_runV (As := [.int x1]) (rest := [.int 0, .ref x2]) ⟨hx, hb, hml, hown, ht⟩ (cX4_mark_ok l hl0 G N x0 x1 h sz (Sum.inl r1) o1.2.1 o1.2.2 (by rw [e1, ← w1])) (kwX4_mark ht wmL_77 rfl rfl ⟨Nat.le_of_ble_eq_true rfl, Nat.le_of_ble_eq_true rfl⟩) (tk_preV hE hs (tk_ok_ok p1) rfl) rfl rfl hl.1 rfl (lv_room (Nat.le_of_ble_eq_true rfl)) dL_mark_4 ⟨(Nat.le_of_ble_eq_true rfl), (Nat.le_of_ble_eq_true rfl)⟩) rfl rfl (fun H locs hs => ?_)
    refine W.eq (g2 := F0 m 7 ls [.int r1, .int 0, .ref x2]) rfl ?_
    refine lv_i2l (v := r1.toInt64) hx hb dL_mark_7 rfl ?_
    obtain ⟨h3, e3, hf⟩ := tk_bi hf
    refine tk_last hx hb hE hs e3 dL_mark_8 (fun H locs hs => ?_)
    refine lv_goto (tgt := 15) hx hb dL_mark_9 (by decide) ?_
    refine lv_iconst (v := 0) hx hb dL_mark_15 (by decide) ?_
    cases hf
    refine W.widen (k := 1) (n := 6) (by omega) (by omega) ?_
    exact tk_iret hx hb hr hlocks hs dL_mark_16
  · rw [w1, Sum.elim_inr] at hf
    by_cases c4 : E1 = "java/util/NoSuchElementException"
    · subst c4
      rw [if_pos rfl] at hf
      refine tk_xthr hs (vx_runV (As := [.int x1]) (rest := [.int 0, .ref x2]) ⟨hx, hb, hml, hown, ht⟩ (cX4_mark_ok l hl0 G N x0 x1 h sz (Sum.inr "java/util/NoSuchElementException") o1.2.1 o1.2.2 (by rw [e1, ← w1])) (kwX4_mark ht wmL_77 rfl rfl ⟨Nat.le_of_ble_eq_true rfl, Nat.le_of_ble_eq_true rfl⟩) (tk_preV hE hs (tk_ok_ok p1) rfl) rfl rfl hl.1 rfl (lv_room (Nat.le_of_ble_eq_true rfl)) dL_mark_4 ⟨Nat.le_of_ble_eq_true rfl, Nat.le_of_ble_eq_true rfl⟩) (fun H locs ce q9 hs hce hcv hcl => ?_)
      refine vx_catch (own := RL) (name := "java/util/NoSuchElementException") hown [] ⟨0, 9, 12, 13⟩ [] htab (fun z hz => nomatch hz) (by decide) (by decide) (ht _ wlL_13) (tk_use rfl (hE.2.2.1 _ (by decide +kernel))) hce hcv hcl ?_
      refine W.widen (k := 1) (n := 6) (Nat.le_refl _) (Nat.le_refl _) ?_
      refine W.eq (g2 := F0 m 12 ls [.ref q9]) rfl ?_
      refine lv_astore_n (lv' := [(3, .ref q9), (0, .ref x0), (1, .int x1), (2, .ref x2)]) hx hb dL_mark_12 rfl hl (by decide) rfl (fun ls hl => ?_)
      refine lv_iconst (v := 1) hx hb dL_mark_13 (by decide) ?_
      cases hf
      exact tk_iret hx hb hr hlocks hs dL_mark_14
    rw [if_neg c4] at hf
    cases hf
def fL_marks (N : Nat) (x0 : Nat) (x1 : Int32) (x2 : Nat) (h : tk_AH) (sz : Nat) : Option (Int32 × tk_AH × Nat) :=
  (tk_ok h 4 x0).bind fun _ =>
  (fX4_marks N x0 x1 h sz).bind fun o1 =>
  Sum.elim (fun r1 =>
  (tk_sJ o1.2.1 2 x2 0 r1.toInt64).bind fun h3 =>
  some (0, h3, o1.2.2)) (fun E1 =>
  if E1 = "java/util/NoSuchElementException" then (
  some (1, o1.2.1, o1.2.2)) else (
  none)) o1.1
set_option maxHeartbeats 8000000 in
set_option maxRecDepth 100000 in
theorem cL_marks_ok (l : Launch) (hl0 : l.stackTraces = false) (G : tk_AG) (N : Nat) (x0 : Nat) (x1 : Int32) (x2 : Nat) (h : tk_AH) (sz : Nat) (r9 : Int32) (h9 : tk_AH) (sz9 : Nat) (hf : fL_marks N x0 x1 x2 h sz = some (r9, h9, sz9)) : Met l yL_marks (coL_marks :: tk_W) ({ frames := 7, cells := 1, slots := 6, locals := 121 }) (tk_pc G [.ref x0, .int x1, .ref x2] h sz) (tk_qc G (some (.int r9)) h9 sz9) 1 6 (tk_ag G) := by
  refine va_MetW (cc := cL_marks) (maxL := 4) (ret := (some .int)) (hh := [(0, 9, 12, 13)]) (by decide) rfl ?_
  intro p e s m args below meth c s₁ B hml hv
  obtain ⟨hav, hE, hrp, hsz, hgs⟩ := hv
  have hx := B.exec
  have hb := B.bytes
  have hr := B.returns
  have hts := atoms_spec (ws := coL_marks :: tk_W) B.pre
  have ht : ∀ w ∈ tk_W, w.before args s = true := fun w h => hts w (List.mem_cons_of_mem _ h)
  have hown : s.vm.findClass RL = some m.cls := findClass_of_methodNamed B.named
  have hlocks := B.notSynchronized
  have htab : c.exceptionTable.toList = tableOf [(0, 9, 12, 13)] := vx_table (x := yL_marks) B (hts _ List.mem_cons_self)
  have hs : tk_sw G s h sz s.heap [] := ⟨hrp, hsz, by rw [hsz]; exact hgs, va_S.rf⟩
  have hl := lv_entry ([.ref x0, .int x1, .ref x2]) (n := 4) (Nat.le_of_ble_eq_true rfl)
  have hent : entryFrame m args 4 = F0 m 0 (lg_sl ([.ref x0, .int x1, .ref x2]) ++ List.replicate (4 - (lg_sl ([.ref x0, .int x1, .ref x2])).length) Slot.unset).toArray [] := by rw [hav, lg_entry_eq]
  rw [hent]
  clear hent
  generalize (lg_sl ([.ref x0, .int x1, .ref x2]) ++ List.replicate (4 - (lg_sl ([.ref x0, .int x1, .ref x2])).length) Slot.unset).toArray = ls at hl ⊢
  have hl : lv_has ls 4 [(0, .ref x0), (1, .int x1), (2, .ref x2)] := hl
  unfold fL_marks at hf
  refine lv_aload_n hx hb dL_marks_0 rfl (lv_at hl 2 rfl) ?_
  refine lv_iconst (v := 0) hx hb dL_marks_1 (by decide) ?_
  refine lv_aload_n hx hb dL_marks_2 rfl (lv_at hl 0 rfl) ?_
  refine lv_iload_n hx hb dL_marks_3 rfl (lv_at hl 1 rfl) ?_
  obtain ⟨_, p1, hf⟩ := tk_bi hf
  obtain ⟨o1, e1, hf⟩ := tk_bi hf
  rcases w1 : o1.1 with r1 | E1
  · rw [w1, Sum.elim_inl] at hf
    refine tk_xret0 (v := some (.int r1)) hs (vx_runV (As := [.int x1]) (rest := [.int 0, .ref x2]) ⟨hx, hb, hml, hown, ht⟩ (cX4_marks_ok l hl0 G N x0 x1 h sz (Sum.inl r1) o1.2.1 o1.2.2 (by rw [e1, ← w1])) (kwX4_marks ht wmL_80 rfl rfl ⟨Nat.le_of_ble_eq_true rfl, Nat.le_of_ble_eq_true rfl⟩) (tk_preV hE hs (tk_ok_ok p1) rfl) rfl rfl hl.1 rfl (lv_room (Nat.le_of_ble_eq_true rfl)) dL_marks_4 ⟨(Nat.le_of_ble_eq_true rfl), (Nat.le_of_ble_eq_true rfl)⟩) rfl rfl (fun H locs hs => ?_)
    refine W.eq (g2 := F0 m 7 ls [.int r1, .int 0, .ref x2]) rfl ?_
    refine lv_i2l (v := r1.toInt64) hx hb dL_marks_7 rfl ?_
    obtain ⟨h3, e3, hf⟩ := tk_bi hf
    refine tk_last hx hb hE hs e3 dL_marks_8 (fun H locs hs => ?_)
    refine lv_goto (tgt := 15) hx hb dL_marks_9 (by decide) ?_
    refine lv_iconst (v := 0) hx hb dL_marks_15 (by decide) ?_
    cases hf
    refine W.widen (k := 1) (n := 6) (by omega) (by omega) ?_
    exact tk_iret hx hb hr hlocks hs dL_marks_16
  · rw [w1, Sum.elim_inr] at hf
    by_cases c4 : E1 = "java/util/NoSuchElementException"
    · subst c4
      rw [if_pos rfl] at hf
      refine tk_xthr hs (vx_runV (As := [.int x1]) (rest := [.int 0, .ref x2]) ⟨hx, hb, hml, hown, ht⟩ (cX4_marks_ok l hl0 G N x0 x1 h sz (Sum.inr "java/util/NoSuchElementException") o1.2.1 o1.2.2 (by rw [e1, ← w1])) (kwX4_marks ht wmL_80 rfl rfl ⟨Nat.le_of_ble_eq_true rfl, Nat.le_of_ble_eq_true rfl⟩) (tk_preV hE hs (tk_ok_ok p1) rfl) rfl rfl hl.1 rfl (lv_room (Nat.le_of_ble_eq_true rfl)) dL_marks_4 ⟨Nat.le_of_ble_eq_true rfl, Nat.le_of_ble_eq_true rfl⟩) (fun H locs ce q9 hs hce hcv hcl => ?_)
      refine vx_catch (own := RL) (name := "java/util/NoSuchElementException") hown [] ⟨0, 9, 12, 13⟩ [] htab (fun z hz => nomatch hz) (by decide) (by decide) (ht _ wlL_13) (tk_use rfl (hE.2.2.1 _ (by decide +kernel))) hce hcv hcl ?_
      refine W.widen (k := 1) (n := 6) (Nat.le_refl _) (Nat.le_refl _) ?_
      refine W.eq (g2 := F0 m 12 ls [.ref q9]) rfl ?_
      refine lv_astore_n (lv' := [(3, .ref q9), (0, .ref x0), (1, .int x1), (2, .ref x2)]) hx hb dL_marks_12 rfl hl (by decide) rfl (fun ls hl => ?_)
      refine lv_iconst (v := 1) hx hb dL_marks_13 (by decide) ?_
      cases hf
      exact tk_iret hx hb hr hlocks hs dL_marks_14
    rw [if_neg c4] at hf
    cases hf
def fL_count (N : Nat) (x0 : Nat) (x1 : Int32) (x2 : Nat) (h : tk_AH) (sz : Nat) : Option (Int32 × tk_AH × Nat) :=
  (tk_ok h 4 x0).bind fun _ =>
  (fX4_count N x0 x1 h sz).bind fun o1 =>
  Sum.elim (fun r1 =>
  (tk_sJ o1.2.1 2 x2 0 r1.toInt64).bind fun h3 =>
  some (0, h3, o1.2.2)) (fun E1 =>
  if E1 = "java/util/NoSuchElementException" then (
  some (1, o1.2.1, o1.2.2)) else (
  none)) o1.1
set_option maxHeartbeats 8000000 in
set_option maxRecDepth 100000 in
theorem cL_count_ok (l : Launch) (hl0 : l.stackTraces = false) (G : tk_AG) (N : Nat) (x0 : Nat) (x1 : Int32) (x2 : Nat) (h : tk_AH) (sz : Nat) (r9 : Int32) (h9 : tk_AH) (sz9 : Nat) (hf : fL_count N x0 x1 x2 h sz = some (r9, h9, sz9)) : Met l yL_count (coL_count :: tk_W) ({ frames := 7, cells := 1, slots := 6, locals := 121 }) (tk_pc G [.ref x0, .int x1, .ref x2] h sz) (tk_qc G (some (.int r9)) h9 sz9) 1 6 (tk_ag G) := by
  refine va_MetW (cc := cL_count) (maxL := 4) (ret := (some .int)) (hh := [(0, 9, 12, 13)]) (by decide) rfl ?_
  intro p e s m args below meth c s₁ B hml hv
  obtain ⟨hav, hE, hrp, hsz, hgs⟩ := hv
  have hx := B.exec
  have hb := B.bytes
  have hr := B.returns
  have hts := atoms_spec (ws := coL_count :: tk_W) B.pre
  have ht : ∀ w ∈ tk_W, w.before args s = true := fun w h => hts w (List.mem_cons_of_mem _ h)
  have hown : s.vm.findClass RL = some m.cls := findClass_of_methodNamed B.named
  have hlocks := B.notSynchronized
  have htab : c.exceptionTable.toList = tableOf [(0, 9, 12, 13)] := vx_table (x := yL_count) B (hts _ List.mem_cons_self)
  have hs : tk_sw G s h sz s.heap [] := ⟨hrp, hsz, by rw [hsz]; exact hgs, va_S.rf⟩
  have hl := lv_entry ([.ref x0, .int x1, .ref x2]) (n := 4) (Nat.le_of_ble_eq_true rfl)
  have hent : entryFrame m args 4 = F0 m 0 (lg_sl ([.ref x0, .int x1, .ref x2]) ++ List.replicate (4 - (lg_sl ([.ref x0, .int x1, .ref x2])).length) Slot.unset).toArray [] := by rw [hav, lg_entry_eq]
  rw [hent]
  clear hent
  generalize (lg_sl ([.ref x0, .int x1, .ref x2]) ++ List.replicate (4 - (lg_sl ([.ref x0, .int x1, .ref x2])).length) Slot.unset).toArray = ls at hl ⊢
  have hl : lv_has ls 4 [(0, .ref x0), (1, .int x1), (2, .ref x2)] := hl
  unfold fL_count at hf
  refine lv_aload_n hx hb dL_count_0 rfl (lv_at hl 2 rfl) ?_
  refine lv_iconst (v := 0) hx hb dL_count_1 (by decide) ?_
  refine lv_aload_n hx hb dL_count_2 rfl (lv_at hl 0 rfl) ?_
  refine lv_iload_n hx hb dL_count_3 rfl (lv_at hl 1 rfl) ?_
  obtain ⟨_, p1, hf⟩ := tk_bi hf
  obtain ⟨o1, e1, hf⟩ := tk_bi hf
  rcases w1 : o1.1 with r1 | E1
  · rw [w1, Sum.elim_inl] at hf
    refine tk_xret0 (v := some (.int r1)) hs (vx_runV (As := [.int x1]) (rest := [.int 0, .ref x2]) ⟨hx, hb, hml, hown, ht⟩ (cX4_count_ok l hl0 G N x0 x1 h sz (Sum.inl r1) o1.2.1 o1.2.2 (by rw [e1, ← w1])) (kwX4_count ht wmL_83 rfl rfl ⟨Nat.le_of_ble_eq_true rfl, Nat.le_of_ble_eq_true rfl⟩) (tk_preV hE hs (tk_ok_ok p1) rfl) rfl rfl hl.1 rfl (lv_room (Nat.le_of_ble_eq_true rfl)) dL_count_4 ⟨(Nat.le_of_ble_eq_true rfl), (Nat.le_of_ble_eq_true rfl)⟩) rfl rfl (fun H locs hs => ?_)
    refine W.eq (g2 := F0 m 7 ls [.int r1, .int 0, .ref x2]) rfl ?_
    refine lv_i2l (v := r1.toInt64) hx hb dL_count_7 rfl ?_
    obtain ⟨h3, e3, hf⟩ := tk_bi hf
    refine tk_last hx hb hE hs e3 dL_count_8 (fun H locs hs => ?_)
    refine lv_goto (tgt := 15) hx hb dL_count_9 (by decide) ?_
    refine lv_iconst (v := 0) hx hb dL_count_15 (by decide) ?_
    cases hf
    refine W.widen (k := 1) (n := 6) (by omega) (by omega) ?_
    exact tk_iret hx hb hr hlocks hs dL_count_16
  · rw [w1, Sum.elim_inr] at hf
    by_cases c4 : E1 = "java/util/NoSuchElementException"
    · subst c4
      rw [if_pos rfl] at hf
      refine tk_xthr hs (vx_runV (As := [.int x1]) (rest := [.int 0, .ref x2]) ⟨hx, hb, hml, hown, ht⟩ (cX4_count_ok l hl0 G N x0 x1 h sz (Sum.inr "java/util/NoSuchElementException") o1.2.1 o1.2.2 (by rw [e1, ← w1])) (kwX4_count ht wmL_83 rfl rfl ⟨Nat.le_of_ble_eq_true rfl, Nat.le_of_ble_eq_true rfl⟩) (tk_preV hE hs (tk_ok_ok p1) rfl) rfl rfl hl.1 rfl (lv_room (Nat.le_of_ble_eq_true rfl)) dL_count_4 ⟨Nat.le_of_ble_eq_true rfl, Nat.le_of_ble_eq_true rfl⟩) (fun H locs ce q9 hs hce hcv hcl => ?_)
      refine vx_catch (own := RL) (name := "java/util/NoSuchElementException") hown [] ⟨0, 9, 12, 13⟩ [] htab (fun z hz => nomatch hz) (by decide) (by decide) (ht _ wlL_13) (tk_use rfl (hE.2.2.1 _ (by decide +kernel))) hce hcv hcl ?_
      refine W.widen (k := 1) (n := 6) (Nat.le_refl _) (Nat.le_refl _) ?_
      refine W.eq (g2 := F0 m 12 ls [.ref q9]) rfl ?_
      refine lv_astore_n (lv' := [(3, .ref q9), (0, .ref x0), (1, .int x1), (2, .ref x2)]) hx hb dL_count_12 rfl hl (by decide) rfl (fun ls hl => ?_)
      refine lv_iconst (v := 1) hx hb dL_count_13 (by decide) ?_
      cases hf
      exact tk_iret hx hb hr hlocks hs dL_count_14
    rw [if_neg c4] at hf
    cases hf
