def fX5_isBest_86 (N : Nat) (y0 : Int32) (h : tk_AH) (sz : Nat) : Option (Int32 × tk_AH × Nat) :=
  (tk_bz y0).bind fun _ =>
  some (y0, h, sz)
def fX5_isBest_85 (N : Nat) (h : tk_AH) (sz : Nat) : Option (Int32 × tk_AH × Nat) :=
  fX5_isBest_86 N 0 h sz
def fX5_isBest_71 (N : Nat) (x0 : Nat) (x2 : Int32) (y0 : Int32) (y1 : Int32) (h : tk_AH) (sz : Nat) : Option (Int32 × tk_AH × Nat) :=
  (tk_gR h 5 33 x0).bind fun v2 =>
  (tk_aI h 0 v2 x2).bind fun v3 =>
  if (y1 + y0) = v3 then (
  fX5_isBest_86 N 1 h sz) else (
  fX5_isBest_85 N h sz)
def fX5_isBest (N : Nat) (x0 : Nat) (x1 : Int32) (x2 : Int32) (h : tk_AH) (sz : Nat) : Option (Int32 × tk_AH × Nat) :=
  (tk_gR h 5 29 x0).bind fun v5 =>
  (tk_aI h 0 v5 x1).bind fun v6 =>
  (tk_gR h 5 29 x0).bind fun v7 =>
  (tk_aI h 0 v7 x1).bind fun v8 =>
  if (v8 &&& (x2 ^^^ (-1))) = 0 then (
  (tk_gR h 5 30 x0).bind fun v10 =>
  (tk_aI h 0 v10 x1).bind fun v11 =>
  (tk_gR h 5 32 x0).bind fun v12 =>
  (tk_aI h 0 v12 (x2 &&& (v6 ^^^ (-1)))).bind fun v13 =>
  (tk_gR h 5 32 x0).bind fun v14 =>
  (tk_aI h 0 v14 x2).bind fun v15 =>
  if (v11 + v13) = v15 then (
  (tk_gR h 5 33 x0).bind fun v17 =>
  (tk_aI h 0 v17 (x2 &&& (v6 ^^^ (-1)))).bind fun v18 =>
  (tk_gR h 5 28 x0).bind fun v19 =>
  (tk_aI h 0 v19 ((3 * x1) + 2)).bind fun v20 =>
  if v20 = (-1) then (
  fX5_isBest_71 N x0 x2 0 v18 h sz) else (
  fX5_isBest_71 N x0 x2 1 v18 h sz)) else (
  fX5_isBest_85 N h sz)) else (
  fX5_isBest_85 N h sz)
set_option maxHeartbeats 8000000 in
set_option maxRecDepth 100000 in
theorem cX5_isBest_ok (l : Launch) (hl0 : l.stackTraces = false) (G : tk_AG) (N : Nat) (x0 : Nat) (x1 : Int32) (x2 : Int32) (h : tk_AH) (sz : Nat) (r9 : Int32) (h9 : tk_AH) (sz9 : Nat) (hf : fX5_isBest N x0 x1 x2 h sz = some (r9, h9, sz9)) : Met l yX5_isBest (coX5_isBest :: tk_W) ({ frames := 0, cells := 0, slots := 0, locals := 0 }) (tk_pc G [.ref x0, .int x1, .int x2] h sz) (tk_qc G (some (.int r9)) h9 sz9) 0 0 (tk_ag G) := by
  refine Met.ofW (cc := cX5_isBest) (maxL := 4) (ret := (some .boolean)) (by decide) rfl ?_
  intro p e s m args below meth c s₁ B hml hv
  obtain ⟨hav, hE, hrp, hsz, hgs⟩ := hv
  have hx := B.exec
  have hb := B.bytes
  have hr := B.returns
  have hts := atoms_spec (ws := coX5_isBest :: tk_W) B.pre
  have ht : ∀ w ∈ tk_W, w.before args s = true := fun w h => hts w (List.mem_cons_of_mem _ h)
  have hown : s.vm.findClass RX5 = some m.cls := findClass_of_methodNamed B.named
  have hlocks := B.notSynchronized
  have hs : tk_sw G s h sz s.heap [] := ⟨hrp, hsz, by rw [hsz]; exact hgs, va_S.rf⟩
  have hl := lv_entry ([.ref x0, .int x1, .int x2]) (n := 4) (Nat.le_of_ble_eq_true rfl)
  have hent : entryFrame m args 4 = F0 m 0 (lg_sl ([.ref x0, .int x1, .int x2]) ++ List.replicate (4 - (lg_sl ([.ref x0, .int x1, .int x2])).length) Slot.unset).toArray [] := by rw [hav, lg_entry_eq]
  rw [hent]
  clear hent
  generalize (lg_sl ([.ref x0, .int x1, .int x2]) ++ List.replicate (4 - (lg_sl ([.ref x0, .int x1, .int x2])).length) Slot.unset).toArray = ls at hl ⊢
  have hl : lv_has ls 4 [(0, .ref x0), (1, .int x1), (2, .int x2)] := hl
  have j86 : ∀ (y0 : Int32) (h : tk_AH) (sz : Nat) (H : Heap) (locs : List Loc) (ls : Array Slot), fX5_isBest_86 N y0 h sz = some (r9, h9, sz9) → tk_sw G s h sz H locs → lv_has ls 4 [] → W p l e (headSpec (coX5_isBest :: tk_W) ({ frames := 0, cells := 0, slots := 0, locals := 0 })).room s m args below meth c H locs 0 (0) (MQ below (tk_qc G (some (.int r9)) h9 sz9) args s 0 0 (tk_ag G)) (F0 m 86 ls [.int y0]) := by
    intro y0 h sz H locs ls hf hs hl
    unfold fX5_isBest_86 at hf
    obtain ⟨_, e1, hf⟩ := tk_bi hf
    have e1 := tk_bz_ok e1
    cases hf
    exact tk_zret hx hb hr hlocks e1 hs dX5_isBest_86
  have j85 : ∀ (h : tk_AH) (sz : Nat) (H : Heap) (locs : List Loc) (ls : Array Slot), fX5_isBest_85 N h sz = some (r9, h9, sz9) → tk_sw G s h sz H locs → lv_has ls 4 [] → W p l e (headSpec (coX5_isBest :: tk_W) ({ frames := 0, cells := 0, slots := 0, locals := 0 })).room s m args below meth c H locs 0 (0) (MQ below (tk_qc G (some (.int r9)) h9 sz9) args s 0 0 (tk_ag G)) (F0 m 85 ls []) := by
    intro h sz H locs ls hf hs hl
    unfold fX5_isBest_85 at hf
    refine lv_iconst (v := 0) hx hb dX5_isBest_85 (by decide) ?_
    exact j86 0 h sz _ _ _ hf hs (lv_sub hl [] rfl)
  have j71 : ∀ (x0 : Nat) (x2 : Int32) (y0 : Int32) (y1 : Int32) (h : tk_AH) (sz : Nat) (H : Heap) (locs : List Loc) (ls : Array Slot), fX5_isBest_71 N x0 x2 y0 y1 h sz = some (r9, h9, sz9) → tk_sw G s h sz H locs → lv_has ls 4 [(0, .ref x0), (2, .int x2)] → W p l e (headSpec (coX5_isBest :: tk_W) ({ frames := 0, cells := 0, slots := 0, locals := 0 })).room s m args below meth c H locs 0 (0) (MQ below (tk_qc G (some (.int r9)) h9 sz9) args s 0 0 (tk_ag G)) (F0 m 71 ls [.int y0, .int y1]) := by
    intro x0 x2 y0 y1 h sz H locs ls hf hs hl
    unfold fX5_isBest_71 at hf
    refine lv_iadd hx hb dX5_isBest_71 ?_
    refine lv_aload_n hx hb dX5_isBest_72 rfl (lv_at hl 0 rfl) ?_
    obtain ⟨v2, e2, hf⟩ := tk_bi hf
    refine tk_getR hx hb ht inX5 hown hE hs rfl 33 (by decide) (ht _ wfX5_83) e2 dX5_isBest_73 ?_
    refine lv_iload_n hx hb dX5_isBest_76 rfl (lv_at hl 1 rfl) ?_
    obtain ⟨v3, e3, hf⟩ := tk_bi hf
    refine tk_iald hx hb hE hs e3 dX5_isBest_77 ?_
    refine lv_icmp_ne (tgt := 85) hx hb dX5_isBest_78 (by decide) (fun c4 => ?_) (fun c4 => ?_)
    · rw [if_neg c4] at hf
      exact j85 h sz _ _ _ hf hs (lv_sub hl [] rfl)
    · rw [if_pos c4] at hf
      refine lv_iconst (v := 1) hx hb dX5_isBest_81 (by decide) ?_
      refine lv_goto (tgt := 86) hx hb dX5_isBest_82 (by decide) ?_
      exact j86 1 h sz _ _ _ hf hs (lv_sub hl [] rfl)
  unfold fX5_isBest at hf
  refine lv_iload_n hx hb dX5_isBest_0 rfl (lv_at hl 2 rfl) ?_
  refine lv_aload_n hx hb dX5_isBest_1 rfl (lv_at hl 0 rfl) ?_
  obtain ⟨v5, e5, hf⟩ := tk_bi hf
  refine tk_getR hx hb ht inX5 hown hE hs rfl 29 (by decide) (ht _ wfX5_71) e5 dX5_isBest_2 ?_
  refine lv_iload_n hx hb dX5_isBest_5 rfl (lv_at hl 1 rfl) ?_
  obtain ⟨v6, e6, hf⟩ := tk_bi hf
  refine tk_iald hx hb hE hs e6 dX5_isBest_6 ?_
  refine lv_iconst (v := (-1)) hx hb dX5_isBest_7 (by decide) ?_
  refine lv_ixor hx hb dX5_isBest_8 ?_
  refine lv_iand hx hb dX5_isBest_9 ?_
  refine lv_istore_n (lv' := [(3, .int (x2 &&& (v6 ^^^ (-1)))), (0, .ref x0), (1, .int x1), (2, .int x2)]) hx hb dX5_isBest_10 rfl hl (by decide) rfl (fun ls hl => ?_)
  refine lv_aload_n hx hb dX5_isBest_11 rfl (lv_at hl 1 rfl) ?_
  obtain ⟨v7, e7, hf⟩ := tk_bi hf
  refine tk_getR hx hb ht inX5 hown hE hs rfl 29 (by decide) (ht _ wfX5_71) e7 dX5_isBest_12 ?_
  refine lv_iload_n hx hb dX5_isBest_15 rfl (lv_at hl 2 rfl) ?_
  obtain ⟨v8, e8, hf⟩ := tk_bi hf
  refine tk_iald hx hb hE hs e8 dX5_isBest_16 ?_
  refine lv_iload_n hx hb dX5_isBest_17 rfl (lv_at hl 3 rfl) ?_
  refine lv_iconst (v := (-1)) hx hb dX5_isBest_18 (by decide) ?_
  refine lv_ixor hx hb dX5_isBest_19 ?_
  refine lv_iand hx hb dX5_isBest_20 ?_
  refine lv_if_ne (tgt := 85) hx hb dX5_isBest_21 (by decide) (fun c9 => ?_) (fun c9 => ?_)
  · rw [if_neg c9] at hf
    exact j85 h sz _ _ _ hf hs (lv_sub hl [] rfl)
  · rw [if_pos c9] at hf
    refine lv_aload_n hx hb dX5_isBest_24 rfl (lv_at hl 1 rfl) ?_
    obtain ⟨v10, e10, hf⟩ := tk_bi hf
    refine tk_getR hx hb ht inX5 hown hE hs rfl 30 (by decide) (ht _ wfX5_74) e10 dX5_isBest_25 ?_
    refine lv_iload_n hx hb dX5_isBest_28 rfl (lv_at hl 2 rfl) ?_
    obtain ⟨v11, e11, hf⟩ := tk_bi hf
    refine tk_iald hx hb hE hs e11 dX5_isBest_29 ?_
    refine lv_aload_n hx hb dX5_isBest_30 rfl (lv_at hl 1 rfl) ?_
    obtain ⟨v12, e12, hf⟩ := tk_bi hf
    refine tk_getR hx hb ht inX5 hown hE hs rfl 32 (by decide) (ht _ wfX5_80) e12 dX5_isBest_31 ?_
    refine lv_iload_n hx hb dX5_isBest_34 rfl (lv_at hl 0 rfl) ?_
    obtain ⟨v13, e13, hf⟩ := tk_bi hf
    refine tk_iald hx hb hE hs e13 dX5_isBest_35 ?_
    refine lv_iadd hx hb dX5_isBest_36 ?_
    refine lv_aload_n hx hb dX5_isBest_37 rfl (lv_at hl 1 rfl) ?_
    obtain ⟨v14, e14, hf⟩ := tk_bi hf
    refine tk_getR hx hb ht inX5 hown hE hs rfl 32 (by decide) (ht _ wfX5_80) e14 dX5_isBest_38 ?_
    refine lv_iload_n hx hb dX5_isBest_41 rfl (lv_at hl 3 rfl) ?_
    obtain ⟨v15, e15, hf⟩ := tk_bi hf
    refine tk_iald hx hb hE hs e15 dX5_isBest_42 ?_
    refine lv_icmp_ne (tgt := 85) hx hb dX5_isBest_43 (by decide) (fun c16 => ?_) (fun c16 => ?_)
    · rw [if_neg c16] at hf
      exact j85 h sz _ _ _ hf hs (lv_sub hl [] rfl)
    · rw [if_pos c16] at hf
      refine lv_aload_n hx hb dX5_isBest_46 rfl (lv_at hl 1 rfl) ?_
      obtain ⟨v17, e17, hf⟩ := tk_bi hf
      refine tk_getR hx hb ht inX5 hown hE hs rfl 33 (by decide) (ht _ wfX5_83) e17 dX5_isBest_47 ?_
      refine lv_iload_n hx hb dX5_isBest_50 rfl (lv_at hl 0 rfl) ?_
      obtain ⟨v18, e18, hf⟩ := tk_bi hf
      refine tk_iald hx hb hE hs e18 dX5_isBest_51 ?_
      refine lv_aload_n hx hb dX5_isBest_52 rfl (lv_at hl 1 rfl) ?_
      obtain ⟨v19, e19, hf⟩ := tk_bi hf
      refine tk_getR hx hb ht inX5 hown hE hs rfl 28 (by decide) (ht _ wfX5_68) e19 dX5_isBest_53 ?_
      refine lv_iconst (v := 3) hx hb dX5_isBest_56 (by decide) ?_
      refine lv_iload_n hx hb dX5_isBest_57 rfl (lv_at hl 2 rfl) ?_
      refine lv_imul hx hb dX5_isBest_58 ?_
      refine lv_iconst (v := 2) hx hb dX5_isBest_59 (by decide) ?_
      refine lv_iadd hx hb dX5_isBest_60 ?_
      obtain ⟨v20, e20, hf⟩ := tk_bi hf
      refine tk_iald hx hb hE hs e20 dX5_isBest_61 ?_
      refine lv_iconst (v := (-1)) hx hb dX5_isBest_62 (by decide) ?_
      refine lv_icmp_ne (tgt := 70) hx hb dX5_isBest_63 (by decide) (fun c21 => ?_) (fun c21 => ?_)
      · rw [if_neg c21] at hf
        refine lv_iconst (v := 1) hx hb dX5_isBest_70 (by decide) ?_
        exact j71 x0 x2 1 v18 h sz _ _ _ hf hs (lv_sub hl [1, 3] rfl)
      · rw [if_pos c21] at hf
        refine lv_iconst (v := 0) hx hb dX5_isBest_66 (by decide) ?_
        refine lv_goto (tgt := 71) hx hb dX5_isBest_67 (by decide) ?_
        exact j71 x0 x2 0 v18 h sz _ _ _ hf hs (lv_sub hl [1, 3] rfl)
def fX5_serves_214 (N : Nat) (k72 : Nat → Int32 → Int32 → Int32 → tk_AH → Nat → Option (tk_AH × Nat)) (x0 : Nat) (x1 : Int32) (x2 : Int32) (x4 : Int32) (h : tk_AH) (sz : Nat) : Option (tk_AH × Nat) :=
  k72 x0 x1 x2 (x4 + 1) h sz
def fX5_serves_198 (N : Nat) (k72 : Nat → Int32 → Int32 → Int32 → tk_AH → Nat → Option (tk_AH × Nat)) (x0 : Nat) (x1 : Int32) (x2 : Int32) (x4 : Int32) (x6 : Int32) (x7 : Int32) (h : tk_AH) (sz : Nat) : Option (tk_AH × Nat) :=
  (tk_gR h 5 32 x0).bind fun v1 =>
  (tk_sI h 0 v1 x1 x6).bind fun h2 =>
  (tk_gR h2 5 33 x0).bind fun v3 =>
  (tk_sI h2 0 v3 x1 x7).bind fun h4 =>
  fX5_serves_214 N k72 x0 x1 x2 x4 h4 sz
def fX5_serves_159 (N : Nat) (k72 : Nat → Int32 → Int32 → Int32 → tk_AH → Nat → Option (tk_AH × Nat)) (x0 : Nat) (x1 : Int32) (x2 : Int32) (x4 : Int32) (x6 : Int32) (y0 : Int32) (y1 : Int32) (h : tk_AH) (sz : Nat) : Option (tk_AH × Nat) :=
  (tk_gR h 5 32 x0).bind fun v5 =>
  (tk_aI h 0 v5 x1).bind fun v6 =>
  if x6 < v6 then (
  fX5_serves_214 N k72 x0 x1 x2 x4 h sz) else (
  (tk_gR h 5 32 x0).bind fun v8 =>
  (tk_aI h 0 v8 x1).bind fun v9 =>
  if x6 = v9 then (
  (tk_gR h 5 33 x0).bind fun v11 =>
  (tk_aI h 0 v11 x1).bind fun v12 =>
  if (y1 + y0) < v12 then (
  fX5_serves_198 N k72 x0 x1 x2 x4 x6 (y1 + y0) h sz) else (
  fX5_serves_214 N k72 x0 x1 x2 x4 h sz)) else (
  fX5_serves_198 N k72 x0 x1 x2 x4 x6 (y1 + y0) h sz))
def fX5_serves_72 (N : Nat) (k16 : Nat → Int32 → tk_AH → Nat → Option (tk_AH × Nat)) : Nat → Nat → Int32 → Int32 → Int32 → tk_AH → Nat → Option (tk_AH × Nat)
  | 0, _, _, _, _, _, _ => none
  | n + 1, x0, x1, x2, x4, h, sz =>
  (tk_gR h 5 31 x0).bind fun v14 =>
  (tk_aI h 0 v14 (x2 + 1)).bind fun v15 =>
  if v15 ≤ x4 then (
  k16 x0 (x1 + 1) h sz) else (
  (tk_gR h 5 29 x0).bind fun v17 =>
  (tk_aI h 0 v17 x4).bind fun v18 =>
  if (v18 &&& (x1 ^^^ (-1))) = 0 then (
  (tk_gR h 5 29 x0).bind fun v20 =>
  (tk_aI h 0 v20 x4).bind fun v21 =>
  (tk_gR h 5 30 x0).bind fun v22 =>
  (tk_aI h 0 v22 x4).bind fun v23 =>
  (tk_gR h 5 32 x0).bind fun v24 =>
  (tk_aI h 0 v24 (x1 &&& (v21 ^^^ (-1)))).bind fun v25 =>
  (tk_gR h 5 33 x0).bind fun v26 =>
  (tk_aI h 0 v26 (x1 &&& (v21 ^^^ (-1)))).bind fun v27 =>
  (tk_gR h 5 28 x0).bind fun v28 =>
  (tk_aI h 0 v28 ((3 * x4) + 2)).bind fun v29 =>
  if v29 = (-1) then (
  fX5_serves_159 N (fX5_serves_72 N k16 n) x0 x1 x2 x4 (v23 + v25) 0 v27 h sz) else (
  fX5_serves_159 N (fX5_serves_72 N k16 n) x0 x1 x2 x4 (v23 + v25) 1 v27 h sz)) else (
  fX5_serves_214 N (fX5_serves_72 N k16 n) x0 x1 x2 x4 h sz))
def fX5_serves_16 (N : Nat) : Nat → Nat → Int32 → tk_AH → Nat → Option (tk_AH × Nat)
  | 0, _, _, _, _ => none
  | n + 1, x0, x1, h, sz =>
  (tk_gI h 5 1 x0).bind fun v31 =>
  if (1 <<< (v31 &&& 31)) ≤ x1 then (
  some (h, sz)) else (
  (tk_ok h 5 x0).bind fun _ =>
  (fX5_least N x0 x1 h sz).bind fun o33 =>
  (tk_gR o33.2.1 5 32 x0).bind fun v35 =>
  (tk_gR o33.2.1 5 32 x0).bind fun v36 =>
  (tk_aI o33.2.1 0 v36 (x1 &&& ((1 <<< (o33.1 &&& 31)) ^^^ (-1)))).bind fun v37 =>
  (tk_sI o33.2.1 0 v35 x1 v37).bind fun h38 =>
  (tk_gR h38 5 33 x0).bind fun v39 =>
  (tk_gR h38 5 33 x0).bind fun v40 =>
  (tk_aI h38 0 v40 (x1 &&& ((1 <<< (o33.1 &&& 31)) ^^^ (-1)))).bind fun v41 =>
  (tk_sI h38 0 v39 x1 v41).bind fun h42 =>
  (tk_gR h42 5 31 x0).bind fun v43 =>
  (tk_aI h42 0 v43 o33.1).bind fun v44 =>
  fX5_serves_72 N (fX5_serves_16 N n) N x0 x1 o33.1 v44 h42 o33.2.2)
def fX5_serves (N : Nat) (x0 : Nat) (h : tk_AH) (sz : Nat) : Option (tk_AH × Nat) :=
  (tk_gR h 5 32 x0).bind fun v45 =>
  (tk_sI h 0 v45 0 0).bind fun h46 =>
  (tk_gR h46 5 33 x0).bind fun v47 =>
  (tk_sI h46 0 v47 0 0).bind fun h48 =>
  fX5_serves_16 N N x0 1 h48 sz
set_option maxHeartbeats 8000000 in
set_option maxRecDepth 100000 in
theorem cX5_serves_ok (l : Launch) (hl0 : l.stackTraces = false) (G : tk_AG) (N : Nat) (x0 : Nat) (h : tk_AH) (sz : Nat) (h9 : tk_AH) (sz9 : Nat) (hf : fX5_serves N x0 h sz = some (h9, sz9)) : Met l yX5_serves (coX5_serves :: tk_W) ({ frames := 1, cells := 0, slots := 0, locals := 22 }) (tk_pc G [.ref x0] h sz) (tk_qc G none h9 sz9) 0 0 (tk_ag G) := by
  refine Met.ofW (cc := cX5_serves) (maxL := 8) (ret := none) (by decide) rfl ?_
  intro p e s m args below meth c s₁ B hml hv
  obtain ⟨hav, hE, hrp, hsz, hgs⟩ := hv
  have hx := B.exec
  have hb := B.bytes
  have hr := B.returns
  have hts := atoms_spec (ws := coX5_serves :: tk_W) B.pre
  have ht : ∀ w ∈ tk_W, w.before args s = true := fun w h => hts w (List.mem_cons_of_mem _ h)
  have hown : s.vm.findClass RX5 = some m.cls := findClass_of_methodNamed B.named
  have hlocks := B.notSynchronized
  have hs : tk_sw G s h sz s.heap [] := ⟨hrp, hsz, by rw [hsz]; exact hgs, va_S.rf⟩
  have hl := lv_entry ([.ref x0]) (n := 8) (Nat.le_of_ble_eq_true rfl)
  have hent : entryFrame m args 8 = F0 m 0 (lg_sl ([.ref x0]) ++ List.replicate (8 - (lg_sl ([.ref x0])).length) Slot.unset).toArray [] := by rw [hav, lg_entry_eq]
  rw [hent]
  clear hent
  generalize (lg_sl ([.ref x0]) ++ List.replicate (8 - (lg_sl ([.ref x0])).length) Slot.unset).toArray = ls at hl ⊢
  have hl : lv_has ls 8 [(0, .ref x0)] := hl
  have j214 : ∀ (k72 : Nat → Int32 → Int32 → Int32 → tk_AH → Nat → Option (tk_AH × Nat)), (∀ (x0 : Nat) (x1 : Int32) (x2 : Int32) (x4 : Int32) (h : tk_AH) (sz : Nat) (H : Heap) (locs : List Loc) (ls : Array Slot), k72 x0 x1 x2 x4 h sz = some (h9, sz9) → tk_sw G s h sz H locs → lv_has ls 8 [(0, .ref x0), (1, .int x1), (2, .int x2), (4, .int x4)] → W p l e (headSpec (coX5_serves :: tk_W) ({ frames := 1, cells := 0, slots := 0, locals := 22 })).room s m args below meth c H locs 0 (0) (MQ below (tk_qc G none h9 sz9) args s 0 0 (tk_ag G)) (F0 m 72 ls [])) → ∀ (x0 : Nat) (x1 : Int32) (x2 : Int32) (x4 : Int32) (h : tk_AH) (sz : Nat) (H : Heap) (locs : List Loc) (ls : Array Slot), fX5_serves_214 N k72 x0 x1 x2 x4 h sz = some (h9, sz9) → tk_sw G s h sz H locs → lv_has ls 8 [(0, .ref x0), (1, .int x1), (2, .int x2), (4, .int x4)] → W p l e (headSpec (coX5_serves :: tk_W) ({ frames := 1, cells := 0, slots := 0, locals := 22 })).room s m args below meth c H locs 0 (0) (MQ below (tk_qc G none h9 sz9) args s 0 0 (tk_ag G)) (F0 m 214 ls []) := by
    intro k72 hk72 x0 x1 x2 x4 h sz H locs ls hf hs hl
    unfold fX5_serves_214 at hf
    refine lv_iinc (v := x4 + 1) (lv' := [(4, .int (x4 + 1)), (0, .ref x0), (1, .int x1), (2, .int x2)]) hx hb dX5_serves_214 hl (k := 3) rfl rfl (by decide) rfl (fun ls hl => ?_)
    refine lv_goto (tgt := 72) hx hb dX5_serves_217 (by decide) ?_
    exact hk72 x0 x1 x2 (x4 + 1) h sz _ _ _ hf hs (lv_sub hl [1, 2, 3, 0] rfl)
  have j198 : ∀ (k72 : Nat → Int32 → Int32 → Int32 → tk_AH → Nat → Option (tk_AH × Nat)), (∀ (x0 : Nat) (x1 : Int32) (x2 : Int32) (x4 : Int32) (h : tk_AH) (sz : Nat) (H : Heap) (locs : List Loc) (ls : Array Slot), k72 x0 x1 x2 x4 h sz = some (h9, sz9) → tk_sw G s h sz H locs → lv_has ls 8 [(0, .ref x0), (1, .int x1), (2, .int x2), (4, .int x4)] → W p l e (headSpec (coX5_serves :: tk_W) ({ frames := 1, cells := 0, slots := 0, locals := 22 })).room s m args below meth c H locs 0 (0) (MQ below (tk_qc G none h9 sz9) args s 0 0 (tk_ag G)) (F0 m 72 ls [])) → ∀ (x0 : Nat) (x1 : Int32) (x2 : Int32) (x4 : Int32) (x6 : Int32) (x7 : Int32) (h : tk_AH) (sz : Nat) (H : Heap) (locs : List Loc) (ls : Array Slot), fX5_serves_198 N k72 x0 x1 x2 x4 x6 x7 h sz = some (h9, sz9) → tk_sw G s h sz H locs → lv_has ls 8 [(0, .ref x0), (1, .int x1), (2, .int x2), (4, .int x4), (6, .int x6), (7, .int x7)] → W p l e (headSpec (coX5_serves :: tk_W) ({ frames := 1, cells := 0, slots := 0, locals := 22 })).room s m args below meth c H locs 0 (0) (MQ below (tk_qc G none h9 sz9) args s 0 0 (tk_ag G)) (F0 m 198 ls []) := by
    intro k72 hk72 x0 x1 x2 x4 x6 x7 h sz H locs ls hf hs hl
    unfold fX5_serves_198 at hf
    refine lv_aload_n hx hb dX5_serves_198 rfl (lv_at hl 0 rfl) ?_
    obtain ⟨v1, e1, hf⟩ := tk_bi hf
    refine tk_getR hx hb ht inX5 hown hE hs rfl 32 (by decide) (ht _ wfX5_80) e1 dX5_serves_199 ?_
    refine lv_iload_n hx hb dX5_serves_202 rfl (lv_at hl 1 rfl) ?_
    refine lv_iload hx hb dX5_serves_203 (lv_at hl 4 rfl) ?_
    obtain ⟨h2, e2, hf⟩ := tk_bi hf
    refine tk_iast hx hb hE hs e2 dX5_serves_205 (fun H locs hs => ?_)
    refine lv_aload_n hx hb dX5_serves_206 rfl (lv_at hl 0 rfl) ?_
    obtain ⟨v3, e3, hf⟩ := tk_bi hf
    refine tk_getR hx hb ht inX5 hown hE hs rfl 33 (by decide) (ht _ wfX5_83) e3 dX5_serves_207 ?_
    refine lv_iload_n hx hb dX5_serves_210 rfl (lv_at hl 1 rfl) ?_
    refine lv_iload hx hb dX5_serves_211 (lv_at hl 5 rfl) ?_
    obtain ⟨h4, e4, hf⟩ := tk_bi hf
    refine tk_iast hx hb hE hs e4 dX5_serves_213 (fun H locs hs => ?_)
    exact j214 k72 hk72 x0 x1 x2 x4 h4 sz _ _ _ hf hs (lv_sub hl [0, 1, 2, 3] rfl)
  have j159 : ∀ (k72 : Nat → Int32 → Int32 → Int32 → tk_AH → Nat → Option (tk_AH × Nat)), (∀ (x0 : Nat) (x1 : Int32) (x2 : Int32) (x4 : Int32) (h : tk_AH) (sz : Nat) (H : Heap) (locs : List Loc) (ls : Array Slot), k72 x0 x1 x2 x4 h sz = some (h9, sz9) → tk_sw G s h sz H locs → lv_has ls 8 [(0, .ref x0), (1, .int x1), (2, .int x2), (4, .int x4)] → W p l e (headSpec (coX5_serves :: tk_W) ({ frames := 1, cells := 0, slots := 0, locals := 22 })).room s m args below meth c H locs 0 (0) (MQ below (tk_qc G none h9 sz9) args s 0 0 (tk_ag G)) (F0 m 72 ls [])) → ∀ (x0 : Nat) (x1 : Int32) (x2 : Int32) (x4 : Int32) (x6 : Int32) (y0 : Int32) (y1 : Int32) (h : tk_AH) (sz : Nat) (H : Heap) (locs : List Loc) (ls : Array Slot), fX5_serves_159 N k72 x0 x1 x2 x4 x6 y0 y1 h sz = some (h9, sz9) → tk_sw G s h sz H locs → lv_has ls 8 [(0, .ref x0), (1, .int x1), (2, .int x2), (4, .int x4), (6, .int x6)] → W p l e (headSpec (coX5_serves :: tk_W) ({ frames := 1, cells := 0, slots := 0, locals := 22 })).room s m args below meth c H locs 0 (0) (MQ below (tk_qc G none h9 sz9) args s 0 0 (tk_ag G)) (F0 m 159 ls [.int y0, .int y1]) := by
    intro k72 hk72 x0 x1 x2 x4 x6 y0 y1 h sz H locs ls hf hs hl
    unfold fX5_serves_159 at hf
    refine lv_iadd hx hb dX5_serves_159 ?_
    refine lv_istore (lv' := [(7, .int (y1 + y0)), (0, .ref x0), (1, .int x1), (2, .int x2), (4, .int x4), (6, .int x6)]) hx hb dX5_serves_160 hl (by decide) rfl (fun ls hl => ?_)
    refine lv_iload hx hb dX5_serves_162 (lv_at hl 5 rfl) ?_
    refine lv_aload_n hx hb dX5_serves_164 rfl (lv_at hl 1 rfl) ?_
    obtain ⟨v5, e5, hf⟩ := tk_bi hf
    refine tk_getR hx hb ht inX5 hown hE hs rfl 32 (by decide) (ht _ wfX5_80) e5 dX5_serves_165 ?_
    refine lv_iload_n hx hb dX5_serves_168 rfl (lv_at hl 2 rfl) ?_
    obtain ⟨v6, e6, hf⟩ := tk_bi hf
    refine tk_iald hx hb hE hs e6 dX5_serves_169 ?_
    refine lv_icmp_lt (tgt := 214) hx hb dX5_serves_170 (by decide) (fun c7 => ?_) (fun c7 => ?_)
    · rw [if_pos c7] at hf
      exact j214 k72 hk72 x0 x1 x2 x4 h sz _ _ _ hf hs (lv_sub hl [1, 2, 3, 4] rfl)
    · rw [if_neg c7] at hf
      refine lv_iload hx hb dX5_serves_173 (lv_at hl 5 rfl) ?_
      refine lv_aload_n hx hb dX5_serves_175 rfl (lv_at hl 1 rfl) ?_
      obtain ⟨v8, e8, hf⟩ := tk_bi hf
      refine tk_getR hx hb ht inX5 hown hE hs rfl 32 (by decide) (ht _ wfX5_80) e8 dX5_serves_176 ?_
      refine lv_iload_n hx hb dX5_serves_179 rfl (lv_at hl 2 rfl) ?_
      obtain ⟨v9, e9, hf⟩ := tk_bi hf
      refine tk_iald hx hb hE hs e9 dX5_serves_180 ?_
      refine lv_icmp_ne (tgt := 198) hx hb dX5_serves_181 (by decide) (fun c10 => ?_) (fun c10 => ?_)
      · rw [if_neg c10] at hf
        exact j198 k72 hk72 x0 x1 x2 x4 x6 (y1 + y0) h sz _ _ _ hf hs (lv_sub hl [1, 2, 3, 4, 5, 0] rfl)
      · rw [if_pos c10] at hf
        refine lv_iload hx hb dX5_serves_184 (lv_at hl 0 rfl) ?_
        refine lv_aload_n hx hb dX5_serves_186 rfl (lv_at hl 1 rfl) ?_
        obtain ⟨v11, e11, hf⟩ := tk_bi hf
        refine tk_getR hx hb ht inX5 hown hE hs rfl 33 (by decide) (ht _ wfX5_83) e11 dX5_serves_187 ?_
        refine lv_iload_n hx hb dX5_serves_190 rfl (lv_at hl 2 rfl) ?_
        obtain ⟨v12, e12, hf⟩ := tk_bi hf
        refine tk_iald hx hb hE hs e12 dX5_serves_191 ?_
        refine lv_icmp_lt (tgt := 198) hx hb dX5_serves_192 (by decide) (fun c13 => ?_) (fun c13 => ?_)
        · rw [if_pos c13] at hf
          exact j198 k72 hk72 x0 x1 x2 x4 x6 (y1 + y0) h sz _ _ _ hf hs (lv_sub hl [1, 2, 3, 4, 5, 0] rfl)
        · rw [if_neg c13] at hf
          refine lv_goto (tgt := 214) hx hb dX5_serves_195 (by decide) ?_
          exact j214 k72 hk72 x0 x1 x2 x4 h sz _ _ _ hf hs (lv_sub hl [1, 2, 3, 4] rfl)
  have j72 : ∀ (k16 : Nat → Int32 → tk_AH → Nat → Option (tk_AH × Nat)), (∀ (x0 : Nat) (x1 : Int32) (h : tk_AH) (sz : Nat) (H : Heap) (locs : List Loc) (ls : Array Slot), k16 x0 x1 h sz = some (h9, sz9) → tk_sw G s h sz H locs → lv_has ls 8 [(0, .ref x0), (1, .int x1)] → W p l e (headSpec (coX5_serves :: tk_W) ({ frames := 1, cells := 0, slots := 0, locals := 22 })).room s m args below meth c H locs 0 (0) (MQ below (tk_qc G none h9 sz9) args s 0 0 (tk_ag G)) (F0 m 16 ls [])) → ∀ (n : Nat), ∀ (x0 : Nat) (x1 : Int32) (x2 : Int32) (x4 : Int32) (h : tk_AH) (sz : Nat) (H : Heap) (locs : List Loc) (ls : Array Slot), fX5_serves_72 N k16 n x0 x1 x2 x4 h sz = some (h9, sz9) → tk_sw G s h sz H locs → lv_has ls 8 [(0, .ref x0), (1, .int x1), (2, .int x2), (4, .int x4)] → W p l e (headSpec (coX5_serves :: tk_W) ({ frames := 1, cells := 0, slots := 0, locals := 22 })).room s m args below meth c H locs 0 (0) (MQ below (tk_qc G none h9 sz9) args s 0 0 (tk_ag G)) (F0 m 72 ls []) := by
    intro k16 hk16 n
    induction n with
    | zero =>
      intro x0 x1 x2 x4 h sz H locs ls hf
      cases hf
    | succ n ih =>
      intro x0 x1 x2 x4 h sz H locs ls hf hs hl
      rw [fX5_serves_72] at hf
      refine lv_iload hx hb dX5_serves_72 (lv_at hl 3 rfl) ?_
      refine lv_aload_n hx hb dX5_serves_74 rfl (lv_at hl 0 rfl) ?_
      obtain ⟨v14, e14, hf⟩ := tk_bi hf
      refine tk_getR hx hb ht inX5 hown hE hs rfl 31 (by decide) (ht _ wfX5_77) e14 dX5_serves_75 ?_
      refine lv_iload_n hx hb dX5_serves_78 rfl (lv_at hl 2 rfl) ?_
      refine lv_iconst (v := 1) hx hb dX5_serves_79 (by decide) ?_
      refine lv_iadd hx hb dX5_serves_80 ?_
      obtain ⟨v15, e15, hf⟩ := tk_bi hf
      refine tk_iald hx hb hE hs e15 dX5_serves_81 ?_
      refine lv_icmp_ge (tgt := 220) hx hb dX5_serves_82 (by decide) (fun c16 => ?_) (fun c16 => ?_)
      · rw [if_pos c16] at hf
        refine lv_iinc (v := x1 + 1) (lv' := [(1, .int (x1 + 1)), (0, .ref x0), (2, .int x2), (4, .int x4)]) hx hb dX5_serves_220 hl (k := 1) rfl rfl (by decide) rfl (fun ls hl => ?_)
        refine lv_goto (tgt := 16) hx hb dX5_serves_223 (by decide) ?_
        exact hk16 x0 (x1 + 1) h sz _ _ _ hf hs (lv_sub hl [1, 0] rfl)
      · rw [if_neg c16] at hf
        refine lv_aload_n hx hb dX5_serves_85 rfl (lv_at hl 0 rfl) ?_
        obtain ⟨v17, e17, hf⟩ := tk_bi hf
        refine tk_getR hx hb ht inX5 hown hE hs rfl 29 (by decide) (ht _ wfX5_71) e17 dX5_serves_86 ?_
        refine lv_iload hx hb dX5_serves_89 (lv_at hl 3 rfl) ?_
        obtain ⟨v18, e18, hf⟩ := tk_bi hf
        refine tk_iald hx hb hE hs e18 dX5_serves_91 ?_
        refine lv_iload_n hx hb dX5_serves_92 rfl (lv_at hl 1 rfl) ?_
        refine lv_iconst (v := (-1)) hx hb dX5_serves_93 (by decide) ?_
        refine lv_ixor hx hb dX5_serves_94 ?_
        refine lv_iand hx hb dX5_serves_95 ?_
        refine lv_if_eq (tgt := 102) hx hb dX5_serves_96 (by decide) (fun c19 => ?_) (fun c19 => ?_)
        · rw [if_pos c19] at hf
          refine lv_iload_n hx hb dX5_serves_102 rfl (lv_at hl 1 rfl) ?_
          refine lv_aload_n hx hb dX5_serves_103 rfl (lv_at hl 0 rfl) ?_
          obtain ⟨v20, e20, hf⟩ := tk_bi hf
          refine tk_getR hx hb ht inX5 hown hE hs rfl 29 (by decide) (ht _ wfX5_71) e20 dX5_serves_104 ?_
          refine lv_iload hx hb dX5_serves_107 (lv_at hl 3 rfl) ?_
          obtain ⟨v21, e21, hf⟩ := tk_bi hf
          refine tk_iald hx hb hE hs e21 dX5_serves_109 ?_
          refine lv_iconst (v := (-1)) hx hb dX5_serves_110 (by decide) ?_
          refine lv_ixor hx hb dX5_serves_111 ?_
          refine lv_iand hx hb dX5_serves_112 ?_
          refine lv_istore (lv' := [(5, .int (x1 &&& (v21 ^^^ (-1)))), (0, .ref x0), (1, .int x1), (2, .int x2), (4, .int x4)]) hx hb dX5_serves_113 hl (by decide) rfl (fun ls hl => ?_)
          refine lv_aload_n hx hb dX5_serves_115 rfl (lv_at hl 1 rfl) ?_
          obtain ⟨v22, e22, hf⟩ := tk_bi hf
          refine tk_getR hx hb ht inX5 hown hE hs rfl 30 (by decide) (ht _ wfX5_74) e22 dX5_serves_116 ?_
          refine lv_iload hx hb dX5_serves_119 (lv_at hl 4 rfl) ?_
          obtain ⟨v23, e23, hf⟩ := tk_bi hf
          refine tk_iald hx hb hE hs e23 dX5_serves_121 ?_
          refine lv_aload_n hx hb dX5_serves_122 rfl (lv_at hl 1 rfl) ?_
          obtain ⟨v24, e24, hf⟩ := tk_bi hf
          refine tk_getR hx hb ht inX5 hown hE hs rfl 32 (by decide) (ht _ wfX5_80) e24 dX5_serves_123 ?_
          refine lv_iload hx hb dX5_serves_126 (lv_at hl 0 rfl) ?_
          obtain ⟨v25, e25, hf⟩ := tk_bi hf
          refine tk_iald hx hb hE hs e25 dX5_serves_128 ?_
          refine lv_iadd hx hb dX5_serves_129 ?_
          refine lv_istore (lv' := [(6, .int (v23 + v25)), (5, .int (x1 &&& (v21 ^^^ (-1)))), (0, .ref x0), (1, .int x1), (2, .int x2), (4, .int x4)]) hx hb dX5_serves_130 hl (by decide) rfl (fun ls hl => ?_)
          refine lv_aload_n hx hb dX5_serves_132 rfl (lv_at hl 2 rfl) ?_
          obtain ⟨v26, e26, hf⟩ := tk_bi hf
          refine tk_getR hx hb ht inX5 hown hE hs rfl 33 (by decide) (ht _ wfX5_83) e26 dX5_serves_133 ?_
          refine lv_iload hx hb dX5_serves_136 (lv_at hl 1 rfl) ?_
          obtain ⟨v27, e27, hf⟩ := tk_bi hf
          refine tk_iald hx hb hE hs e27 dX5_serves_138 ?_
          refine lv_aload_n hx hb dX5_serves_139 rfl (lv_at hl 2 rfl) ?_
          obtain ⟨v28, e28, hf⟩ := tk_bi hf
          refine tk_getR hx hb ht inX5 hown hE hs rfl 28 (by decide) (ht _ wfX5_68) e28 dX5_serves_140 ?_
          refine lv_iconst (v := 3) hx hb dX5_serves_143 (by decide) ?_
          refine lv_iload hx hb dX5_serves_144 (lv_at hl 5 rfl) ?_
          refine lv_imul hx hb dX5_serves_146 ?_
          refine lv_iconst (v := 2) hx hb dX5_serves_147 (by decide) ?_
          refine lv_iadd hx hb dX5_serves_148 ?_
          obtain ⟨v29, e29, hf⟩ := tk_bi hf
          refine tk_iald hx hb hE hs e29 dX5_serves_149 ?_
          refine lv_iconst (v := (-1)) hx hb dX5_serves_150 (by decide) ?_
          refine lv_icmp_ne (tgt := 158) hx hb dX5_serves_151 (by decide) (fun c30 => ?_) (fun c30 => ?_)
          · rw [if_neg c30] at hf
            refine lv_iconst (v := 1) hx hb dX5_serves_158 (by decide) ?_
            exact j159 (fX5_serves_72 N k16 n) ih x0 x1 x2 x4 (v23 + v25) 1 v27 h sz _ _ _ hf hs (lv_sub hl [2, 3, 4, 5, 0] rfl)
          · rw [if_pos c30] at hf
            refine lv_iconst (v := 0) hx hb dX5_serves_154 (by decide) ?_
            refine lv_goto (tgt := 159) hx hb dX5_serves_155 (by decide) ?_
            exact j159 (fX5_serves_72 N k16 n) ih x0 x1 x2 x4 (v23 + v25) 0 v27 h sz _ _ _ hf hs (lv_sub hl [2, 3, 4, 5, 0] rfl)
        · rw [if_neg c19] at hf
          refine lv_goto (tgt := 214) hx hb dX5_serves_99 (by decide) ?_
          exact j214 (fX5_serves_72 N k16 n) ih x0 x1 x2 x4 h sz _ _ _ hf hs (lv_sub hl [0, 1, 2, 3] rfl)
  have j16 : ∀ (n : Nat), ∀ (x0 : Nat) (x1 : Int32) (h : tk_AH) (sz : Nat) (H : Heap) (locs : List Loc) (ls : Array Slot), fX5_serves_16 N n x0 x1 h sz = some (h9, sz9) → tk_sw G s h sz H locs → lv_has ls 8 [(0, .ref x0), (1, .int x1)] → W p l e (headSpec (coX5_serves :: tk_W) ({ frames := 1, cells := 0, slots := 0, locals := 22 })).room s m args below meth c H locs 0 (0) (MQ below (tk_qc G none h9 sz9) args s 0 0 (tk_ag G)) (F0 m 16 ls []) := by
    intro n
    induction n with
    | zero =>
      intro x0 x1 h sz H locs ls hf
      cases hf
    | succ n ih =>
      intro x0 x1 h sz H locs ls hf hs hl
      rw [fX5_serves_16] at hf
      refine lv_iload_n hx hb dX5_serves_16 rfl (lv_at hl 1 rfl) ?_
      refine lv_iconst (v := 1) hx hb dX5_serves_17 (by decide) ?_
      refine lv_aload_n hx hb dX5_serves_18 rfl (lv_at hl 0 rfl) ?_
      obtain ⟨v31, e31, hf⟩ := tk_bi hf
      refine tk_getI hx hb ht inX5 hown hE hs rfl 1 (by decide) (ht _ wfX5_93) e31 dX5_serves_19 ?_
      refine lv_ishl hx hb dX5_serves_22 ?_
      refine lv_icmp_ge (tgt := 226) hx hb dX5_serves_23 (by decide) (fun c32 => ?_) (fun c32 => ?_)
      · rw [if_pos c32] at hf
        cases hf
        exact tk_vret hx hb hr hlocks hs dX5_serves_226
      · rw [if_neg c32] at hf
        refine lv_aload_n hx hb dX5_serves_26 rfl (lv_at hl 0 rfl) ?_
        refine lv_iload_n hx hb dX5_serves_27 rfl (lv_at hl 1 rfl) ?_
        obtain ⟨_, p33, hf⟩ := tk_bi hf
        obtain ⟨o33, e33, hf⟩ := tk_bi hf
        refine tk_call0 (v := some (.int o33.1)) hs (va_runV (As := [.int x1]) (rest := []) ⟨hx, hb, hml, hown, ht⟩ (cX5_least_ok l hl0 G N x0 x1 h sz o33.1 o33.2.1 o33.2.2 e33) (kwX5_least ht wmX5_143 rfl rfl ⟨Nat.le_of_ble_eq_true rfl, Nat.le_of_ble_eq_true rfl⟩) (tk_preV hE hs (tk_ok_ok p33) rfl) rfl rfl hl.1 rfl (lv_room (Nat.le_of_ble_eq_true rfl)) dX5_serves_28 ⟨(Nat.le_of_ble_eq_true rfl), (Nat.le_of_ble_eq_true rfl)⟩) (fun H locs hs => ?_)
        refine W.eq (g2 := F0 m 31 ls [.int o33.1]) rfl ?_
        refine lv_istore_n (lv' := [(2, .int o33.1), (0, .ref x0), (1, .int x1)]) hx hb dX5_serves_31 rfl hl (by decide) rfl (fun ls hl => ?_)
        refine lv_iload_n hx hb dX5_serves_32 rfl (lv_at hl 2 rfl) ?_
        refine lv_iconst (v := 1) hx hb dX5_serves_33 (by decide) ?_
        refine lv_iload_n hx hb dX5_serves_34 rfl (lv_at hl 0 rfl) ?_
        refine lv_ishl hx hb dX5_serves_35 ?_
        refine lv_iconst (v := (-1)) hx hb dX5_serves_36 (by decide) ?_
        refine lv_ixor hx hb dX5_serves_37 ?_
        refine lv_iand hx hb dX5_serves_38 ?_
        refine lv_istore_n (lv' := [(3, .int (x1 &&& ((1 <<< (o33.1 &&& 31)) ^^^ (-1)))), (2, .int o33.1), (0, .ref x0), (1, .int x1)]) hx hb dX5_serves_39 rfl hl (by decide) rfl (fun ls hl => ?_)
        refine lv_aload_n hx hb dX5_serves_40 rfl (lv_at hl 2 rfl) ?_
        obtain ⟨v35, e35, hf⟩ := tk_bi hf
        refine tk_getR hx hb ht inX5 hown hE hs rfl 32 (by decide) (ht _ wfX5_80) e35 dX5_serves_41 ?_
        refine lv_iload_n hx hb dX5_serves_44 rfl (lv_at hl 3 rfl) ?_
        refine lv_aload_n hx hb dX5_serves_45 rfl (lv_at hl 2 rfl) ?_
        obtain ⟨v36, e36, hf⟩ := tk_bi hf
        refine tk_getR hx hb ht inX5 hown hE hs rfl 32 (by decide) (ht _ wfX5_80) e36 dX5_serves_46 ?_
        refine lv_iload_n hx hb dX5_serves_49 rfl (lv_at hl 0 rfl) ?_
        obtain ⟨v37, e37, hf⟩ := tk_bi hf
        refine tk_iald hx hb hE hs e37 dX5_serves_50 ?_
        obtain ⟨h38, e38, hf⟩ := tk_bi hf
        refine tk_iast hx hb hE hs e38 dX5_serves_51 (fun H locs hs => ?_)
        refine lv_aload_n hx hb dX5_serves_52 rfl (lv_at hl 2 rfl) ?_
        obtain ⟨v39, e39, hf⟩ := tk_bi hf
        refine tk_getR hx hb ht inX5 hown hE hs rfl 33 (by decide) (ht _ wfX5_83) e39 dX5_serves_53 ?_
        refine lv_iload_n hx hb dX5_serves_56 rfl (lv_at hl 3 rfl) ?_
        refine lv_aload_n hx hb dX5_serves_57 rfl (lv_at hl 2 rfl) ?_
        obtain ⟨v40, e40, hf⟩ := tk_bi hf
        refine tk_getR hx hb ht inX5 hown hE hs rfl 33 (by decide) (ht _ wfX5_83) e40 dX5_serves_58 ?_
        refine lv_iload_n hx hb dX5_serves_61 rfl (lv_at hl 0 rfl) ?_
        obtain ⟨v41, e41, hf⟩ := tk_bi hf
        refine tk_iald hx hb hE hs e41 dX5_serves_62 ?_
        obtain ⟨h42, e42, hf⟩ := tk_bi hf
        refine tk_iast hx hb hE hs e42 dX5_serves_63 (fun H locs hs => ?_)
        refine lv_aload_n hx hb dX5_serves_64 rfl (lv_at hl 2 rfl) ?_
        obtain ⟨v43, e43, hf⟩ := tk_bi hf
        refine tk_getR hx hb ht inX5 hown hE hs rfl 31 (by decide) (ht _ wfX5_77) e43 dX5_serves_65 ?_
        refine lv_iload_n hx hb dX5_serves_68 rfl (lv_at hl 1 rfl) ?_
        obtain ⟨v44, e44, hf⟩ := tk_bi hf
        refine tk_iald hx hb hE hs e44 dX5_serves_69 ?_
        refine lv_istore (lv' := [(4, .int v44), (3, .int (x1 &&& ((1 <<< (o33.1 &&& 31)) ^^^ (-1)))), (2, .int o33.1), (0, .ref x0), (1, .int x1)]) hx hb dX5_serves_70 hl (by decide) rfl (fun ls hl => ?_)
        exact j72 (fX5_serves_16 N n) ih N x0 x1 o33.1 v44 h42 o33.2.2 _ _ _ hf hs (lv_sub hl [3, 4, 2, 0] rfl)
  unfold fX5_serves at hf
  refine lv_aload_n hx hb dX5_serves_0 rfl (lv_at hl 0 rfl) ?_
  obtain ⟨v45, e45, hf⟩ := tk_bi hf
  refine tk_getR hx hb ht inX5 hown hE hs rfl 32 (by decide) (ht _ wfX5_80) e45 dX5_serves_1 ?_
  refine lv_iconst (v := 0) hx hb dX5_serves_4 (by decide) ?_
  refine lv_iconst (v := 0) hx hb dX5_serves_5 (by decide) ?_
  obtain ⟨h46, e46, hf⟩ := tk_bi hf
  refine tk_iast hx hb hE hs e46 dX5_serves_6 (fun H locs hs => ?_)
  refine lv_aload_n hx hb dX5_serves_7 rfl (lv_at hl 0 rfl) ?_
  obtain ⟨v47, e47, hf⟩ := tk_bi hf
  refine tk_getR hx hb ht inX5 hown hE hs rfl 33 (by decide) (ht _ wfX5_83) e47 dX5_serves_8 ?_
  refine lv_iconst (v := 0) hx hb dX5_serves_11 (by decide) ?_
  refine lv_iconst (v := 0) hx hb dX5_serves_12 (by decide) ?_
  obtain ⟨h48, e48, hf⟩ := tk_bi hf
  refine tk_iast hx hb hE hs e48 dX5_serves_13 (fun H locs hs => ?_)
  refine lv_iconst (v := 1) hx hb dX5_serves_14 (by decide) ?_
  refine lv_istore_n (lv' := [(1, .int 1), (0, .ref x0)]) hx hb dX5_serves_15 rfl hl (by decide) rfl (fun ls hl => ?_)
  exact j16 N x0 1 h48 sz _ _ _ hf hs (lv_sub hl [1, 0] rfl)
def fX5_taken_127 (N : Nat) (k68 : Nat → Int32 → Int32 → Int32 → tk_AH → Nat → Option (tk_AH × Nat)) (x0 : Nat) (x1 : Int32) (x2 : Int32) (x3 : Int32) (y0 : Int32) (y1 : Int32) (y2 : Nat) (h : tk_AH) (sz : Nat) : Option (tk_AH × Nat) :=
  (tk_sI h 0 y2 y1 y0).bind fun h1 =>
  k68 x0 x1 x2 (x3 + 1) h1 sz
def fX5_taken_121 (N : Nat) (k68 : Nat → Int32 → Int32 → Int32 → tk_AH → Nat → Option (tk_AH × Nat)) (x0 : Nat) (x1 : Int32) (x2 : Int32) (x3 : Int32) (y0 : Int32) (y1 : Nat) (h : tk_AH) (sz : Nat) : Option (tk_AH × Nat) :=
  (tk_gR h 5 26 x0).bind fun v2 =>
  (tk_aI h 0 v2 x3).bind fun v3 =>
  fX5_taken_127 N k68 x0 x1 x2 x3 v3 y0 y1 h sz
def fX5_taken_68 (N : Nat) : Nat → Nat → Int32 → Int32 → Int32 → tk_AH → Nat → Option (tk_AH × Nat)
  | 0, _, _, _, _, _, _ => none
  | n + 1, x0, x1, x2, x3, h, sz =>
  if 3 ≤ x3 then (
  (tk_gI h 5 15 x0).bind fun v5 =>
  (tk_pF h 5 15 x0 (.int (v5 + 1))).bind fun h6 =>
  some (h6, sz)) else (
  (tk_gR h 5 16 x0).bind fun v7 =>
  (tk_gI h 5 15 x0).bind fun v8 =>
  (tk_gR h 5 28 x0).bind fun v9 =>
  (tk_aI h 0 v9 ((3 * x1) + x3)).bind fun v10 =>
  (tk_sI h 0 v7 ((3 * v8) + x3) v10).bind fun h11 =>
  (tk_gR h11 5 17 x0).bind fun v12 =>
  (tk_gI h11 5 15 x0).bind fun v13 =>
  if x2 = (-1) then (
  if x3 ≤ 0 then (
  fX5_taken_121 N (fX5_taken_68 N n) x0 x1 x2 x3 ((3 * v13) + x3) v12 h11 sz) else (
  fX5_taken_127 N (fX5_taken_68 N n) x0 x1 x2 x3 (-1) ((3 * v13) + x3) v12 h11 sz)) else (
  fX5_taken_121 N (fX5_taken_68 N n) x0 x1 x2 x3 ((3 * v13) + x3) v12 h11 sz))
def fX5_taken_66 (N : Nat) (x0 : Nat) (x1 : Int32) (x2 : Int32) (h : tk_AH) (sz : Nat) : Option (tk_AH × Nat) :=
  fX5_taken_68 N N x0 x1 x2 0 h sz
def fX5_taken (N : Nat) (x0 : Nat) (x1 : Int32) (h : tk_AH) (sz : Nat) : Option (tk_AH × Nat) :=
  (tk_gR h 5 28 x0).bind fun v16 =>
  (tk_aI h 0 v16 ((3 * x1) + 2)).bind fun v17 =>
  if v17 = (-1) then (
  (tk_gR h 5 28 x0).bind fun v25 =>
  (tk_aI h 0 v25 (3 * x1)).bind fun v26 =>
  (tk_gR h 5 28 x0).bind fun v27 =>
  (tk_aI h 0 v27 ((3 * x1) + 1)).bind fun v28 =>
  (tk_ok h 5 x0).bind fun _ =>
  (fX5_isPair N x0 v26 v28 h sz).bind fun o29 =>
  fX5_taken_66 N x0 x1 v17 o29.2.1 o29.2.2) else (
  (tk_gR h 5 28 x0).bind fun v19 =>
  (tk_aI h 0 v19 (3 * x1)).bind fun v20 =>
  (tk_gR h 5 28 x0).bind fun v21 =>
  (tk_aI h 0 v21 ((3 * x1) + 1)).bind fun v22 =>
  (tk_ok h 5 x0).bind fun _ =>
  (fX5_isThree N x0 v20 v22 v17 h sz).bind fun o23 =>
  fX5_taken_66 N x0 x1 v17 o23.2.1 o23.2.2)
set_option maxHeartbeats 8000000 in
set_option maxRecDepth 100000 in
theorem cX5_taken_ok (l : Launch) (hl0 : l.stackTraces = false) (G : tk_AG) (N : Nat) (x0 : Nat) (x1 : Int32) (h : tk_AH) (sz : Nat) (h9 : tk_AH) (sz9 : Nat) (hf : fX5_taken N x0 x1 h sz = some (h9, sz9)) : Met l yX5_taken (coX5_taken :: tk_W) ({ frames := 3, cells := 0, slots := 0, locals := 72 }) (tk_pc G [.ref x0, .int x1] h sz) (tk_qc G none h9 sz9) 0 0 (tk_ag G) := by
  refine Met.ofW (cc := cX5_taken) (maxL := 4) (ret := none) (by decide) rfl ?_
  intro p e s m args below meth c s₁ B hml hv
  obtain ⟨hav, hE, hrp, hsz, hgs⟩ := hv
  have hx := B.exec
  have hb := B.bytes
  have hr := B.returns
  have hts := atoms_spec (ws := coX5_taken :: tk_W) B.pre
  have ht : ∀ w ∈ tk_W, w.before args s = true := fun w h => hts w (List.mem_cons_of_mem _ h)
  have hown : s.vm.findClass RX5 = some m.cls := findClass_of_methodNamed B.named
  have hlocks := B.notSynchronized
  have hs : tk_sw G s h sz s.heap [] := ⟨hrp, hsz, by rw [hsz]; exact hgs, va_S.rf⟩
  have hl := lv_entry ([.ref x0, .int x1]) (n := 4) (Nat.le_of_ble_eq_true rfl)
  have hent : entryFrame m args 4 = F0 m 0 (lg_sl ([.ref x0, .int x1]) ++ List.replicate (4 - (lg_sl ([.ref x0, .int x1])).length) Slot.unset).toArray [] := by rw [hav, lg_entry_eq]
  rw [hent]
  clear hent
  generalize (lg_sl ([.ref x0, .int x1]) ++ List.replicate (4 - (lg_sl ([.ref x0, .int x1])).length) Slot.unset).toArray = ls at hl ⊢
  have hl : lv_has ls 4 [(0, .ref x0), (1, .int x1)] := hl
  have j127 : ∀ (k68 : Nat → Int32 → Int32 → Int32 → tk_AH → Nat → Option (tk_AH × Nat)), (∀ (x0 : Nat) (x1 : Int32) (x2 : Int32) (x3 : Int32) (h : tk_AH) (sz : Nat) (H : Heap) (locs : List Loc) (ls : Array Slot), k68 x0 x1 x2 x3 h sz = some (h9, sz9) → tk_sw G s h sz H locs → lv_has ls 4 [(0, .ref x0), (1, .int x1), (2, .int x2), (3, .int x3)] → W p l e (headSpec (coX5_taken :: tk_W) ({ frames := 3, cells := 0, slots := 0, locals := 72 })).room s m args below meth c H locs 0 (0) (MQ below (tk_qc G none h9 sz9) args s 0 0 (tk_ag G)) (F0 m 68 ls [])) → ∀ (x0 : Nat) (x1 : Int32) (x2 : Int32) (x3 : Int32) (y0 : Int32) (y1 : Int32) (y2 : Nat) (h : tk_AH) (sz : Nat) (H : Heap) (locs : List Loc) (ls : Array Slot), fX5_taken_127 N k68 x0 x1 x2 x3 y0 y1 y2 h sz = some (h9, sz9) → tk_sw G s h sz H locs → lv_has ls 4 [(0, .ref x0), (1, .int x1), (2, .int x2), (3, .int x3)] → W p l e (headSpec (coX5_taken :: tk_W) ({ frames := 3, cells := 0, slots := 0, locals := 72 })).room s m args below meth c H locs 0 (0) (MQ below (tk_qc G none h9 sz9) args s 0 0 (tk_ag G)) (F0 m 127 ls [.int y0, .int y1, .ref y2]) := by
    intro k68 hk68 x0 x1 x2 x3 y0 y1 y2 h sz H locs ls hf hs hl
    unfold fX5_taken_127 at hf
    obtain ⟨h1, e1, hf⟩ := tk_bi hf
    refine tk_iast hx hb hE hs e1 dX5_taken_127 (fun H locs hs => ?_)
    refine lv_iinc (v := x3 + 1) (lv' := [(3, .int (x3 + 1)), (0, .ref x0), (1, .int x1), (2, .int x2)]) hx hb dX5_taken_128 hl (k := 3) rfl rfl (by decide) rfl (fun ls hl => ?_)
    refine lv_goto (tgt := 68) hx hb dX5_taken_131 (by decide) ?_
    exact hk68 x0 x1 x2 (x3 + 1) h1 sz _ _ _ hf hs (lv_sub hl [1, 2, 3, 0] rfl)
  have j121 : ∀ (k68 : Nat → Int32 → Int32 → Int32 → tk_AH → Nat → Option (tk_AH × Nat)), (∀ (x0 : Nat) (x1 : Int32) (x2 : Int32) (x3 : Int32) (h : tk_AH) (sz : Nat) (H : Heap) (locs : List Loc) (ls : Array Slot), k68 x0 x1 x2 x3 h sz = some (h9, sz9) → tk_sw G s h sz H locs → lv_has ls 4 [(0, .ref x0), (1, .int x1), (2, .int x2), (3, .int x3)] → W p l e (headSpec (coX5_taken :: tk_W) ({ frames := 3, cells := 0, slots := 0, locals := 72 })).room s m args below meth c H locs 0 (0) (MQ below (tk_qc G none h9 sz9) args s 0 0 (tk_ag G)) (F0 m 68 ls [])) → ∀ (x0 : Nat) (x1 : Int32) (x2 : Int32) (x3 : Int32) (y0 : Int32) (y1 : Nat) (h : tk_AH) (sz : Nat) (H : Heap) (locs : List Loc) (ls : Array Slot), fX5_taken_121 N k68 x0 x1 x2 x3 y0 y1 h sz = some (h9, sz9) → tk_sw G s h sz H locs → lv_has ls 4 [(0, .ref x0), (1, .int x1), (2, .int x2), (3, .int x3)] → W p l e (headSpec (coX5_taken :: tk_W) ({ frames := 3, cells := 0, slots := 0, locals := 72 })).room s m args below meth c H locs 0 (0) (MQ below (tk_qc G none h9 sz9) args s 0 0 (tk_ag G)) (F0 m 121 ls [.int y0, .ref y1]) := by
    intro k68 hk68 x0 x1 x2 x3 y0 y1 h sz H locs ls hf hs hl
    unfold fX5_taken_121 at hf
    refine lv_aload_n hx hb dX5_taken_121 rfl (lv_at hl 0 rfl) ?_
    obtain ⟨v2, e2, hf⟩ := tk_bi hf
    refine tk_getR hx hb ht inX5 hown hE hs rfl 26 (by decide) (ht _ wfX5_65) e2 dX5_taken_122 ?_
    refine lv_iload_n hx hb dX5_taken_125 rfl (lv_at hl 3 rfl) ?_
    obtain ⟨v3, e3, hf⟩ := tk_bi hf
    refine tk_iald hx hb hE hs e3 dX5_taken_126 ?_
    exact j127 k68 hk68 x0 x1 x2 x3 v3 y0 y1 h sz _ _ _ hf hs (lv_sub hl [0, 1, 2, 3] rfl)
  have j68 : ∀ (n : Nat), ∀ (x0 : Nat) (x1 : Int32) (x2 : Int32) (x3 : Int32) (h : tk_AH) (sz : Nat) (H : Heap) (locs : List Loc) (ls : Array Slot), fX5_taken_68 N n x0 x1 x2 x3 h sz = some (h9, sz9) → tk_sw G s h sz H locs → lv_has ls 4 [(0, .ref x0), (1, .int x1), (2, .int x2), (3, .int x3)] → W p l e (headSpec (coX5_taken :: tk_W) ({ frames := 3, cells := 0, slots := 0, locals := 72 })).room s m args below meth c H locs 0 (0) (MQ below (tk_qc G none h9 sz9) args s 0 0 (tk_ag G)) (F0 m 68 ls []) := by
    intro n
    induction n with
    | zero =>
      intro x0 x1 x2 x3 h sz H locs ls hf
      cases hf
    | succ n ih =>
      intro x0 x1 x2 x3 h sz H locs ls hf hs hl
      rw [fX5_taken_68] at hf
      refine lv_iload_n hx hb dX5_taken_68 rfl (lv_at hl 3 rfl) ?_
      refine lv_iconst (v := 3) hx hb dX5_taken_69 (by decide) ?_
      refine lv_icmp_ge (tgt := 134) hx hb dX5_taken_70 (by decide) (fun c4 => ?_) (fun c4 => ?_)
      · rw [if_pos c4] at hf
        refine lv_aload_n hx hb dX5_taken_134 rfl (lv_at hl 0 rfl) ?_
        refine lv_dup hx hb dX5_taken_135 rfl ?_
        obtain ⟨v5, e5, hf⟩ := tk_bi hf
        refine tk_getI hx hb ht inX5 hown hE hs rfl 15 (by decide) (ht _ wfX5_153) e5 dX5_taken_136 ?_
        refine lv_iconst (v := 1) hx hb dX5_taken_139 (by decide) ?_
        refine lv_iadd hx hb dX5_taken_140 ?_
        obtain ⟨h6, e6, hf⟩ := tk_bi hf
        refine tk_put hx hb ht inX5 tyX5 tyX5_ok nmX5 hown hE hs rfl 15 (by decide) (ht _ wfX5_153) rfl rfl rfl e6 dX5_taken_141 (fun H locs hs => ?_)
        cases hf
        exact tk_vret hx hb hr hlocks hs dX5_taken_144
      · rw [if_neg c4] at hf
        refine lv_aload_n hx hb dX5_taken_73 rfl (lv_at hl 0 rfl) ?_
        obtain ⟨v7, e7, hf⟩ := tk_bi hf
        refine tk_getR hx hb ht inX5 hown hE hs rfl 16 (by decide) (ht _ wfX5_40) e7 dX5_taken_74 ?_
        refine lv_iconst (v := 3) hx hb dX5_taken_77 (by decide) ?_
        refine lv_aload_n hx hb dX5_taken_78 rfl (lv_at hl 0 rfl) ?_
        obtain ⟨v8, e8, hf⟩ := tk_bi hf
        refine tk_getI hx hb ht inX5 hown hE hs rfl 15 (by decide) (ht _ wfX5_153) e8 dX5_taken_79 ?_
        refine lv_imul hx hb dX5_taken_82 ?_
        refine lv_iload_n hx hb dX5_taken_83 rfl (lv_at hl 3 rfl) ?_
        refine lv_iadd hx hb dX5_taken_84 ?_
        refine lv_aload_n hx hb dX5_taken_85 rfl (lv_at hl 0 rfl) ?_
        obtain ⟨v9, e9, hf⟩ := tk_bi hf
        refine tk_getR hx hb ht inX5 hown hE hs rfl 28 (by decide) (ht _ wfX5_68) e9 dX5_taken_86 ?_
        refine lv_iconst (v := 3) hx hb dX5_taken_89 (by decide) ?_
        refine lv_iload_n hx hb dX5_taken_90 rfl (lv_at hl 1 rfl) ?_
        refine lv_imul hx hb dX5_taken_91 ?_
        refine lv_iload_n hx hb dX5_taken_92 rfl (lv_at hl 3 rfl) ?_
        refine lv_iadd hx hb dX5_taken_93 ?_
        obtain ⟨v10, e10, hf⟩ := tk_bi hf
        refine tk_iald hx hb hE hs e10 dX5_taken_94 ?_
        obtain ⟨h11, e11, hf⟩ := tk_bi hf
        refine tk_iast hx hb hE hs e11 dX5_taken_95 (fun H locs hs => ?_)
        refine lv_aload_n hx hb dX5_taken_96 rfl (lv_at hl 0 rfl) ?_
        obtain ⟨v12, e12, hf⟩ := tk_bi hf
        refine tk_getR hx hb ht inX5 hown hE hs rfl 17 (by decide) (ht _ wfX5_43) e12 dX5_taken_97 ?_
        refine lv_iconst (v := 3) hx hb dX5_taken_100 (by decide) ?_
        refine lv_aload_n hx hb dX5_taken_101 rfl (lv_at hl 0 rfl) ?_
        obtain ⟨v13, e13, hf⟩ := tk_bi hf
        refine tk_getI hx hb ht inX5 hown hE hs rfl 15 (by decide) (ht _ wfX5_153) e13 dX5_taken_102 ?_
        refine lv_imul hx hb dX5_taken_105 ?_
        refine lv_iload_n hx hb dX5_taken_106 rfl (lv_at hl 3 rfl) ?_
        refine lv_iadd hx hb dX5_taken_107 ?_
        refine lv_iload_n hx hb dX5_taken_108 rfl (lv_at hl 2 rfl) ?_
        refine lv_iconst (v := (-1)) hx hb dX5_taken_109 (by decide) ?_
        refine lv_icmp_ne (tgt := 121) hx hb dX5_taken_110 (by decide) (fun c14 => ?_) (fun c14 => ?_)
        · rw [if_neg c14] at hf
          exact j121 (fX5_taken_68 N n) ih x0 x1 x2 x3 ((3 * v13) + x3) v12 h11 sz _ _ _ hf hs (lv_sub hl [0, 1, 2, 3] rfl)
        · rw [if_pos c14] at hf
          refine lv_iload_n hx hb dX5_taken_113 rfl (lv_at hl 3 rfl) ?_
          refine lv_if_le (tgt := 121) hx hb dX5_taken_114 (by decide) (fun c15 => ?_) (fun c15 => ?_)
          · rw [if_pos c15] at hf
            exact j121 (fX5_taken_68 N n) ih x0 x1 x2 x3 ((3 * v13) + x3) v12 h11 sz _ _ _ hf hs (lv_sub hl [0, 1, 2, 3] rfl)
          · rw [if_neg c15] at hf
            refine lv_iconst (v := (-1)) hx hb dX5_taken_117 (by decide) ?_
            refine lv_goto (tgt := 127) hx hb dX5_taken_118 (by decide) ?_
            exact j127 (fX5_taken_68 N n) ih x0 x1 x2 x3 (-1) ((3 * v13) + x3) v12 h11 sz _ _ _ hf hs (lv_sub hl [0, 1, 2, 3] rfl)
  have j66 : ∀ (x0 : Nat) (x1 : Int32) (x2 : Int32) (h : tk_AH) (sz : Nat) (H : Heap) (locs : List Loc) (ls : Array Slot), fX5_taken_66 N x0 x1 x2 h sz = some (h9, sz9) → tk_sw G s h sz H locs → lv_has ls 4 [(0, .ref x0), (1, .int x1), (2, .int x2)] → W p l e (headSpec (coX5_taken :: tk_W) ({ frames := 3, cells := 0, slots := 0, locals := 72 })).room s m args below meth c H locs 0 (0) (MQ below (tk_qc G none h9 sz9) args s 0 0 (tk_ag G)) (F0 m 66 ls []) := by
    intro x0 x1 x2 h sz H locs ls hf hs hl
    unfold fX5_taken_66 at hf
    refine lv_iconst (v := 0) hx hb dX5_taken_66 (by decide) ?_
    refine lv_istore_n (lv' := [(3, .int 0), (0, .ref x0), (1, .int x1), (2, .int x2)]) hx hb dX5_taken_67 rfl hl (by decide) rfl (fun ls hl => ?_)
    exact j68 N x0 x1 x2 0 h sz _ _ _ hf hs (lv_sub hl [1, 2, 3, 0] rfl)
  unfold fX5_taken at hf
  refine lv_aload_n hx hb dX5_taken_0 rfl (lv_at hl 0 rfl) ?_
  obtain ⟨v16, e16, hf⟩ := tk_bi hf
  refine tk_getR hx hb ht inX5 hown hE hs rfl 28 (by decide) (ht _ wfX5_68) e16 dX5_taken_1 ?_
  refine lv_iconst (v := 3) hx hb dX5_taken_4 (by decide) ?_
  refine lv_iload_n hx hb dX5_taken_5 rfl (lv_at hl 1 rfl) ?_
  refine lv_imul hx hb dX5_taken_6 ?_
  refine lv_iconst (v := 2) hx hb dX5_taken_7 (by decide) ?_
  refine lv_iadd hx hb dX5_taken_8 ?_
  obtain ⟨v17, e17, hf⟩ := tk_bi hf
  refine tk_iald hx hb hE hs e17 dX5_taken_9 ?_
  refine lv_istore_n (lv' := [(2, .int v17), (0, .ref x0), (1, .int x1)]) hx hb dX5_taken_10 rfl hl (by decide) rfl (fun ls hl => ?_)
  refine lv_iload_n hx hb dX5_taken_11 rfl (lv_at hl 0 rfl) ?_
  refine lv_iconst (v := (-1)) hx hb dX5_taken_12 (by decide) ?_
  refine lv_icmp_ne (tgt := 42) hx hb dX5_taken_13 (by decide) (fun c18 => ?_) (fun c18 => ?_)
  · rw [if_neg c18] at hf
    refine lv_aload_n hx hb dX5_taken_42 rfl (lv_at hl 1 rfl) ?_
    refine lv_aload_n hx hb dX5_taken_43 rfl (lv_at hl 1 rfl) ?_
    obtain ⟨v19, e19, hf⟩ := tk_bi hf
    refine tk_getR hx hb ht inX5 hown hE hs rfl 28 (by decide) (ht _ wfX5_68) e19 dX5_taken_44 ?_
    refine lv_iconst (v := 3) hx hb dX5_taken_47 (by decide) ?_
    refine lv_iload_n hx hb dX5_taken_48 rfl (lv_at hl 2 rfl) ?_
    refine lv_imul hx hb dX5_taken_49 ?_
    obtain ⟨v20, e20, hf⟩ := tk_bi hf
    refine tk_iald hx hb hE hs e20 dX5_taken_50 ?_
    refine lv_aload_n hx hb dX5_taken_51 rfl (lv_at hl 1 rfl) ?_
    obtain ⟨v21, e21, hf⟩ := tk_bi hf
    refine tk_getR hx hb ht inX5 hown hE hs rfl 28 (by decide) (ht _ wfX5_68) e21 dX5_taken_52 ?_
    refine lv_iconst (v := 3) hx hb dX5_taken_55 (by decide) ?_
    refine lv_iload_n hx hb dX5_taken_56 rfl (lv_at hl 2 rfl) ?_
    refine lv_imul hx hb dX5_taken_57 ?_
    refine lv_iconst (v := 1) hx hb dX5_taken_58 (by decide) ?_
    refine lv_iadd hx hb dX5_taken_59 ?_
    obtain ⟨v22, e22, hf⟩ := tk_bi hf
    refine tk_iald hx hb hE hs e22 dX5_taken_60 ?_
    refine lv_iload_n hx hb dX5_taken_61 rfl (lv_at hl 0 rfl) ?_
    obtain ⟨_, p23, hf⟩ := tk_bi hf
    obtain ⟨o23, e23, hf⟩ := tk_bi hf
    refine tk_call0 (v := some (.int o23.1)) hs (va_runV (As := [.int v20, .int v22, .int v17]) (rest := []) ⟨hx, hb, hml, hown, ht⟩ (cX5_isThree_ok l hl0 G N x0 v20 v22 v17 h sz o23.1 o23.2.1 o23.2.2 e23) (kwX5_isThree ht wmX5_132 rfl rfl ⟨Nat.le_of_ble_eq_true rfl, Nat.le_of_ble_eq_true rfl⟩) (tk_preV hE hs (tk_ok_ok p23) rfl) rfl rfl hl.1 rfl (lv_room (Nat.le_of_ble_eq_true rfl)) dX5_taken_62 ⟨(Nat.le_of_ble_eq_true rfl), (Nat.le_of_ble_eq_true rfl)⟩) (fun H locs hs => ?_)
    refine W.eq (g2 := F0 m 65 ls [.int o23.1]) rfl ?_
    refine lv_pop hx hb dX5_taken_65 rfl ?_
    exact j66 x0 x1 v17 o23.2.1 o23.2.2 _ _ _ hf hs (lv_sub hl [1, 2, 0] rfl)
  · rw [if_pos c18] at hf
    refine lv_aload_n hx hb dX5_taken_16 rfl (lv_at hl 1 rfl) ?_
    refine lv_aload_n hx hb dX5_taken_17 rfl (lv_at hl 1 rfl) ?_
    obtain ⟨v25, e25, hf⟩ := tk_bi hf
    refine tk_getR hx hb ht inX5 hown hE hs rfl 28 (by decide) (ht _ wfX5_68) e25 dX5_taken_18 ?_
    refine lv_iconst (v := 3) hx hb dX5_taken_21 (by decide) ?_
    refine lv_iload_n hx hb dX5_taken_22 rfl (lv_at hl 2 rfl) ?_
    refine lv_imul hx hb dX5_taken_23 ?_
    obtain ⟨v26, e26, hf⟩ := tk_bi hf
    refine tk_iald hx hb hE hs e26 dX5_taken_24 ?_
    refine lv_aload_n hx hb dX5_taken_25 rfl (lv_at hl 1 rfl) ?_
    obtain ⟨v27, e27, hf⟩ := tk_bi hf
    refine tk_getR hx hb ht inX5 hown hE hs rfl 28 (by decide) (ht _ wfX5_68) e27 dX5_taken_26 ?_
    refine lv_iconst (v := 3) hx hb dX5_taken_29 (by decide) ?_
    refine lv_iload_n hx hb dX5_taken_30 rfl (lv_at hl 2 rfl) ?_
    refine lv_imul hx hb dX5_taken_31 ?_
    refine lv_iconst (v := 1) hx hb dX5_taken_32 (by decide) ?_
    refine lv_iadd hx hb dX5_taken_33 ?_
    obtain ⟨v28, e28, hf⟩ := tk_bi hf
    refine tk_iald hx hb hE hs e28 dX5_taken_34 ?_
    obtain ⟨_, p29, hf⟩ := tk_bi hf
    obtain ⟨o29, e29, hf⟩ := tk_bi hf
    refine tk_call0 (v := some (.int o29.1)) hs (va_runV (As := [.int v26, .int v28]) (rest := []) ⟨hx, hb, hml, hown, ht⟩ (cX5_isPair_ok l hl0 G N x0 v26 v28 h sz o29.1 o29.2.1 o29.2.2 e29) (kwX5_isPair ht wmX5_129 rfl rfl ⟨Nat.le_of_ble_eq_true rfl, Nat.le_of_ble_eq_true rfl⟩) (tk_preV hE hs (tk_ok_ok p29) rfl) rfl rfl hl.1 rfl (lv_room (Nat.le_of_ble_eq_true rfl)) dX5_taken_35 ⟨(Nat.le_of_ble_eq_true rfl), (Nat.le_of_ble_eq_true rfl)⟩) (fun H locs hs => ?_)
    refine W.eq (g2 := F0 m 38 ls [.int o29.1]) rfl ?_
    refine lv_pop hx hb dX5_taken_38 rfl ?_
    refine lv_goto (tgt := 66) hx hb dX5_taken_39 (by decide) ?_
    exact j66 x0 x1 v17 o29.2.1 o29.2.2 _ _ _ hf hs (lv_sub hl [1, 2, 0] rfl)
def fX5_more_31 (N : Nat) (y0 : Int32) (y1 : Int32) (y2 : Nat) (h : tk_AH) (sz : Nat) : Option (tk_AH × Nat) :=
  (tk_sI h 0 y2 y1 y0).bind fun h1 =>
  some (h1, sz)
def fX5_more (N : Nat) (x0 : Nat) (x1 : Int32) (x2 : Int32) (h : tk_AH) (sz : Nat) : Option (tk_AH × Nat) :=
  (tk_gR h 5 14 x0).bind fun v2 =>
  (tk_gR h 5 14 x0).bind fun v3 =>
  (tk_aI h 0 v3 x1).bind fun v4 =>
  if (v4 + x2) ≤ 20 then (
  (tk_gR h 5 14 x0).bind fun v6 =>
  (tk_aI h 0 v6 x1).bind fun v7 =>
  fX5_more_31 N (v7 + x2) x1 v2 h sz) else (
  fX5_more_31 N 20 x1 v2 h sz)
set_option maxHeartbeats 8000000 in
set_option maxRecDepth 100000 in
theorem cX5_more_ok (l : Launch) (hl0 : l.stackTraces = false) (G : tk_AG) (N : Nat) (x0 : Nat) (x1 : Int32) (x2 : Int32) (h : tk_AH) (sz : Nat) (h9 : tk_AH) (sz9 : Nat) (hf : fX5_more N x0 x1 x2 h sz = some (h9, sz9)) : Met l yX5_more (coX5_more :: tk_W) ({ frames := 0, cells := 0, slots := 0, locals := 0 }) (tk_pc G [.ref x0, .int x1, .int x2] h sz) (tk_qc G none h9 sz9) 0 0 (tk_ag G) := by
  refine Met.ofW (cc := cX5_more) (maxL := 3) (ret := none) (by decide) rfl ?_
  intro p e s m args below meth c s₁ B hml hv
  obtain ⟨hav, hE, hrp, hsz, hgs⟩ := hv
  have hx := B.exec
  have hb := B.bytes
  have hr := B.returns
  have hts := atoms_spec (ws := coX5_more :: tk_W) B.pre
  have ht : ∀ w ∈ tk_W, w.before args s = true := fun w h => hts w (List.mem_cons_of_mem _ h)
  have hown : s.vm.findClass RX5 = some m.cls := findClass_of_methodNamed B.named
  have hlocks := B.notSynchronized
  have hs : tk_sw G s h sz s.heap [] := ⟨hrp, hsz, by rw [hsz]; exact hgs, va_S.rf⟩
  have hl := lv_entry ([.ref x0, .int x1, .int x2]) (n := 3) (Nat.le_of_ble_eq_true rfl)
  have hent : entryFrame m args 3 = F0 m 0 (lg_sl ([.ref x0, .int x1, .int x2]) ++ List.replicate (3 - (lg_sl ([.ref x0, .int x1, .int x2])).length) Slot.unset).toArray [] := by rw [hav, lg_entry_eq]
  rw [hent]
  clear hent
  generalize (lg_sl ([.ref x0, .int x1, .int x2]) ++ List.replicate (3 - (lg_sl ([.ref x0, .int x1, .int x2])).length) Slot.unset).toArray = ls at hl ⊢
  have hl : lv_has ls 3 [(0, .ref x0), (1, .int x1), (2, .int x2)] := hl
  have j31 : ∀ (y0 : Int32) (y1 : Int32) (y2 : Nat) (h : tk_AH) (sz : Nat) (H : Heap) (locs : List Loc) (ls : Array Slot), fX5_more_31 N y0 y1 y2 h sz = some (h9, sz9) → tk_sw G s h sz H locs → lv_has ls 3 [] → W p l e (headSpec (coX5_more :: tk_W) ({ frames := 0, cells := 0, slots := 0, locals := 0 })).room s m args below meth c H locs 0 (0) (MQ below (tk_qc G none h9 sz9) args s 0 0 (tk_ag G)) (F0 m 31 ls [.int y0, .int y1, .ref y2]) := by
    intro y0 y1 y2 h sz H locs ls hf hs hl
    unfold fX5_more_31 at hf
    obtain ⟨h1, e1, hf⟩ := tk_bi hf
    refine tk_iast hx hb hE hs e1 dX5_more_31 (fun H locs hs => ?_)
    cases hf
    exact tk_vret hx hb hr hlocks hs dX5_more_32
  unfold fX5_more at hf
  refine lv_aload_n hx hb dX5_more_0 rfl (lv_at hl 0 rfl) ?_
  obtain ⟨v2, e2, hf⟩ := tk_bi hf
  refine tk_getR hx hb ht inX5 hown hE hs rfl 14 (by decide) (ht _ wfX5_37) e2 dX5_more_1 ?_
  refine lv_iload_n hx hb dX5_more_4 rfl (lv_at hl 1 rfl) ?_
  refine lv_aload_n hx hb dX5_more_5 rfl (lv_at hl 0 rfl) ?_
  obtain ⟨v3, e3, hf⟩ := tk_bi hf
  refine tk_getR hx hb ht inX5 hown hE hs rfl 14 (by decide) (ht _ wfX5_37) e3 dX5_more_6 ?_
  refine lv_iload_n hx hb dX5_more_9 rfl (lv_at hl 1 rfl) ?_
  obtain ⟨v4, e4, hf⟩ := tk_bi hf
  refine tk_iald hx hb hE hs e4 dX5_more_10 ?_
  refine lv_iload_n hx hb dX5_more_11 rfl (lv_at hl 2 rfl) ?_
  refine lv_iadd hx hb dX5_more_12 ?_
  refine lv_bipush (v := 20) hx hb dX5_more_13 (by decide) ?_
  refine lv_icmp_le (tgt := 23) hx hb dX5_more_15 (by decide) (fun c5 => ?_) (fun c5 => ?_)
  · rw [if_pos c5] at hf
    refine lv_aload_n hx hb dX5_more_23 rfl (lv_at hl 0 rfl) ?_
    obtain ⟨v6, e6, hf⟩ := tk_bi hf
    refine tk_getR hx hb ht inX5 hown hE hs rfl 14 (by decide) (ht _ wfX5_37) e6 dX5_more_24 ?_
    refine lv_iload_n hx hb dX5_more_27 rfl (lv_at hl 1 rfl) ?_
    obtain ⟨v7, e7, hf⟩ := tk_bi hf
    refine tk_iald hx hb hE hs e7 dX5_more_28 ?_
    refine lv_iload_n hx hb dX5_more_29 rfl (lv_at hl 2 rfl) ?_
    refine lv_iadd hx hb dX5_more_30 ?_
    exact j31 (v7 + x2) x1 v2 h sz _ _ _ hf hs (lv_sub hl [] rfl)
  · rw [if_neg c5] at hf
    refine lv_bipush (v := 20) hx hb dX5_more_18 (by decide) ?_
    refine lv_goto (tgt := 31) hx hb dX5_more_20 (by decide) ?_
    exact j31 20 x1 v2 h sz _ _ _ hf hs (lv_sub hl [] rfl)
def fX5_week_209 (N : Nat) (k164 : Nat → Int32 → Int32 → Int32 → tk_AH → Nat → Option (Int32 × tk_AH × Nat)) (x0 : Nat) (x1 : Int32) (x3 : Int32) (x4 : Int32) (h : tk_AH) (sz : Nat) : Option (Int32 × tk_AH × Nat) :=
  k164 x0 x1 x3 (x4 + 1) h sz
def fX5_week_164 (N : Nat) : Nat → Nat → Int32 → Int32 → Int32 → tk_AH → Nat → Option (Int32 × tk_AH × Nat)
  | 0, _, _, _, _, _, _ => none
  | n + 1, x0, x1, x3, x4, h, sz =>
  (tk_gI h 5 1 x0).bind fun v1 =>
  if v1 ≤ x4 then (
  (tk_gI h 5 2 x0).bind fun v3 =>
  (tk_pF h 5 2 x0 (.int (v3 + 7))).bind fun h4 =>
  (tk_gI h4 5 3 x0).bind fun v5 =>
  (tk_pF h4 5 3 x0 (.int (v5 + 1))).bind fun h6 =>
  (tk_gI h6 5 4 x0).bind fun v7 =>
  (tk_pF h6 5 4 x0 (.int (v7 + x1))).bind fun h8 =>
  some (x1, h8, sz)) else (
  (tk_gR h 5 18 x0).bind fun v9 =>
  (tk_sI h 1 v9 x4 0).bind fun h10 =>
  if ((x3 >>> (x4 &&& 31)) &&& 1) = 1 then (
  (tk_gR h10 5 14 x0).bind fun v14 =>
  (tk_sI h10 0 v14 x4 0).bind fun h15 =>
  fX5_week_209 N (fX5_week_164 N n) x0 x1 x3 x4 h15 sz) else (
  (tk_ok h10 5 x0).bind fun _ =>
  (fX5_more N x0 x4 1 h10 sz).bind fun o12 =>
  fX5_week_209 N (fX5_week_164 N n) x0 x1 x3 x4 o12.1 o12.2))
def fX5_week_144 (N : Nat) (k31 : Nat → Int32 → Int32 → Int32 → tk_AH → Nat → Option (Int32 × tk_AH × Nat)) (x0 : Nat) (x2 : Int32) (x3 : Int32) (x5 : Int32) (y0 : Int32) (y1 : Int32) (h : tk_AH) (sz : Nat) : Option (Int32 × tk_AH × Nat) :=
  (tk_gR h 5 29 x0).bind fun v16 =>
  (tk_aI h 0 v16 x5).bind fun v17 =>
  k31 x0 (y1 + y0) (x2 &&& (v17 ^^^ (-1))) x3 h sz
def fX5_week_81 (N : Nat) (k31 : Nat → Int32 → Int32 → Int32 → tk_AH → Nat → Option (Int32 × tk_AH × Nat)) (x0 : Nat) (x1 : Int32) (x2 : Int32) (x3 : Int32) (x4 : Int32) (x5 : Int32) (h : tk_AH) (sz : Nat) : Option (Int32 × tk_AH × Nat) :=
  (tk_gR h 5 31 x0).bind fun v18 =>
  (tk_aI h 0 v18 (x4 + 1)).bind fun v19 =>
  if x5 = v19 then (
  k31 x0 x1 (x2 &&& ((1 <<< (x4 &&& 31)) ^^^ (-1))) x3 h sz) else (
  (tk_ok h 5 x0).bind fun _ =>
  (fX5_taken N x0 x5 h sz).bind fun o21 =>
  (tk_gR o21.1 5 29 x0).bind fun v23 =>
  (tk_aI o21.1 0 v23 x5).bind fun v24 =>
  (tk_gR o21.1 5 28 x0).bind fun v25 =>
  (tk_aI o21.1 0 v25 ((3 * x5) + 2)).bind fun v26 =>
  if v26 = (-1) then (
  fX5_week_144 N k31 x0 x2 (x3 ||| v24) x5 2 x1 o21.1 o21.2) else (
  fX5_week_144 N k31 x0 x2 (x3 ||| v24) x5 3 x1 o21.1 o21.2))
def fX5_week_51 (N : Nat) (k81 : Nat → Int32 → Int32 → Int32 → Int32 → Int32 → tk_AH → Nat → Option (Int32 × tk_AH × Nat)) : Nat → Nat → Int32 → Int32 → Int32 → Int32 → Int32 → tk_AH → Nat → Option (Int32 × tk_AH × Nat)
  | 0, _, _, _, _, _, _, _, _ => none
  | n + 1, x0, x1, x2, x3, x4, x5, h, sz =>
  (tk_gR h 5 31 x0).bind fun v28 =>
  (tk_aI h 0 v28 (x4 + 1)).bind fun v29 =>
  if v29 ≤ x5 then (
  k81 x0 x1 x2 x3 x4 x5 h sz) else (
  (tk_ok h 5 x0).bind fun _ =>
  (fX5_isBest N x0 x5 x2 h sz).bind fun o31 =>
  if o31.1 = 0 then (
  fX5_week_51 N k81 n x0 x1 x2 x3 x4 (x5 + 1) o31.2.1 o31.2.2) else (
  k81 x0 x1 x2 x3 x4 x5 o31.2.1 o31.2.2))
def fX5_week_31 (N : Nat) (k164 : Nat → Int32 → Int32 → Int32 → tk_AH → Nat → Option (Int32 × tk_AH × Nat)) : Nat → Nat → Int32 → Int32 → Int32 → tk_AH → Nat → Option (Int32 × tk_AH × Nat)
  | 0, _, _, _, _, _, _ => none
  | n + 1, x0, x1, x2, x3, h, sz =>
  if x2 = 0 then (
  k164 x0 x1 x3 0 h sz) else (
  (tk_ok h 5 x0).bind fun _ =>
  (fX5_least N x0 x2 h sz).bind fun o35 =>
  (tk_gR o35.2.1 5 31 x0).bind fun v37 =>
  (tk_aI o35.2.1 0 v37 o35.1).bind fun v38 =>
  fX5_week_51 N (fX5_week_81 N (fX5_week_31 N k164 n)) N x0 x1 x2 x3 o35.1 v38 o35.2.1 o35.2.2)
def fX5_week (N : Nat) (x0 : Nat) (h : tk_AH) (sz : Nat) : Option (Int32 × tk_AH × Nat) :=
  (tk_pF h 5 0 x0 (.int 0)).bind fun h39 =>
  (tk_ok h39 5 x0).bind fun _ =>
  (fX5_finds N x0 h39 sz).bind fun o40 =>
  (tk_ok o40.1 5 x0).bind fun _ =>
  (fX5_serves N x0 o40.1 o40.2).bind fun o42 =>
  (tk_pF o42.1 5 15 x0 (.int 0)).bind fun h44 =>
  (tk_gI h44 5 1 x0).bind fun v45 =>
  fX5_week_31 N (fX5_week_164 N N) N x0 0 ((1 <<< (v45 &&& 31)) - 1) 0 h44 o42.2
set_option maxHeartbeats 8000000 in
set_option maxRecDepth 100000 in
theorem cX5_week_ok (l : Launch) (hl0 : l.stackTraces = false) (G : tk_AG) (N : Nat) (x0 : Nat) (h : tk_AH) (sz : Nat) (r9 : Int32) (h9 : tk_AH) (sz9 : Nat) (hf : fX5_week N x0 h sz = some (r9, h9, sz9)) : Met l yX5_week (coX5_week :: tk_W) ({ frames := 4, cells := 0, slots := 0, locals := 95 }) (tk_pc G [.ref x0] h sz) (tk_qc G (some (.int r9)) h9 sz9) 0 0 (tk_ag G) := by
  refine Met.ofW (cc := cX5_week) (maxL := 6) (ret := (some .int)) (by decide) rfl ?_
  intro p e s m args below meth c s₁ B hml hv
  obtain ⟨hav, hE, hrp, hsz, hgs⟩ := hv
  have hx := B.exec
  have hb := B.bytes
  have hr := B.returns
  have hts := atoms_spec (ws := coX5_week :: tk_W) B.pre
  have ht : ∀ w ∈ tk_W, w.before args s = true := fun w h => hts w (List.mem_cons_of_mem _ h)
  have hown : s.vm.findClass RX5 = some m.cls := findClass_of_methodNamed B.named
  have hlocks := B.notSynchronized
  have hs : tk_sw G s h sz s.heap [] := ⟨hrp, hsz, by rw [hsz]; exact hgs, va_S.rf⟩
  have hl := lv_entry ([.ref x0]) (n := 6) (Nat.le_of_ble_eq_true rfl)
  have hent : entryFrame m args 6 = F0 m 0 (lg_sl ([.ref x0]) ++ List.replicate (6 - (lg_sl ([.ref x0])).length) Slot.unset).toArray [] := by rw [hav, lg_entry_eq]
  rw [hent]
  clear hent
  generalize (lg_sl ([.ref x0]) ++ List.replicate (6 - (lg_sl ([.ref x0])).length) Slot.unset).toArray = ls at hl ⊢
  have hl : lv_has ls 6 [(0, .ref x0)] := hl
  have j209 : ∀ (k164 : Nat → Int32 → Int32 → Int32 → tk_AH → Nat → Option (Int32 × tk_AH × Nat)), (∀ (x0 : Nat) (x1 : Int32) (x3 : Int32) (x4 : Int32) (h : tk_AH) (sz : Nat) (H : Heap) (locs : List Loc) (ls : Array Slot), k164 x0 x1 x3 x4 h sz = some (r9, h9, sz9) → tk_sw G s h sz H locs → lv_has ls 6 [(0, .ref x0), (1, .int x1), (3, .int x3), (4, .int x4)] → W p l e (headSpec (coX5_week :: tk_W) ({ frames := 4, cells := 0, slots := 0, locals := 95 })).room s m args below meth c H locs 0 (0) (MQ below (tk_qc G (some (.int r9)) h9 sz9) args s 0 0 (tk_ag G)) (F0 m 164 ls [])) → ∀ (x0 : Nat) (x1 : Int32) (x3 : Int32) (x4 : Int32) (h : tk_AH) (sz : Nat) (H : Heap) (locs : List Loc) (ls : Array Slot), fX5_week_209 N k164 x0 x1 x3 x4 h sz = some (r9, h9, sz9) → tk_sw G s h sz H locs → lv_has ls 6 [(0, .ref x0), (1, .int x1), (3, .int x3), (4, .int x4)] → W p l e (headSpec (coX5_week :: tk_W) ({ frames := 4, cells := 0, slots := 0, locals := 95 })).room s m args below meth c H locs 0 (0) (MQ below (tk_qc G (some (.int r9)) h9 sz9) args s 0 0 (tk_ag G)) (F0 m 209 ls []) := by
    intro k164 hk164 x0 x1 x3 x4 h sz H locs ls hf hs hl
    unfold fX5_week_209 at hf
    refine lv_iinc (v := x4 + 1) (lv' := [(4, .int (x4 + 1)), (0, .ref x0), (1, .int x1), (3, .int x3)]) hx hb dX5_week_209 hl (k := 3) rfl rfl (by decide) rfl (fun ls hl => ?_)
    refine lv_goto (tgt := 164) hx hb dX5_week_212 (by decide) ?_
    exact hk164 x0 x1 x3 (x4 + 1) h sz _ _ _ hf hs (lv_sub hl [1, 2, 3, 0] rfl)
  have j164 : ∀ (n : Nat), ∀ (x0 : Nat) (x1 : Int32) (x3 : Int32) (x4 : Int32) (h : tk_AH) (sz : Nat) (H : Heap) (locs : List Loc) (ls : Array Slot), fX5_week_164 N n x0 x1 x3 x4 h sz = some (r9, h9, sz9) → tk_sw G s h sz H locs → lv_has ls 6 [(0, .ref x0), (1, .int x1), (3, .int x3), (4, .int x4)] → W p l e (headSpec (coX5_week :: tk_W) ({ frames := 4, cells := 0, slots := 0, locals := 95 })).room s m args below meth c H locs 0 (0) (MQ below (tk_qc G (some (.int r9)) h9 sz9) args s 0 0 (tk_ag G)) (F0 m 164 ls []) := by
    intro n
    induction n with
    | zero =>
      intro x0 x1 x3 x4 h sz H locs ls hf
      cases hf
    | succ n ih =>
      intro x0 x1 x3 x4 h sz H locs ls hf hs hl
      rw [fX5_week_164] at hf
      refine lv_iload hx hb dX5_week_164 (lv_at hl 3 rfl) ?_
      refine lv_aload_n hx hb dX5_week_166 rfl (lv_at hl 0 rfl) ?_
      obtain ⟨v1, e1, hf⟩ := tk_bi hf
      refine tk_getI hx hb ht inX5 hown hE hs rfl 1 (by decide) (ht _ wfX5_93) e1 dX5_week_167 ?_
      refine lv_icmp_ge (tgt := 215) hx hb dX5_week_170 (by decide) (fun c2 => ?_) (fun c2 => ?_)
      · rw [if_pos c2] at hf
        refine lv_aload_n hx hb dX5_week_215 rfl (lv_at hl 0 rfl) ?_
        refine lv_dup hx hb dX5_week_216 rfl ?_
        obtain ⟨v3, e3, hf⟩ := tk_bi hf
        refine tk_getI hx hb ht inX5 hown hE hs rfl 2 (by decide) (ht _ wfX5_167) e3 dX5_week_217 ?_
        refine lv_bipush (v := 7) hx hb dX5_week_220 (by decide) ?_
        refine lv_iadd hx hb dX5_week_222 ?_
        obtain ⟨h4, e4, hf⟩ := tk_bi hf
        refine tk_put hx hb ht inX5 tyX5 tyX5_ok nmX5 hown hE hs rfl 2 (by decide) (ht _ wfX5_167) rfl rfl rfl e4 dX5_week_223 (fun H locs hs => ?_)
        refine lv_aload_n hx hb dX5_week_226 rfl (lv_at hl 0 rfl) ?_
        refine lv_dup hx hb dX5_week_227 rfl ?_
        obtain ⟨v5, e5, hf⟩ := tk_bi hf
        refine tk_getI hx hb ht inX5 hown hE hs rfl 3 (by decide) (ht _ wfX5_170) e5 dX5_week_228 ?_
        refine lv_iconst (v := 1) hx hb dX5_week_231 (by decide) ?_
        refine lv_iadd hx hb dX5_week_232 ?_
        obtain ⟨h6, e6, hf⟩ := tk_bi hf
        refine tk_put hx hb ht inX5 tyX5 tyX5_ok nmX5 hown hE hs rfl 3 (by decide) (ht _ wfX5_170) rfl rfl rfl e6 dX5_week_233 (fun H locs hs => ?_)
        refine lv_aload_n hx hb dX5_week_236 rfl (lv_at hl 0 rfl) ?_
        refine lv_dup hx hb dX5_week_237 rfl ?_
        obtain ⟨v7, e7, hf⟩ := tk_bi hf
        refine tk_getI hx hb ht inX5 hown hE hs rfl 4 (by decide) (ht _ wfX5_173) e7 dX5_week_238 ?_
        refine lv_iload_n hx hb dX5_week_241 rfl (lv_at hl 1 rfl) ?_
        refine lv_iadd hx hb dX5_week_242 ?_
        obtain ⟨h8, e8, hf⟩ := tk_bi hf
        refine tk_put hx hb ht inX5 tyX5 tyX5_ok nmX5 hown hE hs rfl 4 (by decide) (ht _ wfX5_173) rfl rfl rfl e8 dX5_week_243 (fun H locs hs => ?_)
        refine lv_iload_n hx hb dX5_week_246 rfl (lv_at hl 1 rfl) ?_
        cases hf
        exact tk_iret hx hb hr hlocks hs dX5_week_247
      · rw [if_neg c2] at hf
        refine lv_aload_n hx hb dX5_week_173 rfl (lv_at hl 0 rfl) ?_
        obtain ⟨v9, e9, hf⟩ := tk_bi hf
        refine tk_getR hx hb ht inX5 hown hE hs rfl 18 (by decide) (ht _ wfX5_46) e9 dX5_week_174 ?_
        refine lv_iload hx hb dX5_week_177 (lv_at hl 3 rfl) ?_
        refine lv_iconst (v := 0) hx hb dX5_week_179 (by decide) ?_
        obtain ⟨h10, e10, hf⟩ := tk_bi hf
        refine tk_zast hx hb hE hs (by decide) e10 dX5_week_180 (fun H locs hs => ?_)
        refine lv_iload_n hx hb dX5_week_181 rfl (lv_at hl 2 rfl) ?_
        refine lv_iload hx hb dX5_week_182 (lv_at hl 3 rfl) ?_
        refine lv_ishr hx hb dX5_week_184 ?_
        refine lv_iconst (v := 1) hx hb dX5_week_185 (by decide) ?_
        refine lv_iand hx hb dX5_week_186 ?_
        refine lv_iconst (v := 1) hx hb dX5_week_187 (by decide) ?_
        refine lv_icmp_ne (tgt := 202) hx hb dX5_week_188 (by decide) (fun c11 => ?_) (fun c11 => ?_)
        · rw [if_neg c11] at hf
          refine lv_aload_n hx hb dX5_week_202 rfl (lv_at hl 0 rfl) ?_
          refine lv_iload hx hb dX5_week_203 (lv_at hl 3 rfl) ?_
          refine lv_iconst (v := 1) hx hb dX5_week_205 (by decide) ?_
          obtain ⟨_, p12, hf⟩ := tk_bi hf
          obtain ⟨o12, e12, hf⟩ := tk_bi hf
          refine tk_call0 (v := none) hs (va_runV (As := [.int x4, .int 1]) (rest := []) ⟨hx, hb, hml, hown, ht⟩ (cX5_more_ok l hl0 G N x0 x4 1 h10 sz o12.1 o12.2 e12) (kwX5_more ht wmX5_163 rfl rfl ⟨Nat.le_of_ble_eq_true rfl, Nat.le_of_ble_eq_true rfl⟩) (tk_preV hE hs (tk_ok_ok p12) rfl) rfl rfl hl.1 rfl (lv_room (Nat.le_of_ble_eq_true rfl)) dX5_week_206 ⟨(Nat.le_of_ble_eq_true rfl), (Nat.le_of_ble_eq_true rfl)⟩) (fun H locs hs => ?_)
          refine W.eq (g2 := F0 m 209 ls []) rfl ?_
          exact j209 (fX5_week_164 N n) ih x0 x1 x3 x4 o12.1 o12.2 _ _ _ hf hs (lv_sub hl [0, 1, 2, 3] rfl)
        · rw [if_pos c11] at hf
          refine lv_aload_n hx hb dX5_week_191 rfl (lv_at hl 0 rfl) ?_
          obtain ⟨v14, e14, hf⟩ := tk_bi hf
          refine tk_getR hx hb ht inX5 hown hE hs rfl 14 (by decide) (ht _ wfX5_37) e14 dX5_week_192 ?_
          refine lv_iload hx hb dX5_week_195 (lv_at hl 3 rfl) ?_
          refine lv_iconst (v := 0) hx hb dX5_week_197 (by decide) ?_
          obtain ⟨h15, e15, hf⟩ := tk_bi hf
          refine tk_iast hx hb hE hs e15 dX5_week_198 (fun H locs hs => ?_)
          refine lv_goto (tgt := 209) hx hb dX5_week_199 (by decide) ?_
          exact j209 (fX5_week_164 N n) ih x0 x1 x3 x4 h15 sz _ _ _ hf hs (lv_sub hl [0, 1, 2, 3] rfl)
  have j144 : ∀ (k31 : Nat → Int32 → Int32 → Int32 → tk_AH → Nat → Option (Int32 × tk_AH × Nat)), (∀ (x0 : Nat) (x1 : Int32) (x2 : Int32) (x3 : Int32) (h : tk_AH) (sz : Nat) (H : Heap) (locs : List Loc) (ls : Array Slot), k31 x0 x1 x2 x3 h sz = some (r9, h9, sz9) → tk_sw G s h sz H locs → lv_has ls 6 [(0, .ref x0), (1, .int x1), (2, .int x2), (3, .int x3)] → W p l e (headSpec (coX5_week :: tk_W) ({ frames := 4, cells := 0, slots := 0, locals := 95 })).room s m args below meth c H locs 0 (0) (MQ below (tk_qc G (some (.int r9)) h9 sz9) args s 0 0 (tk_ag G)) (F0 m 31 ls [])) → ∀ (x0 : Nat) (x2 : Int32) (x3 : Int32) (x5 : Int32) (y0 : Int32) (y1 : Int32) (h : tk_AH) (sz : Nat) (H : Heap) (locs : List Loc) (ls : Array Slot), fX5_week_144 N k31 x0 x2 x3 x5 y0 y1 h sz = some (r9, h9, sz9) → tk_sw G s h sz H locs → lv_has ls 6 [(0, .ref x0), (2, .int x2), (3, .int x3), (5, .int x5)] → W p l e (headSpec (coX5_week :: tk_W) ({ frames := 4, cells := 0, slots := 0, locals := 95 })).room s m args below meth c H locs 0 (0) (MQ below (tk_qc G (some (.int r9)) h9 sz9) args s 0 0 (tk_ag G)) (F0 m 144 ls [.int y0, .int y1]) := by
    intro k31 hk31 x0 x2 x3 x5 y0 y1 h sz H locs ls hf hs hl
    unfold fX5_week_144 at hf
    refine lv_iadd hx hb dX5_week_144 ?_
    refine lv_istore_n (lv' := [(1, .int (y1 + y0)), (0, .ref x0), (2, .int x2), (3, .int x3), (5, .int x5)]) hx hb dX5_week_145 rfl hl (by decide) rfl (fun ls hl => ?_)
    refine lv_iload_n hx hb dX5_week_146 rfl (lv_at hl 2 rfl) ?_
    refine lv_aload_n hx hb dX5_week_147 rfl (lv_at hl 1 rfl) ?_
    obtain ⟨v16, e16, hf⟩ := tk_bi hf
    refine tk_getR hx hb ht inX5 hown hE hs rfl 29 (by decide) (ht _ wfX5_71) e16 dX5_week_148 ?_
    refine lv_iload hx hb dX5_week_151 (lv_at hl 4 rfl) ?_
    obtain ⟨v17, e17, hf⟩ := tk_bi hf
    refine tk_iald hx hb hE hs e17 dX5_week_153 ?_
    refine lv_iconst (v := (-1)) hx hb dX5_week_154 (by decide) ?_
    refine lv_ixor hx hb dX5_week_155 ?_
    refine lv_iand hx hb dX5_week_156 ?_
    refine lv_istore_n (lv' := [(2, .int (x2 &&& (v17 ^^^ (-1)))), (1, .int (y1 + y0)), (0, .ref x0), (3, .int x3), (5, .int x5)]) hx hb dX5_week_157 rfl hl (by decide) rfl (fun ls hl => ?_)
    refine lv_goto (tgt := 31) hx hb dX5_week_158 (by decide) ?_
    exact hk31 x0 (y1 + y0) (x2 &&& (v17 ^^^ (-1))) x3 h sz _ _ _ hf hs (lv_sub hl [2, 1, 0, 3] rfl)
  have j81 : ∀ (k31 : Nat → Int32 → Int32 → Int32 → tk_AH → Nat → Option (Int32 × tk_AH × Nat)), (∀ (x0 : Nat) (x1 : Int32) (x2 : Int32) (x3 : Int32) (h : tk_AH) (sz : Nat) (H : Heap) (locs : List Loc) (ls : Array Slot), k31 x0 x1 x2 x3 h sz = some (r9, h9, sz9) → tk_sw G s h sz H locs → lv_has ls 6 [(0, .ref x0), (1, .int x1), (2, .int x2), (3, .int x3)] → W p l e (headSpec (coX5_week :: tk_W) ({ frames := 4, cells := 0, slots := 0, locals := 95 })).room s m args below meth c H locs 0 (0) (MQ below (tk_qc G (some (.int r9)) h9 sz9) args s 0 0 (tk_ag G)) (F0 m 31 ls [])) → ∀ (x0 : Nat) (x1 : Int32) (x2 : Int32) (x3 : Int32) (x4 : Int32) (x5 : Int32) (h : tk_AH) (sz : Nat) (H : Heap) (locs : List Loc) (ls : Array Slot), fX5_week_81 N k31 x0 x1 x2 x3 x4 x5 h sz = some (r9, h9, sz9) → tk_sw G s h sz H locs → lv_has ls 6 [(0, .ref x0), (1, .int x1), (2, .int x2), (3, .int x3), (4, .int x4), (5, .int x5)] → W p l e (headSpec (coX5_week :: tk_W) ({ frames := 4, cells := 0, slots := 0, locals := 95 })).room s m args below meth c H locs 0 (0) (MQ below (tk_qc G (some (.int r9)) h9 sz9) args s 0 0 (tk_ag G)) (F0 m 81 ls []) := by
    intro k31 hk31 x0 x1 x2 x3 x4 x5 h sz H locs ls hf hs hl
    unfold fX5_week_81 at hf
    refine lv_iload hx hb dX5_week_81 (lv_at hl 5 rfl) ?_
    refine lv_aload_n hx hb dX5_week_83 rfl (lv_at hl 0 rfl) ?_
    obtain ⟨v18, e18, hf⟩ := tk_bi hf
    refine tk_getR hx hb ht inX5 hown hE hs rfl 31 (by decide) (ht _ wfX5_77) e18 dX5_week_84 ?_
    refine lv_iload hx hb dX5_week_87 (lv_at hl 4 rfl) ?_
    refine lv_iconst (v := 1) hx hb dX5_week_89 (by decide) ?_
    refine lv_iadd hx hb dX5_week_90 ?_
    obtain ⟨v19, e19, hf⟩ := tk_bi hf
    refine tk_iald hx hb hE hs e19 dX5_week_91 ?_
    refine lv_icmp_ne (tgt := 107) hx hb dX5_week_92 (by decide) (fun c20 => ?_) (fun c20 => ?_)
    · rw [if_neg c20] at hf
      refine lv_aload_n hx hb dX5_week_107 rfl (lv_at hl 0 rfl) ?_
      refine lv_iload hx hb dX5_week_108 (lv_at hl 5 rfl) ?_
      obtain ⟨_, p21, hf⟩ := tk_bi hf
      obtain ⟨o21, e21, hf⟩ := tk_bi hf
      refine tk_call0 (v := none) hs (va_runV (As := [.int x5]) (rest := []) ⟨hx, hb, hml, hown, ht⟩ (cX5_taken_ok l hl0 G N x0 x5 h sz o21.1 o21.2 e21) (kwX5_taken ht wmX5_159 rfl rfl ⟨Nat.le_of_ble_eq_true rfl, Nat.le_of_ble_eq_true rfl⟩) (tk_preV hE hs (tk_ok_ok p21) rfl) rfl rfl hl.1 rfl (lv_room (Nat.le_of_ble_eq_true rfl)) dX5_week_110 ⟨(Nat.le_of_ble_eq_true rfl), (Nat.le_of_ble_eq_true rfl)⟩) (fun H locs hs => ?_)
      refine W.eq (g2 := F0 m 113 ls []) rfl ?_
      refine lv_iload_n hx hb dX5_week_113 rfl (lv_at hl 3 rfl) ?_
      refine lv_aload_n hx hb dX5_week_114 rfl (lv_at hl 0 rfl) ?_
      obtain ⟨v23, e23, hf⟩ := tk_bi hf
      refine tk_getR hx hb ht inX5 hown hE hs rfl 29 (by decide) (ht _ wfX5_71) e23 dX5_week_115 ?_
      refine lv_iload hx hb dX5_week_118 (lv_at hl 5 rfl) ?_
      obtain ⟨v24, e24, hf⟩ := tk_bi hf
      refine tk_iald hx hb hE hs e24 dX5_week_120 ?_
      refine lv_ior hx hb dX5_week_121 ?_
      refine lv_istore_n (lv' := [(3, .int (x3 ||| v24)), (0, .ref x0), (1, .int x1), (2, .int x2), (4, .int x4), (5, .int x5)]) hx hb dX5_week_122 rfl hl (by decide) rfl (fun ls hl => ?_)
      refine lv_iload_n hx hb dX5_week_123 rfl (lv_at hl 2 rfl) ?_
      refine lv_aload_n hx hb dX5_week_124 rfl (lv_at hl 1 rfl) ?_
      obtain ⟨v25, e25, hf⟩ := tk_bi hf
      refine tk_getR hx hb ht inX5 hown hE hs rfl 28 (by decide) (ht _ wfX5_68) e25 dX5_week_125 ?_
      refine lv_iconst (v := 3) hx hb dX5_week_128 (by decide) ?_
      refine lv_iload hx hb dX5_week_129 (lv_at hl 5 rfl) ?_
      refine lv_imul hx hb dX5_week_131 ?_
      refine lv_iconst (v := 2) hx hb dX5_week_132 (by decide) ?_
      refine lv_iadd hx hb dX5_week_133 ?_
      obtain ⟨v26, e26, hf⟩ := tk_bi hf
      refine tk_iald hx hb hE hs e26 dX5_week_134 ?_
      refine lv_iconst (v := (-1)) hx hb dX5_week_135 (by decide) ?_
      refine lv_icmp_ne (tgt := 143) hx hb dX5_week_136 (by decide) (fun c27 => ?_) (fun c27 => ?_)
      · rw [if_neg c27] at hf
        refine lv_iconst (v := 3) hx hb dX5_week_143 (by decide) ?_
        exact j144 k31 hk31 x0 x2 (x3 ||| v24) x5 3 x1 o21.1 o21.2 _ _ _ hf hs (lv_sub hl [1, 3, 0, 5] rfl)
      · rw [if_pos c27] at hf
        refine lv_iconst (v := 2) hx hb dX5_week_139 (by decide) ?_
        refine lv_goto (tgt := 144) hx hb dX5_week_140 (by decide) ?_
        exact j144 k31 hk31 x0 x2 (x3 ||| v24) x5 2 x1 o21.1 o21.2 _ _ _ hf hs (lv_sub hl [1, 3, 0, 5] rfl)
    · rw [if_pos c20] at hf
      refine lv_iload_n hx hb dX5_week_95 rfl (lv_at hl 2 rfl) ?_
      refine lv_iconst (v := 1) hx hb dX5_week_96 (by decide) ?_
      refine lv_iload hx hb dX5_week_97 (lv_at hl 4 rfl) ?_
      refine lv_ishl hx hb dX5_week_99 ?_
      refine lv_iconst (v := (-1)) hx hb dX5_week_100 (by decide) ?_
      refine lv_ixor hx hb dX5_week_101 ?_
      refine lv_iand hx hb dX5_week_102 ?_
      refine lv_istore_n (lv' := [(2, .int (x2 &&& ((1 <<< (x4 &&& 31)) ^^^ (-1)))), (0, .ref x0), (1, .int x1), (3, .int x3), (4, .int x4), (5, .int x5)]) hx hb dX5_week_103 rfl hl (by decide) rfl (fun ls hl => ?_)
      refine lv_goto (tgt := 31) hx hb dX5_week_104 (by decide) ?_
      exact hk31 x0 x1 (x2 &&& ((1 <<< (x4 &&& 31)) ^^^ (-1))) x3 h sz _ _ _ hf hs (lv_sub hl [1, 2, 0, 3] rfl)
  have j51 : ∀ (k81 : Nat → Int32 → Int32 → Int32 → Int32 → Int32 → tk_AH → Nat → Option (Int32 × tk_AH × Nat)), (∀ (x0 : Nat) (x1 : Int32) (x2 : Int32) (x3 : Int32) (x4 : Int32) (x5 : Int32) (h : tk_AH) (sz : Nat) (H : Heap) (locs : List Loc) (ls : Array Slot), k81 x0 x1 x2 x3 x4 x5 h sz = some (r9, h9, sz9) → tk_sw G s h sz H locs → lv_has ls 6 [(0, .ref x0), (1, .int x1), (2, .int x2), (3, .int x3), (4, .int x4), (5, .int x5)] → W p l e (headSpec (coX5_week :: tk_W) ({ frames := 4, cells := 0, slots := 0, locals := 95 })).room s m args below meth c H locs 0 (0) (MQ below (tk_qc G (some (.int r9)) h9 sz9) args s 0 0 (tk_ag G)) (F0 m 81 ls [])) → ∀ (n : Nat), ∀ (x0 : Nat) (x1 : Int32) (x2 : Int32) (x3 : Int32) (x4 : Int32) (x5 : Int32) (h : tk_AH) (sz : Nat) (H : Heap) (locs : List Loc) (ls : Array Slot), fX5_week_51 N k81 n x0 x1 x2 x3 x4 x5 h sz = some (r9, h9, sz9) → tk_sw G s h sz H locs → lv_has ls 6 [(0, .ref x0), (1, .int x1), (2, .int x2), (3, .int x3), (4, .int x4), (5, .int x5)] → W p l e (headSpec (coX5_week :: tk_W) ({ frames := 4, cells := 0, slots := 0, locals := 95 })).room s m args below meth c H locs 0 (0) (MQ below (tk_qc G (some (.int r9)) h9 sz9) args s 0 0 (tk_ag G)) (F0 m 51 ls []) := by
    intro k81 hk81 n
    induction n with
    | zero =>
      intro x0 x1 x2 x3 x4 x5 h sz H locs ls hf
      cases hf
    | succ n ih =>
      intro x0 x1 x2 x3 x4 x5 h sz H locs ls hf hs hl
      rw [fX5_week_51] at hf
      refine lv_iload hx hb dX5_week_51 (lv_at hl 5 rfl) ?_
      refine lv_aload_n hx hb dX5_week_53 rfl (lv_at hl 0 rfl) ?_
      obtain ⟨v28, e28, hf⟩ := tk_bi hf
      refine tk_getR hx hb ht inX5 hown hE hs rfl 31 (by decide) (ht _ wfX5_77) e28 dX5_week_54 ?_
      refine lv_iload hx hb dX5_week_57 (lv_at hl 4 rfl) ?_
      refine lv_iconst (v := 1) hx hb dX5_week_59 (by decide) ?_
      refine lv_iadd hx hb dX5_week_60 ?_
      obtain ⟨v29, e29, hf⟩ := tk_bi hf
      refine tk_iald hx hb hE hs e29 dX5_week_61 ?_
      refine lv_icmp_ge (tgt := 81) hx hb dX5_week_62 (by decide) (fun c30 => ?_) (fun c30 => ?_)
      · rw [if_pos c30] at hf
        exact hk81 x0 x1 x2 x3 x4 x5 h sz _ _ _ hf hs (lv_sub hl [0, 1, 2, 3, 4, 5] rfl)
      · rw [if_neg c30] at hf
        refine lv_aload_n hx hb dX5_week_65 rfl (lv_at hl 0 rfl) ?_
        refine lv_iload hx hb dX5_week_66 (lv_at hl 5 rfl) ?_
        refine lv_iload_n hx hb dX5_week_68 rfl (lv_at hl 2 rfl) ?_
        obtain ⟨_, p31, hf⟩ := tk_bi hf
        obtain ⟨o31, e31, hf⟩ := tk_bi hf
        refine tk_call0 (v := some (.int o31.1)) hs (va_runV (As := [.int x5, .int x2]) (rest := []) ⟨hx, hb, hml, hown, ht⟩ (cX5_isBest_ok l hl0 G N x0 x5 x2 h sz o31.1 o31.2.1 o31.2.2 e31) (kwX5_isBest ht wmX5_156 rfl rfl ⟨Nat.le_of_ble_eq_true rfl, Nat.le_of_ble_eq_true rfl⟩) (tk_preV hE hs (tk_ok_ok p31) rfl) rfl rfl hl.1 rfl (lv_room (Nat.le_of_ble_eq_true rfl)) dX5_week_69 ⟨(Nat.le_of_ble_eq_true rfl), (Nat.le_of_ble_eq_true rfl)⟩) (fun H locs hs => ?_)
        refine W.eq (g2 := F0 m 72 ls [.int o31.1]) rfl ?_
        refine lv_if_ne (tgt := 81) hx hb dX5_week_72 (by decide) (fun c33 => ?_) (fun c33 => ?_)
        · rw [if_neg c33] at hf
          exact hk81 x0 x1 x2 x3 x4 x5 o31.2.1 o31.2.2 _ _ _ hf hs (lv_sub hl [0, 1, 2, 3, 4, 5] rfl)
        · rw [if_pos c33] at hf
          refine lv_iinc (v := x5 + 1) (lv' := [(5, .int (x5 + 1)), (0, .ref x0), (1, .int x1), (2, .int x2), (3, .int x3), (4, .int x4)]) hx hb dX5_week_75 hl (k := 5) rfl rfl (by decide) rfl (fun ls hl => ?_)
          refine lv_goto (tgt := 51) hx hb dX5_week_78 (by decide) ?_
          exact ih x0 x1 x2 x3 x4 (x5 + 1) o31.2.1 o31.2.2 _ _ _ hf hs (lv_sub hl [1, 2, 3, 4, 5, 0] rfl)
  have j31 : ∀ (k164 : Nat → Int32 → Int32 → Int32 → tk_AH → Nat → Option (Int32 × tk_AH × Nat)), (∀ (x0 : Nat) (x1 : Int32) (x3 : Int32) (x4 : Int32) (h : tk_AH) (sz : Nat) (H : Heap) (locs : List Loc) (ls : Array Slot), k164 x0 x1 x3 x4 h sz = some (r9, h9, sz9) → tk_sw G s h sz H locs → lv_has ls 6 [(0, .ref x0), (1, .int x1), (3, .int x3), (4, .int x4)] → W p l e (headSpec (coX5_week :: tk_W) ({ frames := 4, cells := 0, slots := 0, locals := 95 })).room s m args below meth c H locs 0 (0) (MQ below (tk_qc G (some (.int r9)) h9 sz9) args s 0 0 (tk_ag G)) (F0 m 164 ls [])) → ∀ (n : Nat), ∀ (x0 : Nat) (x1 : Int32) (x2 : Int32) (x3 : Int32) (h : tk_AH) (sz : Nat) (H : Heap) (locs : List Loc) (ls : Array Slot), fX5_week_31 N k164 n x0 x1 x2 x3 h sz = some (r9, h9, sz9) → tk_sw G s h sz H locs → lv_has ls 6 [(0, .ref x0), (1, .int x1), (2, .int x2), (3, .int x3)] → W p l e (headSpec (coX5_week :: tk_W) ({ frames := 4, cells := 0, slots := 0, locals := 95 })).room s m args below meth c H locs 0 (0) (MQ below (tk_qc G (some (.int r9)) h9 sz9) args s 0 0 (tk_ag G)) (F0 m 31 ls []) := by
    intro k164 hk164 n
    induction n with
    | zero =>
      intro x0 x1 x2 x3 h sz H locs ls hf
      cases hf
    | succ n ih =>
      intro x0 x1 x2 x3 h sz H locs ls hf hs hl
      rw [fX5_week_31] at hf
      refine lv_iload_n hx hb dX5_week_31 rfl (lv_at hl 2 rfl) ?_
      refine lv_if_eq (tgt := 161) hx hb dX5_week_32 (by decide) (fun c34 => ?_) (fun c34 => ?_)
      · rw [if_pos c34] at hf
        refine lv_iconst (v := 0) hx hb dX5_week_161 (by decide) ?_
        refine lv_istore (lv' := [(4, .int 0), (0, .ref x0), (1, .int x1), (2, .int x2), (3, .int x3)]) hx hb dX5_week_162 hl (by decide) rfl (fun ls hl => ?_)
        exact hk164 x0 x1 x3 0 h sz _ _ _ hf hs (lv_sub hl [1, 2, 4, 0] rfl)
      · rw [if_neg c34] at hf
        refine lv_aload_n hx hb dX5_week_35 rfl (lv_at hl 0 rfl) ?_
        refine lv_iload_n hx hb dX5_week_36 rfl (lv_at hl 2 rfl) ?_
        obtain ⟨_, p35, hf⟩ := tk_bi hf
        obtain ⟨o35, e35, hf⟩ := tk_bi hf
        refine tk_call0 (v := some (.int o35.1)) hs (va_runV (As := [.int x2]) (rest := []) ⟨hx, hb, hml, hown, ht⟩ (cX5_least_ok l hl0 G N x0 x2 h sz o35.1 o35.2.1 o35.2.2 e35) (kwX5_least ht wmX5_143 rfl rfl ⟨Nat.le_of_ble_eq_true rfl, Nat.le_of_ble_eq_true rfl⟩) (tk_preV hE hs (tk_ok_ok p35) rfl) rfl rfl hl.1 rfl (lv_room (Nat.le_of_ble_eq_true rfl)) dX5_week_37 ⟨(Nat.le_of_ble_eq_true rfl), (Nat.le_of_ble_eq_true rfl)⟩) (fun H locs hs => ?_)
        refine W.eq (g2 := F0 m 40 ls [.int o35.1]) rfl ?_
        refine lv_istore (lv' := [(4, .int o35.1), (0, .ref x0), (1, .int x1), (2, .int x2), (3, .int x3)]) hx hb dX5_week_40 hl (by decide) rfl (fun ls hl => ?_)
        refine lv_aload_n hx hb dX5_week_42 rfl (lv_at hl 1 rfl) ?_
        obtain ⟨v37, e37, hf⟩ := tk_bi hf
        refine tk_getR hx hb ht inX5 hown hE hs rfl 31 (by decide) (ht _ wfX5_77) e37 dX5_week_43 ?_
        refine lv_iload hx hb dX5_week_46 (lv_at hl 0 rfl) ?_
        obtain ⟨v38, e38, hf⟩ := tk_bi hf
        refine tk_iald hx hb hE hs e38 dX5_week_48 ?_
        refine lv_istore (lv' := [(5, .int v38), (4, .int o35.1), (0, .ref x0), (1, .int x1), (2, .int x2), (3, .int x3)]) hx hb dX5_week_49 hl (by decide) rfl (fun ls hl => ?_)
        exact j51 (fX5_week_81 N (fX5_week_31 N k164 n)) (j81 (fX5_week_31 N k164 n) ih) N x0 x1 x2 x3 o35.1 v38 o35.2.1 o35.2.2 _ _ _ hf hs (lv_sub hl [2, 3, 4, 5, 1, 0] rfl)
  unfold fX5_week at hf
  refine lv_aload_n hx hb dX5_week_0 rfl (lv_at hl 0 rfl) ?_
  refine lv_iconst (v := 0) hx hb dX5_week_1 (by decide) ?_
  obtain ⟨h39, e39, hf⟩ := tk_bi hf
  refine tk_put hx hb ht inX5 tyX5 tyX5_ok nmX5 hown hE hs rfl 0 (by decide) (ht _ wfX5_89) rfl rfl rfl e39 dX5_week_2 (fun H locs hs => ?_)
  refine lv_aload_n hx hb dX5_week_5 rfl (lv_at hl 0 rfl) ?_
  obtain ⟨_, p40, hf⟩ := tk_bi hf
  obtain ⟨o40, e40, hf⟩ := tk_bi hf
  refine tk_call0 (v := none) hs (va_runV (As := []) (rest := []) ⟨hx, hb, hml, hown, ht⟩ (cX5_finds_ok l hl0 G N x0 h39 sz o40.1 o40.2 e40) (kwX5_finds ht wmX5_147 rfl rfl ⟨Nat.le_of_ble_eq_true rfl, Nat.le_of_ble_eq_true rfl⟩) (tk_preV hE hs (tk_ok_ok p40) rfl) rfl rfl hl.1 rfl (lv_room (Nat.le_of_ble_eq_true rfl)) dX5_week_6 ⟨(Nat.le_of_ble_eq_true rfl), (Nat.le_of_ble_eq_true rfl)⟩) (fun H locs hs => ?_)
  refine W.eq (g2 := F0 m 9 ls []) rfl ?_
  refine lv_aload_n hx hb dX5_week_9 rfl (lv_at hl 0 rfl) ?_
  obtain ⟨_, p42, hf⟩ := tk_bi hf
  obtain ⟨o42, e42, hf⟩ := tk_bi hf
  refine tk_call0 (v := none) hs (va_runV (As := []) (rest := []) ⟨hx, hb, hml, hown, ht⟩ (cX5_serves_ok l hl0 G N x0 o40.1 o40.2 o42.1 o42.2 e42) (kwX5_serves ht wmX5_150 rfl rfl ⟨Nat.le_of_ble_eq_true rfl, Nat.le_of_ble_eq_true rfl⟩) (tk_preV hE hs (tk_ok_ok p42) rfl) rfl rfl hl.1 rfl (lv_room (Nat.le_of_ble_eq_true rfl)) dX5_week_10 ⟨(Nat.le_of_ble_eq_true rfl), (Nat.le_of_ble_eq_true rfl)⟩) (fun H locs hs => ?_)
  refine W.eq (g2 := F0 m 13 ls []) rfl ?_
  refine lv_aload_n hx hb dX5_week_13 rfl (lv_at hl 0 rfl) ?_
  refine lv_iconst (v := 0) hx hb dX5_week_14 (by decide) ?_
  obtain ⟨h44, e44, hf⟩ := tk_bi hf
  refine tk_put hx hb ht inX5 tyX5 tyX5_ok nmX5 hown hE hs rfl 15 (by decide) (ht _ wfX5_153) rfl rfl rfl e44 dX5_week_15 (fun H locs hs => ?_)
  refine lv_iconst (v := 0) hx hb dX5_week_18 (by decide) ?_
  refine lv_istore_n (lv' := [(1, .int 0), (0, .ref x0)]) hx hb dX5_week_19 rfl hl (by decide) rfl (fun ls hl => ?_)
  refine lv_iconst (v := 1) hx hb dX5_week_20 (by decide) ?_
  refine lv_aload_n hx hb dX5_week_21 rfl (lv_at hl 1 rfl) ?_
  obtain ⟨v45, e45, hf⟩ := tk_bi hf
  refine tk_getI hx hb ht inX5 hown hE hs rfl 1 (by decide) (ht _ wfX5_93) e45 dX5_week_22 ?_
  refine lv_ishl hx hb dX5_week_25 ?_
  refine lv_iconst (v := 1) hx hb dX5_week_26 (by decide) ?_
  refine lv_isub hx hb dX5_week_27 ?_
  refine lv_istore_n (lv' := [(2, .int ((1 <<< (v45 &&& 31)) - 1)), (1, .int 0), (0, .ref x0)]) hx hb dX5_week_28 rfl hl (by decide) rfl (fun ls hl => ?_)
  refine lv_iconst (v := 0) hx hb dX5_week_29 (by decide) ?_
  refine lv_istore_n (lv' := [(3, .int 0), (2, .int ((1 <<< (v45 &&& 31)) - 1)), (1, .int 0), (0, .ref x0)]) hx hb dX5_week_30 rfl hl (by decide) rfl (fun ls hl => ?_)
  exact j31 (fX5_week_164 N N) (j164 N) N x0 0 ((1 <<< (v45 &&& 31)) - 1) 0 h44 o42.2 _ _ _ hf hs (lv_sub hl [3, 2, 1, 0] rfl)
def fX5_rings (N : Nat) (x0 : Nat) (h : tk_AH) (sz : Nat) : Option (Int32 × tk_AH × Nat) :=
  (tk_pF h 5 0 x0 (.int 0)).bind fun h1 =>
  (tk_gI h1 5 15 x0).bind fun v2 =>
  some (v2, h1, sz)
set_option maxHeartbeats 8000000 in
set_option maxRecDepth 100000 in
theorem cX5_rings_ok (l : Launch) (hl0 : l.stackTraces = false) (G : tk_AG) (N : Nat) (x0 : Nat) (h : tk_AH) (sz : Nat) (r9 : Int32) (h9 : tk_AH) (sz9 : Nat) (hf : fX5_rings N x0 h sz = some (r9, h9, sz9)) : Met l yX5_rings (coX5_rings :: tk_W) ({ frames := 0, cells := 0, slots := 0, locals := 0 }) (tk_pc G [.ref x0] h sz) (tk_qc G (some (.int r9)) h9 sz9) 0 0 (tk_ag G) := by
  refine Met.ofW (cc := cX5_rings) (maxL := 1) (ret := (some .int)) (by decide) rfl ?_
  intro p e s m args below meth c s₁ B hml hv
  obtain ⟨hav, hE, hrp, hsz, hgs⟩ := hv
  have hx := B.exec
  have hb := B.bytes
  have hr := B.returns
  have hts := atoms_spec (ws := coX5_rings :: tk_W) B.pre
  have ht : ∀ w ∈ tk_W, w.before args s = true := fun w h => hts w (List.mem_cons_of_mem _ h)
  have hown : s.vm.findClass RX5 = some m.cls := findClass_of_methodNamed B.named
  have hlocks := B.notSynchronized
  have hs : tk_sw G s h sz s.heap [] := ⟨hrp, hsz, by rw [hsz]; exact hgs, va_S.rf⟩
  have hl := lv_entry ([.ref x0]) (n := 1) (Nat.le_of_ble_eq_true rfl)
  have hent : entryFrame m args 1 = F0 m 0 (lg_sl ([.ref x0]) ++ List.replicate (1 - (lg_sl ([.ref x0])).length) Slot.unset).toArray [] := by rw [hav, lg_entry_eq]
  rw [hent]
  clear hent
  generalize (lg_sl ([.ref x0]) ++ List.replicate (1 - (lg_sl ([.ref x0])).length) Slot.unset).toArray = ls at hl ⊢
  have hl : lv_has ls 1 [(0, .ref x0)] := hl
  unfold fX5_rings at hf
  refine lv_aload_n hx hb dX5_rings_0 rfl (lv_at hl 0 rfl) ?_
  refine lv_iconst (v := 0) hx hb dX5_rings_1 (by decide) ?_
  obtain ⟨h1, e1, hf⟩ := tk_bi hf
  refine tk_put hx hb ht inX5 tyX5 tyX5_ok nmX5 hown hE hs rfl 0 (by decide) (ht _ wfX5_89) rfl rfl rfl e1 dX5_rings_2 (fun H locs hs => ?_)
  refine lv_aload_n hx hb dX5_rings_5 rfl (lv_at hl 0 rfl) ?_
  obtain ⟨v2, e2, hf⟩ := tk_bi hf
  refine tk_getI hx hb ht inX5 hown hE hs rfl 15 (by decide) (ht _ wfX5_153) e2 dX5_rings_6 ?_
  cases hf
  exact tk_iret hx hb hr hlocks hs dX5_rings_9
def fX5_ringOf_71 (N : Nat) (y0 : Int32) (h : tk_AH) (sz : Nat) : Option (Int32 × tk_AH × Nat) :=
  some (y0, h, sz)
def fX5_ringOf_32 (N : Nat) (x0 : Nat) (x1 : Int32) (x2 : Int32) (y0 : Int32) (y1 : Nat) (h : tk_AH) (sz : Nat) : Option (Int32 × tk_AH × Nat) :=
  (tk_ok h 5 y1).bind fun _ =>
  (fX5_right N y1 y0 1 h sz).bind fun o1 =>
  if o1.1 = 0 then (
  some (0, o1.2.1, o1.2.2)) else (
  if 3 ≤ x2 then (
  (tk_gR o1.2.1 5 17 x0).bind fun v5 =>
  (tk_aI o1.2.1 0 v5 (((3 * x1) + x2) - 3)).bind fun v6 =>
  fX5_ringOf_71 N v6 o1.2.1 o1.2.2) else (
  (tk_gR o1.2.1 5 16 x0).bind fun v7 =>
  (tk_aI o1.2.1 0 v7 ((3 * x1) + x2)).bind fun v8 =>
  fX5_ringOf_71 N v8 o1.2.1 o1.2.2))
def fX5_ringOf_31 (N : Nat) (x0 : Nat) (x1 : Int32) (x2 : Int32) (y0 : Nat) (h : tk_AH) (sz : Nat) : Option (Int32 × tk_AH × Nat) :=
  fX5_ringOf_32 N x0 x1 x2 0 y0 h sz
def fX5_ringOf (N : Nat) (x0 : Nat) (x1 : Int32) (x2 : Int32) (h : tk_AH) (sz : Nat) : Option (Int32 × tk_AH × Nat) :=
  (tk_pF h 5 0 x0 (.int 0)).bind fun h9 =>
  if x1 < 0 then (
  fX5_ringOf_31 N x0 x1 x2 x0 h9 sz) else (
  (tk_gI h9 5 15 x0).bind fun v11 =>
  if v11 ≤ x1 then (
  fX5_ringOf_31 N x0 x1 x2 x0 h9 sz) else (
  if x2 < 0 then (
  fX5_ringOf_31 N x0 x1 x2 x0 h9 sz) else (
  if 5 < x2 then (
  fX5_ringOf_31 N x0 x1 x2 x0 h9 sz) else (
  fX5_ringOf_32 N x0 x1 x2 1 x0 h9 sz))))
set_option maxHeartbeats 8000000 in
set_option maxRecDepth 100000 in
theorem cX5_ringOf_ok (l : Launch) (hl0 : l.stackTraces = false) (G : tk_AG) (N : Nat) (x0 : Nat) (x1 : Int32) (x2 : Int32) (h : tk_AH) (sz : Nat) (r9 : Int32) (h9 : tk_AH) (sz9 : Nat) (hf : fX5_ringOf N x0 x1 x2 h sz = some (r9, h9, sz9)) : Met l yX5_ringOf (coX5_ringOf :: tk_W) ({ frames := 1, cells := 0, slots := 0, locals := 22 }) (tk_pc G [.ref x0, .int x1, .int x2] h sz) (tk_qc G (some (.int r9)) h9 sz9) 0 0 (tk_ag G) := by
  refine Met.ofW (cc := cX5_ringOf) (maxL := 3) (ret := (some .int)) (by decide) rfl ?_
  intro p e s m args below meth c s₁ B hml hv
  obtain ⟨hav, hE, hrp, hsz, hgs⟩ := hv
  have hx := B.exec
  have hb := B.bytes
  have hr := B.returns
  have hts := atoms_spec (ws := coX5_ringOf :: tk_W) B.pre
  have ht : ∀ w ∈ tk_W, w.before args s = true := fun w h => hts w (List.mem_cons_of_mem _ h)
  have hown : s.vm.findClass RX5 = some m.cls := findClass_of_methodNamed B.named
  have hlocks := B.notSynchronized
  have hs : tk_sw G s h sz s.heap [] := ⟨hrp, hsz, by rw [hsz]; exact hgs, va_S.rf⟩
  have hl := lv_entry ([.ref x0, .int x1, .int x2]) (n := 3) (Nat.le_of_ble_eq_true rfl)
  have hent : entryFrame m args 3 = F0 m 0 (lg_sl ([.ref x0, .int x1, .int x2]) ++ List.replicate (3 - (lg_sl ([.ref x0, .int x1, .int x2])).length) Slot.unset).toArray [] := by rw [hav, lg_entry_eq]
  rw [hent]
  clear hent
  generalize (lg_sl ([.ref x0, .int x1, .int x2]) ++ List.replicate (3 - (lg_sl ([.ref x0, .int x1, .int x2])).length) Slot.unset).toArray = ls at hl ⊢
  have hl : lv_has ls 3 [(0, .ref x0), (1, .int x1), (2, .int x2)] := hl
  have j71 : ∀ (y0 : Int32) (h : tk_AH) (sz : Nat) (H : Heap) (locs : List Loc) (ls : Array Slot), fX5_ringOf_71 N y0 h sz = some (r9, h9, sz9) → tk_sw G s h sz H locs → lv_has ls 3 [] → W p l e (headSpec (coX5_ringOf :: tk_W) ({ frames := 1, cells := 0, slots := 0, locals := 22 })).room s m args below meth c H locs 0 (0) (MQ below (tk_qc G (some (.int r9)) h9 sz9) args s 0 0 (tk_ag G)) (F0 m 71 ls [.int y0]) := by
    intro y0 h sz H locs ls hf hs hl
    unfold fX5_ringOf_71 at hf
    cases hf
    exact tk_iret hx hb hr hlocks hs dX5_ringOf_71
  have j32 : ∀ (x0 : Nat) (x1 : Int32) (x2 : Int32) (y0 : Int32) (y1 : Nat) (h : tk_AH) (sz : Nat) (H : Heap) (locs : List Loc) (ls : Array Slot), fX5_ringOf_32 N x0 x1 x2 y0 y1 h sz = some (r9, h9, sz9) → tk_sw G s h sz H locs → lv_has ls 3 [(0, .ref x0), (1, .int x1), (2, .int x2)] → W p l e (headSpec (coX5_ringOf :: tk_W) ({ frames := 1, cells := 0, slots := 0, locals := 22 })).room s m args below meth c H locs 0 (0) (MQ below (tk_qc G (some (.int r9)) h9 sz9) args s 0 0 (tk_ag G)) (F0 m 32 ls [.int y0, .ref y1]) := by
    intro x0 x1 x2 y0 y1 h sz H locs ls hf hs hl
    unfold fX5_ringOf_32 at hf
    refine lv_iconst (v := 1) hx hb dX5_ringOf_32 (by decide) ?_
    obtain ⟨_, p1, hf⟩ := tk_bi hf
    obtain ⟨o1, e1, hf⟩ := tk_bi hf
    refine tk_call0 (v := some (.int o1.1)) hs (va_runV (As := [.int y0, .int 1]) (rest := []) ⟨hx, hb, hml, hown, ht⟩ (cX5_right_ok l hl0 G N y1 y0 1 h sz o1.1 o1.2.1 o1.2.2 e1) (kwX5_right ht wmX5_96 rfl rfl ⟨Nat.le_of_ble_eq_true rfl, Nat.le_of_ble_eq_true rfl⟩) (tk_preV hE hs (tk_ok_ok p1) rfl) rfl rfl hl.1 rfl (lv_room (Nat.le_of_ble_eq_true rfl)) dX5_ringOf_33 ⟨(Nat.le_of_ble_eq_true rfl), (Nat.le_of_ble_eq_true rfl)⟩) (fun H locs hs => ?_)
    refine W.eq (g2 := F0 m 36 ls [.int o1.1]) rfl ?_
    refine lv_if_ne (tgt := 41) hx hb dX5_ringOf_36 (by decide) (fun c3 => ?_) (fun c3 => ?_)
    · rw [if_neg c3] at hf
      refine lv_iload_n hx hb dX5_ringOf_41 rfl (lv_at hl 2 rfl) ?_
      refine lv_iconst (v := 3) hx hb dX5_ringOf_42 (by decide) ?_
      refine lv_icmp_ge (tgt := 59) hx hb dX5_ringOf_43 (by decide) (fun c4 => ?_) (fun c4 => ?_)
      · rw [if_pos c4] at hf
        refine lv_aload_n hx hb dX5_ringOf_59 rfl (lv_at hl 0 rfl) ?_
        obtain ⟨v5, e5, hf⟩ := tk_bi hf
        refine tk_getR hx hb ht inX5 hown hE hs rfl 17 (by decide) (ht _ wfX5_43) e5 dX5_ringOf_60 ?_
        refine lv_iconst (v := 3) hx hb dX5_ringOf_63 (by decide) ?_
        refine lv_iload_n hx hb dX5_ringOf_64 rfl (lv_at hl 1 rfl) ?_
        refine lv_imul hx hb dX5_ringOf_65 ?_
        refine lv_iload_n hx hb dX5_ringOf_66 rfl (lv_at hl 2 rfl) ?_
        refine lv_iadd hx hb dX5_ringOf_67 ?_
        refine lv_iconst (v := 3) hx hb dX5_ringOf_68 (by decide) ?_
        refine lv_isub hx hb dX5_ringOf_69 ?_
        obtain ⟨v6, e6, hf⟩ := tk_bi hf
        refine tk_iald hx hb hE hs e6 dX5_ringOf_70 ?_
        exact j71 v6 o1.2.1 o1.2.2 _ _ _ hf hs (lv_sub hl [] rfl)
      · rw [if_neg c4] at hf
        refine lv_aload_n hx hb dX5_ringOf_46 rfl (lv_at hl 0 rfl) ?_
        obtain ⟨v7, e7, hf⟩ := tk_bi hf
        refine tk_getR hx hb ht inX5 hown hE hs rfl 16 (by decide) (ht _ wfX5_40) e7 dX5_ringOf_47 ?_
        refine lv_iconst (v := 3) hx hb dX5_ringOf_50 (by decide) ?_
        refine lv_iload_n hx hb dX5_ringOf_51 rfl (lv_at hl 1 rfl) ?_
        refine lv_imul hx hb dX5_ringOf_52 ?_
        refine lv_iload_n hx hb dX5_ringOf_53 rfl (lv_at hl 2 rfl) ?_
        refine lv_iadd hx hb dX5_ringOf_54 ?_
        obtain ⟨v8, e8, hf⟩ := tk_bi hf
        refine tk_iald hx hb hE hs e8 dX5_ringOf_55 ?_
        refine lv_goto (tgt := 71) hx hb dX5_ringOf_56 (by decide) ?_
        exact j71 v8 o1.2.1 o1.2.2 _ _ _ hf hs (lv_sub hl [] rfl)
    · rw [if_pos c3] at hf
      refine lv_iconst (v := 0) hx hb dX5_ringOf_39 (by decide) ?_
      cases hf
      exact tk_iret hx hb hr hlocks hs dX5_ringOf_40
  have j31 : ∀ (x0 : Nat) (x1 : Int32) (x2 : Int32) (y0 : Nat) (h : tk_AH) (sz : Nat) (H : Heap) (locs : List Loc) (ls : Array Slot), fX5_ringOf_31 N x0 x1 x2 y0 h sz = some (r9, h9, sz9) → tk_sw G s h sz H locs → lv_has ls 3 [(0, .ref x0), (1, .int x1), (2, .int x2)] → W p l e (headSpec (coX5_ringOf :: tk_W) ({ frames := 1, cells := 0, slots := 0, locals := 22 })).room s m args below meth c H locs 0 (0) (MQ below (tk_qc G (some (.int r9)) h9 sz9) args s 0 0 (tk_ag G)) (F0 m 31 ls [.ref y0]) := by
    intro x0 x1 x2 y0 h sz H locs ls hf hs hl
    unfold fX5_ringOf_31 at hf
    refine lv_iconst (v := 0) hx hb dX5_ringOf_31 (by decide) ?_
    exact j32 x0 x1 x2 0 y0 h sz _ _ _ hf hs (lv_sub hl [0, 1, 2] rfl)
  unfold fX5_ringOf at hf
  refine lv_aload_n hx hb dX5_ringOf_0 rfl (lv_at hl 0 rfl) ?_
  refine lv_iconst (v := 0) hx hb dX5_ringOf_1 (by decide) ?_
  obtain ⟨h9, e9, hf⟩ := tk_bi hf
  refine tk_put hx hb ht inX5 tyX5 tyX5_ok nmX5 hown hE hs rfl 0 (by decide) (ht _ wfX5_89) rfl rfl rfl e9 dX5_ringOf_2 (fun H locs hs => ?_)
  refine lv_aload_n hx hb dX5_ringOf_5 rfl (lv_at hl 0 rfl) ?_
  refine lv_iload_n hx hb dX5_ringOf_6 rfl (lv_at hl 1 rfl) ?_
  refine lv_if_lt (tgt := 31) hx hb dX5_ringOf_7 (by decide) (fun c10 => ?_) (fun c10 => ?_)
  · rw [if_pos c10] at hf
    exact j31 x0 x1 x2 x0 h9 sz _ _ _ hf hs (lv_sub hl [0, 1, 2] rfl)
  · rw [if_neg c10] at hf
    refine lv_iload_n hx hb dX5_ringOf_10 rfl (lv_at hl 1 rfl) ?_
    refine lv_aload_n hx hb dX5_ringOf_11 rfl (lv_at hl 0 rfl) ?_
    obtain ⟨v11, e11, hf⟩ := tk_bi hf
    refine tk_getI hx hb ht inX5 hown hE hs rfl 15 (by decide) (ht _ wfX5_153) e11 dX5_ringOf_12 ?_
    refine lv_icmp_ge (tgt := 31) hx hb dX5_ringOf_15 (by decide) (fun c12 => ?_) (fun c12 => ?_)
    · rw [if_pos c12] at hf
      exact j31 x0 x1 x2 x0 h9 sz _ _ _ hf hs (lv_sub hl [0, 1, 2] rfl)
    · rw [if_neg c12] at hf
      refine lv_iload_n hx hb dX5_ringOf_18 rfl (lv_at hl 2 rfl) ?_
      refine lv_if_lt (tgt := 31) hx hb dX5_ringOf_19 (by decide) (fun c13 => ?_) (fun c13 => ?_)
      · rw [if_pos c13] at hf
        exact j31 x0 x1 x2 x0 h9 sz _ _ _ hf hs (lv_sub hl [0, 1, 2] rfl)
      · rw [if_neg c13] at hf
        refine lv_iload_n hx hb dX5_ringOf_22 rfl (lv_at hl 2 rfl) ?_
        refine lv_iconst (v := 5) hx hb dX5_ringOf_23 (by decide) ?_
        refine lv_icmp_gt (tgt := 31) hx hb dX5_ringOf_24 (by decide) (fun c14 => ?_) (fun c14 => ?_)
        · rw [if_pos c14] at hf
          exact j31 x0 x1 x2 x0 h9 sz _ _ _ hf hs (lv_sub hl [0, 1, 2] rfl)
        · rw [if_neg c14] at hf
          refine lv_iconst (v := 1) hx hb dX5_ringOf_27 (by decide) ?_
          refine lv_goto (tgt := 32) hx hb dX5_ringOf_28 (by decide) ?_
          exact j32 x0 x1 x2 1 x0 h9 sz _ _ _ hf hs (lv_sub hl [0, 1, 2] rfl)
def fX5_missed_17 (N : Nat) (h : tk_AH) (sz : Nat) : Option (Int32 × tk_AH × Nat) :=
  (tk_bz 0).bind fun _ =>
  some (0, h, sz)
def fX5_missed_99 (N : Nat) (k57 : Nat → Int32 → Int32 → Int32 → tk_AH → Nat → Option (Int32 × tk_AH × Nat)) (x0 : Nat) (x1 : Int32) (x2 : Int32) (x3 : Int32) (h : tk_AH) (sz : Nat) : Option (Int32 × tk_AH × Nat) :=
  k57 x0 x1 x2 (x3 + 1) h sz
def fX5_missed_57 (N : Nat) : Nat → Nat → Int32 → Int32 → Int32 → tk_AH → Nat → Option (Int32 × tk_AH × Nat)
  | 0, _, _, _, _, _, _ => none
  | n + 1, x0, x1, x2, x3, h, sz =>
  if ((x2 - (x2 - x2 / 3 * 3)) + 3) ≤ x3 then (
  (tk_bz 1).bind fun _ =>
  some (1, h, sz)) else (
  (tk_gR h 5 16 x0).bind fun v4 =>
  (tk_aI h 0 v4 x3).bind fun v5 =>
  if v5 = (-1) then (
  fX5_missed_99 N (fX5_missed_57 N n) x0 x1 x2 x3 h sz) else (
  (tk_gR h 5 16 x0).bind fun v7 =>
  (tk_aI h 0 v7 x3).bind fun v8 =>
  if v8 = x1 then (
  fX5_missed_99 N (fX5_missed_57 N n) x0 x1 x2 x3 h sz) else (
  (tk_gR h 5 16 x0).bind fun v10 =>
  (tk_aI h 0 v10 x3).bind fun v11 =>
  (tk_ok h 5 x0).bind fun _ =>
  (fX5_more N x0 v11 3 h sz).bind fun o12 =>
  fX5_missed_99 N (fX5_missed_57 N n) x0 x1 x2 x3 o12.1 o12.2)))
def fX5_missed_21 (N : Nat) (k57 : Nat → Int32 → Int32 → Int32 → tk_AH → Nat → Option (Int32 × tk_AH × Nat)) : Nat → Nat → Int32 → Int32 → tk_AH → Nat → Option (Int32 × tk_AH × Nat)
  | 0, _, _, _, _, _ => none
  | n + 1, x0, x1, x2, h, sz =>
  (tk_gI h 5 15 x0).bind fun v14 =>
  if (3 * v14) ≤ x2 then (
  (tk_bz 0).bind fun _ =>
  some (0, h, sz)) else (
  (tk_gR h 5 16 x0).bind fun v17 =>
  (tk_aI h 0 v17 x2).bind fun v18 =>
  if v18 = x1 then (
  (tk_gR h 5 18 x0).bind fun v20 =>
  (tk_sI h 1 v20 x1 1).bind fun h21 =>
  k57 x0 x1 x2 (x2 - (x2 - x2 / 3 * 3)) h21 sz) else (
  fX5_missed_21 N k57 n x0 x1 (x2 + 1) h sz))
def fX5_missed (N : Nat) (x0 : Nat) (x1 : Int32) (h : tk_AH) (sz : Nat) : Option (Int32 × tk_AH × Nat) :=
  (tk_ok h 5 x0).bind fun _ =>
  (fX5_isLearner N x0 x1 h sz).bind fun o22 =>
  if o22.1 = 0 then (
  fX5_missed_17 N o22.2.1 o22.2.2) else (
  (tk_gR o22.2.1 5 18 x0).bind fun v25 =>
  (tk_aI o22.2.1 1 v25 x1).bind fun v26 =>
  if v26 = 0 then (
  fX5_missed_21 N (fX5_missed_57 N N) N x0 x1 0 o22.2.1 o22.2.2) else (
  fX5_missed_17 N o22.2.1 o22.2.2))
set_option maxHeartbeats 8000000 in
set_option maxRecDepth 100000 in
theorem cX5_missed_ok (l : Launch) (hl0 : l.stackTraces = false) (G : tk_AG) (N : Nat) (x0 : Nat) (x1 : Int32) (h : tk_AH) (sz : Nat) (r9 : Int32) (h9 : tk_AH) (sz9 : Nat) (hf : fX5_missed N x0 x1 h sz = some (r9, h9, sz9)) : Met l yX5_missed (coX5_missed :: tk_W) ({ frames := 2, cells := 0, slots := 0, locals := 43 }) (tk_pc G [.ref x0, .int x1] h sz) (tk_qc G (some (.int r9)) h9 sz9) 0 0 (tk_ag G) := by
  refine Met.ofW (cc := cX5_missed) (maxL := 4) (ret := (some .boolean)) (by decide) rfl ?_
  intro p e s m args below meth c s₁ B hml hv
  obtain ⟨hav, hE, hrp, hsz, hgs⟩ := hv
  have hx := B.exec
  have hb := B.bytes
  have hr := B.returns
  have hts := atoms_spec (ws := coX5_missed :: tk_W) B.pre
  have ht : ∀ w ∈ tk_W, w.before args s = true := fun w h => hts w (List.mem_cons_of_mem _ h)
  have hown : s.vm.findClass RX5 = some m.cls := findClass_of_methodNamed B.named
  have hlocks := B.notSynchronized
  have hs : tk_sw G s h sz s.heap [] := ⟨hrp, hsz, by rw [hsz]; exact hgs, va_S.rf⟩
  have hl := lv_entry ([.ref x0, .int x1]) (n := 4) (Nat.le_of_ble_eq_true rfl)
  have hent : entryFrame m args 4 = F0 m 0 (lg_sl ([.ref x0, .int x1]) ++ List.replicate (4 - (lg_sl ([.ref x0, .int x1])).length) Slot.unset).toArray [] := by rw [hav, lg_entry_eq]
  rw [hent]
  clear hent
  generalize (lg_sl ([.ref x0, .int x1]) ++ List.replicate (4 - (lg_sl ([.ref x0, .int x1])).length) Slot.unset).toArray = ls at hl ⊢
  have hl : lv_has ls 4 [(0, .ref x0), (1, .int x1)] := hl
  have j17 : ∀ (h : tk_AH) (sz : Nat) (H : Heap) (locs : List Loc) (ls : Array Slot), fX5_missed_17 N h sz = some (r9, h9, sz9) → tk_sw G s h sz H locs → lv_has ls 4 [] → W p l e (headSpec (coX5_missed :: tk_W) ({ frames := 2, cells := 0, slots := 0, locals := 43 })).room s m args below meth c H locs 0 (0) (MQ below (tk_qc G (some (.int r9)) h9 sz9) args s 0 0 (tk_ag G)) (F0 m 17 ls []) := by
    intro h sz H locs ls hf hs hl
    unfold fX5_missed_17 at hf
    refine lv_iconst (v := 0) hx hb dX5_missed_17 (by decide) ?_
    obtain ⟨_, e1, hf⟩ := tk_bi hf
    have e1 := tk_bz_ok e1
    cases hf
    exact tk_zret hx hb hr hlocks e1 hs dX5_missed_18
  have j99 : ∀ (k57 : Nat → Int32 → Int32 → Int32 → tk_AH → Nat → Option (Int32 × tk_AH × Nat)), (∀ (x0 : Nat) (x1 : Int32) (x2 : Int32) (x3 : Int32) (h : tk_AH) (sz : Nat) (H : Heap) (locs : List Loc) (ls : Array Slot), k57 x0 x1 x2 x3 h sz = some (r9, h9, sz9) → tk_sw G s h sz H locs → lv_has ls 4 [(0, .ref x0), (1, .int x1), (2, .int x2), (3, .int x3)] → W p l e (headSpec (coX5_missed :: tk_W) ({ frames := 2, cells := 0, slots := 0, locals := 43 })).room s m args below meth c H locs 0 (0) (MQ below (tk_qc G (some (.int r9)) h9 sz9) args s 0 0 (tk_ag G)) (F0 m 57 ls [])) → ∀ (x0 : Nat) (x1 : Int32) (x2 : Int32) (x3 : Int32) (h : tk_AH) (sz : Nat) (H : Heap) (locs : List Loc) (ls : Array Slot), fX5_missed_99 N k57 x0 x1 x2 x3 h sz = some (r9, h9, sz9) → tk_sw G s h sz H locs → lv_has ls 4 [(0, .ref x0), (1, .int x1), (2, .int x2), (3, .int x3)] → W p l e (headSpec (coX5_missed :: tk_W) ({ frames := 2, cells := 0, slots := 0, locals := 43 })).room s m args below meth c H locs 0 (0) (MQ below (tk_qc G (some (.int r9)) h9 sz9) args s 0 0 (tk_ag G)) (F0 m 99 ls []) := by
    intro k57 hk57 x0 x1 x2 x3 h sz H locs ls hf hs hl
    unfold fX5_missed_99 at hf
    refine lv_iinc (v := x3 + 1) (lv' := [(3, .int (x3 + 1)), (0, .ref x0), (1, .int x1), (2, .int x2)]) hx hb dX5_missed_99 hl (k := 3) rfl rfl (by decide) rfl (fun ls hl => ?_)
    refine lv_goto (tgt := 57) hx hb dX5_missed_102 (by decide) ?_
    exact hk57 x0 x1 x2 (x3 + 1) h sz _ _ _ hf hs (lv_sub hl [1, 2, 3, 0] rfl)
  have j57 : ∀ (n : Nat), ∀ (x0 : Nat) (x1 : Int32) (x2 : Int32) (x3 : Int32) (h : tk_AH) (sz : Nat) (H : Heap) (locs : List Loc) (ls : Array Slot), fX5_missed_57 N n x0 x1 x2 x3 h sz = some (r9, h9, sz9) → tk_sw G s h sz H locs → lv_has ls 4 [(0, .ref x0), (1, .int x1), (2, .int x2), (3, .int x3)] → W p l e (headSpec (coX5_missed :: tk_W) ({ frames := 2, cells := 0, slots := 0, locals := 43 })).room s m args below meth c H locs 0 (0) (MQ below (tk_qc G (some (.int r9)) h9 sz9) args s 0 0 (tk_ag G)) (F0 m 57 ls []) := by
    intro n
    induction n with
    | zero =>
      intro x0 x1 x2 x3 h sz H locs ls hf
      cases hf
    | succ n ih =>
      intro x0 x1 x2 x3 h sz H locs ls hf hs hl
      rw [fX5_missed_57] at hf
      refine lv_iload_n hx hb dX5_missed_57 rfl (lv_at hl 3 rfl) ?_
      refine lv_iload_n hx hb dX5_missed_58 rfl (lv_at hl 2 rfl) ?_
      refine lv_iload_n hx hb dX5_missed_59 rfl (lv_at hl 2 rfl) ?_
      refine lv_iconst (v := 3) hx hb dX5_missed_60 (by decide) ?_
      refine lv_irem hx hb dX5_missed_61 (by decide) ?_
      refine lv_isub hx hb dX5_missed_62 ?_
      refine lv_iconst (v := 3) hx hb dX5_missed_63 (by decide) ?_
      refine lv_iadd hx hb dX5_missed_64 ?_
      refine lv_icmp_ge (tgt := 105) hx hb dX5_missed_65 (by decide) (fun c2 => ?_) (fun c2 => ?_)
      · rw [if_pos c2] at hf
        refine lv_iconst (v := 1) hx hb dX5_missed_105 (by decide) ?_
        obtain ⟨_, e3, hf⟩ := tk_bi hf
        have e3 := tk_bz_ok e3
        cases hf
        exact tk_zret hx hb hr hlocks e3 hs dX5_missed_106
      · rw [if_neg c2] at hf
        refine lv_aload_n hx hb dX5_missed_68 rfl (lv_at hl 0 rfl) ?_
        obtain ⟨v4, e4, hf⟩ := tk_bi hf
        refine tk_getR hx hb ht inX5 hown hE hs rfl 16 (by decide) (ht _ wfX5_40) e4 dX5_missed_69 ?_
        refine lv_iload_n hx hb dX5_missed_72 rfl (lv_at hl 3 rfl) ?_
        obtain ⟨v5, e5, hf⟩ := tk_bi hf
        refine tk_iald hx hb hE hs e5 dX5_missed_73 ?_
        refine lv_iconst (v := (-1)) hx hb dX5_missed_74 (by decide) ?_
        refine lv_icmp_eq (tgt := 99) hx hb dX5_missed_75 (by decide) (fun c6 => ?_) (fun c6 => ?_)
        · rw [if_pos c6] at hf
          exact j99 (fX5_missed_57 N n) ih x0 x1 x2 x3 h sz _ _ _ hf hs (lv_sub hl [0, 1, 2, 3] rfl)
        · rw [if_neg c6] at hf
          refine lv_aload_n hx hb dX5_missed_78 rfl (lv_at hl 0 rfl) ?_
          obtain ⟨v7, e7, hf⟩ := tk_bi hf
          refine tk_getR hx hb ht inX5 hown hE hs rfl 16 (by decide) (ht _ wfX5_40) e7 dX5_missed_79 ?_
          refine lv_iload_n hx hb dX5_missed_82 rfl (lv_at hl 3 rfl) ?_
          obtain ⟨v8, e8, hf⟩ := tk_bi hf
          refine tk_iald hx hb hE hs e8 dX5_missed_83 ?_
          refine lv_iload_n hx hb dX5_missed_84 rfl (lv_at hl 1 rfl) ?_
          refine lv_icmp_eq (tgt := 99) hx hb dX5_missed_85 (by decide) (fun c9 => ?_) (fun c9 => ?_)
          · rw [if_pos c9] at hf
            exact j99 (fX5_missed_57 N n) ih x0 x1 x2 x3 h sz _ _ _ hf hs (lv_sub hl [0, 1, 2, 3] rfl)
          · rw [if_neg c9] at hf
            refine lv_aload_n hx hb dX5_missed_88 rfl (lv_at hl 0 rfl) ?_
            refine lv_aload_n hx hb dX5_missed_89 rfl (lv_at hl 0 rfl) ?_
            obtain ⟨v10, e10, hf⟩ := tk_bi hf
            refine tk_getR hx hb ht inX5 hown hE hs rfl 16 (by decide) (ht _ wfX5_40) e10 dX5_missed_90 ?_
            refine lv_iload_n hx hb dX5_missed_93 rfl (lv_at hl 3 rfl) ?_
            obtain ⟨v11, e11, hf⟩ := tk_bi hf
            refine tk_iald hx hb hE hs e11 dX5_missed_94 ?_
            refine lv_iconst (v := 3) hx hb dX5_missed_95 (by decide) ?_
            obtain ⟨_, p12, hf⟩ := tk_bi hf
            obtain ⟨o12, e12, hf⟩ := tk_bi hf
            refine tk_call0 (v := none) hs (va_runV (As := [.int v11, .int 3]) (rest := []) ⟨hx, hb, hml, hown, ht⟩ (cX5_more_ok l hl0 G N x0 v11 3 h sz o12.1 o12.2 e12) (kwX5_more ht wmX5_163 rfl rfl ⟨Nat.le_of_ble_eq_true rfl, Nat.le_of_ble_eq_true rfl⟩) (tk_preV hE hs (tk_ok_ok p12) rfl) rfl rfl hl.1 rfl (lv_room (Nat.le_of_ble_eq_true rfl)) dX5_missed_96 ⟨(Nat.le_of_ble_eq_true rfl), (Nat.le_of_ble_eq_true rfl)⟩) (fun H locs hs => ?_)
            refine W.eq (g2 := F0 m 99 ls []) rfl ?_
            exact j99 (fX5_missed_57 N n) ih x0 x1 x2 x3 o12.1 o12.2 _ _ _ hf hs (lv_sub hl [0, 1, 2, 3] rfl)
  have j21 : ∀ (k57 : Nat → Int32 → Int32 → Int32 → tk_AH → Nat → Option (Int32 × tk_AH × Nat)), (∀ (x0 : Nat) (x1 : Int32) (x2 : Int32) (x3 : Int32) (h : tk_AH) (sz : Nat) (H : Heap) (locs : List Loc) (ls : Array Slot), k57 x0 x1 x2 x3 h sz = some (r9, h9, sz9) → tk_sw G s h sz H locs → lv_has ls 4 [(0, .ref x0), (1, .int x1), (2, .int x2), (3, .int x3)] → W p l e (headSpec (coX5_missed :: tk_W) ({ frames := 2, cells := 0, slots := 0, locals := 43 })).room s m args below meth c H locs 0 (0) (MQ below (tk_qc G (some (.int r9)) h9 sz9) args s 0 0 (tk_ag G)) (F0 m 57 ls [])) → ∀ (n : Nat), ∀ (x0 : Nat) (x1 : Int32) (x2 : Int32) (h : tk_AH) (sz : Nat) (H : Heap) (locs : List Loc) (ls : Array Slot), fX5_missed_21 N k57 n x0 x1 x2 h sz = some (r9, h9, sz9) → tk_sw G s h sz H locs → lv_has ls 4 [(0, .ref x0), (1, .int x1), (2, .int x2)] → W p l e (headSpec (coX5_missed :: tk_W) ({ frames := 2, cells := 0, slots := 0, locals := 43 })).room s m args below meth c H locs 0 (0) (MQ below (tk_qc G (some (.int r9)) h9 sz9) args s 0 0 (tk_ag G)) (F0 m 21 ls []) := by
    intro k57 hk57 n
    induction n with
    | zero =>
      intro x0 x1 x2 h sz H locs ls hf
      cases hf
    | succ n ih =>
      intro x0 x1 x2 h sz H locs ls hf hs hl
      rw [fX5_missed_21] at hf
      refine lv_iload_n hx hb dX5_missed_21 rfl (lv_at hl 2 rfl) ?_
      refine lv_iconst (v := 3) hx hb dX5_missed_22 (by decide) ?_
      refine lv_aload_n hx hb dX5_missed_23 rfl (lv_at hl 0 rfl) ?_
      obtain ⟨v14, e14, hf⟩ := tk_bi hf
      refine tk_getI hx hb ht inX5 hown hE hs rfl 15 (by decide) (ht _ wfX5_153) e14 dX5_missed_24 ?_
      refine lv_imul hx hb dX5_missed_27 ?_
      refine lv_icmp_ge (tgt := 113) hx hb dX5_missed_28 (by decide) (fun c15 => ?_) (fun c15 => ?_)
      · rw [if_pos c15] at hf
        refine lv_iconst (v := 0) hx hb dX5_missed_113 (by decide) ?_
        obtain ⟨_, e16, hf⟩ := tk_bi hf
        have e16 := tk_bz_ok e16
        cases hf
        exact tk_zret hx hb hr hlocks e16 hs dX5_missed_114
      · rw [if_neg c15] at hf
        refine lv_aload_n hx hb dX5_missed_31 rfl (lv_at hl 0 rfl) ?_
        obtain ⟨v17, e17, hf⟩ := tk_bi hf
        refine tk_getR hx hb ht inX5 hown hE hs rfl 16 (by decide) (ht _ wfX5_40) e17 dX5_missed_32 ?_
        refine lv_iload_n hx hb dX5_missed_35 rfl (lv_at hl 2 rfl) ?_
        obtain ⟨v18, e18, hf⟩ := tk_bi hf
        refine tk_iald hx hb hE hs e18 dX5_missed_36 ?_
        refine lv_iload_n hx hb dX5_missed_37 rfl (lv_at hl 1 rfl) ?_
        refine lv_icmp_eq (tgt := 44) hx hb dX5_missed_38 (by decide) (fun c19 => ?_) (fun c19 => ?_)
        · rw [if_pos c19] at hf
          refine lv_aload_n hx hb dX5_missed_44 rfl (lv_at hl 0 rfl) ?_
          obtain ⟨v20, e20, hf⟩ := tk_bi hf
          refine tk_getR hx hb ht inX5 hown hE hs rfl 18 (by decide) (ht _ wfX5_46) e20 dX5_missed_45 ?_
          refine lv_iload_n hx hb dX5_missed_48 rfl (lv_at hl 1 rfl) ?_
          refine lv_iconst (v := 1) hx hb dX5_missed_49 (by decide) ?_
          obtain ⟨h21, e21, hf⟩ := tk_bi hf
          refine tk_zast hx hb hE hs (by decide) e21 dX5_missed_50 (fun H locs hs => ?_)
          refine lv_iload_n hx hb dX5_missed_51 rfl (lv_at hl 2 rfl) ?_
          refine lv_iload_n hx hb dX5_missed_52 rfl (lv_at hl 2 rfl) ?_
          refine lv_iconst (v := 3) hx hb dX5_missed_53 (by decide) ?_
          refine lv_irem hx hb dX5_missed_54 (by decide) ?_
          refine lv_isub hx hb dX5_missed_55 ?_
          refine lv_istore_n (lv' := [(3, .int (x2 - (x2 - x2 / 3 * 3))), (0, .ref x0), (1, .int x1), (2, .int x2)]) hx hb dX5_missed_56 rfl hl (by decide) rfl (fun ls hl => ?_)
          exact hk57 x0 x1 x2 (x2 - (x2 - x2 / 3 * 3)) h21 sz _ _ _ hf hs (lv_sub hl [1, 2, 3, 0] rfl)
        · rw [if_neg c19] at hf
          refine lv_goto (tgt := 107) hx hb dX5_missed_41 (by decide) ?_
          refine lv_iinc (v := x2 + 1) (lv' := [(2, .int (x2 + 1)), (0, .ref x0), (1, .int x1)]) hx hb dX5_missed_107 hl (k := 2) rfl rfl (by decide) rfl (fun ls hl => ?_)
          refine lv_goto (tgt := 21) hx hb dX5_missed_110 (by decide) ?_
          exact ih x0 x1 (x2 + 1) h sz _ _ _ hf hs (lv_sub hl [1, 2, 0] rfl)
  unfold fX5_missed at hf
  refine lv_aload_n hx hb dX5_missed_0 rfl (lv_at hl 0 rfl) ?_
  refine lv_iload_n hx hb dX5_missed_1 rfl (lv_at hl 1 rfl) ?_
  obtain ⟨_, p22, hf⟩ := tk_bi hf
  obtain ⟨o22, e22, hf⟩ := tk_bi hf
  refine tk_call0 (v := some (.int o22.1)) hs (va_runV (As := [.int x1]) (rest := []) ⟨hx, hb, hml, hown, ht⟩ (cX5_isLearner_ok l hl0 G N x0 x1 h sz o22.1 o22.2.1 o22.2.2 e22) (kwX5_isLearner ht wmX5_100 rfl rfl ⟨Nat.le_of_ble_eq_true rfl, Nat.le_of_ble_eq_true rfl⟩) (tk_preV hE hs (tk_ok_ok p22) rfl) rfl rfl hl.1 rfl (lv_room (Nat.le_of_ble_eq_true rfl)) dX5_missed_2 ⟨(Nat.le_of_ble_eq_true rfl), (Nat.le_of_ble_eq_true rfl)⟩) (fun H locs hs => ?_)
  refine W.eq (g2 := F0 m 5 ls [.int o22.1]) rfl ?_
  refine lv_if_eq (tgt := 17) hx hb dX5_missed_5 (by decide) (fun c24 => ?_) (fun c24 => ?_)
  · rw [if_pos c24] at hf
    exact j17 o22.2.1 o22.2.2 _ _ _ hf hs (lv_sub hl [] rfl)
  · rw [if_neg c24] at hf
    refine lv_aload_n hx hb dX5_missed_8 rfl (lv_at hl 0 rfl) ?_
    obtain ⟨v25, e25, hf⟩ := tk_bi hf
    refine tk_getR hx hb ht inX5 hown hE hs rfl 18 (by decide) (ht _ wfX5_46) e25 dX5_missed_9 ?_
    refine lv_iload_n hx hb dX5_missed_12 rfl (lv_at hl 1 rfl) ?_
    obtain ⟨v26, e26, hf⟩ := tk_bi hf
    refine tk_zald hx hb hE hs e26 dX5_missed_13 ?_
    refine lv_if_eq (tgt := 19) hx hb dX5_missed_14 (by decide) (fun c27 => ?_) (fun c27 => ?_)
    · rw [if_pos c27] at hf
      refine lv_iconst (v := 0) hx hb dX5_missed_19 (by decide) ?_
      refine lv_istore_n (lv' := [(2, .int 0), (0, .ref x0), (1, .int x1)]) hx hb dX5_missed_20 rfl hl (by decide) rfl (fun ls hl => ?_)
      exact j21 (fX5_missed_57 N N) (j57 N) N x0 x1 0 o22.2.1 o22.2.2 _ _ _ hf hs (lv_sub hl [1, 2, 0] rfl)
    · rw [if_neg c27] at hf
      exact j17 o22.2.1 o22.2.2 _ _ _ hf hs (lv_sub hl [] rfl)
def fX5_waited_18 (N : Nat) (y0 : Int32) (h : tk_AH) (sz : Nat) : Option (Int32 × tk_AH × Nat) :=
  some (y0, h, sz)
def fX5_waited (N : Nat) (x0 : Nat) (x1 : Int32) (h : tk_AH) (sz : Nat) : Option (Int32 × tk_AH × Nat) :=
  (tk_ok h 5 x0).bind fun _ =>
  (fX5_isLearner N x0 x1 h sz).bind fun o1 =>
  if o1.1 = 0 then (
  fX5_waited_18 N 0 o1.2.1 o1.2.2) else (
  (tk_gR o1.2.1 5 14 x0).bind fun v4 =>
  (tk_aI o1.2.1 0 v4 x1).bind fun v5 =>
  fX5_waited_18 N v5 o1.2.1 o1.2.2)
set_option maxHeartbeats 8000000 in
set_option maxRecDepth 100000 in
theorem cX5_waited_ok (l : Launch) (hl0 : l.stackTraces = false) (G : tk_AG) (N : Nat) (x0 : Nat) (x1 : Int32) (h : tk_AH) (sz : Nat) (r9 : Int32) (h9 : tk_AH) (sz9 : Nat) (hf : fX5_waited N x0 x1 h sz = some (r9, h9, sz9)) : Met l yX5_waited (coX5_waited :: tk_W) ({ frames := 2, cells := 0, slots := 0, locals := 43 }) (tk_pc G [.ref x0, .int x1] h sz) (tk_qc G (some (.int r9)) h9 sz9) 0 0 (tk_ag G) := by
  refine Met.ofW (cc := cX5_waited) (maxL := 2) (ret := (some .int)) (by decide) rfl ?_
  intro p e s m args below meth c s₁ B hml hv
  obtain ⟨hav, hE, hrp, hsz, hgs⟩ := hv
  have hx := B.exec
  have hb := B.bytes
  have hr := B.returns
  have hts := atoms_spec (ws := coX5_waited :: tk_W) B.pre
  have ht : ∀ w ∈ tk_W, w.before args s = true := fun w h => hts w (List.mem_cons_of_mem _ h)
  have hown : s.vm.findClass RX5 = some m.cls := findClass_of_methodNamed B.named
  have hlocks := B.notSynchronized
  have hs : tk_sw G s h sz s.heap [] := ⟨hrp, hsz, by rw [hsz]; exact hgs, va_S.rf⟩
  have hl := lv_entry ([.ref x0, .int x1]) (n := 2) (Nat.le_of_ble_eq_true rfl)
  have hent : entryFrame m args 2 = F0 m 0 (lg_sl ([.ref x0, .int x1]) ++ List.replicate (2 - (lg_sl ([.ref x0, .int x1])).length) Slot.unset).toArray [] := by rw [hav, lg_entry_eq]
  rw [hent]
  clear hent
  generalize (lg_sl ([.ref x0, .int x1]) ++ List.replicate (2 - (lg_sl ([.ref x0, .int x1])).length) Slot.unset).toArray = ls at hl ⊢
  have hl : lv_has ls 2 [(0, .ref x0), (1, .int x1)] := hl
  have j18 : ∀ (y0 : Int32) (h : tk_AH) (sz : Nat) (H : Heap) (locs : List Loc) (ls : Array Slot), fX5_waited_18 N y0 h sz = some (r9, h9, sz9) → tk_sw G s h sz H locs → lv_has ls 2 [] → W p l e (headSpec (coX5_waited :: tk_W) ({ frames := 2, cells := 0, slots := 0, locals := 43 })).room s m args below meth c H locs 0 (0) (MQ below (tk_qc G (some (.int r9)) h9 sz9) args s 0 0 (tk_ag G)) (F0 m 18 ls [.int y0]) := by
    intro y0 h sz H locs ls hf hs hl
    unfold fX5_waited_18 at hf
    cases hf
    exact tk_iret hx hb hr hlocks hs dX5_waited_18
  unfold fX5_waited at hf
  refine lv_aload_n hx hb dX5_waited_0 rfl (lv_at hl 0 rfl) ?_
  refine lv_iload_n hx hb dX5_waited_1 rfl (lv_at hl 1 rfl) ?_
  obtain ⟨_, p1, hf⟩ := tk_bi hf
  obtain ⟨o1, e1, hf⟩ := tk_bi hf
  refine tk_call0 (v := some (.int o1.1)) hs (va_runV (As := [.int x1]) (rest := []) ⟨hx, hb, hml, hown, ht⟩ (cX5_isLearner_ok l hl0 G N x0 x1 h sz o1.1 o1.2.1 o1.2.2 e1) (kwX5_isLearner ht wmX5_100 rfl rfl ⟨Nat.le_of_ble_eq_true rfl, Nat.le_of_ble_eq_true rfl⟩) (tk_preV hE hs (tk_ok_ok p1) rfl) rfl rfl hl.1 rfl (lv_room (Nat.le_of_ble_eq_true rfl)) dX5_waited_2 ⟨(Nat.le_of_ble_eq_true rfl), (Nat.le_of_ble_eq_true rfl)⟩) (fun H locs hs => ?_)
  refine W.eq (g2 := F0 m 5 ls [.int o1.1]) rfl ?_
  refine lv_if_eq (tgt := 17) hx hb dX5_waited_5 (by decide) (fun c3 => ?_) (fun c3 => ?_)
  · rw [if_pos c3] at hf
    refine lv_iconst (v := 0) hx hb dX5_waited_17 (by decide) ?_
    exact j18 0 o1.2.1 o1.2.2 _ _ _ hf hs (lv_sub hl [] rfl)
  · rw [if_neg c3] at hf
    refine lv_aload_n hx hb dX5_waited_8 rfl (lv_at hl 0 rfl) ?_
    obtain ⟨v4, e4, hf⟩ := tk_bi hf
    refine tk_getR hx hb ht inX5 hown hE hs rfl 14 (by decide) (ht _ wfX5_37) e4 dX5_waited_9 ?_
    refine lv_iload_n hx hb dX5_waited_12 rfl (lv_at hl 1 rfl) ?_
    obtain ⟨v5, e5, hf⟩ := tk_bi hf
    refine tk_iald hx hb hE hs e5 dX5_waited_13 ?_
    refine lv_goto (tgt := 18) hx hb dX5_waited_14 (by decide) ?_
    exact j18 v5 o1.2.1 o1.2.2 _ _ _ hf hs (lv_sub hl [] rfl)
def fX5_days_22 (N : Nat) (x0 : Nat) (x1 : Int32) (y0 : Int32) (y1 : Nat) (h : tk_AH) (sz : Nat) : Option (Int32 × tk_AH × Nat) :=
  (tk_ok h 5 y1).bind fun _ =>
  (fX5_right N y1 y0 1 h sz).bind fun o1 =>
  if o1.1 = 0 then (
  some (0, o1.2.1, o1.2.2)) else (
  (tk_gI o1.2.1 5 2 x0).bind fun v4 =>
  (tk_pF o1.2.1 5 2 x0 (.int (v4 + x1))).bind fun h5 =>
  (tk_gI h5 5 2 x0).bind fun v6 =>
  some (v6, h5, o1.2.2))
def fX5_days_21 (N : Nat) (x0 : Nat) (x1 : Int32) (y0 : Nat) (h : tk_AH) (sz : Nat) : Option (Int32 × tk_AH × Nat) :=
  fX5_days_22 N x0 x1 0 y0 h sz
def fX5_days (N : Nat) (x0 : Nat) (x1 : Int32) (h : tk_AH) (sz : Nat) : Option (Int32 × tk_AH × Nat) :=
  (tk_pF h 5 0 x0 (.int 0)).bind fun h7 =>
  if x1 < 0 then (
  fX5_days_21 N x0 x1 x0 h7 sz) else (
  if 1000 < x1 then (
  fX5_days_21 N x0 x1 x0 h7 sz) else (
  fX5_days_22 N x0 x1 1 x0 h7 sz))
set_option maxHeartbeats 8000000 in
set_option maxRecDepth 100000 in
theorem cX5_days_ok (l : Launch) (hl0 : l.stackTraces = false) (G : tk_AG) (N : Nat) (x0 : Nat) (x1 : Int32) (h : tk_AH) (sz : Nat) (r9 : Int32) (h9 : tk_AH) (sz9 : Nat) (hf : fX5_days N x0 x1 h sz = some (r9, h9, sz9)) : Met l yX5_days (coX5_days :: tk_W) ({ frames := 1, cells := 0, slots := 0, locals := 22 }) (tk_pc G [.ref x0, .int x1] h sz) (tk_qc G (some (.int r9)) h9 sz9) 0 0 (tk_ag G) := by
  refine Met.ofW (cc := cX5_days) (maxL := 2) (ret := (some .int)) (by decide) rfl ?_
  intro p e s m args below meth c s₁ B hml hv
  obtain ⟨hav, hE, hrp, hsz, hgs⟩ := hv
  have hx := B.exec
  have hb := B.bytes
  have hr := B.returns
  have hts := atoms_spec (ws := coX5_days :: tk_W) B.pre
  have ht : ∀ w ∈ tk_W, w.before args s = true := fun w h => hts w (List.mem_cons_of_mem _ h)
  have hown : s.vm.findClass RX5 = some m.cls := findClass_of_methodNamed B.named
  have hlocks := B.notSynchronized
  have hs : tk_sw G s h sz s.heap [] := ⟨hrp, hsz, by rw [hsz]; exact hgs, va_S.rf⟩
  have hl := lv_entry ([.ref x0, .int x1]) (n := 2) (Nat.le_of_ble_eq_true rfl)
  have hent : entryFrame m args 2 = F0 m 0 (lg_sl ([.ref x0, .int x1]) ++ List.replicate (2 - (lg_sl ([.ref x0, .int x1])).length) Slot.unset).toArray [] := by rw [hav, lg_entry_eq]
  rw [hent]
  clear hent
  generalize (lg_sl ([.ref x0, .int x1]) ++ List.replicate (2 - (lg_sl ([.ref x0, .int x1])).length) Slot.unset).toArray = ls at hl ⊢
  have hl : lv_has ls 2 [(0, .ref x0), (1, .int x1)] := hl
  have j22 : ∀ (x0 : Nat) (x1 : Int32) (y0 : Int32) (y1 : Nat) (h : tk_AH) (sz : Nat) (H : Heap) (locs : List Loc) (ls : Array Slot), fX5_days_22 N x0 x1 y0 y1 h sz = some (r9, h9, sz9) → tk_sw G s h sz H locs → lv_has ls 2 [(0, .ref x0), (1, .int x1)] → W p l e (headSpec (coX5_days :: tk_W) ({ frames := 1, cells := 0, slots := 0, locals := 22 })).room s m args below meth c H locs 0 (0) (MQ below (tk_qc G (some (.int r9)) h9 sz9) args s 0 0 (tk_ag G)) (F0 m 22 ls [.int y0, .ref y1]) := by
    intro x0 x1 y0 y1 h sz H locs ls hf hs hl
    unfold fX5_days_22 at hf
    refine lv_iconst (v := 1) hx hb dX5_days_22 (by decide) ?_
    obtain ⟨_, p1, hf⟩ := tk_bi hf
    obtain ⟨o1, e1, hf⟩ := tk_bi hf
    refine tk_call0 (v := some (.int o1.1)) hs (va_runV (As := [.int y0, .int 1]) (rest := []) ⟨hx, hb, hml, hown, ht⟩ (cX5_right_ok l hl0 G N y1 y0 1 h sz o1.1 o1.2.1 o1.2.2 e1) (kwX5_right ht wmX5_96 rfl rfl ⟨Nat.le_of_ble_eq_true rfl, Nat.le_of_ble_eq_true rfl⟩) (tk_preV hE hs (tk_ok_ok p1) rfl) rfl rfl hl.1 rfl (lv_room (Nat.le_of_ble_eq_true rfl)) dX5_days_23 ⟨(Nat.le_of_ble_eq_true rfl), (Nat.le_of_ble_eq_true rfl)⟩) (fun H locs hs => ?_)
    refine W.eq (g2 := F0 m 26 ls [.int o1.1]) rfl ?_
    refine lv_if_ne (tgt := 31) hx hb dX5_days_26 (by decide) (fun c3 => ?_) (fun c3 => ?_)
    · rw [if_neg c3] at hf
      refine lv_aload_n hx hb dX5_days_31 rfl (lv_at hl 0 rfl) ?_
      refine lv_dup hx hb dX5_days_32 rfl ?_
      obtain ⟨v4, e4, hf⟩ := tk_bi hf
      refine tk_getI hx hb ht inX5 hown hE hs rfl 2 (by decide) (ht _ wfX5_167) e4 dX5_days_33 ?_
      refine lv_iload_n hx hb dX5_days_36 rfl (lv_at hl 1 rfl) ?_
      refine lv_iadd hx hb dX5_days_37 ?_
      obtain ⟨h5, e5, hf⟩ := tk_bi hf
      refine tk_put hx hb ht inX5 tyX5 tyX5_ok nmX5 hown hE hs rfl 2 (by decide) (ht _ wfX5_167) rfl rfl rfl e5 dX5_days_38 (fun H locs hs => ?_)
      refine lv_aload_n hx hb dX5_days_41 rfl (lv_at hl 0 rfl) ?_
      obtain ⟨v6, e6, hf⟩ := tk_bi hf
      refine tk_getI hx hb ht inX5 hown hE hs rfl 2 (by decide) (ht _ wfX5_167) e6 dX5_days_42 ?_
      cases hf
      exact tk_iret hx hb hr hlocks hs dX5_days_45
    · rw [if_pos c3] at hf
      refine lv_iconst (v := 0) hx hb dX5_days_29 (by decide) ?_
      cases hf
      exact tk_iret hx hb hr hlocks hs dX5_days_30
  have j21 : ∀ (x0 : Nat) (x1 : Int32) (y0 : Nat) (h : tk_AH) (sz : Nat) (H : Heap) (locs : List Loc) (ls : Array Slot), fX5_days_21 N x0 x1 y0 h sz = some (r9, h9, sz9) → tk_sw G s h sz H locs → lv_has ls 2 [(0, .ref x0), (1, .int x1)] → W p l e (headSpec (coX5_days :: tk_W) ({ frames := 1, cells := 0, slots := 0, locals := 22 })).room s m args below meth c H locs 0 (0) (MQ below (tk_qc G (some (.int r9)) h9 sz9) args s 0 0 (tk_ag G)) (F0 m 21 ls [.ref y0]) := by
    intro x0 x1 y0 h sz H locs ls hf hs hl
    unfold fX5_days_21 at hf
    refine lv_iconst (v := 0) hx hb dX5_days_21 (by decide) ?_
    exact j22 x0 x1 0 y0 h sz _ _ _ hf hs (lv_sub hl [0, 1] rfl)
  unfold fX5_days at hf
  refine lv_aload_n hx hb dX5_days_0 rfl (lv_at hl 0 rfl) ?_
  refine lv_iconst (v := 0) hx hb dX5_days_1 (by decide) ?_
  obtain ⟨h7, e7, hf⟩ := tk_bi hf
  refine tk_put hx hb ht inX5 tyX5 tyX5_ok nmX5 hown hE hs rfl 0 (by decide) (ht _ wfX5_89) rfl rfl rfl e7 dX5_days_2 (fun H locs hs => ?_)
  refine lv_aload_n hx hb dX5_days_5 rfl (lv_at hl 0 rfl) ?_
  refine lv_iload_n hx hb dX5_days_6 rfl (lv_at hl 1 rfl) ?_
  refine lv_if_lt (tgt := 21) hx hb dX5_days_7 (by decide) (fun c8 => ?_) (fun c8 => ?_)
  · rw [if_pos c8] at hf
    exact j21 x0 x1 x0 h7 sz _ _ _ hf hs (lv_sub hl [0, 1] rfl)
  · rw [if_neg c8] at hf
    refine lv_iload_n hx hb dX5_days_10 rfl (lv_at hl 1 rfl) ?_
    refine lv_sipush (v := 1000) hx hb dX5_days_11 (by decide) ?_
    refine lv_icmp_gt (tgt := 21) hx hb dX5_days_14 (by decide) (fun c9 => ?_) (fun c9 => ?_)
    · rw [if_pos c9] at hf
      exact j21 x0 x1 x0 h7 sz _ _ _ hf hs (lv_sub hl [0, 1] rfl)
    · rw [if_neg c9] at hf
      refine lv_iconst (v := 1) hx hb dX5_days_17 (by decide) ?_
      refine lv_goto (tgt := 22) hx hb dX5_days_18 (by decide) ?_
      exact j22 x0 x1 1 x0 h7 sz _ _ _ hf hs (lv_sub hl [0, 1] rfl)
def fX5_word (N : Nat) (x0 : Nat) (x1 : Int32) (h : tk_AH) (sz : Nat) : Option (Int32 × tk_AH × Nat) :=
  (tk_ok h 5 x0).bind fun _ =>
  (fX5_isLearner N x0 x1 h sz).bind fun o1 =>
  if o1.1 = 0 then (
  some (0, o1.2.1, o1.2.2)) else (
  (tk_gR o1.2.1 5 19 x0).bind fun v4 =>
  (tk_aI o1.2.1 0 v4 x1).bind fun v5 =>
  if v5 = 40 then (
  some ((-1), o1.2.1, o1.2.2)) else (
  (tk_gR o1.2.1 5 19 x0).bind fun v7 =>
  (tk_aI o1.2.1 0 v7 x1).bind fun v8 =>
  (tk_gR o1.2.1 5 20 x0).bind fun v9 =>
  (tk_sI o1.2.1 0 v9 ((40 * x1) + v8) 0).bind fun h10 =>
  (tk_gR h10 5 21 x0).bind fun v11 =>
  (tk_gI h10 5 2 x0).bind fun v12 =>
  (tk_sI h10 0 v11 ((40 * x1) + v8) v12).bind fun h13 =>
  (tk_gR h13 5 19 x0).bind fun v14 =>
  (tk_aI h13 0 v14 x1).bind fun v15 =>
  (tk_sI h13 0 v14 x1 (v15 + 1)).bind fun h16 =>
  (tk_gR h16 5 19 x0).bind fun v17 =>
  (tk_aI h16 0 v17 x1).bind fun v18 =>
  some (v18 - 1, h16, o1.2.2)))
set_option maxHeartbeats 8000000 in
set_option maxRecDepth 100000 in
theorem cX5_word_ok (l : Launch) (hl0 : l.stackTraces = false) (G : tk_AG) (N : Nat) (x0 : Nat) (x1 : Int32) (h : tk_AH) (sz : Nat) (r9 : Int32) (h9 : tk_AH) (sz9 : Nat) (hf : fX5_word N x0 x1 h sz = some (r9, h9, sz9)) : Met l yX5_word (coX5_word :: tk_W) ({ frames := 2, cells := 0, slots := 0, locals := 43 }) (tk_pc G [.ref x0, .int x1] h sz) (tk_qc G (some (.int r9)) h9 sz9) 0 0 (tk_ag G) := by
  refine Met.ofW (cc := cX5_word) (maxL := 3) (ret := (some .int)) (by decide) rfl ?_
  intro p e s m args below meth c s₁ B hml hv
  obtain ⟨hav, hE, hrp, hsz, hgs⟩ := hv
  have hx := B.exec
  have hb := B.bytes
  have hr := B.returns
  have hts := atoms_spec (ws := coX5_word :: tk_W) B.pre
  have ht : ∀ w ∈ tk_W, w.before args s = true := fun w h => hts w (List.mem_cons_of_mem _ h)
  have hown : s.vm.findClass RX5 = some m.cls := findClass_of_methodNamed B.named
  have hlocks := B.notSynchronized
  have hs : tk_sw G s h sz s.heap [] := ⟨hrp, hsz, by rw [hsz]; exact hgs, va_S.rf⟩
  have hl := lv_entry ([.ref x0, .int x1]) (n := 3) (Nat.le_of_ble_eq_true rfl)
  have hent : entryFrame m args 3 = F0 m 0 (lg_sl ([.ref x0, .int x1]) ++ List.replicate (3 - (lg_sl ([.ref x0, .int x1])).length) Slot.unset).toArray [] := by rw [hav, lg_entry_eq]
  rw [hent]
  clear hent
  generalize (lg_sl ([.ref x0, .int x1]) ++ List.replicate (3 - (lg_sl ([.ref x0, .int x1])).length) Slot.unset).toArray = ls at hl ⊢
  have hl : lv_has ls 3 [(0, .ref x0), (1, .int x1)] := hl
  unfold fX5_word at hf
  refine lv_aload_n hx hb dX5_word_0 rfl (lv_at hl 0 rfl) ?_
  refine lv_iload_n hx hb dX5_word_1 rfl (lv_at hl 1 rfl) ?_
  obtain ⟨_, p1, hf⟩ := tk_bi hf
  obtain ⟨o1, e1, hf⟩ := tk_bi hf
  refine tk_call0 (v := some (.int o1.1)) hs (va_runV (As := [.int x1]) (rest := []) ⟨hx, hb, hml, hown, ht⟩ (cX5_isLearner_ok l hl0 G N x0 x1 h sz o1.1 o1.2.1 o1.2.2 e1) (kwX5_isLearner ht wmX5_100 rfl rfl ⟨Nat.le_of_ble_eq_true rfl, Nat.le_of_ble_eq_true rfl⟩) (tk_preV hE hs (tk_ok_ok p1) rfl) rfl rfl hl.1 rfl (lv_room (Nat.le_of_ble_eq_true rfl)) dX5_word_2 ⟨(Nat.le_of_ble_eq_true rfl), (Nat.le_of_ble_eq_true rfl)⟩) (fun H locs hs => ?_)
  refine W.eq (g2 := F0 m 5 ls [.int o1.1]) rfl ?_
  refine lv_if_ne (tgt := 10) hx hb dX5_word_5 (by decide) (fun c3 => ?_) (fun c3 => ?_)
  · rw [if_neg c3] at hf
    refine lv_aload_n hx hb dX5_word_10 rfl (lv_at hl 0 rfl) ?_
    obtain ⟨v4, e4, hf⟩ := tk_bi hf
    refine tk_getR hx hb ht inX5 hown hE hs rfl 19 (by decide) (ht _ wfX5_50) e4 dX5_word_11 ?_
    refine lv_iload_n hx hb dX5_word_14 rfl (lv_at hl 1 rfl) ?_
    obtain ⟨v5, e5, hf⟩ := tk_bi hf
    refine tk_iald hx hb hE hs e5 dX5_word_15 ?_
    refine lv_bipush (v := 40) hx hb dX5_word_16 (by decide) ?_
    refine lv_icmp_ne (tgt := 23) hx hb dX5_word_18 (by decide) (fun c6 => ?_) (fun c6 => ?_)
    · rw [if_neg c6] at hf
      refine lv_bipush (v := 40) hx hb dX5_word_23 (by decide) ?_
      refine lv_iload_n hx hb dX5_word_25 rfl (lv_at hl 1 rfl) ?_
      refine lv_imul hx hb dX5_word_26 ?_
      refine lv_aload_n hx hb dX5_word_27 rfl (lv_at hl 0 rfl) ?_
      obtain ⟨v7, e7, hf⟩ := tk_bi hf
      refine tk_getR hx hb ht inX5 hown hE hs rfl 19 (by decide) (ht _ wfX5_50) e7 dX5_word_28 ?_
      refine lv_iload_n hx hb dX5_word_31 rfl (lv_at hl 1 rfl) ?_
      obtain ⟨v8, e8, hf⟩ := tk_bi hf
      refine tk_iald hx hb hE hs e8 dX5_word_32 ?_
      refine lv_iadd hx hb dX5_word_33 ?_
      refine lv_istore_n (lv' := [(2, .int ((40 * x1) + v8)), (0, .ref x0), (1, .int x1)]) hx hb dX5_word_34 rfl hl (by decide) rfl (fun ls hl => ?_)
      refine lv_aload_n hx hb dX5_word_35 rfl (lv_at hl 1 rfl) ?_
      obtain ⟨v9, e9, hf⟩ := tk_bi hf
      refine tk_getR hx hb ht inX5 hown hE hs rfl 20 (by decide) (ht _ wfX5_53) e9 dX5_word_36 ?_
      refine lv_iload_n hx hb dX5_word_39 rfl (lv_at hl 0 rfl) ?_
      refine lv_iconst (v := 0) hx hb dX5_word_40 (by decide) ?_
      obtain ⟨h10, e10, hf⟩ := tk_bi hf
      refine tk_iast hx hb hE hs e10 dX5_word_41 (fun H locs hs => ?_)
      refine lv_aload_n hx hb dX5_word_42 rfl (lv_at hl 1 rfl) ?_
      obtain ⟨v11, e11, hf⟩ := tk_bi hf
      refine tk_getR hx hb ht inX5 hown hE hs rfl 21 (by decide) (ht _ wfX5_56) e11 dX5_word_43 ?_
      refine lv_iload_n hx hb dX5_word_46 rfl (lv_at hl 0 rfl) ?_
      refine lv_aload_n hx hb dX5_word_47 rfl (lv_at hl 1 rfl) ?_
      obtain ⟨v12, e12, hf⟩ := tk_bi hf
      refine tk_getI hx hb ht inX5 hown hE hs rfl 2 (by decide) (ht _ wfX5_167) e12 dX5_word_48 ?_
      obtain ⟨h13, e13, hf⟩ := tk_bi hf
      refine tk_iast hx hb hE hs e13 dX5_word_51 (fun H locs hs => ?_)
      refine lv_aload_n hx hb dX5_word_52 rfl (lv_at hl 1 rfl) ?_
      obtain ⟨v14, e14, hf⟩ := tk_bi hf
      refine tk_getR hx hb ht inX5 hown hE hs rfl 19 (by decide) (ht _ wfX5_50) e14 dX5_word_53 ?_
      refine lv_iload_n hx hb dX5_word_56 rfl (lv_at hl 2 rfl) ?_
      refine lv_dup2_11 hx hb dX5_word_57 rfl rfl ?_
      obtain ⟨v15, e15, hf⟩ := tk_bi hf
      refine tk_iald hx hb hE hs e15 dX5_word_58 ?_
      refine lv_iconst (v := 1) hx hb dX5_word_59 (by decide) ?_
      refine lv_iadd hx hb dX5_word_60 ?_
      obtain ⟨h16, e16, hf⟩ := tk_bi hf
      refine tk_iast hx hb hE hs e16 dX5_word_61 (fun H locs hs => ?_)
      refine lv_aload_n hx hb dX5_word_62 rfl (lv_at hl 1 rfl) ?_
      obtain ⟨v17, e17, hf⟩ := tk_bi hf
      refine tk_getR hx hb ht inX5 hown hE hs rfl 19 (by decide) (ht _ wfX5_50) e17 dX5_word_63 ?_
      refine lv_iload_n hx hb dX5_word_66 rfl (lv_at hl 2 rfl) ?_
      obtain ⟨v18, e18, hf⟩ := tk_bi hf
      refine tk_iald hx hb hE hs e18 dX5_word_67 ?_
      refine lv_iconst (v := 1) hx hb dX5_word_68 (by decide) ?_
      refine lv_isub hx hb dX5_word_69 ?_
      cases hf
      exact tk_iret hx hb hr hlocks hs dX5_word_70
    · rw [if_pos c6] at hf
      refine lv_iconst (v := (-1)) hx hb dX5_word_21 (by decide) ?_
      cases hf
      exact tk_iret hx hb hr hlocks hs dX5_word_22
  · rw [if_pos c3] at hf
    refine lv_iconst (v := 0) hx hb dX5_word_8 (by decide) ?_
    cases hf
    exact tk_iret hx hb hr hlocks hs dX5_word_9
def fX5_isWord_40 (N : Nat) (y0 : Int32) (h : tk_AH) (sz : Nat) : Option (Int32 × tk_AH × Nat) :=
  (tk_bz y0).bind fun _ =>
  some (y0, h, sz)
def fX5_isWord_39 (N : Nat) (h : tk_AH) (sz : Nat) : Option (Int32 × tk_AH × Nat) :=
  fX5_isWord_40 N 0 h sz
def fX5_isWord_28 (N : Nat) (y0 : Int32) (y1 : Nat) (h : tk_AH) (sz : Nat) : Option (Int32 × tk_AH × Nat) :=
  (tk_ok h 5 y1).bind fun _ =>
  (fX5_right N y1 y0 1 h sz).bind fun o2 =>
  if o2.1 = 0 then (
  fX5_isWord_39 N o2.2.1 o2.2.2) else (
  fX5_isWord_40 N 1 o2.2.1 o2.2.2)
def fX5_isWord_27 (N : Nat) (y0 : Nat) (h : tk_AH) (sz : Nat) : Option (Int32 × tk_AH × Nat) :=
  fX5_isWord_28 N 0 y0 h sz
def fX5_isWord (N : Nat) (x0 : Nat) (x1 : Int32) (x2 : Int32) (h : tk_AH) (sz : Nat) : Option (Int32 × tk_AH × Nat) :=
  (tk_ok h 5 x0).bind fun _ =>
  (fX5_isLearner N x0 x1 h sz).bind fun o5 =>
  if o5.1 = 0 then (
  fX5_isWord_39 N o5.2.1 o5.2.2) else (
  if x2 < 0 then (
  fX5_isWord_27 N x0 o5.2.1 o5.2.2) else (
  (tk_gR o5.2.1 5 19 x0).bind fun v9 =>
  (tk_aI o5.2.1 0 v9 x1).bind fun v10 =>
  if v10 ≤ x2 then (
  fX5_isWord_27 N x0 o5.2.1 o5.2.2) else (
  fX5_isWord_28 N 1 x0 o5.2.1 o5.2.2)))
set_option maxHeartbeats 8000000 in
set_option maxRecDepth 100000 in
theorem cX5_isWord_ok (l : Launch) (hl0 : l.stackTraces = false) (G : tk_AG) (N : Nat) (x0 : Nat) (x1 : Int32) (x2 : Int32) (h : tk_AH) (sz : Nat) (r9 : Int32) (h9 : tk_AH) (sz9 : Nat) (hf : fX5_isWord N x0 x1 x2 h sz = some (r9, h9, sz9)) : Met l yX5_isWord (coX5_isWord :: tk_W) ({ frames := 2, cells := 0, slots := 0, locals := 43 }) (tk_pc G [.ref x0, .int x1, .int x2] h sz) (tk_qc G (some (.int r9)) h9 sz9) 0 0 (tk_ag G) := by
  refine Met.ofW (cc := cX5_isWord) (maxL := 3) (ret := (some .boolean)) (by decide) rfl ?_
  intro p e s m args below meth c s₁ B hml hv
  obtain ⟨hav, hE, hrp, hsz, hgs⟩ := hv
  have hx := B.exec
  have hb := B.bytes
  have hr := B.returns
  have hts := atoms_spec (ws := coX5_isWord :: tk_W) B.pre
  have ht : ∀ w ∈ tk_W, w.before args s = true := fun w h => hts w (List.mem_cons_of_mem _ h)
  have hown : s.vm.findClass RX5 = some m.cls := findClass_of_methodNamed B.named
  have hlocks := B.notSynchronized
  have hs : tk_sw G s h sz s.heap [] := ⟨hrp, hsz, by rw [hsz]; exact hgs, va_S.rf⟩
  have hl := lv_entry ([.ref x0, .int x1, .int x2]) (n := 3) (Nat.le_of_ble_eq_true rfl)
  have hent : entryFrame m args 3 = F0 m 0 (lg_sl ([.ref x0, .int x1, .int x2]) ++ List.replicate (3 - (lg_sl ([.ref x0, .int x1, .int x2])).length) Slot.unset).toArray [] := by rw [hav, lg_entry_eq]
  rw [hent]
  clear hent
  generalize (lg_sl ([.ref x0, .int x1, .int x2]) ++ List.replicate (3 - (lg_sl ([.ref x0, .int x1, .int x2])).length) Slot.unset).toArray = ls at hl ⊢
  have hl : lv_has ls 3 [(0, .ref x0), (1, .int x1), (2, .int x2)] := hl
  have j40 : ∀ (y0 : Int32) (h : tk_AH) (sz : Nat) (H : Heap) (locs : List Loc) (ls : Array Slot), fX5_isWord_40 N y0 h sz = some (r9, h9, sz9) → tk_sw G s h sz H locs → lv_has ls 3 [] → W p l e (headSpec (coX5_isWord :: tk_W) ({ frames := 2, cells := 0, slots := 0, locals := 43 })).room s m args below meth c H locs 0 (0) (MQ below (tk_qc G (some (.int r9)) h9 sz9) args s 0 0 (tk_ag G)) (F0 m 40 ls [.int y0]) := by
    intro y0 h sz H locs ls hf hs hl
    unfold fX5_isWord_40 at hf
    obtain ⟨_, e1, hf⟩ := tk_bi hf
    have e1 := tk_bz_ok e1
    cases hf
    exact tk_zret hx hb hr hlocks e1 hs dX5_isWord_40
  have j39 : ∀ (h : tk_AH) (sz : Nat) (H : Heap) (locs : List Loc) (ls : Array Slot), fX5_isWord_39 N h sz = some (r9, h9, sz9) → tk_sw G s h sz H locs → lv_has ls 3 [] → W p l e (headSpec (coX5_isWord :: tk_W) ({ frames := 2, cells := 0, slots := 0, locals := 43 })).room s m args below meth c H locs 0 (0) (MQ below (tk_qc G (some (.int r9)) h9 sz9) args s 0 0 (tk_ag G)) (F0 m 39 ls []) := by
    intro h sz H locs ls hf hs hl
    unfold fX5_isWord_39 at hf
    refine lv_iconst (v := 0) hx hb dX5_isWord_39 (by decide) ?_
    exact j40 0 h sz _ _ _ hf hs (lv_sub hl [] rfl)
  have j28 : ∀ (y0 : Int32) (y1 : Nat) (h : tk_AH) (sz : Nat) (H : Heap) (locs : List Loc) (ls : Array Slot), fX5_isWord_28 N y0 y1 h sz = some (r9, h9, sz9) → tk_sw G s h sz H locs → lv_has ls 3 [] → W p l e (headSpec (coX5_isWord :: tk_W) ({ frames := 2, cells := 0, slots := 0, locals := 43 })).room s m args below meth c H locs 0 (0) (MQ below (tk_qc G (some (.int r9)) h9 sz9) args s 0 0 (tk_ag G)) (F0 m 28 ls [.int y0, .ref y1]) := by
    intro y0 y1 h sz H locs ls hf hs hl
    unfold fX5_isWord_28 at hf
    refine lv_iconst (v := 1) hx hb dX5_isWord_28 (by decide) ?_
    obtain ⟨_, p2, hf⟩ := tk_bi hf
    obtain ⟨o2, e2, hf⟩ := tk_bi hf
    refine tk_call0 (v := some (.int o2.1)) hs (va_runV (As := [.int y0, .int 1]) (rest := []) ⟨hx, hb, hml, hown, ht⟩ (cX5_right_ok l hl0 G N y1 y0 1 h sz o2.1 o2.2.1 o2.2.2 e2) (kwX5_right ht wmX5_96 rfl rfl ⟨Nat.le_of_ble_eq_true rfl, Nat.le_of_ble_eq_true rfl⟩) (tk_preV hE hs (tk_ok_ok p2) rfl) rfl rfl hl.1 rfl (lv_room (Nat.le_of_ble_eq_true rfl)) dX5_isWord_29 ⟨(Nat.le_of_ble_eq_true rfl), (Nat.le_of_ble_eq_true rfl)⟩) (fun H locs hs => ?_)
    refine W.eq (g2 := F0 m 32 ls [.int o2.1]) rfl ?_
    refine lv_if_eq (tgt := 39) hx hb dX5_isWord_32 (by decide) (fun c4 => ?_) (fun c4 => ?_)
    · rw [if_pos c4] at hf
      exact j39 o2.2.1 o2.2.2 _ _ _ hf hs (lv_sub hl [] rfl)
    · rw [if_neg c4] at hf
      refine lv_iconst (v := 1) hx hb dX5_isWord_35 (by decide) ?_
      refine lv_goto (tgt := 40) hx hb dX5_isWord_36 (by decide) ?_
      exact j40 1 o2.2.1 o2.2.2 _ _ _ hf hs (lv_sub hl [] rfl)
  have j27 : ∀ (y0 : Nat) (h : tk_AH) (sz : Nat) (H : Heap) (locs : List Loc) (ls : Array Slot), fX5_isWord_27 N y0 h sz = some (r9, h9, sz9) → tk_sw G s h sz H locs → lv_has ls 3 [] → W p l e (headSpec (coX5_isWord :: tk_W) ({ frames := 2, cells := 0, slots := 0, locals := 43 })).room s m args below meth c H locs 0 (0) (MQ below (tk_qc G (some (.int r9)) h9 sz9) args s 0 0 (tk_ag G)) (F0 m 27 ls [.ref y0]) := by
    intro y0 h sz H locs ls hf hs hl
    unfold fX5_isWord_27 at hf
    refine lv_iconst (v := 0) hx hb dX5_isWord_27 (by decide) ?_
    exact j28 0 y0 h sz _ _ _ hf hs (lv_sub hl [] rfl)
  unfold fX5_isWord at hf
  refine lv_aload_n hx hb dX5_isWord_0 rfl (lv_at hl 0 rfl) ?_
  refine lv_iload_n hx hb dX5_isWord_1 rfl (lv_at hl 1 rfl) ?_
  obtain ⟨_, p5, hf⟩ := tk_bi hf
  obtain ⟨o5, e5, hf⟩ := tk_bi hf
  refine tk_call0 (v := some (.int o5.1)) hs (va_runV (As := [.int x1]) (rest := []) ⟨hx, hb, hml, hown, ht⟩ (cX5_isLearner_ok l hl0 G N x0 x1 h sz o5.1 o5.2.1 o5.2.2 e5) (kwX5_isLearner ht wmX5_100 rfl rfl ⟨Nat.le_of_ble_eq_true rfl, Nat.le_of_ble_eq_true rfl⟩) (tk_preV hE hs (tk_ok_ok p5) rfl) rfl rfl hl.1 rfl (lv_room (Nat.le_of_ble_eq_true rfl)) dX5_isWord_2 ⟨(Nat.le_of_ble_eq_true rfl), (Nat.le_of_ble_eq_true rfl)⟩) (fun H locs hs => ?_)
  refine W.eq (g2 := F0 m 5 ls [.int o5.1]) rfl ?_
  refine lv_if_eq (tgt := 39) hx hb dX5_isWord_5 (by decide) (fun c7 => ?_) (fun c7 => ?_)
  · rw [if_pos c7] at hf
    exact j39 o5.2.1 o5.2.2 _ _ _ hf hs (lv_sub hl [] rfl)
  · rw [if_neg c7] at hf
    refine lv_aload_n hx hb dX5_isWord_8 rfl (lv_at hl 0 rfl) ?_
    refine lv_iload_n hx hb dX5_isWord_9 rfl (lv_at hl 2 rfl) ?_
    refine lv_if_lt (tgt := 27) hx hb dX5_isWord_10 (by decide) (fun c8 => ?_) (fun c8 => ?_)
    · rw [if_pos c8] at hf
      exact j27 x0 o5.2.1 o5.2.2 _ _ _ hf hs (lv_sub hl [] rfl)
    · rw [if_neg c8] at hf
      refine lv_iload_n hx hb dX5_isWord_13 rfl (lv_at hl 2 rfl) ?_
      refine lv_aload_n hx hb dX5_isWord_14 rfl (lv_at hl 0 rfl) ?_
      obtain ⟨v9, e9, hf⟩ := tk_bi hf
      refine tk_getR hx hb ht inX5 hown hE hs rfl 19 (by decide) (ht _ wfX5_50) e9 dX5_isWord_15 ?_
      refine lv_iload_n hx hb dX5_isWord_18 rfl (lv_at hl 1 rfl) ?_
      obtain ⟨v10, e10, hf⟩ := tk_bi hf
      refine tk_iald hx hb hE hs e10 dX5_isWord_19 ?_
      refine lv_icmp_ge (tgt := 27) hx hb dX5_isWord_20 (by decide) (fun c11 => ?_) (fun c11 => ?_)
      · rw [if_pos c11] at hf
        exact j27 x0 o5.2.1 o5.2.2 _ _ _ hf hs (lv_sub hl [] rfl)
      · rw [if_neg c11] at hf
        refine lv_iconst (v := 1) hx hb dX5_isWord_23 (by decide) ?_
        refine lv_goto (tgt := 28) hx hb dX5_isWord_24 (by decide) ?_
        exact j28 1 x0 o5.2.1 o5.2.2 _ _ _ hf hs (lv_sub hl [] rfl)
def fX5_asked_73 (N : Nat) (x0 : Nat) (x4 : Int32) (y0 : Int32) (y1 : Int32) (y2 : Nat) (h : tk_AH) (sz : Nat) : Option (Int32 × tk_AH × Nat) :=
  (tk_sI h 0 y2 y1 y0).bind fun h1 =>
  (tk_gR h1 5 21 x0).bind fun v2 =>
  (tk_gI h1 5 2 x0).bind fun v3 =>
  (tk_gR h1 5 20 x0).bind fun v4 =>
  (tk_aI h1 0 v4 x4).bind fun v5 =>
  (tk_sI h1 0 v2 x4 (v3 + (1 <<< (v5 &&& 31)))).bind fun h6 =>
  (tk_bz 1).bind fun _ =>
  some (1, h6, sz)
def fX5_asked (N : Nat) (x0 : Nat) (x1 : Int32) (x2 : Int32) (x3 : Int32) (h : tk_AH) (sz : Nat) : Option (Int32 × tk_AH × Nat) :=
  (tk_ok h 5 x0).bind fun _ =>
  (fX5_isWord N x0 x1 x2 h sz).bind fun o8 =>
  if o8.1 = 0 then (
  (tk_bz 0).bind fun _ =>
  some (0, o8.2.1, o8.2.2)) else (
  (tk_gR o8.2.1 5 21 x0).bind fun v11 =>
  (tk_aI o8.2.1 0 v11 ((40 * x1) + x2)).bind fun v12 =>
  (tk_gI o8.2.1 5 2 x0).bind fun v13 =>
  if v12 ≤ v13 then (
  (tk_gR o8.2.1 5 20 x0).bind fun v15 =>
  if x3 = 0 then (
  fX5_asked_73 N x0 ((40 * x1) + x2) 0 ((40 * x1) + x2) v15 o8.2.1 o8.2.2) else (
  (tk_gR o8.2.1 5 20 x0).bind fun v17 =>
  (tk_aI o8.2.1 0 v17 ((40 * x1) + x2)).bind fun v18 =>
  if v18 = 5 then (
  fX5_asked_73 N x0 ((40 * x1) + x2) 5 ((40 * x1) + x2) v15 o8.2.1 o8.2.2) else (
  (tk_gR o8.2.1 5 20 x0).bind fun v20 =>
  (tk_aI o8.2.1 0 v20 ((40 * x1) + x2)).bind fun v21 =>
  fX5_asked_73 N x0 ((40 * x1) + x2) (v21 + 1) ((40 * x1) + x2) v15 o8.2.1 o8.2.2))) else (
  (tk_bz 0).bind fun _ =>
  some (0, o8.2.1, o8.2.2)))
set_option maxHeartbeats 8000000 in
set_option maxRecDepth 100000 in
theorem cX5_asked_ok (l : Launch) (hl0 : l.stackTraces = false) (G : tk_AG) (N : Nat) (x0 : Nat) (x1 : Int32) (x2 : Int32) (x3 : Int32) (h : tk_AH) (sz : Nat) (r9 : Int32) (h9 : tk_AH) (sz9 : Nat) (hf : fX5_asked N x0 x1 x2 x3 h sz = some (r9, h9, sz9)) : Met l yX5_asked (coX5_asked :: tk_W) ({ frames := 3, cells := 0, slots := 0, locals := 65 }) (tk_pc G [.ref x0, .int x1, .int x2, .int x3] h sz) (tk_qc G (some (.int r9)) h9 sz9) 0 0 (tk_ag G) := by
  refine Met.ofW (cc := cX5_asked) (maxL := 5) (ret := (some .boolean)) (by decide) rfl ?_
  intro p e s m args below meth c s₁ B hml hv
  obtain ⟨hav, hE, hrp, hsz, hgs⟩ := hv
  have hx := B.exec
  have hb := B.bytes
  have hr := B.returns
  have hts := atoms_spec (ws := coX5_asked :: tk_W) B.pre
  have ht : ∀ w ∈ tk_W, w.before args s = true := fun w h => hts w (List.mem_cons_of_mem _ h)
  have hown : s.vm.findClass RX5 = some m.cls := findClass_of_methodNamed B.named
  have hlocks := B.notSynchronized
  have hs : tk_sw G s h sz s.heap [] := ⟨hrp, hsz, by rw [hsz]; exact hgs, va_S.rf⟩
  have hl := lv_entry ([.ref x0, .int x1, .int x2, .int x3]) (n := 5) (Nat.le_of_ble_eq_true rfl)
  have hent : entryFrame m args 5 = F0 m 0 (lg_sl ([.ref x0, .int x1, .int x2, .int x3]) ++ List.replicate (5 - (lg_sl ([.ref x0, .int x1, .int x2, .int x3])).length) Slot.unset).toArray [] := by rw [hav, lg_entry_eq]
  rw [hent]
  clear hent
  generalize (lg_sl ([.ref x0, .int x1, .int x2, .int x3]) ++ List.replicate (5 - (lg_sl ([.ref x0, .int x1, .int x2, .int x3])).length) Slot.unset).toArray = ls at hl ⊢
  have hl : lv_has ls 5 [(0, .ref x0), (1, .int x1), (2, .int x2), (3, .int x3)] := hl
  have j73 : ∀ (x0 : Nat) (x4 : Int32) (y0 : Int32) (y1 : Int32) (y2 : Nat) (h : tk_AH) (sz : Nat) (H : Heap) (locs : List Loc) (ls : Array Slot), fX5_asked_73 N x0 x4 y0 y1 y2 h sz = some (r9, h9, sz9) → tk_sw G s h sz H locs → lv_has ls 5 [(0, .ref x0), (4, .int x4)] → W p l e (headSpec (coX5_asked :: tk_W) ({ frames := 3, cells := 0, slots := 0, locals := 65 })).room s m args below meth c H locs 0 (0) (MQ below (tk_qc G (some (.int r9)) h9 sz9) args s 0 0 (tk_ag G)) (F0 m 73 ls [.int y0, .int y1, .ref y2]) := by
    intro x0 x4 y0 y1 y2 h sz H locs ls hf hs hl
    unfold fX5_asked_73 at hf
    obtain ⟨h1, e1, hf⟩ := tk_bi hf
    refine tk_iast hx hb hE hs e1 dX5_asked_73 (fun H locs hs => ?_)
    refine lv_aload_n hx hb dX5_asked_74 rfl (lv_at hl 0 rfl) ?_
    obtain ⟨v2, e2, hf⟩ := tk_bi hf
    refine tk_getR hx hb ht inX5 hown hE hs rfl 21 (by decide) (ht _ wfX5_56) e2 dX5_asked_75 ?_
    refine lv_iload hx hb dX5_asked_78 (lv_at hl 1 rfl) ?_
    refine lv_aload_n hx hb dX5_asked_80 rfl (lv_at hl 0 rfl) ?_
    obtain ⟨v3, e3, hf⟩ := tk_bi hf
    refine tk_getI hx hb ht inX5 hown hE hs rfl 2 (by decide) (ht _ wfX5_167) e3 dX5_asked_81 ?_
    refine lv_iconst (v := 1) hx hb dX5_asked_84 (by decide) ?_
    refine lv_aload_n hx hb dX5_asked_85 rfl (lv_at hl 0 rfl) ?_
    obtain ⟨v4, e4, hf⟩ := tk_bi hf
    refine tk_getR hx hb ht inX5 hown hE hs rfl 20 (by decide) (ht _ wfX5_53) e4 dX5_asked_86 ?_
    refine lv_iload hx hb dX5_asked_89 (lv_at hl 1 rfl) ?_
    obtain ⟨v5, e5, hf⟩ := tk_bi hf
    refine tk_iald hx hb hE hs e5 dX5_asked_91 ?_
    refine lv_ishl hx hb dX5_asked_92 ?_
    refine lv_iadd hx hb dX5_asked_93 ?_
    obtain ⟨h6, e6, hf⟩ := tk_bi hf
    refine tk_iast hx hb hE hs e6 dX5_asked_94 (fun H locs hs => ?_)
    refine lv_iconst (v := 1) hx hb dX5_asked_95 (by decide) ?_
    obtain ⟨_, e7, hf⟩ := tk_bi hf
    have e7 := tk_bz_ok e7
    cases hf
    exact tk_zret hx hb hr hlocks e7 hs dX5_asked_96
  unfold fX5_asked at hf
  refine lv_aload_n hx hb dX5_asked_0 rfl (lv_at hl 0 rfl) ?_
  refine lv_iload_n hx hb dX5_asked_1 rfl (lv_at hl 1 rfl) ?_
  refine lv_iload_n hx hb dX5_asked_2 rfl (lv_at hl 2 rfl) ?_
  obtain ⟨_, p8, hf⟩ := tk_bi hf
  obtain ⟨o8, e8, hf⟩ := tk_bi hf
  refine tk_call0 (v := some (.int o8.1)) hs (va_runV (As := [.int x1, .int x2]) (rest := []) ⟨hx, hb, hml, hown, ht⟩ (cX5_isWord_ok l hl0 G N x0 x1 x2 h sz o8.1 o8.2.1 o8.2.2 e8) (kwX5_isWord ht wmX5_176 rfl rfl ⟨Nat.le_of_ble_eq_true rfl, Nat.le_of_ble_eq_true rfl⟩) (tk_preV hE hs (tk_ok_ok p8) rfl) rfl rfl hl.1 rfl (lv_room (Nat.le_of_ble_eq_true rfl)) dX5_asked_3 ⟨(Nat.le_of_ble_eq_true rfl), (Nat.le_of_ble_eq_true rfl)⟩) (fun H locs hs => ?_)
  refine W.eq (g2 := F0 m 6 ls [.int o8.1]) rfl ?_
  refine lv_if_ne (tgt := 11) hx hb dX5_asked_6 (by decide) (fun c10 => ?_) (fun c10 => ?_)
  · rw [if_neg c10] at hf
    refine lv_bipush (v := 40) hx hb dX5_asked_11 (by decide) ?_
    refine lv_iload_n hx hb dX5_asked_13 rfl (lv_at hl 1 rfl) ?_
    refine lv_imul hx hb dX5_asked_14 ?_
    refine lv_iload_n hx hb dX5_asked_15 rfl (lv_at hl 2 rfl) ?_
    refine lv_iadd hx hb dX5_asked_16 ?_
    refine lv_istore (lv' := [(4, .int ((40 * x1) + x2)), (0, .ref x0), (1, .int x1), (2, .int x2), (3, .int x3)]) hx hb dX5_asked_17 hl (by decide) rfl (fun ls hl => ?_)
    refine lv_aload_n hx hb dX5_asked_19 rfl (lv_at hl 1 rfl) ?_
    obtain ⟨v11, e11, hf⟩ := tk_bi hf
    refine tk_getR hx hb ht inX5 hown hE hs rfl 21 (by decide) (ht _ wfX5_56) e11 dX5_asked_20 ?_
    refine lv_iload hx hb dX5_asked_23 (lv_at hl 0 rfl) ?_
    obtain ⟨v12, e12, hf⟩ := tk_bi hf
    refine tk_iald hx hb hE hs e12 dX5_asked_25 ?_
    refine lv_aload_n hx hb dX5_asked_26 rfl (lv_at hl 1 rfl) ?_
    obtain ⟨v13, e13, hf⟩ := tk_bi hf
    refine tk_getI hx hb ht inX5 hown hE hs rfl 2 (by decide) (ht _ wfX5_167) e13 dX5_asked_27 ?_
    refine lv_icmp_le (tgt := 35) hx hb dX5_asked_30 (by decide) (fun c14 => ?_) (fun c14 => ?_)
    · rw [if_pos c14] at hf
      refine lv_aload_n hx hb dX5_asked_35 rfl (lv_at hl 1 rfl) ?_
      obtain ⟨v15, e15, hf⟩ := tk_bi hf
      refine tk_getR hx hb ht inX5 hown hE hs rfl 20 (by decide) (ht _ wfX5_53) e15 dX5_asked_36 ?_
      refine lv_iload hx hb dX5_asked_39 (lv_at hl 0 rfl) ?_
      refine lv_iload_n hx hb dX5_asked_41 rfl (lv_at hl 4 rfl) ?_
      refine lv_if_ne (tgt := 49) hx hb dX5_asked_42 (by decide) (fun c16 => ?_) (fun c16 => ?_)
      · rw [if_neg c16] at hf
        refine lv_aload_n hx hb dX5_asked_49 rfl (lv_at hl 1 rfl) ?_
        obtain ⟨v17, e17, hf⟩ := tk_bi hf
        refine tk_getR hx hb ht inX5 hown hE hs rfl 20 (by decide) (ht _ wfX5_53) e17 dX5_asked_50 ?_
        refine lv_iload hx hb dX5_asked_53 (lv_at hl 0 rfl) ?_
        obtain ⟨v18, e18, hf⟩ := tk_bi hf
        refine tk_iald hx hb hE hs e18 dX5_asked_55 ?_
        refine lv_iconst (v := 5) hx hb dX5_asked_56 (by decide) ?_
        refine lv_icmp_ne (tgt := 64) hx hb dX5_asked_57 (by decide) (fun c19 => ?_) (fun c19 => ?_)
        · rw [if_neg c19] at hf
          refine lv_aload_n hx hb dX5_asked_64 rfl (lv_at hl 1 rfl) ?_
          obtain ⟨v20, e20, hf⟩ := tk_bi hf
          refine tk_getR hx hb ht inX5 hown hE hs rfl 20 (by decide) (ht _ wfX5_53) e20 dX5_asked_65 ?_
          refine lv_iload hx hb dX5_asked_68 (lv_at hl 0 rfl) ?_
          obtain ⟨v21, e21, hf⟩ := tk_bi hf
          refine tk_iald hx hb hE hs e21 dX5_asked_70 ?_
          refine lv_iconst (v := 1) hx hb dX5_asked_71 (by decide) ?_
          refine lv_iadd hx hb dX5_asked_72 ?_
          exact j73 x0 ((40 * x1) + x2) (v21 + 1) ((40 * x1) + x2) v15 o8.2.1 o8.2.2 _ _ _ hf hs (lv_sub hl [1, 0] rfl)
        · rw [if_pos c19] at hf
          refine lv_iconst (v := 5) hx hb dX5_asked_60 (by decide) ?_
          refine lv_goto (tgt := 73) hx hb dX5_asked_61 (by decide) ?_
          exact j73 x0 ((40 * x1) + x2) 5 ((40 * x1) + x2) v15 o8.2.1 o8.2.2 _ _ _ hf hs (lv_sub hl [1, 0] rfl)
      · rw [if_pos c16] at hf
        refine lv_iconst (v := 0) hx hb dX5_asked_45 (by decide) ?_
        refine lv_goto (tgt := 73) hx hb dX5_asked_46 (by decide) ?_
        exact j73 x0 ((40 * x1) + x2) 0 ((40 * x1) + x2) v15 o8.2.1 o8.2.2 _ _ _ hf hs (lv_sub hl [1, 0] rfl)
    · rw [if_neg c14] at hf
      refine lv_iconst (v := 0) hx hb dX5_asked_33 (by decide) ?_
      obtain ⟨_, e22, hf⟩ := tk_bi hf
      have e22 := tk_bz_ok e22
      cases hf
      exact tk_zret hx hb hr hlocks e22 hs dX5_asked_34
  · rw [if_pos c10] at hf
    refine lv_iconst (v := 0) hx hb dX5_asked_9 (by decide) ?_
    obtain ⟨_, e23, hf⟩ := tk_bi hf
    have e23 := tk_bz_ok e23
    cases hf
    exact tk_zret hx hb hr hlocks e23 hs dX5_asked_10
def fX5_wordOf_62 (N : Nat) (y0 : Int32) (h : tk_AH) (sz : Nat) : Option (Int32 × tk_AH × Nat) :=
  some (y0, h, sz)
def fX5_wordOf_31 (N : Nat) (h : tk_AH) (sz : Nat) : Option (Int32 × tk_AH × Nat) :=
  some (0, h, sz)
def fX5_wordOf_24 (N : Nat) (x0 : Nat) (x1 : Int32) (x2 : Int32) (x3 : Int32) (y0 : Int32) (y1 : Nat) (h : tk_AH) (sz : Nat) : Option (Int32 × tk_AH × Nat) :=
  (tk_ok h 5 y1).bind fun _ =>
  (fX5_right N y1 y0 1 h sz).bind fun o1 =>
  if o1.1 = 0 then (
  fX5_wordOf_31 N o1.2.1 o1.2.2) else (
  if x3 = 0 then (
  (tk_gR o1.2.1 5 20 x0).bind fun v7 =>
  (tk_aI o1.2.1 0 v7 ((40 * x1) + x2)).bind fun v8 =>
  fX5_wordOf_62 N v8 o1.2.1 o1.2.2) else (
  (tk_gR o1.2.1 5 21 x0).bind fun v5 =>
  (tk_aI o1.2.1 0 v5 ((40 * x1) + x2)).bind fun v6 =>
  fX5_wordOf_62 N v6 o1.2.1 o1.2.2))
def fX5_wordOf_19 (N : Nat) (x0 : Nat) (x1 : Int32) (x2 : Int32) (x3 : Int32) (y0 : Nat) (h : tk_AH) (sz : Nat) : Option (Int32 × tk_AH × Nat) :=
  fX5_wordOf_24 N x0 x1 x2 x3 1 y0 h sz
def fX5_wordOf (N : Nat) (x0 : Nat) (x1 : Int32) (x2 : Int32) (x3 : Int32) (h : tk_AH) (sz : Nat) : Option (Int32 × tk_AH × Nat) :=
  (tk_ok h 5 x0).bind fun _ =>
  (fX5_isWord N x0 x1 x2 h sz).bind fun o9 =>
  if o9.1 = 0 then (
  fX5_wordOf_31 N o9.2.1 o9.2.2) else (
  if x3 = 0 then (
  fX5_wordOf_19 N x0 x1 x2 x3 x0 o9.2.1 o9.2.2) else (
  if x3 = 1 then (
  fX5_wordOf_19 N x0 x1 x2 x3 x0 o9.2.1 o9.2.2) else (
  fX5_wordOf_24 N x0 x1 x2 x3 0 x0 o9.2.1 o9.2.2)))
set_option maxHeartbeats 8000000 in
set_option maxRecDepth 100000 in
theorem cX5_wordOf_ok (l : Launch) (hl0 : l.stackTraces = false) (G : tk_AG) (N : Nat) (x0 : Nat) (x1 : Int32) (x2 : Int32) (x3 : Int32) (h : tk_AH) (sz : Nat) (r9 : Int32) (h9 : tk_AH) (sz9 : Nat) (hf : fX5_wordOf N x0 x1 x2 x3 h sz = some (r9, h9, sz9)) : Met l yX5_wordOf (coX5_wordOf :: tk_W) ({ frames := 3, cells := 0, slots := 0, locals := 65 }) (tk_pc G [.ref x0, .int x1, .int x2, .int x3] h sz) (tk_qc G (some (.int r9)) h9 sz9) 0 0 (tk_ag G) := by
  refine Met.ofW (cc := cX5_wordOf) (maxL := 4) (ret := (some .int)) (by decide) rfl ?_
  intro p e s m args below meth c s₁ B hml hv
  obtain ⟨hav, hE, hrp, hsz, hgs⟩ := hv
  have hx := B.exec
  have hb := B.bytes
  have hr := B.returns
  have hts := atoms_spec (ws := coX5_wordOf :: tk_W) B.pre
  have ht : ∀ w ∈ tk_W, w.before args s = true := fun w h => hts w (List.mem_cons_of_mem _ h)
  have hown : s.vm.findClass RX5 = some m.cls := findClass_of_methodNamed B.named
  have hlocks := B.notSynchronized
  have hs : tk_sw G s h sz s.heap [] := ⟨hrp, hsz, by rw [hsz]; exact hgs, va_S.rf⟩
  have hl := lv_entry ([.ref x0, .int x1, .int x2, .int x3]) (n := 4) (Nat.le_of_ble_eq_true rfl)
  have hent : entryFrame m args 4 = F0 m 0 (lg_sl ([.ref x0, .int x1, .int x2, .int x3]) ++ List.replicate (4 - (lg_sl ([.ref x0, .int x1, .int x2, .int x3])).length) Slot.unset).toArray [] := by rw [hav, lg_entry_eq]
  rw [hent]
  clear hent
  generalize (lg_sl ([.ref x0, .int x1, .int x2, .int x3]) ++ List.replicate (4 - (lg_sl ([.ref x0, .int x1, .int x2, .int x3])).length) Slot.unset).toArray = ls at hl ⊢
  have hl : lv_has ls 4 [(0, .ref x0), (1, .int x1), (2, .int x2), (3, .int x3)] := hl
  have j62 : ∀ (y0 : Int32) (h : tk_AH) (sz : Nat) (H : Heap) (locs : List Loc) (ls : Array Slot), fX5_wordOf_62 N y0 h sz = some (r9, h9, sz9) → tk_sw G s h sz H locs → lv_has ls 4 [] → W p l e (headSpec (coX5_wordOf :: tk_W) ({ frames := 3, cells := 0, slots := 0, locals := 65 })).room s m args below meth c H locs 0 (0) (MQ below (tk_qc G (some (.int r9)) h9 sz9) args s 0 0 (tk_ag G)) (F0 m 62 ls [.int y0]) := by
    intro y0 h sz H locs ls hf hs hl
    unfold fX5_wordOf_62 at hf
    cases hf
    exact tk_iret hx hb hr hlocks hs dX5_wordOf_62
  have j31 : ∀ (h : tk_AH) (sz : Nat) (H : Heap) (locs : List Loc) (ls : Array Slot), fX5_wordOf_31 N h sz = some (r9, h9, sz9) → tk_sw G s h sz H locs → lv_has ls 4 [] → W p l e (headSpec (coX5_wordOf :: tk_W) ({ frames := 3, cells := 0, slots := 0, locals := 65 })).room s m args below meth c H locs 0 (0) (MQ below (tk_qc G (some (.int r9)) h9 sz9) args s 0 0 (tk_ag G)) (F0 m 31 ls []) := by
    intro h sz H locs ls hf hs hl
    unfold fX5_wordOf_31 at hf
    refine lv_iconst (v := 0) hx hb dX5_wordOf_31 (by decide) ?_
    cases hf
    exact tk_iret hx hb hr hlocks hs dX5_wordOf_32
  have j24 : ∀ (x0 : Nat) (x1 : Int32) (x2 : Int32) (x3 : Int32) (y0 : Int32) (y1 : Nat) (h : tk_AH) (sz : Nat) (H : Heap) (locs : List Loc) (ls : Array Slot), fX5_wordOf_24 N x0 x1 x2 x3 y0 y1 h sz = some (r9, h9, sz9) → tk_sw G s h sz H locs → lv_has ls 4 [(0, .ref x0), (1, .int x1), (2, .int x2), (3, .int x3)] → W p l e (headSpec (coX5_wordOf :: tk_W) ({ frames := 3, cells := 0, slots := 0, locals := 65 })).room s m args below meth c H locs 0 (0) (MQ below (tk_qc G (some (.int r9)) h9 sz9) args s 0 0 (tk_ag G)) (F0 m 24 ls [.int y0, .ref y1]) := by
    intro x0 x1 x2 x3 y0 y1 h sz H locs ls hf hs hl
    unfold fX5_wordOf_24 at hf
    refine lv_iconst (v := 1) hx hb dX5_wordOf_24 (by decide) ?_
    obtain ⟨_, p1, hf⟩ := tk_bi hf
    obtain ⟨o1, e1, hf⟩ := tk_bi hf
    refine tk_call0 (v := some (.int o1.1)) hs (va_runV (As := [.int y0, .int 1]) (rest := []) ⟨hx, hb, hml, hown, ht⟩ (cX5_right_ok l hl0 G N y1 y0 1 h sz o1.1 o1.2.1 o1.2.2 e1) (kwX5_right ht wmX5_96 rfl rfl ⟨Nat.le_of_ble_eq_true rfl, Nat.le_of_ble_eq_true rfl⟩) (tk_preV hE hs (tk_ok_ok p1) rfl) rfl rfl hl.1 rfl (lv_room (Nat.le_of_ble_eq_true rfl)) dX5_wordOf_25 ⟨(Nat.le_of_ble_eq_true rfl), (Nat.le_of_ble_eq_true rfl)⟩) (fun H locs hs => ?_)
    refine W.eq (g2 := F0 m 28 ls [.int o1.1]) rfl ?_
    refine lv_if_ne (tgt := 33) hx hb dX5_wordOf_28 (by decide) (fun c3 => ?_) (fun c3 => ?_)
    · rw [if_neg c3] at hf
      refine lv_iload_n hx hb dX5_wordOf_33 rfl (lv_at hl 3 rfl) ?_
      refine lv_if_ne (tgt := 51) hx hb dX5_wordOf_34 (by decide) (fun c4 => ?_) (fun c4 => ?_)
      · rw [if_neg c4] at hf
        refine lv_aload_n hx hb dX5_wordOf_51 rfl (lv_at hl 0 rfl) ?_
        obtain ⟨v5, e5, hf⟩ := tk_bi hf
        refine tk_getR hx hb ht inX5 hown hE hs rfl 21 (by decide) (ht _ wfX5_56) e5 dX5_wordOf_52 ?_
        refine lv_bipush (v := 40) hx hb dX5_wordOf_55 (by decide) ?_
        refine lv_iload_n hx hb dX5_wordOf_57 rfl (lv_at hl 1 rfl) ?_
        refine lv_imul hx hb dX5_wordOf_58 ?_
        refine lv_iload_n hx hb dX5_wordOf_59 rfl (lv_at hl 2 rfl) ?_
        refine lv_iadd hx hb dX5_wordOf_60 ?_
        obtain ⟨v6, e6, hf⟩ := tk_bi hf
        refine tk_iald hx hb hE hs e6 dX5_wordOf_61 ?_
        exact j62 v6 o1.2.1 o1.2.2 _ _ _ hf hs (lv_sub hl [] rfl)
      · rw [if_pos c4] at hf
        refine lv_aload_n hx hb dX5_wordOf_37 rfl (lv_at hl 0 rfl) ?_
        obtain ⟨v7, e7, hf⟩ := tk_bi hf
        refine tk_getR hx hb ht inX5 hown hE hs rfl 20 (by decide) (ht _ wfX5_53) e7 dX5_wordOf_38 ?_
        refine lv_bipush (v := 40) hx hb dX5_wordOf_41 (by decide) ?_
        refine lv_iload_n hx hb dX5_wordOf_43 rfl (lv_at hl 1 rfl) ?_
        refine lv_imul hx hb dX5_wordOf_44 ?_
        refine lv_iload_n hx hb dX5_wordOf_45 rfl (lv_at hl 2 rfl) ?_
        refine lv_iadd hx hb dX5_wordOf_46 ?_
        obtain ⟨v8, e8, hf⟩ := tk_bi hf
        refine tk_iald hx hb hE hs e8 dX5_wordOf_47 ?_
        refine lv_goto (tgt := 62) hx hb dX5_wordOf_48 (by decide) ?_
        exact j62 v8 o1.2.1 o1.2.2 _ _ _ hf hs (lv_sub hl [] rfl)
    · rw [if_pos c3] at hf
      exact j31 o1.2.1 o1.2.2 _ _ _ hf hs (lv_sub hl [] rfl)
  have j19 : ∀ (x0 : Nat) (x1 : Int32) (x2 : Int32) (x3 : Int32) (y0 : Nat) (h : tk_AH) (sz : Nat) (H : Heap) (locs : List Loc) (ls : Array Slot), fX5_wordOf_19 N x0 x1 x2 x3 y0 h sz = some (r9, h9, sz9) → tk_sw G s h sz H locs → lv_has ls 4 [(0, .ref x0), (1, .int x1), (2, .int x2), (3, .int x3)] → W p l e (headSpec (coX5_wordOf :: tk_W) ({ frames := 3, cells := 0, slots := 0, locals := 65 })).room s m args below meth c H locs 0 (0) (MQ below (tk_qc G (some (.int r9)) h9 sz9) args s 0 0 (tk_ag G)) (F0 m 19 ls [.ref y0]) := by
    intro x0 x1 x2 x3 y0 h sz H locs ls hf hs hl
    unfold fX5_wordOf_19 at hf
    refine lv_iconst (v := 1) hx hb dX5_wordOf_19 (by decide) ?_
    refine lv_goto (tgt := 24) hx hb dX5_wordOf_20 (by decide) ?_
    exact j24 x0 x1 x2 x3 1 y0 h sz _ _ _ hf hs (lv_sub hl [0, 1, 2, 3] rfl)
  unfold fX5_wordOf at hf
  refine lv_aload_n hx hb dX5_wordOf_0 rfl (lv_at hl 0 rfl) ?_
  refine lv_iload_n hx hb dX5_wordOf_1 rfl (lv_at hl 1 rfl) ?_
  refine lv_iload_n hx hb dX5_wordOf_2 rfl (lv_at hl 2 rfl) ?_
  obtain ⟨_, p9, hf⟩ := tk_bi hf
  obtain ⟨o9, e9, hf⟩ := tk_bi hf
  refine tk_call0 (v := some (.int o9.1)) hs (va_runV (As := [.int x1, .int x2]) (rest := []) ⟨hx, hb, hml, hown, ht⟩ (cX5_isWord_ok l hl0 G N x0 x1 x2 h sz o9.1 o9.2.1 o9.2.2 e9) (kwX5_isWord ht wmX5_176 rfl rfl ⟨Nat.le_of_ble_eq_true rfl, Nat.le_of_ble_eq_true rfl⟩) (tk_preV hE hs (tk_ok_ok p9) rfl) rfl rfl hl.1 rfl (lv_room (Nat.le_of_ble_eq_true rfl)) dX5_wordOf_3 ⟨(Nat.le_of_ble_eq_true rfl), (Nat.le_of_ble_eq_true rfl)⟩) (fun H locs hs => ?_)
  refine W.eq (g2 := F0 m 6 ls [.int o9.1]) rfl ?_
  refine lv_if_eq (tgt := 31) hx hb dX5_wordOf_6 (by decide) (fun c11 => ?_) (fun c11 => ?_)
  · rw [if_pos c11] at hf
    exact j31 o9.2.1 o9.2.2 _ _ _ hf hs (lv_sub hl [] rfl)
  · rw [if_neg c11] at hf
    refine lv_aload_n hx hb dX5_wordOf_9 rfl (lv_at hl 0 rfl) ?_
    refine lv_iload_n hx hb dX5_wordOf_10 rfl (lv_at hl 3 rfl) ?_
    refine lv_if_eq (tgt := 19) hx hb dX5_wordOf_11 (by decide) (fun c12 => ?_) (fun c12 => ?_)
    · rw [if_pos c12] at hf
      exact j19 x0 x1 x2 x3 x0 o9.2.1 o9.2.2 _ _ _ hf hs (lv_sub hl [0, 1, 2, 3] rfl)
    · rw [if_neg c12] at hf
      refine lv_iload_n hx hb dX5_wordOf_14 rfl (lv_at hl 3 rfl) ?_
      refine lv_iconst (v := 1) hx hb dX5_wordOf_15 (by decide) ?_
      refine lv_icmp_ne (tgt := 23) hx hb dX5_wordOf_16 (by decide) (fun c13 => ?_) (fun c13 => ?_)
      · rw [if_neg c13] at hf
        refine lv_iconst (v := 0) hx hb dX5_wordOf_23 (by decide) ?_
        exact j24 x0 x1 x2 x3 0 x0 o9.2.1 o9.2.2 _ _ _ hf hs (lv_sub hl [0, 1, 2, 3] rfl)
      · rw [if_pos c13] at hf
        exact j19 x0 x1 x2 x3 x0 o9.2.1 o9.2.2 _ _ _ hf hs (lv_sub hl [0, 1, 2, 3] rfl)
def fX5_next_74 (N : Nat) (k14 : Nat → Int32 → Int32 → Int32 → tk_AH → Nat → Option (Int32 × tk_AH × Nat)) (x0 : Nat) (x1 : Int32) (x2 : Int32) (x3 : Int32) (h : tk_AH) (sz : Nat) : Option (Int32 × tk_AH × Nat) :=
  k14 x0 x1 x2 (x3 + 1) h sz
def fX5_next_72 (N : Nat) (k14 : Nat → Int32 → Int32 → Int32 → tk_AH → Nat → Option (Int32 × tk_AH × Nat)) (x0 : Nat) (x1 : Int32) (x3 : Int32) (h : tk_AH) (sz : Nat) : Option (Int32 × tk_AH × Nat) :=
  fX5_next_74 N k14 x0 x1 x3 x3 h sz
def fX5_next_14 (N : Nat) : Nat → Nat → Int32 → Int32 → Int32 → tk_AH → Nat → Option (Int32 × tk_AH × Nat)
  | 0, _, _, _, _, _, _ => none
  | n + 1, x0, x1, x2, x3, h, sz =>
  (tk_gR h 5 19 x0).bind fun v1 =>
  (tk_aI h 0 v1 x1).bind fun v2 =>
  if v2 ≤ x3 then (
  some (x2, h, sz)) else (
  (tk_gR h 5 21 x0).bind fun v4 =>
  (tk_aI h 0 v4 ((40 * x1) + x3)).bind fun v5 =>
  (tk_gI h 5 2 x0).bind fun v6 =>
  if v6 < v5 then (
  fX5_next_74 N (fX5_next_14 N n) x0 x1 x2 x3 h sz) else (
  if x2 = (-1) then (
  fX5_next_72 N (fX5_next_14 N n) x0 x1 x3 h sz) else (
  (tk_gR h 5 21 x0).bind fun v9 =>
  (tk_aI h 0 v9 ((40 * x1) + x3)).bind fun v10 =>
  (tk_gR h 5 21 x0).bind fun v11 =>
  (tk_aI h 0 v11 ((40 * x1) + x2)).bind fun v12 =>
  if v12 ≤ v10 then (
  fX5_next_74 N (fX5_next_14 N n) x0 x1 x2 x3 h sz) else (
  fX5_next_72 N (fX5_next_14 N n) x0 x1 x3 h sz))))
def fX5_next (N : Nat) (x0 : Nat) (x1 : Int32) (h : tk_AH) (sz : Nat) : Option (Int32 × tk_AH × Nat) :=
  (tk_ok h 5 x0).bind fun _ =>
  (fX5_isLearner N x0 x1 h sz).bind fun o14 =>
  if o14.1 = 0 then (
  some (0, o14.2.1, o14.2.2)) else (
  fX5_next_14 N N x0 x1 (-1) 0 o14.2.1 o14.2.2)
set_option maxHeartbeats 8000000 in
set_option maxRecDepth 100000 in
theorem cX5_next_ok (l : Launch) (hl0 : l.stackTraces = false) (G : tk_AG) (N : Nat) (x0 : Nat) (x1 : Int32) (h : tk_AH) (sz : Nat) (r9 : Int32) (h9 : tk_AH) (sz9 : Nat) (hf : fX5_next N x0 x1 h sz = some (r9, h9, sz9)) : Met l yX5_next (coX5_next :: tk_W) ({ frames := 2, cells := 0, slots := 0, locals := 43 }) (tk_pc G [.ref x0, .int x1] h sz) (tk_qc G (some (.int r9)) h9 sz9) 0 0 (tk_ag G) := by
  refine Met.ofW (cc := cX5_next) (maxL := 4) (ret := (some .int)) (by decide) rfl ?_
  intro p e s m args below meth c s₁ B hml hv
  obtain ⟨hav, hE, hrp, hsz, hgs⟩ := hv
  have hx := B.exec
  have hb := B.bytes
  have hr := B.returns
  have hts := atoms_spec (ws := coX5_next :: tk_W) B.pre
  have ht : ∀ w ∈ tk_W, w.before args s = true := fun w h => hts w (List.mem_cons_of_mem _ h)
  have hown : s.vm.findClass RX5 = some m.cls := findClass_of_methodNamed B.named
  have hlocks := B.notSynchronized
  have hs : tk_sw G s h sz s.heap [] := ⟨hrp, hsz, by rw [hsz]; exact hgs, va_S.rf⟩
  have hl := lv_entry ([.ref x0, .int x1]) (n := 4) (Nat.le_of_ble_eq_true rfl)
  have hent : entryFrame m args 4 = F0 m 0 (lg_sl ([.ref x0, .int x1]) ++ List.replicate (4 - (lg_sl ([.ref x0, .int x1])).length) Slot.unset).toArray [] := by rw [hav, lg_entry_eq]
  rw [hent]
  clear hent
  generalize (lg_sl ([.ref x0, .int x1]) ++ List.replicate (4 - (lg_sl ([.ref x0, .int x1])).length) Slot.unset).toArray = ls at hl ⊢
  have hl : lv_has ls 4 [(0, .ref x0), (1, .int x1)] := hl
  have j74 : ∀ (k14 : Nat → Int32 → Int32 → Int32 → tk_AH → Nat → Option (Int32 × tk_AH × Nat)), (∀ (x0 : Nat) (x1 : Int32) (x2 : Int32) (x3 : Int32) (h : tk_AH) (sz : Nat) (H : Heap) (locs : List Loc) (ls : Array Slot), k14 x0 x1 x2 x3 h sz = some (r9, h9, sz9) → tk_sw G s h sz H locs → lv_has ls 4 [(0, .ref x0), (1, .int x1), (2, .int x2), (3, .int x3)] → W p l e (headSpec (coX5_next :: tk_W) ({ frames := 2, cells := 0, slots := 0, locals := 43 })).room s m args below meth c H locs 0 (0) (MQ below (tk_qc G (some (.int r9)) h9 sz9) args s 0 0 (tk_ag G)) (F0 m 14 ls [])) → ∀ (x0 : Nat) (x1 : Int32) (x2 : Int32) (x3 : Int32) (h : tk_AH) (sz : Nat) (H : Heap) (locs : List Loc) (ls : Array Slot), fX5_next_74 N k14 x0 x1 x2 x3 h sz = some (r9, h9, sz9) → tk_sw G s h sz H locs → lv_has ls 4 [(0, .ref x0), (1, .int x1), (2, .int x2), (3, .int x3)] → W p l e (headSpec (coX5_next :: tk_W) ({ frames := 2, cells := 0, slots := 0, locals := 43 })).room s m args below meth c H locs 0 (0) (MQ below (tk_qc G (some (.int r9)) h9 sz9) args s 0 0 (tk_ag G)) (F0 m 74 ls []) := by
    intro k14 hk14 x0 x1 x2 x3 h sz H locs ls hf hs hl
    unfold fX5_next_74 at hf
    refine lv_iinc (v := x3 + 1) (lv' := [(3, .int (x3 + 1)), (0, .ref x0), (1, .int x1), (2, .int x2)]) hx hb dX5_next_74 hl (k := 3) rfl rfl (by decide) rfl (fun ls hl => ?_)
    refine lv_goto (tgt := 14) hx hb dX5_next_77 (by decide) ?_
    exact hk14 x0 x1 x2 (x3 + 1) h sz _ _ _ hf hs (lv_sub hl [1, 2, 3, 0] rfl)
  have j72 : ∀ (k14 : Nat → Int32 → Int32 → Int32 → tk_AH → Nat → Option (Int32 × tk_AH × Nat)), (∀ (x0 : Nat) (x1 : Int32) (x2 : Int32) (x3 : Int32) (h : tk_AH) (sz : Nat) (H : Heap) (locs : List Loc) (ls : Array Slot), k14 x0 x1 x2 x3 h sz = some (r9, h9, sz9) → tk_sw G s h sz H locs → lv_has ls 4 [(0, .ref x0), (1, .int x1), (2, .int x2), (3, .int x3)] → W p l e (headSpec (coX5_next :: tk_W) ({ frames := 2, cells := 0, slots := 0, locals := 43 })).room s m args below meth c H locs 0 (0) (MQ below (tk_qc G (some (.int r9)) h9 sz9) args s 0 0 (tk_ag G)) (F0 m 14 ls [])) → ∀ (x0 : Nat) (x1 : Int32) (x3 : Int32) (h : tk_AH) (sz : Nat) (H : Heap) (locs : List Loc) (ls : Array Slot), fX5_next_72 N k14 x0 x1 x3 h sz = some (r9, h9, sz9) → tk_sw G s h sz H locs → lv_has ls 4 [(0, .ref x0), (1, .int x1), (3, .int x3)] → W p l e (headSpec (coX5_next :: tk_W) ({ frames := 2, cells := 0, slots := 0, locals := 43 })).room s m args below meth c H locs 0 (0) (MQ below (tk_qc G (some (.int r9)) h9 sz9) args s 0 0 (tk_ag G)) (F0 m 72 ls []) := by
    intro k14 hk14 x0 x1 x3 h sz H locs ls hf hs hl
    unfold fX5_next_72 at hf
    refine lv_iload_n hx hb dX5_next_72 rfl (lv_at hl 2 rfl) ?_
    refine lv_istore_n (lv' := [(2, .int x3), (0, .ref x0), (1, .int x1), (3, .int x3)]) hx hb dX5_next_73 rfl hl (by decide) rfl (fun ls hl => ?_)
    exact j74 k14 hk14 x0 x1 x3 x3 h sz _ _ _ hf hs (lv_sub hl [1, 2, 0, 3] rfl)
  have j14 : ∀ (n : Nat), ∀ (x0 : Nat) (x1 : Int32) (x2 : Int32) (x3 : Int32) (h : tk_AH) (sz : Nat) (H : Heap) (locs : List Loc) (ls : Array Slot), fX5_next_14 N n x0 x1 x2 x3 h sz = some (r9, h9, sz9) → tk_sw G s h sz H locs → lv_has ls 4 [(0, .ref x0), (1, .int x1), (2, .int x2), (3, .int x3)] → W p l e (headSpec (coX5_next :: tk_W) ({ frames := 2, cells := 0, slots := 0, locals := 43 })).room s m args below meth c H locs 0 (0) (MQ below (tk_qc G (some (.int r9)) h9 sz9) args s 0 0 (tk_ag G)) (F0 m 14 ls []) := by
    intro n
    induction n with
    | zero =>
      intro x0 x1 x2 x3 h sz H locs ls hf
      cases hf
    | succ n ih =>
      intro x0 x1 x2 x3 h sz H locs ls hf hs hl
      rw [fX5_next_14] at hf
      refine lv_iload_n hx hb dX5_next_14 rfl (lv_at hl 3 rfl) ?_
      refine lv_aload_n hx hb dX5_next_15 rfl (lv_at hl 0 rfl) ?_
      obtain ⟨v1, e1, hf⟩ := tk_bi hf
      refine tk_getR hx hb ht inX5 hown hE hs rfl 19 (by decide) (ht _ wfX5_50) e1 dX5_next_16 ?_
      refine lv_iload_n hx hb dX5_next_19 rfl (lv_at hl 1 rfl) ?_
      obtain ⟨v2, e2, hf⟩ := tk_bi hf
      refine tk_iald hx hb hE hs e2 dX5_next_20 ?_
      refine lv_icmp_ge (tgt := 80) hx hb dX5_next_21 (by decide) (fun c3 => ?_) (fun c3 => ?_)
      · rw [if_pos c3] at hf
        refine lv_iload_n hx hb dX5_next_80 rfl (lv_at hl 2 rfl) ?_
        cases hf
        exact tk_iret hx hb hr hlocks hs dX5_next_81
      · rw [if_neg c3] at hf
        refine lv_aload_n hx hb dX5_next_24 rfl (lv_at hl 0 rfl) ?_
        obtain ⟨v4, e4, hf⟩ := tk_bi hf
        refine tk_getR hx hb ht inX5 hown hE hs rfl 21 (by decide) (ht _ wfX5_56) e4 dX5_next_25 ?_
        refine lv_bipush (v := 40) hx hb dX5_next_28 (by decide) ?_
        refine lv_iload_n hx hb dX5_next_30 rfl (lv_at hl 1 rfl) ?_
        refine lv_imul hx hb dX5_next_31 ?_
        refine lv_iload_n hx hb dX5_next_32 rfl (lv_at hl 3 rfl) ?_
        refine lv_iadd hx hb dX5_next_33 ?_
        obtain ⟨v5, e5, hf⟩ := tk_bi hf
        refine tk_iald hx hb hE hs e5 dX5_next_34 ?_
        refine lv_aload_n hx hb dX5_next_35 rfl (lv_at hl 0 rfl) ?_
        obtain ⟨v6, e6, hf⟩ := tk_bi hf
        refine tk_getI hx hb ht inX5 hown hE hs rfl 2 (by decide) (ht _ wfX5_167) e6 dX5_next_36 ?_
        refine lv_icmp_gt (tgt := 74) hx hb dX5_next_39 (by decide) (fun c7 => ?_) (fun c7 => ?_)
        · rw [if_pos c7] at hf
          exact j74 (fX5_next_14 N n) ih x0 x1 x2 x3 h sz _ _ _ hf hs (lv_sub hl [0, 1, 2, 3] rfl)
        · rw [if_neg c7] at hf
          refine lv_iload_n hx hb dX5_next_42 rfl (lv_at hl 2 rfl) ?_
          refine lv_iconst (v := (-1)) hx hb dX5_next_43 (by decide) ?_
          refine lv_icmp_eq (tgt := 72) hx hb dX5_next_44 (by decide) (fun c8 => ?_) (fun c8 => ?_)
          · rw [if_pos c8] at hf
            exact j72 (fX5_next_14 N n) ih x0 x1 x3 h sz _ _ _ hf hs (lv_sub hl [0, 1, 3] rfl)
          · rw [if_neg c8] at hf
            refine lv_aload_n hx hb dX5_next_47 rfl (lv_at hl 0 rfl) ?_
            obtain ⟨v9, e9, hf⟩ := tk_bi hf
            refine tk_getR hx hb ht inX5 hown hE hs rfl 21 (by decide) (ht _ wfX5_56) e9 dX5_next_48 ?_
            refine lv_bipush (v := 40) hx hb dX5_next_51 (by decide) ?_
            refine lv_iload_n hx hb dX5_next_53 rfl (lv_at hl 1 rfl) ?_
            refine lv_imul hx hb dX5_next_54 ?_
            refine lv_iload_n hx hb dX5_next_55 rfl (lv_at hl 3 rfl) ?_
            refine lv_iadd hx hb dX5_next_56 ?_
            obtain ⟨v10, e10, hf⟩ := tk_bi hf
            refine tk_iald hx hb hE hs e10 dX5_next_57 ?_
            refine lv_aload_n hx hb dX5_next_58 rfl (lv_at hl 0 rfl) ?_
            obtain ⟨v11, e11, hf⟩ := tk_bi hf
            refine tk_getR hx hb ht inX5 hown hE hs rfl 21 (by decide) (ht _ wfX5_56) e11 dX5_next_59 ?_
            refine lv_bipush (v := 40) hx hb dX5_next_62 (by decide) ?_
            refine lv_iload_n hx hb dX5_next_64 rfl (lv_at hl 1 rfl) ?_
            refine lv_imul hx hb dX5_next_65 ?_
            refine lv_iload_n hx hb dX5_next_66 rfl (lv_at hl 2 rfl) ?_
            refine lv_iadd hx hb dX5_next_67 ?_
            obtain ⟨v12, e12, hf⟩ := tk_bi hf
            refine tk_iald hx hb hE hs e12 dX5_next_68 ?_
            refine lv_icmp_ge (tgt := 74) hx hb dX5_next_69 (by decide) (fun c13 => ?_) (fun c13 => ?_)
            · rw [if_pos c13] at hf
              exact j74 (fX5_next_14 N n) ih x0 x1 x2 x3 h sz _ _ _ hf hs (lv_sub hl [0, 1, 2, 3] rfl)
            · rw [if_neg c13] at hf
              exact j72 (fX5_next_14 N n) ih x0 x1 x3 h sz _ _ _ hf hs (lv_sub hl [0, 1, 3] rfl)
  unfold fX5_next at hf
  refine lv_aload_n hx hb dX5_next_0 rfl (lv_at hl 0 rfl) ?_
  refine lv_iload_n hx hb dX5_next_1 rfl (lv_at hl 1 rfl) ?_
  obtain ⟨_, p14, hf⟩ := tk_bi hf
  obtain ⟨o14, e14, hf⟩ := tk_bi hf
  refine tk_call0 (v := some (.int o14.1)) hs (va_runV (As := [.int x1]) (rest := []) ⟨hx, hb, hml, hown, ht⟩ (cX5_isLearner_ok l hl0 G N x0 x1 h sz o14.1 o14.2.1 o14.2.2 e14) (kwX5_isLearner ht wmX5_100 rfl rfl ⟨Nat.le_of_ble_eq_true rfl, Nat.le_of_ble_eq_true rfl⟩) (tk_preV hE hs (tk_ok_ok p14) rfl) rfl rfl hl.1 rfl (lv_room (Nat.le_of_ble_eq_true rfl)) dX5_next_2 ⟨(Nat.le_of_ble_eq_true rfl), (Nat.le_of_ble_eq_true rfl)⟩) (fun H locs hs => ?_)
  refine W.eq (g2 := F0 m 5 ls [.int o14.1]) rfl ?_
  refine lv_if_ne (tgt := 10) hx hb dX5_next_5 (by decide) (fun c16 => ?_) (fun c16 => ?_)
  · rw [if_neg c16] at hf
    refine lv_iconst (v := (-1)) hx hb dX5_next_10 (by decide) ?_
    refine lv_istore_n (lv' := [(2, .int (-1)), (0, .ref x0), (1, .int x1)]) hx hb dX5_next_11 rfl hl (by decide) rfl (fun ls hl => ?_)
    refine lv_iconst (v := 0) hx hb dX5_next_12 (by decide) ?_
    refine lv_istore_n (lv' := [(3, .int 0), (2, .int (-1)), (0, .ref x0), (1, .int x1)]) hx hb dX5_next_13 rfl hl (by decide) rfl (fun ls hl => ?_)
    exact j14 N x0 x1 (-1) 0 o14.2.1 o14.2.2 _ _ _ hf hs (lv_sub hl [2, 3, 1, 0] rfl)
  · rw [if_pos c16] at hf
    refine lv_iconst (v := 0) hx hb dX5_next_8 (by decide) ?_
    cases hf
    exact tk_iret hx hb hr hlocks hs dX5_next_9
def fX5_lays_3 (N : Nat) : Nat → Nat → Int32 → Int32 → tk_AH → Nat → Option (tk_AH × Nat)
  | 0, _, _, _, _, _ => none
  | n + 1, x0, x1, x2, h, sz =>
  if x2 < 0 then (
  some (h, sz)) else (
  (tk_gR h 5 22 x0).bind fun v2 =>
  (tk_gI h 5 23 x0).bind fun v3 =>
  (tk_sI h 0 v2 v3 ((x1 >>> (x2 &&& 31)) &&& 255)).bind fun h4 =>
  (tk_gI h4 5 23 x0).bind fun v5 =>
  (tk_pF h4 5 23 x0 (.int (v5 + 1))).bind fun h6 =>
  fX5_lays_3 N n x0 x1 (x2 + (-8)) h6 sz)
def fX5_lays (N : Nat) (x0 : Nat) (x1 : Int32) (h : tk_AH) (sz : Nat) : Option (tk_AH × Nat) :=
  fX5_lays_3 N N x0 x1 24 h sz
set_option maxHeartbeats 8000000 in
set_option maxRecDepth 100000 in
theorem cX5_lays_ok (l : Launch) (hl0 : l.stackTraces = false) (G : tk_AG) (N : Nat) (x0 : Nat) (x1 : Int32) (h : tk_AH) (sz : Nat) (h9 : tk_AH) (sz9 : Nat) (hf : fX5_lays N x0 x1 h sz = some (h9, sz9)) : Met l yX5_lays (coX5_lays :: tk_W) ({ frames := 0, cells := 0, slots := 0, locals := 0 }) (tk_pc G [.ref x0, .int x1] h sz) (tk_qc G none h9 sz9) 0 0 (tk_ag G) := by
  refine Met.ofW (cc := cX5_lays) (maxL := 3) (ret := none) (by decide) rfl ?_
  intro p e s m args below meth c s₁ B hml hv
  obtain ⟨hav, hE, hrp, hsz, hgs⟩ := hv
  have hx := B.exec
  have hb := B.bytes
  have hr := B.returns
  have hts := atoms_spec (ws := coX5_lays :: tk_W) B.pre
  have ht : ∀ w ∈ tk_W, w.before args s = true := fun w h => hts w (List.mem_cons_of_mem _ h)
  have hown : s.vm.findClass RX5 = some m.cls := findClass_of_methodNamed B.named
  have hlocks := B.notSynchronized
  have hs : tk_sw G s h sz s.heap [] := ⟨hrp, hsz, by rw [hsz]; exact hgs, va_S.rf⟩
  have hl := lv_entry ([.ref x0, .int x1]) (n := 3) (Nat.le_of_ble_eq_true rfl)
  have hent : entryFrame m args 3 = F0 m 0 (lg_sl ([.ref x0, .int x1]) ++ List.replicate (3 - (lg_sl ([.ref x0, .int x1])).length) Slot.unset).toArray [] := by rw [hav, lg_entry_eq]
  rw [hent]
  clear hent
  generalize (lg_sl ([.ref x0, .int x1]) ++ List.replicate (3 - (lg_sl ([.ref x0, .int x1])).length) Slot.unset).toArray = ls at hl ⊢
  have hl : lv_has ls 3 [(0, .ref x0), (1, .int x1)] := hl
  have j3 : ∀ (n : Nat), ∀ (x0 : Nat) (x1 : Int32) (x2 : Int32) (h : tk_AH) (sz : Nat) (H : Heap) (locs : List Loc) (ls : Array Slot), fX5_lays_3 N n x0 x1 x2 h sz = some (h9, sz9) → tk_sw G s h sz H locs → lv_has ls 3 [(0, .ref x0), (1, .int x1), (2, .int x2)] → W p l e (headSpec (coX5_lays :: tk_W) ({ frames := 0, cells := 0, slots := 0, locals := 0 })).room s m args below meth c H locs 0 (0) (MQ below (tk_qc G none h9 sz9) args s 0 0 (tk_ag G)) (F0 m 3 ls []) := by
    intro n
    induction n with
    | zero =>
      intro x0 x1 x2 h sz H locs ls hf
      cases hf
    | succ n ih =>
      intro x0 x1 x2 h sz H locs ls hf hs hl
      rw [fX5_lays_3] at hf
      refine lv_iload_n hx hb dX5_lays_3 rfl (lv_at hl 2 rfl) ?_
      refine lv_if_lt (tgt := 39) hx hb dX5_lays_4 (by decide) (fun c1 => ?_) (fun c1 => ?_)
      · rw [if_pos c1] at hf
        cases hf
        exact tk_vret hx hb hr hlocks hs dX5_lays_39
      · rw [if_neg c1] at hf
        refine lv_aload_n hx hb dX5_lays_7 rfl (lv_at hl 0 rfl) ?_
        obtain ⟨v2, e2, hf⟩ := tk_bi hf
        refine tk_getR hx hb ht inX5 hown hE hs rfl 22 (by decide) (ht _ wfX5_59) e2 dX5_lays_8 ?_
        refine lv_aload_n hx hb dX5_lays_11 rfl (lv_at hl 0 rfl) ?_
        obtain ⟨v3, e3, hf⟩ := tk_bi hf
        refine tk_getI hx hb ht inX5 hown hE hs rfl 23 (by decide) (ht _ wfX5_179) e3 dX5_lays_12 ?_
        refine lv_iload_n hx hb dX5_lays_15 rfl (lv_at hl 1 rfl) ?_
        refine lv_iload_n hx hb dX5_lays_16 rfl (lv_at hl 2 rfl) ?_
        refine lv_ishr hx hb dX5_lays_17 ?_
        refine lv_sipush (v := 255) hx hb dX5_lays_18 (by decide) ?_
        refine lv_iand hx hb dX5_lays_21 ?_
        obtain ⟨h4, e4, hf⟩ := tk_bi hf
        refine tk_iast hx hb hE hs e4 dX5_lays_22 (fun H locs hs => ?_)
        refine lv_aload_n hx hb dX5_lays_23 rfl (lv_at hl 0 rfl) ?_
        refine lv_dup hx hb dX5_lays_24 rfl ?_
        obtain ⟨v5, e5, hf⟩ := tk_bi hf
        refine tk_getI hx hb ht inX5 hown hE hs rfl 23 (by decide) (ht _ wfX5_179) e5 dX5_lays_25 ?_
        refine lv_iconst (v := 1) hx hb dX5_lays_28 (by decide) ?_
        refine lv_iadd hx hb dX5_lays_29 ?_
        obtain ⟨h6, e6, hf⟩ := tk_bi hf
        refine tk_put hx hb ht inX5 tyX5 tyX5_ok nmX5 hown hE hs rfl 23 (by decide) (ht _ wfX5_179) rfl rfl rfl e6 dX5_lays_30 (fun H locs hs => ?_)
        refine lv_iinc (v := x2 + (-8)) (lv' := [(2, .int (x2 + (-8))), (0, .ref x0), (1, .int x1)]) hx hb dX5_lays_33 hl (k := 2) rfl rfl (by decide) rfl (fun ls hl => ?_)
        refine lv_goto (tgt := 3) hx hb dX5_lays_36 (by decide) ?_
        exact ih x0 x1 (x2 + (-8)) h6 sz _ _ _ hf hs (lv_sub hl [1, 2, 0] rfl)
  unfold fX5_lays at hf
  refine lv_bipush (v := 24) hx hb dX5_lays_0 (by decide) ?_
  refine lv_istore_n (lv' := [(2, .int 24), (0, .ref x0), (1, .int x1)]) hx hb dX5_lays_2 rfl hl (by decide) rfl (fun ls hl => ?_)
  exact j3 N x0 x1 24 h sz _ _ _ hf hs (lv_sub hl [1, 2, 0] rfl)
def fX5_feed (N : Nat) (x0 : Nat) (x1 : Int32) (x2 : Int32) (x3 : Int32) (x4 : Int32) (x5 : Int32) (h : tk_AH) (sz : Nat) : Option (Int32 × tk_AH × Nat) :=
  (tk_pF h 5 0 x0 (.int 0)).bind fun h1 =>
  (tk_gI h1 5 23 x0).bind fun v2 =>
  if (v2 + 20) ≤ 80 then (
  (tk_ok h1 5 x0).bind fun _ =>
  (fX5_lays N x0 x1 h1 sz).bind fun o4 =>
  (tk_ok o4.1 5 x0).bind fun _ =>
  (fX5_lays N x0 x2 o4.1 o4.2).bind fun o6 =>
  (tk_ok o6.1 5 x0).bind fun _ =>
  (fX5_lays N x0 x3 o6.1 o6.2).bind fun o8 =>
  (tk_ok o8.1 5 x0).bind fun _ =>
  (fX5_lays N x0 x4 o8.1 o8.2).bind fun o10 =>
  (tk_ok o10.1 5 x0).bind fun _ =>
  (fX5_lays N x0 x5 o10.1 o10.2).bind fun o12 =>
  (tk_gI o12.1 5 23 x0).bind fun v14 =>
  some (v14, o12.1, o12.2)) else (
  some ((-1), h1, sz))
set_option maxHeartbeats 8000000 in
set_option maxRecDepth 100000 in
theorem cX5_feed_ok (l : Launch) (hl0 : l.stackTraces = false) (G : tk_AG) (N : Nat) (x0 : Nat) (x1 : Int32) (x2 : Int32) (x3 : Int32) (x4 : Int32) (x5 : Int32) (h : tk_AH) (sz : Nat) (r9 : Int32) (h9 : tk_AH) (sz9 : Nat) (hf : fX5_feed N x0 x1 x2 x3 x4 x5 h sz = some (r9, h9, sz9)) : Met l yX5_feed (coX5_feed :: tk_W) ({ frames := 1, cells := 0, slots := 0, locals := 22 }) (tk_pc G [.ref x0, .int x1, .int x2, .int x3, .int x4, .int x5] h sz) (tk_qc G (some (.int r9)) h9 sz9) 0 0 (tk_ag G) := by
  refine Met.ofW (cc := cX5_feed) (maxL := 6) (ret := (some .int)) (by decide) rfl ?_
  intro p e s m args below meth c s₁ B hml hv
  obtain ⟨hav, hE, hrp, hsz, hgs⟩ := hv
  have hx := B.exec
  have hb := B.bytes
  have hr := B.returns
  have hts := atoms_spec (ws := coX5_feed :: tk_W) B.pre
  have ht : ∀ w ∈ tk_W, w.before args s = true := fun w h => hts w (List.mem_cons_of_mem _ h)
  have hown : s.vm.findClass RX5 = some m.cls := findClass_of_methodNamed B.named
  have hlocks := B.notSynchronized
  have hs : tk_sw G s h sz s.heap [] := ⟨hrp, hsz, by rw [hsz]; exact hgs, va_S.rf⟩
  have hl := lv_entry ([.ref x0, .int x1, .int x2, .int x3, .int x4, .int x5]) (n := 6) (Nat.le_of_ble_eq_true rfl)
  have hent : entryFrame m args 6 = F0 m 0 (lg_sl ([.ref x0, .int x1, .int x2, .int x3, .int x4, .int x5]) ++ List.replicate (6 - (lg_sl ([.ref x0, .int x1, .int x2, .int x3, .int x4, .int x5])).length) Slot.unset).toArray [] := by rw [hav, lg_entry_eq]
  rw [hent]
  clear hent
  generalize (lg_sl ([.ref x0, .int x1, .int x2, .int x3, .int x4, .int x5]) ++ List.replicate (6 - (lg_sl ([.ref x0, .int x1, .int x2, .int x3, .int x4, .int x5])).length) Slot.unset).toArray = ls at hl ⊢
  have hl : lv_has ls 6 [(0, .ref x0), (1, .int x1), (2, .int x2), (3, .int x3), (4, .int x4), (5, .int x5)] := hl
  unfold fX5_feed at hf
  refine lv_aload_n hx hb dX5_feed_0 rfl (lv_at hl 0 rfl) ?_
  refine lv_iconst (v := 0) hx hb dX5_feed_1 (by decide) ?_
  obtain ⟨h1, e1, hf⟩ := tk_bi hf
  refine tk_put hx hb ht inX5 tyX5 tyX5_ok nmX5 hown hE hs rfl 0 (by decide) (ht _ wfX5_89) rfl rfl rfl e1 dX5_feed_2 (fun H locs hs => ?_)
  refine lv_aload_n hx hb dX5_feed_5 rfl (lv_at hl 0 rfl) ?_
  obtain ⟨v2, e2, hf⟩ := tk_bi hf
  refine tk_getI hx hb ht inX5 hown hE hs rfl 23 (by decide) (ht _ wfX5_179) e2 dX5_feed_6 ?_
  refine lv_bipush (v := 20) hx hb dX5_feed_9 (by decide) ?_
  refine lv_iadd hx hb dX5_feed_11 ?_
  refine lv_bipush (v := 80) hx hb dX5_feed_12 (by decide) ?_
  refine lv_icmp_le (tgt := 19) hx hb dX5_feed_14 (by decide) (fun c3 => ?_) (fun c3 => ?_)
  · rw [if_pos c3] at hf
    refine lv_aload_n hx hb dX5_feed_19 rfl (lv_at hl 0 rfl) ?_
    refine lv_iload_n hx hb dX5_feed_20 rfl (lv_at hl 1 rfl) ?_
    obtain ⟨_, p4, hf⟩ := tk_bi hf
    obtain ⟨o4, e4, hf⟩ := tk_bi hf
    refine tk_call0 (v := none) hs (va_runV (As := [.int x1]) (rest := []) ⟨hx, hb, hml, hown, ht⟩ (cX5_lays_ok l hl0 G N x0 x1 h1 sz o4.1 o4.2 e4) (kwX5_lays ht wmX5_182 rfl rfl ⟨Nat.le_of_ble_eq_true rfl, Nat.le_of_ble_eq_true rfl⟩) (tk_preV hE hs (tk_ok_ok p4) rfl) rfl rfl hl.1 rfl (lv_room (Nat.le_of_ble_eq_true rfl)) dX5_feed_21 ⟨(Nat.le_of_ble_eq_true rfl), (Nat.le_of_ble_eq_true rfl)⟩) (fun H locs hs => ?_)
    refine W.eq (g2 := F0 m 24 ls []) rfl ?_
    refine lv_aload_n hx hb dX5_feed_24 rfl (lv_at hl 0 rfl) ?_
    refine lv_iload_n hx hb dX5_feed_25 rfl (lv_at hl 2 rfl) ?_
    obtain ⟨_, p6, hf⟩ := tk_bi hf
    obtain ⟨o6, e6, hf⟩ := tk_bi hf
    refine tk_call0 (v := none) hs (va_runV (As := [.int x2]) (rest := []) ⟨hx, hb, hml, hown, ht⟩ (cX5_lays_ok l hl0 G N x0 x2 o4.1 o4.2 o6.1 o6.2 e6) (kwX5_lays ht wmX5_182 rfl rfl ⟨Nat.le_of_ble_eq_true rfl, Nat.le_of_ble_eq_true rfl⟩) (tk_preV hE hs (tk_ok_ok p6) rfl) rfl rfl hl.1 rfl (lv_room (Nat.le_of_ble_eq_true rfl)) dX5_feed_26 ⟨(Nat.le_of_ble_eq_true rfl), (Nat.le_of_ble_eq_true rfl)⟩) (fun H locs hs => ?_)
    refine W.eq (g2 := F0 m 29 ls []) rfl ?_
    refine lv_aload_n hx hb dX5_feed_29 rfl (lv_at hl 0 rfl) ?_
    refine lv_iload_n hx hb dX5_feed_30 rfl (lv_at hl 3 rfl) ?_
    obtain ⟨_, p8, hf⟩ := tk_bi hf
    obtain ⟨o8, e8, hf⟩ := tk_bi hf
    refine tk_call0 (v := none) hs (va_runV (As := [.int x3]) (rest := []) ⟨hx, hb, hml, hown, ht⟩ (cX5_lays_ok l hl0 G N x0 x3 o6.1 o6.2 o8.1 o8.2 e8) (kwX5_lays ht wmX5_182 rfl rfl ⟨Nat.le_of_ble_eq_true rfl, Nat.le_of_ble_eq_true rfl⟩) (tk_preV hE hs (tk_ok_ok p8) rfl) rfl rfl hl.1 rfl (lv_room (Nat.le_of_ble_eq_true rfl)) dX5_feed_31 ⟨(Nat.le_of_ble_eq_true rfl), (Nat.le_of_ble_eq_true rfl)⟩) (fun H locs hs => ?_)
    refine W.eq (g2 := F0 m 34 ls []) rfl ?_
    refine lv_aload_n hx hb dX5_feed_34 rfl (lv_at hl 0 rfl) ?_
    refine lv_iload hx hb dX5_feed_35 (lv_at hl 4 rfl) ?_
    obtain ⟨_, p10, hf⟩ := tk_bi hf
    obtain ⟨o10, e10, hf⟩ := tk_bi hf
    refine tk_call0 (v := none) hs (va_runV (As := [.int x4]) (rest := []) ⟨hx, hb, hml, hown, ht⟩ (cX5_lays_ok l hl0 G N x0 x4 o8.1 o8.2 o10.1 o10.2 e10) (kwX5_lays ht wmX5_182 rfl rfl ⟨Nat.le_of_ble_eq_true rfl, Nat.le_of_ble_eq_true rfl⟩) (tk_preV hE hs (tk_ok_ok p10) rfl) rfl rfl hl.1 rfl (lv_room (Nat.le_of_ble_eq_true rfl)) dX5_feed_37 ⟨(Nat.le_of_ble_eq_true rfl), (Nat.le_of_ble_eq_true rfl)⟩) (fun H locs hs => ?_)
    refine W.eq (g2 := F0 m 40 ls []) rfl ?_
    refine lv_aload_n hx hb dX5_feed_40 rfl (lv_at hl 0 rfl) ?_
    refine lv_iload hx hb dX5_feed_41 (lv_at hl 5 rfl) ?_
    obtain ⟨_, p12, hf⟩ := tk_bi hf
    obtain ⟨o12, e12, hf⟩ := tk_bi hf
    refine tk_call0 (v := none) hs (va_runV (As := [.int x5]) (rest := []) ⟨hx, hb, hml, hown, ht⟩ (cX5_lays_ok l hl0 G N x0 x5 o10.1 o10.2 o12.1 o12.2 e12) (kwX5_lays ht wmX5_182 rfl rfl ⟨Nat.le_of_ble_eq_true rfl, Nat.le_of_ble_eq_true rfl⟩) (tk_preV hE hs (tk_ok_ok p12) rfl) rfl rfl hl.1 rfl (lv_room (Nat.le_of_ble_eq_true rfl)) dX5_feed_43 ⟨(Nat.le_of_ble_eq_true rfl), (Nat.le_of_ble_eq_true rfl)⟩) (fun H locs hs => ?_)
    refine W.eq (g2 := F0 m 46 ls []) rfl ?_
    refine lv_aload_n hx hb dX5_feed_46 rfl (lv_at hl 0 rfl) ?_
    obtain ⟨v14, e14, hf⟩ := tk_bi hf
    refine tk_getI hx hb ht inX5 hown hE hs rfl 23 (by decide) (ht _ wfX5_179) e14 dX5_feed_47 ?_
    cases hf
    exact tk_iret hx hb hr hlocks hs dX5_feed_50
  · rw [if_neg c3] at hf
    refine lv_iconst (v := (-1)) hx hb dX5_feed_17 (by decide) ?_
    cases hf
    exact tk_iret hx hb hr hlocks hs dX5_feed_18
def fX5_costOf_18 (N : Nat) (y0 : Int32) (h : tk_AH) (sz : Nat) : Option (Int32 × tk_AH × Nat) :=
  some (y0, h, sz)
def fX5_costOf (N : Nat) (x0 : Int32) (h : tk_AH) (sz : Nat) : Option (Int32 × tk_AH × Nat) :=
  if x0 = 0 then (
  fX5_costOf_18 N 0 h sz) else (
  if x0 = 1 then (
  fX5_costOf_18 N 3 h sz) else (
  fX5_costOf_18 N 2 h sz))
set_option maxHeartbeats 8000000 in
set_option maxRecDepth 100000 in
theorem cX5_costOf_ok (l : Launch) (hl0 : l.stackTraces = false) (G : tk_AG) (N : Nat) (x0 : Int32) (h : tk_AH) (sz : Nat) (r9 : Int32) (h9 : tk_AH) (sz9 : Nat) (hf : fX5_costOf N x0 h sz = some (r9, h9, sz9)) : Met l yX5_costOf (coX5_costOf :: tk_W) ({ frames := 0, cells := 0, slots := 0, locals := 0 }) (tk_pc G [.int x0] h sz) (tk_qc G (some (.int r9)) h9 sz9) 0 0 (tk_ag G) := by
  refine Met.ofW (cc := cX5_costOf) (maxL := 1) (ret := (some .int)) (by decide) rfl ?_
  intro p e s m args below meth c s₁ B hml hv
  obtain ⟨hav, hE, hrp, hsz, hgs⟩ := hv
  have hx := B.exec
  have hb := B.bytes
  have hr := B.returns
  have hts := atoms_spec (ws := coX5_costOf :: tk_W) B.pre
  have ht : ∀ w ∈ tk_W, w.before args s = true := fun w h => hts w (List.mem_cons_of_mem _ h)
  have hown : s.vm.findClass RX5 = some m.cls := findClass_of_methodNamed B.named
  have hlocks := B.notSynchronized
  have hs : tk_sw G s h sz s.heap [] := ⟨hrp, hsz, by rw [hsz]; exact hgs, va_S.rf⟩
  have hl := lv_entry ([.int x0]) (n := 1) (Nat.le_of_ble_eq_true rfl)
  have hent : entryFrame m args 1 = F0 m 0 (lg_sl ([.int x0]) ++ List.replicate (1 - (lg_sl ([.int x0])).length) Slot.unset).toArray [] := by rw [hav, lg_entry_eq]
  rw [hent]
  clear hent
  generalize (lg_sl ([.int x0]) ++ List.replicate (1 - (lg_sl ([.int x0])).length) Slot.unset).toArray = ls at hl ⊢
  have hl : lv_has ls 1 [(0, .int x0)] := hl
  have j18 : ∀ (y0 : Int32) (h : tk_AH) (sz : Nat) (H : Heap) (locs : List Loc) (ls : Array Slot), fX5_costOf_18 N y0 h sz = some (r9, h9, sz9) → tk_sw G s h sz H locs → lv_has ls 1 [] → W p l e (headSpec (coX5_costOf :: tk_W) ({ frames := 0, cells := 0, slots := 0, locals := 0 })).room s m args below meth c H locs 0 (0) (MQ below (tk_qc G (some (.int r9)) h9 sz9) args s 0 0 (tk_ag G)) (F0 m 18 ls [.int y0]) := by
    intro y0 h sz H locs ls hf hs hl
    unfold fX5_costOf_18 at hf
    cases hf
    exact tk_iret hx hb hr hlocks hs dX5_costOf_18
  unfold fX5_costOf at hf
  refine lv_iload_n hx hb dX5_costOf_0 rfl (lv_at hl 0 rfl) ?_
  refine lv_if_ne (tgt := 8) hx hb dX5_costOf_1 (by decide) (fun c1 => ?_) (fun c1 => ?_)
  · rw [if_neg c1] at hf
    refine lv_iload_n hx hb dX5_costOf_8 rfl (lv_at hl 0 rfl) ?_
    refine lv_iconst (v := 1) hx hb dX5_costOf_9 (by decide) ?_
    refine lv_icmp_ne (tgt := 17) hx hb dX5_costOf_10 (by decide) (fun c2 => ?_) (fun c2 => ?_)
    · rw [if_neg c2] at hf
      refine lv_iconst (v := 2) hx hb dX5_costOf_17 (by decide) ?_
      exact j18 2 h sz _ _ _ hf hs (lv_sub hl [] rfl)
    · rw [if_pos c2] at hf
      refine lv_iconst (v := 3) hx hb dX5_costOf_13 (by decide) ?_
      refine lv_goto (tgt := 18) hx hb dX5_costOf_14 (by decide) ?_
      exact j18 3 h sz _ _ _ hf hs (lv_sub hl [] rfl)
  · rw [if_pos c1] at hf
    refine lv_iconst (v := 0) hx hb dX5_costOf_4 (by decide) ?_
    refine lv_goto (tgt := 18) hx hb dX5_costOf_5 (by decide) ?_
    exact j18 0 h sz _ _ _ hf hs (lv_sub hl [] rfl)
def fX5_said_19 (N : Nat) (y0 : Int32) (h : tk_AH) (sz : Nat) : Option (Int32 × tk_AH × Nat) :=
  some (y0, h, sz)
def fX5_said (N : Nat) (x0 : Int32) (h : tk_AH) (sz : Nat) : Option (Int32 × tk_AH × Nat) :=
  if x0 = 4 then (
  fX5_said_19 N 2 h sz) else (
  if x0 = 3 then (
  fX5_said_19 N 0 h sz) else (
  fX5_said_19 N 1 h sz))
set_option maxHeartbeats 8000000 in
set_option maxRecDepth 100000 in
theorem cX5_said_ok (l : Launch) (hl0 : l.stackTraces = false) (G : tk_AG) (N : Nat) (x0 : Int32) (h : tk_AH) (sz : Nat) (r9 : Int32) (h9 : tk_AH) (sz9 : Nat) (hf : fX5_said N x0 h sz = some (r9, h9, sz9)) : Met l yX5_said (coX5_said :: tk_W) ({ frames := 0, cells := 0, slots := 0, locals := 0 }) (tk_pc G [.int x0] h sz) (tk_qc G (some (.int r9)) h9 sz9) 0 0 (tk_ag G) := by
  refine Met.ofW (cc := cX5_said) (maxL := 1) (ret := (some .int)) (by decide) rfl ?_
  intro p e s m args below meth c s₁ B hml hv
  obtain ⟨hav, hE, hrp, hsz, hgs⟩ := hv
  have hx := B.exec
  have hb := B.bytes
  have hr := B.returns
  have hts := atoms_spec (ws := coX5_said :: tk_W) B.pre
  have ht : ∀ w ∈ tk_W, w.before args s = true := fun w h => hts w (List.mem_cons_of_mem _ h)
  have hown : s.vm.findClass RX5 = some m.cls := findClass_of_methodNamed B.named
  have hlocks := B.notSynchronized
  have hs : tk_sw G s h sz s.heap [] := ⟨hrp, hsz, by rw [hsz]; exact hgs, va_S.rf⟩
  have hl := lv_entry ([.int x0]) (n := 1) (Nat.le_of_ble_eq_true rfl)
  have hent : entryFrame m args 1 = F0 m 0 (lg_sl ([.int x0]) ++ List.replicate (1 - (lg_sl ([.int x0])).length) Slot.unset).toArray [] := by rw [hav, lg_entry_eq]
  rw [hent]
  clear hent
  generalize (lg_sl ([.int x0]) ++ List.replicate (1 - (lg_sl ([.int x0])).length) Slot.unset).toArray = ls at hl ⊢
  have hl : lv_has ls 1 [(0, .int x0)] := hl
  have j19 : ∀ (y0 : Int32) (h : tk_AH) (sz : Nat) (H : Heap) (locs : List Loc) (ls : Array Slot), fX5_said_19 N y0 h sz = some (r9, h9, sz9) → tk_sw G s h sz H locs → lv_has ls 1 [] → W p l e (headSpec (coX5_said :: tk_W) ({ frames := 0, cells := 0, slots := 0, locals := 0 })).room s m args below meth c H locs 0 (0) (MQ below (tk_qc G (some (.int r9)) h9 sz9) args s 0 0 (tk_ag G)) (F0 m 19 ls [.int y0]) := by
    intro y0 h sz H locs ls hf hs hl
    unfold fX5_said_19 at hf
    cases hf
    exact tk_iret hx hb hr hlocks hs dX5_said_19
  unfold fX5_said at hf
  refine lv_iload_n hx hb dX5_said_0 rfl (lv_at hl 0 rfl) ?_
  refine lv_iconst (v := 4) hx hb dX5_said_1 (by decide) ?_
  refine lv_icmp_ne (tgt := 9) hx hb dX5_said_2 (by decide) (fun c1 => ?_) (fun c1 => ?_)
  · rw [if_neg c1] at hf
    refine lv_iload_n hx hb dX5_said_9 rfl (lv_at hl 0 rfl) ?_
    refine lv_iconst (v := 3) hx hb dX5_said_10 (by decide) ?_
    refine lv_icmp_ne (tgt := 18) hx hb dX5_said_11 (by decide) (fun c2 => ?_) (fun c2 => ?_)
    · rw [if_neg c2] at hf
      refine lv_iconst (v := 1) hx hb dX5_said_18 (by decide) ?_
      exact j19 1 h sz _ _ _ hf hs (lv_sub hl [] rfl)
    · rw [if_pos c2] at hf
      refine lv_iconst (v := 0) hx hb dX5_said_14 (by decide) ?_
      refine lv_goto (tgt := 19) hx hb dX5_said_15 (by decide) ?_
      exact j19 0 h sz _ _ _ hf hs (lv_sub hl [] rfl)
  · rw [if_pos c1] at hf
    refine lv_iconst (v := 2) hx hb dX5_said_5 (by decide) ?_
    refine lv_goto (tgt := 19) hx hb dX5_said_6 (by decide) ?_
    exact j19 2 h sz _ _ _ hf hs (lv_sub hl [] rfl)
def fX5_meant_19 (N : Nat) (y0 : Int32) (h : tk_AH) (sz : Nat) : Option (Int32 × tk_AH × Nat) :=
  some (y0, h, sz)
def fX5_meant (N : Nat) (x0 : Int32) (h : tk_AH) (sz : Nat) : Option (Int32 × tk_AH × Nat) :=
  if x0 = 4 then (
  fX5_meant_19 N 2 h sz) else (
  if x0 = 2 then (
  fX5_meant_19 N 0 h sz) else (
  fX5_meant_19 N 1 h sz))
set_option maxHeartbeats 8000000 in
set_option maxRecDepth 100000 in
theorem cX5_meant_ok (l : Launch) (hl0 : l.stackTraces = false) (G : tk_AG) (N : Nat) (x0 : Int32) (h : tk_AH) (sz : Nat) (r9 : Int32) (h9 : tk_AH) (sz9 : Nat) (hf : fX5_meant N x0 h sz = some (r9, h9, sz9)) : Met l yX5_meant (coX5_meant :: tk_W) ({ frames := 0, cells := 0, slots := 0, locals := 0 }) (tk_pc G [.int x0] h sz) (tk_qc G (some (.int r9)) h9 sz9) 0 0 (tk_ag G) := by
  refine Met.ofW (cc := cX5_meant) (maxL := 1) (ret := (some .int)) (by decide) rfl ?_
  intro p e s m args below meth c s₁ B hml hv
  obtain ⟨hav, hE, hrp, hsz, hgs⟩ := hv
  have hx := B.exec
  have hb := B.bytes
  have hr := B.returns
  have hts := atoms_spec (ws := coX5_meant :: tk_W) B.pre
  have ht : ∀ w ∈ tk_W, w.before args s = true := fun w h => hts w (List.mem_cons_of_mem _ h)
  have hown : s.vm.findClass RX5 = some m.cls := findClass_of_methodNamed B.named
  have hlocks := B.notSynchronized
  have hs : tk_sw G s h sz s.heap [] := ⟨hrp, hsz, by rw [hsz]; exact hgs, va_S.rf⟩
  have hl := lv_entry ([.int x0]) (n := 1) (Nat.le_of_ble_eq_true rfl)
  have hent : entryFrame m args 1 = F0 m 0 (lg_sl ([.int x0]) ++ List.replicate (1 - (lg_sl ([.int x0])).length) Slot.unset).toArray [] := by rw [hav, lg_entry_eq]
  rw [hent]
  clear hent
  generalize (lg_sl ([.int x0]) ++ List.replicate (1 - (lg_sl ([.int x0])).length) Slot.unset).toArray = ls at hl ⊢
  have hl : lv_has ls 1 [(0, .int x0)] := hl
  have j19 : ∀ (y0 : Int32) (h : tk_AH) (sz : Nat) (H : Heap) (locs : List Loc) (ls : Array Slot), fX5_meant_19 N y0 h sz = some (r9, h9, sz9) → tk_sw G s h sz H locs → lv_has ls 1 [] → W p l e (headSpec (coX5_meant :: tk_W) ({ frames := 0, cells := 0, slots := 0, locals := 0 })).room s m args below meth c H locs 0 (0) (MQ below (tk_qc G (some (.int r9)) h9 sz9) args s 0 0 (tk_ag G)) (F0 m 19 ls [.int y0]) := by
    intro y0 h sz H locs ls hf hs hl
    unfold fX5_meant_19 at hf
    cases hf
    exact tk_iret hx hb hr hlocks hs dX5_meant_19
  unfold fX5_meant at hf
  refine lv_iload_n hx hb dX5_meant_0 rfl (lv_at hl 0 rfl) ?_
  refine lv_iconst (v := 4) hx hb dX5_meant_1 (by decide) ?_
  refine lv_icmp_ne (tgt := 9) hx hb dX5_meant_2 (by decide) (fun c1 => ?_) (fun c1 => ?_)
  · rw [if_neg c1] at hf
    refine lv_iload_n hx hb dX5_meant_9 rfl (lv_at hl 0 rfl) ?_
    refine lv_iconst (v := 2) hx hb dX5_meant_10 (by decide) ?_
    refine lv_icmp_ne (tgt := 18) hx hb dX5_meant_11 (by decide) (fun c2 => ?_) (fun c2 => ?_)
    · rw [if_neg c2] at hf
      refine lv_iconst (v := 1) hx hb dX5_meant_18 (by decide) ?_
      exact j19 1 h sz _ _ _ hf hs (lv_sub hl [] rfl)
    · rw [if_pos c2] at hf
      refine lv_iconst (v := 0) hx hb dX5_meant_14 (by decide) ?_
      refine lv_goto (tgt := 19) hx hb dX5_meant_15 (by decide) ?_
      exact j19 0 h sz _ _ _ hf hs (lv_sub hl [] rfl)
  · rw [if_pos c1] at hf
    refine lv_iconst (v := 2) hx hb dX5_meant_5 (by decide) ?_
    refine lv_goto (tgt := 19) hx hb dX5_meant_6 (by decide) ?_
    exact j19 2 h sz _ _ _ hf hs (lv_sub hl [] rfl)
def fX5_can_22 (N : Nat) (h : tk_AH) (sz : Nat) : Option (Int32 × tk_AH × Nat) :=
  (tk_bz 0).bind fun _ =>
  some (0, h, sz)
def fX5_can_83 (N : Nat) (y0 : Int32) (h : tk_AH) (sz : Nat) : Option (Int32 × tk_AH × Nat) :=
  (tk_bz y0).bind fun _ =>
  some (y0, h, sz)
def fX5_can_107 (N : Nat) (y0 : Int32) (h : tk_AH) (sz : Nat) : Option (Int32 × tk_AH × Nat) :=
  (tk_bz y0).bind fun _ =>
  some (y0, h, sz)
def fX5_can_170 (N : Nat) (y0 : Int32) (h : tk_AH) (sz : Nat) : Option (Int32 × tk_AH × Nat) :=
  (tk_bz y0).bind fun _ =>
  some (y0, h, sz)
def fX5_can_169 (N : Nat) (h : tk_AH) (sz : Nat) : Option (Int32 × tk_AH × Nat) :=
  fX5_can_170 N 0 h sz
def fX5_can (N : Nat) (x0 : Nat) (x1 : Int32) (x2 : Int32) (x3 : Int32) (x4 : Int32) (x5 : Int32) (h : tk_AH) (sz : Nat) : Option (Int32 × tk_AH × Nat) :=
  (fX5_said N x1 h sz).bind fun o5 =>
  if x4 < (x2 + o5.1) then (
  fX5_can_22 N o5.2.1 o5.2.2) else (
  (fX5_meant N x1 o5.2.1 o5.2.2).bind fun o7 =>
  if (x3 + o7.1) ≤ x5 then (
  if x1 = 0 then (
  (tk_gR o7.2.1 5 22 x0).bind fun v10 =>
  (tk_aI o7.2.1 0 v10 x2).bind fun v11 =>
  (tk_gR o7.2.1 5 22 x0).bind fun v12 =>
  (tk_aI o7.2.1 0 v12 (x4 + x3)).bind fun v13 =>
  if v11 = v13 then (
  fX5_can_83 N 1 o7.2.1 o7.2.2) else (
  fX5_can_83 N 0 o7.2.1 o7.2.2)) else if x1 = 1 then (
  (tk_gR o7.2.1 5 22 x0).bind fun v16 =>
  (tk_aI o7.2.1 0 v16 x2).bind fun v17 =>
  (tk_gR o7.2.1 5 22 x0).bind fun v18 =>
  (tk_aI o7.2.1 0 v18 (x4 + x3)).bind fun v19 =>
  if v17 = v19 then (
  fX5_can_107 N 0 o7.2.1 o7.2.2) else (
  fX5_can_107 N 1 o7.2.1 o7.2.2)) else if x1 = 2 then (
  (tk_bz 1).bind fun _ =>
  some (1, o7.2.1, o7.2.2)) else if x1 = 3 then (
  (tk_bz 1).bind fun _ =>
  some (1, o7.2.1, o7.2.2)) else if x1 = 4 then (
  (tk_gR o7.2.1 5 22 x0).bind fun v26 =>
  (tk_aI o7.2.1 0 v26 x2).bind fun v27 =>
  (tk_gR o7.2.1 5 22 x0).bind fun v28 =>
  (tk_aI o7.2.1 0 v28 (x2 + 1)).bind fun v29 =>
  if v27 = v29 then (
  fX5_can_169 N o7.2.1 o7.2.2) else (
  (tk_gR o7.2.1 5 22 x0).bind fun v31 =>
  (tk_aI o7.2.1 0 v31 x2).bind fun v32 =>
  (tk_gR o7.2.1 5 22 x0).bind fun v33 =>
  (tk_aI o7.2.1 0 v33 ((x4 + x3) + 1)).bind fun v34 =>
  if v32 = v34 then (
  (tk_gR o7.2.1 5 22 x0).bind fun v36 =>
  (tk_aI o7.2.1 0 v36 (x2 + 1)).bind fun v37 =>
  (tk_gR o7.2.1 5 22 x0).bind fun v38 =>
  (tk_aI o7.2.1 0 v38 (x4 + x3)).bind fun v39 =>
  if v37 = v39 then (
  fX5_can_170 N 1 o7.2.1 o7.2.2) else (
  fX5_can_169 N o7.2.1 o7.2.2)) else (
  fX5_can_169 N o7.2.1 o7.2.2))) else (
  (tk_bz 1).bind fun _ =>
  some (1, o7.2.1, o7.2.2))) else (
  fX5_can_22 N o7.2.1 o7.2.2))
set_option maxHeartbeats 8000000 in
set_option maxRecDepth 100000 in
theorem cX5_can_ok (l : Launch) (hl0 : l.stackTraces = false) (G : tk_AG) (N : Nat) (x0 : Nat) (x1 : Int32) (x2 : Int32) (x3 : Int32) (x4 : Int32) (x5 : Int32) (h : tk_AH) (sz : Nat) (r9 : Int32) (h9 : tk_AH) (sz9 : Nat) (hf : fX5_can N x0 x1 x2 x3 x4 x5 h sz = some (r9, h9, sz9)) : Met l yX5_can (coX5_can :: tk_W) ({ frames := 1, cells := 0, slots := 0, locals := 20 }) (tk_pc G [.ref x0, .int x1, .int x2, .int x3, .int x4, .int x5] h sz) (tk_qc G (some (.int r9)) h9 sz9) 0 0 (tk_ag G) := by
  refine Met.ofW (cc := cX5_can) (maxL := 6) (ret := (some .boolean)) (by decide) rfl ?_
  intro p e s m args below meth c s₁ B hml hv
  obtain ⟨hav, hE, hrp, hsz, hgs⟩ := hv
  have hx := B.exec
  have hb := B.bytes
  have hr := B.returns
  have hts := atoms_spec (ws := coX5_can :: tk_W) B.pre
  have ht : ∀ w ∈ tk_W, w.before args s = true := fun w h => hts w (List.mem_cons_of_mem _ h)
  have hown : s.vm.findClass RX5 = some m.cls := findClass_of_methodNamed B.named
  have hlocks := B.notSynchronized
  have hs : tk_sw G s h sz s.heap [] := ⟨hrp, hsz, by rw [hsz]; exact hgs, va_S.rf⟩
  have hl := lv_entry ([.ref x0, .int x1, .int x2, .int x3, .int x4, .int x5]) (n := 6) (Nat.le_of_ble_eq_true rfl)
  have hent : entryFrame m args 6 = F0 m 0 (lg_sl ([.ref x0, .int x1, .int x2, .int x3, .int x4, .int x5]) ++ List.replicate (6 - (lg_sl ([.ref x0, .int x1, .int x2, .int x3, .int x4, .int x5])).length) Slot.unset).toArray [] := by rw [hav, lg_entry_eq]
  rw [hent]
  clear hent
  generalize (lg_sl ([.ref x0, .int x1, .int x2, .int x3, .int x4, .int x5]) ++ List.replicate (6 - (lg_sl ([.ref x0, .int x1, .int x2, .int x3, .int x4, .int x5])).length) Slot.unset).toArray = ls at hl ⊢
  have hl : lv_has ls 6 [(0, .ref x0), (1, .int x1), (2, .int x2), (3, .int x3), (4, .int x4), (5, .int x5)] := hl
  have j22 : ∀ (h : tk_AH) (sz : Nat) (H : Heap) (locs : List Loc) (ls : Array Slot), fX5_can_22 N h sz = some (r9, h9, sz9) → tk_sw G s h sz H locs → lv_has ls 6 [] → W p l e (headSpec (coX5_can :: tk_W) ({ frames := 1, cells := 0, slots := 0, locals := 20 })).room s m args below meth c H locs 0 (0) (MQ below (tk_qc G (some (.int r9)) h9 sz9) args s 0 0 (tk_ag G)) (F0 m 22 ls []) := by
    intro h sz H locs ls hf hs hl
    unfold fX5_can_22 at hf
    refine lv_iconst (v := 0) hx hb dX5_can_22 (by decide) ?_
    obtain ⟨_, e1, hf⟩ := tk_bi hf
    have e1 := tk_bz_ok e1
    cases hf
    exact tk_zret hx hb hr hlocks e1 hs dX5_can_23
  have j83 : ∀ (y0 : Int32) (h : tk_AH) (sz : Nat) (H : Heap) (locs : List Loc) (ls : Array Slot), fX5_can_83 N y0 h sz = some (r9, h9, sz9) → tk_sw G s h sz H locs → lv_has ls 6 [] → W p l e (headSpec (coX5_can :: tk_W) ({ frames := 1, cells := 0, slots := 0, locals := 20 })).room s m args below meth c H locs 0 (0) (MQ below (tk_qc G (some (.int r9)) h9 sz9) args s 0 0 (tk_ag G)) (F0 m 83 ls [.int y0]) := by
    intro y0 h sz H locs ls hf hs hl
    unfold fX5_can_83 at hf
    obtain ⟨_, e2, hf⟩ := tk_bi hf
    have e2 := tk_bz_ok e2
    cases hf
    exact tk_zret hx hb hr hlocks e2 hs dX5_can_83
  have j107 : ∀ (y0 : Int32) (h : tk_AH) (sz : Nat) (H : Heap) (locs : List Loc) (ls : Array Slot), fX5_can_107 N y0 h sz = some (r9, h9, sz9) → tk_sw G s h sz H locs → lv_has ls 6 [] → W p l e (headSpec (coX5_can :: tk_W) ({ frames := 1, cells := 0, slots := 0, locals := 20 })).room s m args below meth c H locs 0 (0) (MQ below (tk_qc G (some (.int r9)) h9 sz9) args s 0 0 (tk_ag G)) (F0 m 107 ls [.int y0]) := by
    intro y0 h sz H locs ls hf hs hl
    unfold fX5_can_107 at hf
    obtain ⟨_, e3, hf⟩ := tk_bi hf
    have e3 := tk_bz_ok e3
    cases hf
    exact tk_zret hx hb hr hlocks e3 hs dX5_can_107
  have j170 : ∀ (y0 : Int32) (h : tk_AH) (sz : Nat) (H : Heap) (locs : List Loc) (ls : Array Slot), fX5_can_170 N y0 h sz = some (r9, h9, sz9) → tk_sw G s h sz H locs → lv_has ls 6 [] → W p l e (headSpec (coX5_can :: tk_W) ({ frames := 1, cells := 0, slots := 0, locals := 20 })).room s m args below meth c H locs 0 (0) (MQ below (tk_qc G (some (.int r9)) h9 sz9) args s 0 0 (tk_ag G)) (F0 m 170 ls [.int y0]) := by
    intro y0 h sz H locs ls hf hs hl
    unfold fX5_can_170 at hf
    obtain ⟨_, e4, hf⟩ := tk_bi hf
    have e4 := tk_bz_ok e4
    cases hf
    exact tk_zret hx hb hr hlocks e4 hs dX5_can_170
  have j169 : ∀ (h : tk_AH) (sz : Nat) (H : Heap) (locs : List Loc) (ls : Array Slot), fX5_can_169 N h sz = some (r9, h9, sz9) → tk_sw G s h sz H locs → lv_has ls 6 [] → W p l e (headSpec (coX5_can :: tk_W) ({ frames := 1, cells := 0, slots := 0, locals := 20 })).room s m args below meth c H locs 0 (0) (MQ below (tk_qc G (some (.int r9)) h9 sz9) args s 0 0 (tk_ag G)) (F0 m 169 ls []) := by
    intro h sz H locs ls hf hs hl
    unfold fX5_can_169 at hf
    refine lv_iconst (v := 0) hx hb dX5_can_169 (by decide) ?_
    exact j170 0 h sz _ _ _ hf hs (lv_sub hl [] rfl)
  unfold fX5_can at hf
  refine lv_iload_n hx hb dX5_can_0 rfl (lv_at hl 2 rfl) ?_
  refine lv_iload_n hx hb dX5_can_1 rfl (lv_at hl 1 rfl) ?_
  obtain ⟨o5, e5, hf⟩ := tk_bi hf
  refine tk_call0 (v := some (.int o5.1)) hs (va_runS (As := [.int x1]) (rest := [.int x2]) ⟨hx, hb, hml, hown, ht⟩ (cX5_said_ok l hl0 G N x1 h sz o5.1 o5.2.1 o5.2.2 e5) (kwX5_said ht wmX5_185 rfl rfl ⟨Nat.le_of_ble_eq_true rfl, Nat.le_of_ble_eq_true rfl⟩) (tk_preS hE hs) rfl rfl hl.1 rfl (lv_room (Nat.le_of_ble_eq_true rfl)) dX5_can_2 ⟨(Nat.le_of_ble_eq_true rfl), (Nat.le_of_ble_eq_true rfl)⟩) (fun H locs hs => ?_)
  refine W.eq (g2 := F0 m 5 ls [.int o5.1, .int x2]) rfl ?_
  refine lv_iadd hx hb dX5_can_5 ?_
  refine lv_iload hx hb dX5_can_6 (lv_at hl 4 rfl) ?_
  refine lv_icmp_gt (tgt := 22) hx hb dX5_can_8 (by decide) (fun c6 => ?_) (fun c6 => ?_)
  · rw [if_pos c6] at hf
    exact j22 o5.2.1 o5.2.2 _ _ _ hf hs (lv_sub hl [] rfl)
  · rw [if_neg c6] at hf
    refine lv_iload_n hx hb dX5_can_11 rfl (lv_at hl 3 rfl) ?_
    refine lv_iload_n hx hb dX5_can_12 rfl (lv_at hl 1 rfl) ?_
    obtain ⟨o7, e7, hf⟩ := tk_bi hf
    refine tk_call0 (v := some (.int o7.1)) hs (va_runS (As := [.int x1]) (rest := [.int x3]) ⟨hx, hb, hml, hown, ht⟩ (cX5_meant_ok l hl0 G N x1 o5.2.1 o5.2.2 o7.1 o7.2.1 o7.2.2 e7) (kwX5_meant ht wmX5_188 rfl rfl ⟨Nat.le_of_ble_eq_true rfl, Nat.le_of_ble_eq_true rfl⟩) (tk_preS hE hs) rfl rfl hl.1 rfl (lv_room (Nat.le_of_ble_eq_true rfl)) dX5_can_13 ⟨(Nat.le_of_ble_eq_true rfl), (Nat.le_of_ble_eq_true rfl)⟩) (fun H locs hs => ?_)
    refine W.eq (g2 := F0 m 16 ls [.int o7.1, .int x3]) rfl ?_
    refine lv_iadd hx hb dX5_can_16 ?_
    refine lv_iload hx hb dX5_can_17 (lv_at hl 5 rfl) ?_
    refine lv_icmp_le (tgt := 24) hx hb dX5_can_19 (by decide) (fun c8 => ?_) (fun c8 => ?_)
    · rw [if_pos c8] at hf
      refine lv_iload_n hx hb dX5_can_24 rfl (lv_at hl 1 rfl) ?_
      by_cases c9 : x1 = 0
      · rw [if_pos c9] at hf
        refine lv_tableIn (off := 35) (tgt := 60) hx hb dX5_can_25 (by rw [c9]; decide) (by rw [c9]; decide) (by rw [c9]; rfl) (by decide) ?_
        refine lv_aload_n hx hb dX5_can_60 rfl (lv_at hl 0 rfl) ?_
        obtain ⟨v10, e10, hf⟩ := tk_bi hf
        refine tk_getR hx hb ht inX5 hown hE hs rfl 22 (by decide) (ht _ wfX5_59) e10 dX5_can_61 ?_
        refine lv_iload_n hx hb dX5_can_64 rfl (lv_at hl 2 rfl) ?_
        obtain ⟨v11, e11, hf⟩ := tk_bi hf
        refine tk_iald hx hb hE hs e11 dX5_can_65 ?_
        refine lv_aload_n hx hb dX5_can_66 rfl (lv_at hl 0 rfl) ?_
        obtain ⟨v12, e12, hf⟩ := tk_bi hf
        refine tk_getR hx hb ht inX5 hown hE hs rfl 22 (by decide) (ht _ wfX5_59) e12 dX5_can_67 ?_
        refine lv_iload hx hb dX5_can_70 (lv_at hl 4 rfl) ?_
        refine lv_iload_n hx hb dX5_can_72 rfl (lv_at hl 3 rfl) ?_
        refine lv_iadd hx hb dX5_can_73 ?_
        obtain ⟨v13, e13, hf⟩ := tk_bi hf
        refine tk_iald hx hb hE hs e13 dX5_can_74 ?_
        refine lv_icmp_ne (tgt := 82) hx hb dX5_can_75 (by decide) (fun c14 => ?_) (fun c14 => ?_)
        · rw [if_neg c14] at hf
          refine lv_iconst (v := 0) hx hb dX5_can_82 (by decide) ?_
          exact j83 0 o7.2.1 o7.2.2 _ _ _ hf hs (lv_sub hl [] rfl)
        · rw [if_pos c14] at hf
          refine lv_iconst (v := 1) hx hb dX5_can_78 (by decide) ?_
          refine lv_goto (tgt := 83) hx hb dX5_can_79 (by decide) ?_
          exact j83 1 o7.2.1 o7.2.2 _ _ _ hf hs (lv_sub hl [] rfl)
      rw [if_neg c9] at hf
      by_cases c15 : x1 = 1
      · rw [if_pos c15] at hf
        refine lv_tableIn (off := 59) (tgt := 84) hx hb dX5_can_25 (by rw [c15]; decide) (by rw [c15]; decide) (by rw [c15]; rfl) (by decide) ?_
        refine lv_aload_n hx hb dX5_can_84 rfl (lv_at hl 0 rfl) ?_
        obtain ⟨v16, e16, hf⟩ := tk_bi hf
        refine tk_getR hx hb ht inX5 hown hE hs rfl 22 (by decide) (ht _ wfX5_59) e16 dX5_can_85 ?_
        refine lv_iload_n hx hb dX5_can_88 rfl (lv_at hl 2 rfl) ?_
        obtain ⟨v17, e17, hf⟩ := tk_bi hf
        refine tk_iald hx hb hE hs e17 dX5_can_89 ?_
        refine lv_aload_n hx hb dX5_can_90 rfl (lv_at hl 0 rfl) ?_
        obtain ⟨v18, e18, hf⟩ := tk_bi hf
        refine tk_getR hx hb ht inX5 hown hE hs rfl 22 (by decide) (ht _ wfX5_59) e18 dX5_can_91 ?_
        refine lv_iload hx hb dX5_can_94 (lv_at hl 4 rfl) ?_
        refine lv_iload_n hx hb dX5_can_96 rfl (lv_at hl 3 rfl) ?_
        refine lv_iadd hx hb dX5_can_97 ?_
        obtain ⟨v19, e19, hf⟩ := tk_bi hf
        refine tk_iald hx hb hE hs e19 dX5_can_98 ?_
        refine lv_icmp_eq (tgt := 106) hx hb dX5_can_99 (by decide) (fun c20 => ?_) (fun c20 => ?_)
        · rw [if_pos c20] at hf
          refine lv_iconst (v := 0) hx hb dX5_can_106 (by decide) ?_
          exact j107 0 o7.2.1 o7.2.2 _ _ _ hf hs (lv_sub hl [] rfl)
        · rw [if_neg c20] at hf
          refine lv_iconst (v := 1) hx hb dX5_can_102 (by decide) ?_
          refine lv_goto (tgt := 107) hx hb dX5_can_103 (by decide) ?_
          exact j107 1 o7.2.1 o7.2.2 _ _ _ hf hs (lv_sub hl [] rfl)
      rw [if_neg c15] at hf
      by_cases c21 : x1 = 2
      · rw [if_pos c21] at hf
        refine lv_tableIn (off := 146) (tgt := 171) hx hb dX5_can_25 (by rw [c21]; decide) (by rw [c21]; decide) (by rw [c21]; rfl) (by decide) ?_
        refine lv_iconst (v := 1) hx hb dX5_can_171 (by decide) ?_
        obtain ⟨_, e22, hf⟩ := tk_bi hf
        have e22 := tk_bz_ok e22
        cases hf
        exact tk_zret hx hb hr hlocks e22 hs dX5_can_172
      rw [if_neg c21] at hf
      by_cases c23 : x1 = 3
      · rw [if_pos c23] at hf
        refine lv_tableIn (off := 146) (tgt := 171) hx hb dX5_can_25 (by rw [c23]; decide) (by rw [c23]; decide) (by rw [c23]; rfl) (by decide) ?_
        refine lv_iconst (v := 1) hx hb dX5_can_171 (by decide) ?_
        obtain ⟨_, e24, hf⟩ := tk_bi hf
        have e24 := tk_bz_ok e24
        cases hf
        exact tk_zret hx hb hr hlocks e24 hs dX5_can_172
      rw [if_neg c23] at hf
      by_cases c25 : x1 = 4
      · rw [if_pos c25] at hf
        refine lv_tableIn (off := 83) (tgt := 108) hx hb dX5_can_25 (by rw [c25]; decide) (by rw [c25]; decide) (by rw [c25]; rfl) (by decide) ?_
        refine lv_aload_n hx hb dX5_can_108 rfl (lv_at hl 0 rfl) ?_
        obtain ⟨v26, e26, hf⟩ := tk_bi hf
        refine tk_getR hx hb ht inX5 hown hE hs rfl 22 (by decide) (ht _ wfX5_59) e26 dX5_can_109 ?_
        refine lv_iload_n hx hb dX5_can_112 rfl (lv_at hl 2 rfl) ?_
        obtain ⟨v27, e27, hf⟩ := tk_bi hf
        refine tk_iald hx hb hE hs e27 dX5_can_113 ?_
        refine lv_aload_n hx hb dX5_can_114 rfl (lv_at hl 0 rfl) ?_
        obtain ⟨v28, e28, hf⟩ := tk_bi hf
        refine tk_getR hx hb ht inX5 hown hE hs rfl 22 (by decide) (ht _ wfX5_59) e28 dX5_can_115 ?_
        refine lv_iload_n hx hb dX5_can_118 rfl (lv_at hl 2 rfl) ?_
        refine lv_iconst (v := 1) hx hb dX5_can_119 (by decide) ?_
        refine lv_iadd hx hb dX5_can_120 ?_
        obtain ⟨v29, e29, hf⟩ := tk_bi hf
        refine tk_iald hx hb hE hs e29 dX5_can_121 ?_
        refine lv_icmp_eq (tgt := 169) hx hb dX5_can_122 (by decide) (fun c30 => ?_) (fun c30 => ?_)
        · rw [if_pos c30] at hf
          exact j169 o7.2.1 o7.2.2 _ _ _ hf hs (lv_sub hl [] rfl)
        · rw [if_neg c30] at hf
          refine lv_aload_n hx hb dX5_can_125 rfl (lv_at hl 0 rfl) ?_
          obtain ⟨v31, e31, hf⟩ := tk_bi hf
          refine tk_getR hx hb ht inX5 hown hE hs rfl 22 (by decide) (ht _ wfX5_59) e31 dX5_can_126 ?_
          refine lv_iload_n hx hb dX5_can_129 rfl (lv_at hl 2 rfl) ?_
          obtain ⟨v32, e32, hf⟩ := tk_bi hf
          refine tk_iald hx hb hE hs e32 dX5_can_130 ?_
          refine lv_aload_n hx hb dX5_can_131 rfl (lv_at hl 0 rfl) ?_
          obtain ⟨v33, e33, hf⟩ := tk_bi hf
          refine tk_getR hx hb ht inX5 hown hE hs rfl 22 (by decide) (ht _ wfX5_59) e33 dX5_can_132 ?_
          refine lv_iload hx hb dX5_can_135 (lv_at hl 4 rfl) ?_
          refine lv_iload_n hx hb dX5_can_137 rfl (lv_at hl 3 rfl) ?_
          refine lv_iadd hx hb dX5_can_138 ?_
          refine lv_iconst (v := 1) hx hb dX5_can_139 (by decide) ?_
          refine lv_iadd hx hb dX5_can_140 ?_
          obtain ⟨v34, e34, hf⟩ := tk_bi hf
          refine tk_iald hx hb hE hs e34 dX5_can_141 ?_
          refine lv_icmp_ne (tgt := 169) hx hb dX5_can_142 (by decide) (fun c35 => ?_) (fun c35 => ?_)
          · rw [if_neg c35] at hf
            exact j169 o7.2.1 o7.2.2 _ _ _ hf hs (lv_sub hl [] rfl)
          · rw [if_pos c35] at hf
            refine lv_aload_n hx hb dX5_can_145 rfl (lv_at hl 0 rfl) ?_
            obtain ⟨v36, e36, hf⟩ := tk_bi hf
            refine tk_getR hx hb ht inX5 hown hE hs rfl 22 (by decide) (ht _ wfX5_59) e36 dX5_can_146 ?_
            refine lv_iload_n hx hb dX5_can_149 rfl (lv_at hl 2 rfl) ?_
            refine lv_iconst (v := 1) hx hb dX5_can_150 (by decide) ?_
            refine lv_iadd hx hb dX5_can_151 ?_
            obtain ⟨v37, e37, hf⟩ := tk_bi hf
            refine tk_iald hx hb hE hs e37 dX5_can_152 ?_
            refine lv_aload_n hx hb dX5_can_153 rfl (lv_at hl 0 rfl) ?_
            obtain ⟨v38, e38, hf⟩ := tk_bi hf
            refine tk_getR hx hb ht inX5 hown hE hs rfl 22 (by decide) (ht _ wfX5_59) e38 dX5_can_154 ?_
            refine lv_iload hx hb dX5_can_157 (lv_at hl 4 rfl) ?_
            refine lv_iload_n hx hb dX5_can_159 rfl (lv_at hl 3 rfl) ?_
            refine lv_iadd hx hb dX5_can_160 ?_
            obtain ⟨v39, e39, hf⟩ := tk_bi hf
            refine tk_iald hx hb hE hs e39 dX5_can_161 ?_
            refine lv_icmp_ne (tgt := 169) hx hb dX5_can_162 (by decide) (fun c40 => ?_) (fun c40 => ?_)
            · rw [if_neg c40] at hf
              exact j169 o7.2.1 o7.2.2 _ _ _ hf hs (lv_sub hl [] rfl)
            · rw [if_pos c40] at hf
              refine lv_iconst (v := 1) hx hb dX5_can_165 (by decide) ?_
              refine lv_goto (tgt := 170) hx hb dX5_can_166 (by decide) ?_
              exact j170 1 o7.2.1 o7.2.2 _ _ _ hf hs (lv_sub hl [] rfl)
      rw [if_neg c25] at hf
      refine lv_tableOut (tgt := 171) hx hb dX5_can_25 (tk_out 4 (fun k hk => match k, hk with | 0, _ => c9 | 1, _ => c15 | 2, _ => c21 | 3, _ => c23 | 4, _ => c25 | n9 + 5, h9 => absurd h9 (by omega)) (by decide)) (by decide) ?_
      refine lv_iconst (v := 1) hx hb dX5_can_171 (by decide) ?_
      obtain ⟨_, e41, hf⟩ := tk_bi hf
      have e41 := tk_bz_ok e41
      cases hf
      exact tk_zret hx hb hr hlocks e41 hs dX5_can_172
    · rw [if_neg c8] at hf
      exact j22 o7.2.1 o7.2.2 _ _ _ hf hs (lv_sub hl [] rfl)
def fX5_after (N : Nat) (x0 : Nat) (x1 : Int32) (x2 : Int32) (x3 : Int32) (h : tk_AH) (sz : Nat) : Option (Int32 × tk_AH × Nat) :=
  (fX5_costOf N x1 h sz).bind fun o1 =>
  (tk_gR o1.2.1 5 34 x0).bind fun v2 =>
  (fX5_said N x1 o1.2.1 o1.2.2).bind fun o3 =>
  (fX5_meant N x1 o3.2.1 o3.2.2).bind fun o4 =>
  (tk_aI o4.2.1 0 v2 (((41 * (x2 + o3.1)) + x3) + o4.1)).bind fun v5 =>
  some (o1.1 + v5, o4.2.1, o4.2.2)
set_option maxHeartbeats 8000000 in
set_option maxRecDepth 100000 in
theorem cX5_after_ok (l : Launch) (hl0 : l.stackTraces = false) (G : tk_AG) (N : Nat) (x0 : Nat) (x1 : Int32) (x2 : Int32) (x3 : Int32) (h : tk_AH) (sz : Nat) (r9 : Int32) (h9 : tk_AH) (sz9 : Nat) (hf : fX5_after N x0 x1 x2 x3 h sz = some (r9, h9, sz9)) : Met l yX5_after (coX5_after :: tk_W) ({ frames := 1, cells := 0, slots := 0, locals := 20 }) (tk_pc G [.ref x0, .int x1, .int x2, .int x3] h sz) (tk_qc G (some (.int r9)) h9 sz9) 0 0 (tk_ag G) := by
  refine Met.ofW (cc := cX5_after) (maxL := 4) (ret := (some .int)) (by decide) rfl ?_
  intro p e s m args below meth c s₁ B hml hv
  obtain ⟨hav, hE, hrp, hsz, hgs⟩ := hv
  have hx := B.exec
  have hb := B.bytes
  have hr := B.returns
  have hts := atoms_spec (ws := coX5_after :: tk_W) B.pre
  have ht : ∀ w ∈ tk_W, w.before args s = true := fun w h => hts w (List.mem_cons_of_mem _ h)
  have hown : s.vm.findClass RX5 = some m.cls := findClass_of_methodNamed B.named
  have hlocks := B.notSynchronized
  have hs : tk_sw G s h sz s.heap [] := ⟨hrp, hsz, by rw [hsz]; exact hgs, va_S.rf⟩
  have hl := lv_entry ([.ref x0, .int x1, .int x2, .int x3]) (n := 4) (Nat.le_of_ble_eq_true rfl)
  have hent : entryFrame m args 4 = F0 m 0 (lg_sl ([.ref x0, .int x1, .int x2, .int x3]) ++ List.replicate (4 - (lg_sl ([.ref x0, .int x1, .int x2, .int x3])).length) Slot.unset).toArray [] := by rw [hav, lg_entry_eq]
  rw [hent]
  clear hent
  generalize (lg_sl ([.ref x0, .int x1, .int x2, .int x3]) ++ List.replicate (4 - (lg_sl ([.ref x0, .int x1, .int x2, .int x3])).length) Slot.unset).toArray = ls at hl ⊢
  have hl : lv_has ls 4 [(0, .ref x0), (1, .int x1), (2, .int x2), (3, .int x3)] := hl
  unfold fX5_after at hf
  refine lv_iload_n hx hb dX5_after_0 rfl (lv_at hl 1 rfl) ?_
  obtain ⟨o1, e1, hf⟩ := tk_bi hf
  refine tk_call0 (v := some (.int o1.1)) hs (va_runS (As := [.int x1]) (rest := []) ⟨hx, hb, hml, hown, ht⟩ (cX5_costOf_ok l hl0 G N x1 h sz o1.1 o1.2.1 o1.2.2 e1) (kwX5_costOf ht wmX5_191 rfl rfl ⟨Nat.le_of_ble_eq_true rfl, Nat.le_of_ble_eq_true rfl⟩) (tk_preS hE hs) rfl rfl hl.1 rfl (lv_room (Nat.le_of_ble_eq_true rfl)) dX5_after_1 ⟨(Nat.le_of_ble_eq_true rfl), (Nat.le_of_ble_eq_true rfl)⟩) (fun H locs hs => ?_)
  refine W.eq (g2 := F0 m 4 ls [.int o1.1]) rfl ?_
  refine lv_aload_n hx hb dX5_after_4 rfl (lv_at hl 0 rfl) ?_
  obtain ⟨v2, e2, hf⟩ := tk_bi hf
  refine tk_getR hx hb ht inX5 hown hE hs rfl 34 (by decide) (ht _ wfX5_86) e2 dX5_after_5 ?_
  refine lv_bipush (v := 41) hx hb dX5_after_8 (by decide) ?_
  refine lv_iload_n hx hb dX5_after_10 rfl (lv_at hl 2 rfl) ?_
  refine lv_iload_n hx hb dX5_after_11 rfl (lv_at hl 1 rfl) ?_
  obtain ⟨o3, e3, hf⟩ := tk_bi hf
  refine tk_call0 (v := some (.int o3.1)) hs (va_runS (As := [.int x1]) (rest := [.int x2, .int 41, .ref v2, .int o1.1]) ⟨hx, hb, hml, hown, ht⟩ (cX5_said_ok l hl0 G N x1 o1.2.1 o1.2.2 o3.1 o3.2.1 o3.2.2 e3) (kwX5_said ht wmX5_185 rfl rfl ⟨Nat.le_of_ble_eq_true rfl, Nat.le_of_ble_eq_true rfl⟩) (tk_preS hE hs) rfl rfl hl.1 rfl (lv_room (Nat.le_of_ble_eq_true rfl)) dX5_after_12 ⟨(Nat.le_of_ble_eq_true rfl), (Nat.le_of_ble_eq_true rfl)⟩) (fun H locs hs => ?_)
  refine W.eq (g2 := F0 m 15 ls [.int o3.1, .int x2, .int 41, .ref v2, .int o1.1]) rfl ?_
  refine lv_iadd hx hb dX5_after_15 ?_
  refine lv_imul hx hb dX5_after_16 ?_
  refine lv_iload_n hx hb dX5_after_17 rfl (lv_at hl 3 rfl) ?_
  refine lv_iadd hx hb dX5_after_18 ?_
  refine lv_iload_n hx hb dX5_after_19 rfl (lv_at hl 1 rfl) ?_
  obtain ⟨o4, e4, hf⟩ := tk_bi hf
  refine tk_call0 (v := some (.int o4.1)) hs (va_runS (As := [.int x1]) (rest := [.int ((41 * (x2 + o3.1)) + x3), .ref v2, .int o1.1]) ⟨hx, hb, hml, hown, ht⟩ (cX5_meant_ok l hl0 G N x1 o3.2.1 o3.2.2 o4.1 o4.2.1 o4.2.2 e4) (kwX5_meant ht wmX5_188 rfl rfl ⟨Nat.le_of_ble_eq_true rfl, Nat.le_of_ble_eq_true rfl⟩) (tk_preS hE hs) rfl rfl hl.1 rfl (lv_room (Nat.le_of_ble_eq_true rfl)) dX5_after_20 ⟨(Nat.le_of_ble_eq_true rfl), (Nat.le_of_ble_eq_true rfl)⟩) (fun H locs hs => ?_)
  refine W.eq (g2 := F0 m 23 ls [.int o4.1, .int ((41 * (x2 + o3.1)) + x3), .ref v2, .int o1.1]) rfl ?_
  refine lv_iadd hx hb dX5_after_23 ?_
  obtain ⟨v5, e5, hf⟩ := tk_bi hf
  refine tk_iald hx hb hE hs e5 dX5_after_24 ?_
  refine lv_iadd hx hb dX5_after_25 ?_
  cases hf
  exact tk_iret hx hb hr hlocks hs dX5_after_26
def fX5_correct_231 (N : Nat) (k193 : Nat → Int32 → Int32 → Int32 → Int32 → Int32 → tk_AH → Nat → Option (Int32 × tk_AH × Nat)) (x0 : Nat) (x1 : Int32) (x2 : Int32) (x3 : Int32) (x4 : Int32) (x5 : Int32) (h : tk_AH) (sz : Nat) : Option (Int32 × tk_AH × Nat) :=
  k193 x0 x1 x2 x3 x4 (x5 + 1) h sz
def fX5_correct_193 (N : Nat) (k179 : Nat → Int32 → Int32 → Int32 → Int32 → tk_AH → Nat → Option (Int32 × tk_AH × Nat)) : Nat → Nat → Int32 → Int32 → Int32 → Int32 → Int32 → tk_AH → Nat → Option (Int32 × tk_AH × Nat)
  | 0, _, _, _, _, _, _, _, _ => none
  | n + 1, x0, x1, x2, x3, x4, x5, h, sz =>
  (tk_ok h 5 x0).bind fun _ =>
  (fX5_can N x0 x5 x3 x4 x1 x2 h sz).bind fun o1 =>
  if o1.1 = 0 then (
  fX5_correct_231 N (fX5_correct_193 N k179 n) x0 x1 x2 x3 x4 x5 o1.2.1 o1.2.2) else (
  (tk_ok o1.2.1 5 x0).bind fun _ =>
  (fX5_after N x0 x5 x3 x4 o1.2.1 o1.2.2).bind fun o4 =>
  (tk_gR o4.2.1 5 34 x0).bind fun v6 =>
  (tk_aI o4.2.1 0 v6 ((41 * x3) + x4)).bind fun v7 =>
  if o4.1 = v7 then (
  (tk_gR o4.2.1 5 25 x0).bind fun v9 =>
  (tk_gI o4.2.1 5 24 x0).bind fun v10 =>
  (tk_sI o4.2.1 0 v9 v10 x5).bind fun h11 =>
  (tk_gI h11 5 24 x0).bind fun v12 =>
  (tk_pF h11 5 24 x0 (.int (v12 + 1))).bind fun h13 =>
  (fX5_said N x5 h13 o4.2.2).bind fun o14 =>
  (fX5_meant N x5 o14.2.1 o14.2.2).bind fun o15 =>
  k179 x0 x1 x2 (x3 + o14.1) (x4 + o15.1) o15.2.1 o15.2.2) else (
  fX5_correct_231 N (fX5_correct_193 N k179 n) x0 x1 x2 x3 x4 x5 o4.2.1 o4.2.2))
def fX5_correct_190 (N : Nat) (k179 : Nat → Int32 → Int32 → Int32 → Int32 → tk_AH → Nat → Option (Int32 × tk_AH × Nat)) (x0 : Nat) (x1 : Int32) (x2 : Int32) (x3 : Int32) (x4 : Int32) (h : tk_AH) (sz : Nat) : Option (Int32 × tk_AH × Nat) :=
  fX5_correct_193 N k179 N x0 x1 x2 x3 x4 0 h sz
def fX5_correct_179 (N : Nat) : Nat → Nat → Int32 → Int32 → Int32 → Int32 → tk_AH → Nat → Option (Int32 × tk_AH × Nat)
  | 0, _, _, _, _, _, _, _ => none
  | n + 1, x0, x1, x2, x3, x4, h, sz =>
  if x3 < x1 then (
  fX5_correct_190 N (fX5_correct_179 N n) x0 x1 x2 x3 x4 h sz) else (
  if x2 ≤ x4 then (
  (tk_gR h 5 34 x0).bind fun v18 =>
  (tk_aI h 0 v18 0).bind fun v19 =>
  some (v19, h, sz)) else (
  fX5_correct_190 N (fX5_correct_179 N n) x0 x1 x2 x3 x4 h sz))
def fX5_correct_137 (N : Nat) (k92 : Nat → Int32 → Int32 → Int32 → Int32 → Int32 → Int32 → tk_AH → Nat → Option (Int32 × tk_AH × Nat)) (x0 : Nat) (x1 : Int32) (x2 : Int32) (x3 : Int32) (x4 : Int32) (x5 : Int32) (x6 : Int32) (h : tk_AH) (sz : Nat) : Option (Int32 × tk_AH × Nat) :=
  k92 x0 x1 x2 x3 x4 x5 (x6 + 1) h sz
def fX5_correct_92 (N : Nat) (k64 : Nat → Int32 → Int32 → Int32 → Int32 → tk_AH → Nat → Option (Int32 × tk_AH × Nat)) : Nat → Nat → Int32 → Int32 → Int32 → Int32 → Int32 → Int32 → tk_AH → Nat → Option (Int32 × tk_AH × Nat)
  | 0, _, _, _, _, _, _, _, _, _ => none
  | n + 1, x0, x1, x2, x3, x4, x5, x6, h, sz =>
  if 4 < x6 then (
  (tk_gR h 5 34 x0).bind fun v21 =>
  (tk_sI h 0 v21 ((41 * x3) + x4) x5).bind fun h22 =>
  k64 x0 x1 x2 x3 (x4 + (-1)) h22 sz) else (
  (tk_ok h 5 x0).bind fun _ =>
  (fX5_can N x0 x6 x3 x4 x1 x2 h sz).bind fun o23 =>
  if o23.1 = 0 then (
  fX5_correct_137 N (fX5_correct_92 N k64 n) x0 x1 x2 x3 x4 x5 x6 o23.2.1 o23.2.2) else (
  (tk_ok o23.2.1 5 x0).bind fun _ =>
  (fX5_after N x0 x6 x3 x4 o23.2.1 o23.2.2).bind fun o26 =>
  if x5 ≤ o26.1 then (
  fX5_correct_137 N (fX5_correct_92 N k64 n) x0 x1 x2 x3 x4 x5 x6 o26.2.1 o26.2.2) else (
  (tk_ok o26.2.1 5 x0).bind fun _ =>
  (fX5_after N x0 x6 x3 x4 o26.2.1 o26.2.2).bind fun o29 =>
  fX5_correct_137 N (fX5_correct_92 N k64 n) x0 x1 x2 x3 x4 o29.1 x6 o29.2.1 o29.2.2)))
def fX5_correct_87 (N : Nat) (k64 : Nat → Int32 → Int32 → Int32 → Int32 → tk_AH → Nat → Option (Int32 × tk_AH × Nat)) (x0 : Nat) (x1 : Int32) (x2 : Int32) (x3 : Int32) (x4 : Int32) (y0 : Int32) (h : tk_AH) (sz : Nat) : Option (Int32 × tk_AH × Nat) :=
  fX5_correct_92 N k64 N x0 x1 x2 x3 x4 y0 0 h sz
def fX5_correct_84 (N : Nat) (k64 : Nat → Int32 → Int32 → Int32 → Int32 → tk_AH → Nat → Option (Int32 × tk_AH × Nat)) (x0 : Nat) (x1 : Int32) (x2 : Int32) (x3 : Int32) (x4 : Int32) (h : tk_AH) (sz : Nat) : Option (Int32 × tk_AH × Nat) :=
  fX5_correct_87 N k64 x0 x1 x2 x3 x4 1000 h sz
def fX5_correct_64 (N : Nat) (k57 : Nat → Int32 → Int32 → Int32 → tk_AH → Nat → Option (Int32 × tk_AH × Nat)) : Nat → Nat → Int32 → Int32 → Int32 → Int32 → tk_AH → Nat → Option (Int32 × tk_AH × Nat)
  | 0, _, _, _, _, _, _, _ => none
  | n + 1, x0, x1, x2, x3, x4, h, sz =>
  if x4 < 0 then (
  k57 x0 x1 x2 (x3 + (-1)) h sz) else (
  if x3 = x1 then (
  if x4 = x2 then (
  fX5_correct_87 N (fX5_correct_64 N k57 n) x0 x1 x2 x3 x4 0 h sz) else (
  fX5_correct_84 N (fX5_correct_64 N k57 n) x0 x1 x2 x3 x4 h sz)) else (
  fX5_correct_84 N (fX5_correct_64 N k57 n) x0 x1 x2 x3 x4 h sz))
def fX5_correct_57 (N : Nat) (k179 : Nat → Int32 → Int32 → Int32 → Int32 → tk_AH → Nat → Option (Int32 × tk_AH × Nat)) : Nat → Nat → Int32 → Int32 → Int32 → tk_AH → Nat → Option (Int32 × tk_AH × Nat)
  | 0, _, _, _, _, _, _ => none
  | n + 1, x0, x1, x2, x3, h, sz =>
  if x3 < 0 then (
  (tk_pF h 5 24 x0 (.int 0)).bind fun h35 =>
  k179 x0 x1 x2 0 0 h35 sz) else (
  fX5_correct_64 N (fX5_correct_57 N k179 n) N x0 x1 x2 x3 x2 h sz)
def fX5_correct_41 (N : Nat) (x0 : Nat) (x1 : Int32) (x2 : Int32) (y0 : Int32) (y1 : Nat) (h : tk_AH) (sz : Nat) : Option (Int32 × tk_AH × Nat) :=
  (tk_ok h 5 y1).bind fun _ =>
  (fX5_right N y1 y0 1 h sz).bind fun o36 =>
  if o36.1 = 0 then (
  some (0, o36.2.1, o36.2.2)) else (
  (tk_pF o36.2.1 5 23 x0 (.int 0)).bind fun h39 =>
  fX5_correct_57 N (fX5_correct_179 N N) N x0 x1 x2 x1 h39 o36.2.2)
def fX5_correct_40 (N : Nat) (x0 : Nat) (x1 : Int32) (x2 : Int32) (y0 : Nat) (h : tk_AH) (sz : Nat) : Option (Int32 × tk_AH × Nat) :=
  fX5_correct_41 N x0 x1 x2 0 y0 h sz
def fX5_correct (N : Nat) (x0 : Nat) (x1 : Int32) (x2 : Int32) (h : tk_AH) (sz : Nat) : Option (Int32 × tk_AH × Nat) :=
  (tk_pF h 5 0 x0 (.int 0)).bind fun h40 =>
  if x1 < 0 then (
  fX5_correct_40 N x0 x1 x2 x0 h40 sz) else (
  if 40 < x1 then (
  fX5_correct_40 N x0 x1 x2 x0 h40 sz) else (
  if x2 < 0 then (
  fX5_correct_40 N x0 x1 x2 x0 h40 sz) else (
  if 40 < x2 then (
  fX5_correct_40 N x0 x1 x2 x0 h40 sz) else (
  (tk_gI h40 5 23 x0).bind fun v45 =>
  if v45 < (x1 + x2) then (
  fX5_correct_40 N x0 x1 x2 x0 h40 sz) else (
  fX5_correct_41 N x0 x1 x2 1 x0 h40 sz)))))
set_option maxHeartbeats 8000000 in
set_option maxRecDepth 100000 in
theorem cX5_correct_ok (l : Launch) (hl0 : l.stackTraces = false) (G : tk_AG) (N : Nat) (x0 : Nat) (x1 : Int32) (x2 : Int32) (h : tk_AH) (sz : Nat) (r9 : Int32) (h9 : tk_AH) (sz9 : Nat) (hf : fX5_correct N x0 x1 x2 h sz = some (r9, h9, sz9)) : Met l yX5_correct (coX5_correct :: tk_W) ({ frames := 2, cells := 0, slots := 0, locals := 45 }) (tk_pc G [.ref x0, .int x1, .int x2] h sz) (tk_qc G (some (.int r9)) h9 sz9) 0 0 (tk_ag G) := by
  refine Met.ofW (cc := cX5_correct) (maxL := 7) (ret := (some .int)) (by decide) rfl ?_
  intro p e s m args below meth c s₁ B hml hv
  obtain ⟨hav, hE, hrp, hsz, hgs⟩ := hv
  have hx := B.exec
  have hb := B.bytes
  have hr := B.returns
  have hts := atoms_spec (ws := coX5_correct :: tk_W) B.pre
  have ht : ∀ w ∈ tk_W, w.before args s = true := fun w h => hts w (List.mem_cons_of_mem _ h)
  have hown : s.vm.findClass RX5 = some m.cls := findClass_of_methodNamed B.named
  have hlocks := B.notSynchronized
  have hs : tk_sw G s h sz s.heap [] := ⟨hrp, hsz, by rw [hsz]; exact hgs, va_S.rf⟩
  have hl := lv_entry ([.ref x0, .int x1, .int x2]) (n := 7) (Nat.le_of_ble_eq_true rfl)
  have hent : entryFrame m args 7 = F0 m 0 (lg_sl ([.ref x0, .int x1, .int x2]) ++ List.replicate (7 - (lg_sl ([.ref x0, .int x1, .int x2])).length) Slot.unset).toArray [] := by rw [hav, lg_entry_eq]
  rw [hent]
  clear hent
  generalize (lg_sl ([.ref x0, .int x1, .int x2]) ++ List.replicate (7 - (lg_sl ([.ref x0, .int x1, .int x2])).length) Slot.unset).toArray = ls at hl ⊢
  have hl : lv_has ls 7 [(0, .ref x0), (1, .int x1), (2, .int x2)] := hl
  have j231 : ∀ (k193 : Nat → Int32 → Int32 → Int32 → Int32 → Int32 → tk_AH → Nat → Option (Int32 × tk_AH × Nat)), (∀ (x0 : Nat) (x1 : Int32) (x2 : Int32) (x3 : Int32) (x4 : Int32) (x5 : Int32) (h : tk_AH) (sz : Nat) (H : Heap) (locs : List Loc) (ls : Array Slot), k193 x0 x1 x2 x3 x4 x5 h sz = some (r9, h9, sz9) → tk_sw G s h sz H locs → lv_has ls 7 [(0, .ref x0), (1, .int x1), (2, .int x2), (3, .int x3), (4, .int x4), (5, .int x5)] → W p l e (headSpec (coX5_correct :: tk_W) ({ frames := 2, cells := 0, slots := 0, locals := 45 })).room s m args below meth c H locs 0 (0) (MQ below (tk_qc G (some (.int r9)) h9 sz9) args s 0 0 (tk_ag G)) (F0 m 193 ls [])) → ∀ (x0 : Nat) (x1 : Int32) (x2 : Int32) (x3 : Int32) (x4 : Int32) (x5 : Int32) (h : tk_AH) (sz : Nat) (H : Heap) (locs : List Loc) (ls : Array Slot), fX5_correct_231 N k193 x0 x1 x2 x3 x4 x5 h sz = some (r9, h9, sz9) → tk_sw G s h sz H locs → lv_has ls 7 [(0, .ref x0), (1, .int x1), (2, .int x2), (3, .int x3), (4, .int x4), (5, .int x5)] → W p l e (headSpec (coX5_correct :: tk_W) ({ frames := 2, cells := 0, slots := 0, locals := 45 })).room s m args below meth c H locs 0 (0) (MQ below (tk_qc G (some (.int r9)) h9 sz9) args s 0 0 (tk_ag G)) (F0 m 231 ls []) := by
    intro k193 hk193 x0 x1 x2 x3 x4 x5 h sz H locs ls hf hs hl
    unfold fX5_correct_231 at hf
    refine lv_iinc (v := x5 + 1) (lv' := [(5, .int (x5 + 1)), (0, .ref x0), (1, .int x1), (2, .int x2), (3, .int x3), (4, .int x4)]) hx hb dX5_correct_231 hl (k := 5) rfl rfl (by decide) rfl (fun ls hl => ?_)
    refine lv_goto (tgt := 193) hx hb dX5_correct_234 (by decide) ?_
    exact hk193 x0 x1 x2 x3 x4 (x5 + 1) h sz _ _ _ hf hs (lv_sub hl [1, 2, 3, 4, 5, 0] rfl)
  have j193 : ∀ (k179 : Nat → Int32 → Int32 → Int32 → Int32 → tk_AH → Nat → Option (Int32 × tk_AH × Nat)), (∀ (x0 : Nat) (x1 : Int32) (x2 : Int32) (x3 : Int32) (x4 : Int32) (h : tk_AH) (sz : Nat) (H : Heap) (locs : List Loc) (ls : Array Slot), k179 x0 x1 x2 x3 x4 h sz = some (r9, h9, sz9) → tk_sw G s h sz H locs → lv_has ls 7 [(0, .ref x0), (1, .int x1), (2, .int x2), (3, .int x3), (4, .int x4)] → W p l e (headSpec (coX5_correct :: tk_W) ({ frames := 2, cells := 0, slots := 0, locals := 45 })).room s m args below meth c H locs 0 (0) (MQ below (tk_qc G (some (.int r9)) h9 sz9) args s 0 0 (tk_ag G)) (F0 m 179 ls [])) → ∀ (n : Nat), ∀ (x0 : Nat) (x1 : Int32) (x2 : Int32) (x3 : Int32) (x4 : Int32) (x5 : Int32) (h : tk_AH) (sz : Nat) (H : Heap) (locs : List Loc) (ls : Array Slot), fX5_correct_193 N k179 n x0 x1 x2 x3 x4 x5 h sz = some (r9, h9, sz9) → tk_sw G s h sz H locs → lv_has ls 7 [(0, .ref x0), (1, .int x1), (2, .int x2), (3, .int x3), (4, .int x4), (5, .int x5)] → W p l e (headSpec (coX5_correct :: tk_W) ({ frames := 2, cells := 0, slots := 0, locals := 45 })).room s m args below meth c H locs 0 (0) (MQ below (tk_qc G (some (.int r9)) h9 sz9) args s 0 0 (tk_ag G)) (F0 m 193 ls []) := by
    intro k179 hk179 n
    induction n with
    | zero =>
      intro x0 x1 x2 x3 x4 x5 h sz H locs ls hf
      cases hf
    | succ n ih =>
      intro x0 x1 x2 x3 x4 x5 h sz H locs ls hf hs hl
      rw [fX5_correct_193] at hf
      refine lv_aload_n hx hb dX5_correct_193 rfl (lv_at hl 0 rfl) ?_
      refine lv_iload hx hb dX5_correct_194 (lv_at hl 5 rfl) ?_
      refine lv_iload_n hx hb dX5_correct_196 rfl (lv_at hl 3 rfl) ?_
      refine lv_iload hx hb dX5_correct_197 (lv_at hl 4 rfl) ?_
      refine lv_iload_n hx hb dX5_correct_199 rfl (lv_at hl 1 rfl) ?_
      refine lv_iload_n hx hb dX5_correct_200 rfl (lv_at hl 2 rfl) ?_
      obtain ⟨_, p1, hf⟩ := tk_bi hf
      obtain ⟨o1, e1, hf⟩ := tk_bi hf
      refine tk_call0 (v := some (.int o1.1)) hs (va_runV (As := [.int x5, .int x3, .int x4, .int x1, .int x2]) (rest := []) ⟨hx, hb, hml, hown, ht⟩ (cX5_can_ok l hl0 G N x0 x5 x3 x4 x1 x2 h sz o1.1 o1.2.1 o1.2.2 e1) (kwX5_can ht wmX5_194 rfl rfl ⟨Nat.le_of_ble_eq_true rfl, Nat.le_of_ble_eq_true rfl⟩) (tk_preV hE hs (tk_ok_ok p1) rfl) rfl rfl hl.1 rfl (lv_room (Nat.le_of_ble_eq_true rfl)) dX5_correct_201 ⟨(Nat.le_of_ble_eq_true rfl), (Nat.le_of_ble_eq_true rfl)⟩) (fun H locs hs => ?_)
      refine W.eq (g2 := F0 m 204 ls [.int o1.1]) rfl ?_
      refine lv_if_eq (tgt := 231) hx hb dX5_correct_204 (by decide) (fun c3 => ?_) (fun c3 => ?_)
      · rw [if_pos c3] at hf
        exact j231 (fX5_correct_193 N k179 n) ih x0 x1 x2 x3 x4 x5 o1.2.1 o1.2.2 _ _ _ hf hs (lv_sub hl [0, 1, 2, 3, 4, 5] rfl)
      · rw [if_neg c3] at hf
        refine lv_aload_n hx hb dX5_correct_207 rfl (lv_at hl 0 rfl) ?_
        refine lv_iload hx hb dX5_correct_208 (lv_at hl 5 rfl) ?_
        refine lv_iload_n hx hb dX5_correct_210 rfl (lv_at hl 3 rfl) ?_
        refine lv_iload hx hb dX5_correct_211 (lv_at hl 4 rfl) ?_
        obtain ⟨_, p4, hf⟩ := tk_bi hf
        obtain ⟨o4, e4, hf⟩ := tk_bi hf
        refine tk_call0 (v := some (.int o4.1)) hs (va_runV (As := [.int x5, .int x3, .int x4]) (rest := []) ⟨hx, hb, hml, hown, ht⟩ (cX5_after_ok l hl0 G N x0 x5 x3 x4 o1.2.1 o1.2.2 o4.1 o4.2.1 o4.2.2 e4) (kwX5_after ht wmX5_198 rfl rfl ⟨Nat.le_of_ble_eq_true rfl, Nat.le_of_ble_eq_true rfl⟩) (tk_preV hE hs (tk_ok_ok p4) rfl) rfl rfl hl.1 rfl (lv_room (Nat.le_of_ble_eq_true rfl)) dX5_correct_213 ⟨(Nat.le_of_ble_eq_true rfl), (Nat.le_of_ble_eq_true rfl)⟩) (fun H locs hs => ?_)
        refine W.eq (g2 := F0 m 216 ls [.int o4.1]) rfl ?_
        refine lv_aload_n hx hb dX5_correct_216 rfl (lv_at hl 0 rfl) ?_
        obtain ⟨v6, e6, hf⟩ := tk_bi hf
        refine tk_getR hx hb ht inX5 hown hE hs rfl 34 (by decide) (ht _ wfX5_86) e6 dX5_correct_217 ?_
        refine lv_bipush (v := 41) hx hb dX5_correct_220 (by decide) ?_
        refine lv_iload_n hx hb dX5_correct_222 rfl (lv_at hl 3 rfl) ?_
        refine lv_imul hx hb dX5_correct_223 ?_
        refine lv_iload hx hb dX5_correct_224 (lv_at hl 4 rfl) ?_
        refine lv_iadd hx hb dX5_correct_226 ?_
        obtain ⟨v7, e7, hf⟩ := tk_bi hf
        refine tk_iald hx hb hE hs e7 dX5_correct_227 ?_
        refine lv_icmp_eq (tgt := 237) hx hb dX5_correct_228 (by decide) (fun c8 => ?_) (fun c8 => ?_)
        · rw [if_pos c8] at hf
          refine lv_aload_n hx hb dX5_correct_237 rfl (lv_at hl 0 rfl) ?_
          obtain ⟨v9, e9, hf⟩ := tk_bi hf
          refine tk_getR hx hb ht inX5 hown hE hs rfl 25 (by decide) (ht _ wfX5_62) e9 dX5_correct_238 ?_
          refine lv_aload_n hx hb dX5_correct_241 rfl (lv_at hl 0 rfl) ?_
          obtain ⟨v10, e10, hf⟩ := tk_bi hf
          refine tk_getI hx hb ht inX5 hown hE hs rfl 24 (by decide) (ht _ wfX5_201) e10 dX5_correct_242 ?_
          refine lv_iload hx hb dX5_correct_245 (lv_at hl 5 rfl) ?_
          obtain ⟨h11, e11, hf⟩ := tk_bi hf
          refine tk_iast hx hb hE hs e11 dX5_correct_247 (fun H locs hs => ?_)
          refine lv_aload_n hx hb dX5_correct_248 rfl (lv_at hl 0 rfl) ?_
          refine lv_dup hx hb dX5_correct_249 rfl ?_
          obtain ⟨v12, e12, hf⟩ := tk_bi hf
          refine tk_getI hx hb ht inX5 hown hE hs rfl 24 (by decide) (ht _ wfX5_201) e12 dX5_correct_250 ?_
          refine lv_iconst (v := 1) hx hb dX5_correct_253 (by decide) ?_
          refine lv_iadd hx hb dX5_correct_254 ?_
          obtain ⟨h13, e13, hf⟩ := tk_bi hf
          refine tk_put hx hb ht inX5 tyX5 tyX5_ok nmX5 hown hE hs rfl 24 (by decide) (ht _ wfX5_201) rfl rfl rfl e13 dX5_correct_255 (fun H locs hs => ?_)
          refine lv_iload_n hx hb dX5_correct_258 rfl (lv_at hl 3 rfl) ?_
          refine lv_iload hx hb dX5_correct_259 (lv_at hl 5 rfl) ?_
          obtain ⟨o14, e14, hf⟩ := tk_bi hf
          refine tk_call0 (v := some (.int o14.1)) hs (va_runS (As := [.int x5]) (rest := [.int x3]) ⟨hx, hb, hml, hown, ht⟩ (cX5_said_ok l hl0 G N x5 h13 o4.2.2 o14.1 o14.2.1 o14.2.2 e14) (kwX5_said ht wmX5_185 rfl rfl ⟨Nat.le_of_ble_eq_true rfl, Nat.le_of_ble_eq_true rfl⟩) (tk_preS hE hs) rfl rfl hl.1 rfl (lv_room (Nat.le_of_ble_eq_true rfl)) dX5_correct_261 ⟨(Nat.le_of_ble_eq_true rfl), (Nat.le_of_ble_eq_true rfl)⟩) (fun H locs hs => ?_)
          refine W.eq (g2 := F0 m 264 ls [.int o14.1, .int x3]) rfl ?_
          refine lv_iadd hx hb dX5_correct_264 ?_
          refine lv_istore_n (lv' := [(3, .int (x3 + o14.1)), (0, .ref x0), (1, .int x1), (2, .int x2), (4, .int x4), (5, .int x5)]) hx hb dX5_correct_265 rfl hl (by decide) rfl (fun ls hl => ?_)
          refine lv_iload hx hb dX5_correct_266 (lv_at hl 4 rfl) ?_
          refine lv_iload hx hb dX5_correct_268 (lv_at hl 5 rfl) ?_
          obtain ⟨o15, e15, hf⟩ := tk_bi hf
          refine tk_call0 (v := some (.int o15.1)) hs (va_runS (As := [.int x5]) (rest := [.int x4]) ⟨hx, hb, hml, hown, ht⟩ (cX5_meant_ok l hl0 G N x5 o14.2.1 o14.2.2 o15.1 o15.2.1 o15.2.2 e15) (kwX5_meant ht wmX5_188 rfl rfl ⟨Nat.le_of_ble_eq_true rfl, Nat.le_of_ble_eq_true rfl⟩) (tk_preS hE hs) rfl rfl hl.1 rfl (lv_room (Nat.le_of_ble_eq_true rfl)) dX5_correct_270 ⟨(Nat.le_of_ble_eq_true rfl), (Nat.le_of_ble_eq_true rfl)⟩) (fun H locs hs => ?_)
          refine W.eq (g2 := F0 m 273 ls [.int o15.1, .int x4]) rfl ?_
          refine lv_iadd hx hb dX5_correct_273 ?_
          refine lv_istore (lv' := [(4, .int (x4 + o15.1)), (3, .int (x3 + o14.1)), (0, .ref x0), (1, .int x1), (2, .int x2), (5, .int x5)]) hx hb dX5_correct_274 hl (by decide) rfl (fun ls hl => ?_)
          refine lv_goto (tgt := 179) hx hb dX5_correct_276 (by decide) ?_
          exact hk179 x0 x1 x2 (x3 + o14.1) (x4 + o15.1) o15.2.1 o15.2.2 _ _ _ hf hs (lv_sub hl [2, 3, 4, 1, 0] rfl)
        · rw [if_neg c8] at hf
          exact j231 (fX5_correct_193 N k179 n) ih x0 x1 x2 x3 x4 x5 o4.2.1 o4.2.2 _ _ _ hf hs (lv_sub hl [0, 1, 2, 3, 4, 5] rfl)
  have j190 : ∀ (k179 : Nat → Int32 → Int32 → Int32 → Int32 → tk_AH → Nat → Option (Int32 × tk_AH × Nat)), (∀ (x0 : Nat) (x1 : Int32) (x2 : Int32) (x3 : Int32) (x4 : Int32) (h : tk_AH) (sz : Nat) (H : Heap) (locs : List Loc) (ls : Array Slot), k179 x0 x1 x2 x3 x4 h sz = some (r9, h9, sz9) → tk_sw G s h sz H locs → lv_has ls 7 [(0, .ref x0), (1, .int x1), (2, .int x2), (3, .int x3), (4, .int x4)] → W p l e (headSpec (coX5_correct :: tk_W) ({ frames := 2, cells := 0, slots := 0, locals := 45 })).room s m args below meth c H locs 0 (0) (MQ below (tk_qc G (some (.int r9)) h9 sz9) args s 0 0 (tk_ag G)) (F0 m 179 ls [])) → ∀ (x0 : Nat) (x1 : Int32) (x2 : Int32) (x3 : Int32) (x4 : Int32) (h : tk_AH) (sz : Nat) (H : Heap) (locs : List Loc) (ls : Array Slot), fX5_correct_190 N k179 x0 x1 x2 x3 x4 h sz = some (r9, h9, sz9) → tk_sw G s h sz H locs → lv_has ls 7 [(0, .ref x0), (1, .int x1), (2, .int x2), (3, .int x3), (4, .int x4)] → W p l e (headSpec (coX5_correct :: tk_W) ({ frames := 2, cells := 0, slots := 0, locals := 45 })).room s m args below meth c H locs 0 (0) (MQ below (tk_qc G (some (.int r9)) h9 sz9) args s 0 0 (tk_ag G)) (F0 m 190 ls []) := by
    intro k179 hk179 x0 x1 x2 x3 x4 h sz H locs ls hf hs hl
    unfold fX5_correct_190 at hf
    refine lv_iconst (v := 0) hx hb dX5_correct_190 (by decide) ?_
    refine lv_istore (lv' := [(5, .int 0), (0, .ref x0), (1, .int x1), (2, .int x2), (3, .int x3), (4, .int x4)]) hx hb dX5_correct_191 hl (by decide) rfl (fun ls hl => ?_)
    exact j193 k179 hk179 N x0 x1 x2 x3 x4 0 h sz _ _ _ hf hs (lv_sub hl [1, 2, 3, 4, 5, 0] rfl)
  have j179 : ∀ (n : Nat), ∀ (x0 : Nat) (x1 : Int32) (x2 : Int32) (x3 : Int32) (x4 : Int32) (h : tk_AH) (sz : Nat) (H : Heap) (locs : List Loc) (ls : Array Slot), fX5_correct_179 N n x0 x1 x2 x3 x4 h sz = some (r9, h9, sz9) → tk_sw G s h sz H locs → lv_has ls 7 [(0, .ref x0), (1, .int x1), (2, .int x2), (3, .int x3), (4, .int x4)] → W p l e (headSpec (coX5_correct :: tk_W) ({ frames := 2, cells := 0, slots := 0, locals := 45 })).room s m args below meth c H locs 0 (0) (MQ below (tk_qc G (some (.int r9)) h9 sz9) args s 0 0 (tk_ag G)) (F0 m 179 ls []) := by
    intro n
    induction n with
    | zero =>
      intro x0 x1 x2 x3 x4 h sz H locs ls hf
      cases hf
    | succ n ih =>
      intro x0 x1 x2 x3 x4 h sz H locs ls hf hs hl
      rw [fX5_correct_179] at hf
      refine lv_iload_n hx hb dX5_correct_179 rfl (lv_at hl 3 rfl) ?_
      refine lv_iload_n hx hb dX5_correct_180 rfl (lv_at hl 1 rfl) ?_
      refine lv_icmp_lt (tgt := 190) hx hb dX5_correct_181 (by decide) (fun c16 => ?_) (fun c16 => ?_)
      · rw [if_pos c16] at hf
        exact j190 (fX5_correct_179 N n) ih x0 x1 x2 x3 x4 h sz _ _ _ hf hs (lv_sub hl [0, 1, 2, 3, 4] rfl)
      · rw [if_neg c16] at hf
        refine lv_iload hx hb dX5_correct_184 (lv_at hl 4 rfl) ?_
        refine lv_iload_n hx hb dX5_correct_186 rfl (lv_at hl 2 rfl) ?_
        refine lv_icmp_ge (tgt := 279) hx hb dX5_correct_187 (by decide) (fun c17 => ?_) (fun c17 => ?_)
        · rw [if_pos c17] at hf
          refine lv_aload_n hx hb dX5_correct_279 rfl (lv_at hl 0 rfl) ?_
          obtain ⟨v18, e18, hf⟩ := tk_bi hf
          refine tk_getR hx hb ht inX5 hown hE hs rfl 34 (by decide) (ht _ wfX5_86) e18 dX5_correct_280 ?_
          refine lv_iconst (v := 0) hx hb dX5_correct_283 (by decide) ?_
          obtain ⟨v19, e19, hf⟩ := tk_bi hf
          refine tk_iald hx hb hE hs e19 dX5_correct_284 ?_
          cases hf
          exact tk_iret hx hb hr hlocks hs dX5_correct_285
        · rw [if_neg c17] at hf
          exact j190 (fX5_correct_179 N n) ih x0 x1 x2 x3 x4 h sz _ _ _ hf hs (lv_sub hl [0, 1, 2, 3, 4] rfl)
  have j137 : ∀ (k92 : Nat → Int32 → Int32 → Int32 → Int32 → Int32 → Int32 → tk_AH → Nat → Option (Int32 × tk_AH × Nat)), (∀ (x0 : Nat) (x1 : Int32) (x2 : Int32) (x3 : Int32) (x4 : Int32) (x5 : Int32) (x6 : Int32) (h : tk_AH) (sz : Nat) (H : Heap) (locs : List Loc) (ls : Array Slot), k92 x0 x1 x2 x3 x4 x5 x6 h sz = some (r9, h9, sz9) → tk_sw G s h sz H locs → lv_has ls 7 [(0, .ref x0), (1, .int x1), (2, .int x2), (3, .int x3), (4, .int x4), (5, .int x5), (6, .int x6)] → W p l e (headSpec (coX5_correct :: tk_W) ({ frames := 2, cells := 0, slots := 0, locals := 45 })).room s m args below meth c H locs 0 (0) (MQ below (tk_qc G (some (.int r9)) h9 sz9) args s 0 0 (tk_ag G)) (F0 m 92 ls [])) → ∀ (x0 : Nat) (x1 : Int32) (x2 : Int32) (x3 : Int32) (x4 : Int32) (x5 : Int32) (x6 : Int32) (h : tk_AH) (sz : Nat) (H : Heap) (locs : List Loc) (ls : Array Slot), fX5_correct_137 N k92 x0 x1 x2 x3 x4 x5 x6 h sz = some (r9, h9, sz9) → tk_sw G s h sz H locs → lv_has ls 7 [(0, .ref x0), (1, .int x1), (2, .int x2), (3, .int x3), (4, .int x4), (5, .int x5), (6, .int x6)] → W p l e (headSpec (coX5_correct :: tk_W) ({ frames := 2, cells := 0, slots := 0, locals := 45 })).room s m args below meth c H locs 0 (0) (MQ below (tk_qc G (some (.int r9)) h9 sz9) args s 0 0 (tk_ag G)) (F0 m 137 ls []) := by
    intro k92 hk92 x0 x1 x2 x3 x4 x5 x6 h sz H locs ls hf hs hl
    unfold fX5_correct_137 at hf
    refine lv_iinc (v := x6 + 1) (lv' := [(6, .int (x6 + 1)), (0, .ref x0), (1, .int x1), (2, .int x2), (3, .int x3), (4, .int x4), (5, .int x5)]) hx hb dX5_correct_137 hl (k := 6) rfl rfl (by decide) rfl (fun ls hl => ?_)
    refine lv_goto (tgt := 92) hx hb dX5_correct_140 (by decide) ?_
    exact hk92 x0 x1 x2 x3 x4 x5 (x6 + 1) h sz _ _ _ hf hs (lv_sub hl [1, 2, 3, 4, 5, 6, 0] rfl)
  have j92 : ∀ (k64 : Nat → Int32 → Int32 → Int32 → Int32 → tk_AH → Nat → Option (Int32 × tk_AH × Nat)), (∀ (x0 : Nat) (x1 : Int32) (x2 : Int32) (x3 : Int32) (x4 : Int32) (h : tk_AH) (sz : Nat) (H : Heap) (locs : List Loc) (ls : Array Slot), k64 x0 x1 x2 x3 x4 h sz = some (r9, h9, sz9) → tk_sw G s h sz H locs → lv_has ls 7 [(0, .ref x0), (1, .int x1), (2, .int x2), (3, .int x3), (4, .int x4)] → W p l e (headSpec (coX5_correct :: tk_W) ({ frames := 2, cells := 0, slots := 0, locals := 45 })).room s m args below meth c H locs 0 (0) (MQ below (tk_qc G (some (.int r9)) h9 sz9) args s 0 0 (tk_ag G)) (F0 m 64 ls [])) → ∀ (n : Nat), ∀ (x0 : Nat) (x1 : Int32) (x2 : Int32) (x3 : Int32) (x4 : Int32) (x5 : Int32) (x6 : Int32) (h : tk_AH) (sz : Nat) (H : Heap) (locs : List Loc) (ls : Array Slot), fX5_correct_92 N k64 n x0 x1 x2 x3 x4 x5 x6 h sz = some (r9, h9, sz9) → tk_sw G s h sz H locs → lv_has ls 7 [(0, .ref x0), (1, .int x1), (2, .int x2), (3, .int x3), (4, .int x4), (5, .int x5), (6, .int x6)] → W p l e (headSpec (coX5_correct :: tk_W) ({ frames := 2, cells := 0, slots := 0, locals := 45 })).room s m args below meth c H locs 0 (0) (MQ below (tk_qc G (some (.int r9)) h9 sz9) args s 0 0 (tk_ag G)) (F0 m 92 ls []) := by
    intro k64 hk64 n
    induction n with
    | zero =>
      intro x0 x1 x2 x3 x4 x5 x6 h sz H locs ls hf
      cases hf
    | succ n ih =>
      intro x0 x1 x2 x3 x4 x5 x6 h sz H locs ls hf hs hl
      rw [fX5_correct_92] at hf
      refine lv_iload hx hb dX5_correct_92 (lv_at hl 6 rfl) ?_
      refine lv_iconst (v := 4) hx hb dX5_correct_94 (by decide) ?_
      refine lv_icmp_gt (tgt := 143) hx hb dX5_correct_95 (by decide) (fun c20 => ?_) (fun c20 => ?_)
      · rw [if_pos c20] at hf
        refine lv_aload_n hx hb dX5_correct_143 rfl (lv_at hl 0 rfl) ?_
        obtain ⟨v21, e21, hf⟩ := tk_bi hf
        refine tk_getR hx hb ht inX5 hown hE hs rfl 34 (by decide) (ht _ wfX5_86) e21 dX5_correct_144 ?_
        refine lv_bipush (v := 41) hx hb dX5_correct_147 (by decide) ?_
        refine lv_iload_n hx hb dX5_correct_149 rfl (lv_at hl 3 rfl) ?_
        refine lv_imul hx hb dX5_correct_150 ?_
        refine lv_iload hx hb dX5_correct_151 (lv_at hl 4 rfl) ?_
        refine lv_iadd hx hb dX5_correct_153 ?_
        refine lv_iload hx hb dX5_correct_154 (lv_at hl 5 rfl) ?_
        obtain ⟨h22, e22, hf⟩ := tk_bi hf
        refine tk_iast hx hb hE hs e22 dX5_correct_156 (fun H locs hs => ?_)
        refine lv_iinc (v := x4 + (-1)) (lv' := [(4, .int (x4 + (-1))), (0, .ref x0), (1, .int x1), (2, .int x2), (3, .int x3), (5, .int x5), (6, .int x6)]) hx hb dX5_correct_157 hl (k := 4) rfl rfl (by decide) rfl (fun ls hl => ?_)
        refine lv_goto (tgt := 64) hx hb dX5_correct_160 (by decide) ?_
        exact hk64 x0 x1 x2 x3 (x4 + (-1)) h22 sz _ _ _ hf hs (lv_sub hl [1, 2, 3, 4, 0] rfl)
      · rw [if_neg c20] at hf
        refine lv_aload_n hx hb dX5_correct_98 rfl (lv_at hl 0 rfl) ?_
        refine lv_iload hx hb dX5_correct_99 (lv_at hl 6 rfl) ?_
        refine lv_iload_n hx hb dX5_correct_101 rfl (lv_at hl 3 rfl) ?_
        refine lv_iload hx hb dX5_correct_102 (lv_at hl 4 rfl) ?_
        refine lv_iload_n hx hb dX5_correct_104 rfl (lv_at hl 1 rfl) ?_
        refine lv_iload_n hx hb dX5_correct_105 rfl (lv_at hl 2 rfl) ?_
        obtain ⟨_, p23, hf⟩ := tk_bi hf
        obtain ⟨o23, e23, hf⟩ := tk_bi hf
        refine tk_call0 (v := some (.int o23.1)) hs (va_runV (As := [.int x6, .int x3, .int x4, .int x1, .int x2]) (rest := []) ⟨hx, hb, hml, hown, ht⟩ (cX5_can_ok l hl0 G N x0 x6 x3 x4 x1 x2 h sz o23.1 o23.2.1 o23.2.2 e23) (kwX5_can ht wmX5_194 rfl rfl ⟨Nat.le_of_ble_eq_true rfl, Nat.le_of_ble_eq_true rfl⟩) (tk_preV hE hs (tk_ok_ok p23) rfl) rfl rfl hl.1 rfl (lv_room (Nat.le_of_ble_eq_true rfl)) dX5_correct_106 ⟨(Nat.le_of_ble_eq_true rfl), (Nat.le_of_ble_eq_true rfl)⟩) (fun H locs hs => ?_)
        refine W.eq (g2 := F0 m 109 ls [.int o23.1]) rfl ?_
        refine lv_if_eq (tgt := 137) hx hb dX5_correct_109 (by decide) (fun c25 => ?_) (fun c25 => ?_)
        · rw [if_pos c25] at hf
          exact j137 (fX5_correct_92 N k64 n) ih x0 x1 x2 x3 x4 x5 x6 o23.2.1 o23.2.2 _ _ _ hf hs (lv_sub hl [0, 1, 2, 3, 4, 5, 6] rfl)
        · rw [if_neg c25] at hf
          refine lv_aload_n hx hb dX5_correct_112 rfl (lv_at hl 0 rfl) ?_
          refine lv_iload hx hb dX5_correct_113 (lv_at hl 6 rfl) ?_
          refine lv_iload_n hx hb dX5_correct_115 rfl (lv_at hl 3 rfl) ?_
          refine lv_iload hx hb dX5_correct_116 (lv_at hl 4 rfl) ?_
          obtain ⟨_, p26, hf⟩ := tk_bi hf
          obtain ⟨o26, e26, hf⟩ := tk_bi hf
          refine tk_call0 (v := some (.int o26.1)) hs (va_runV (As := [.int x6, .int x3, .int x4]) (rest := []) ⟨hx, hb, hml, hown, ht⟩ (cX5_after_ok l hl0 G N x0 x6 x3 x4 o23.2.1 o23.2.2 o26.1 o26.2.1 o26.2.2 e26) (kwX5_after ht wmX5_198 rfl rfl ⟨Nat.le_of_ble_eq_true rfl, Nat.le_of_ble_eq_true rfl⟩) (tk_preV hE hs (tk_ok_ok p26) rfl) rfl rfl hl.1 rfl (lv_room (Nat.le_of_ble_eq_true rfl)) dX5_correct_118 ⟨(Nat.le_of_ble_eq_true rfl), (Nat.le_of_ble_eq_true rfl)⟩) (fun H locs hs => ?_)
          refine W.eq (g2 := F0 m 121 ls [.int o26.1]) rfl ?_
          refine lv_iload hx hb dX5_correct_121 (lv_at hl 5 rfl) ?_
          refine lv_icmp_ge (tgt := 137) hx hb dX5_correct_123 (by decide) (fun c28 => ?_) (fun c28 => ?_)
          · rw [if_pos c28] at hf
            exact j137 (fX5_correct_92 N k64 n) ih x0 x1 x2 x3 x4 x5 x6 o26.2.1 o26.2.2 _ _ _ hf hs (lv_sub hl [0, 1, 2, 3, 4, 5, 6] rfl)
          · rw [if_neg c28] at hf
            refine lv_aload_n hx hb dX5_correct_126 rfl (lv_at hl 0 rfl) ?_
            refine lv_iload hx hb dX5_correct_127 (lv_at hl 6 rfl) ?_
            refine lv_iload_n hx hb dX5_correct_129 rfl (lv_at hl 3 rfl) ?_
            refine lv_iload hx hb dX5_correct_130 (lv_at hl 4 rfl) ?_
            obtain ⟨_, p29, hf⟩ := tk_bi hf
            obtain ⟨o29, e29, hf⟩ := tk_bi hf
            refine tk_call0 (v := some (.int o29.1)) hs (va_runV (As := [.int x6, .int x3, .int x4]) (rest := []) ⟨hx, hb, hml, hown, ht⟩ (cX5_after_ok l hl0 G N x0 x6 x3 x4 o26.2.1 o26.2.2 o29.1 o29.2.1 o29.2.2 e29) (kwX5_after ht wmX5_198 rfl rfl ⟨Nat.le_of_ble_eq_true rfl, Nat.le_of_ble_eq_true rfl⟩) (tk_preV hE hs (tk_ok_ok p29) rfl) rfl rfl hl.1 rfl (lv_room (Nat.le_of_ble_eq_true rfl)) dX5_correct_132 ⟨(Nat.le_of_ble_eq_true rfl), (Nat.le_of_ble_eq_true rfl)⟩) (fun H locs hs => ?_)
            refine W.eq (g2 := F0 m 135 ls [.int o29.1]) rfl ?_
            refine lv_istore (lv' := [(5, .int o29.1), (0, .ref x0), (1, .int x1), (2, .int x2), (3, .int x3), (4, .int x4), (6, .int x6)]) hx hb dX5_correct_135 hl (by decide) rfl (fun ls hl => ?_)
            exact j137 (fX5_correct_92 N k64 n) ih x0 x1 x2 x3 x4 o29.1 x6 o29.2.1 o29.2.2 _ _ _ hf hs (lv_sub hl [1, 2, 3, 4, 5, 0, 6] rfl)
  have j87 : ∀ (k64 : Nat → Int32 → Int32 → Int32 → Int32 → tk_AH → Nat → Option (Int32 × tk_AH × Nat)), (∀ (x0 : Nat) (x1 : Int32) (x2 : Int32) (x3 : Int32) (x4 : Int32) (h : tk_AH) (sz : Nat) (H : Heap) (locs : List Loc) (ls : Array Slot), k64 x0 x1 x2 x3 x4 h sz = some (r9, h9, sz9) → tk_sw G s h sz H locs → lv_has ls 7 [(0, .ref x0), (1, .int x1), (2, .int x2), (3, .int x3), (4, .int x4)] → W p l e (headSpec (coX5_correct :: tk_W) ({ frames := 2, cells := 0, slots := 0, locals := 45 })).room s m args below meth c H locs 0 (0) (MQ below (tk_qc G (some (.int r9)) h9 sz9) args s 0 0 (tk_ag G)) (F0 m 64 ls [])) → ∀ (x0 : Nat) (x1 : Int32) (x2 : Int32) (x3 : Int32) (x4 : Int32) (y0 : Int32) (h : tk_AH) (sz : Nat) (H : Heap) (locs : List Loc) (ls : Array Slot), fX5_correct_87 N k64 x0 x1 x2 x3 x4 y0 h sz = some (r9, h9, sz9) → tk_sw G s h sz H locs → lv_has ls 7 [(0, .ref x0), (1, .int x1), (2, .int x2), (3, .int x3), (4, .int x4)] → W p l e (headSpec (coX5_correct :: tk_W) ({ frames := 2, cells := 0, slots := 0, locals := 45 })).room s m args below meth c H locs 0 (0) (MQ below (tk_qc G (some (.int r9)) h9 sz9) args s 0 0 (tk_ag G)) (F0 m 87 ls [.int y0]) := by
    intro k64 hk64 x0 x1 x2 x3 x4 y0 h sz H locs ls hf hs hl
    unfold fX5_correct_87 at hf
    refine lv_istore (lv' := [(5, .int y0), (0, .ref x0), (1, .int x1), (2, .int x2), (3, .int x3), (4, .int x4)]) hx hb dX5_correct_87 hl (by decide) rfl (fun ls hl => ?_)
    refine lv_iconst (v := 0) hx hb dX5_correct_89 (by decide) ?_
    refine lv_istore (lv' := [(6, .int 0), (5, .int y0), (0, .ref x0), (1, .int x1), (2, .int x2), (3, .int x3), (4, .int x4)]) hx hb dX5_correct_90 hl (by decide) rfl (fun ls hl => ?_)
    exact j92 k64 hk64 N x0 x1 x2 x3 x4 y0 0 h sz _ _ _ hf hs (lv_sub hl [2, 3, 4, 5, 6, 1, 0] rfl)
  have j84 : ∀ (k64 : Nat → Int32 → Int32 → Int32 → Int32 → tk_AH → Nat → Option (Int32 × tk_AH × Nat)), (∀ (x0 : Nat) (x1 : Int32) (x2 : Int32) (x3 : Int32) (x4 : Int32) (h : tk_AH) (sz : Nat) (H : Heap) (locs : List Loc) (ls : Array Slot), k64 x0 x1 x2 x3 x4 h sz = some (r9, h9, sz9) → tk_sw G s h sz H locs → lv_has ls 7 [(0, .ref x0), (1, .int x1), (2, .int x2), (3, .int x3), (4, .int x4)] → W p l e (headSpec (coX5_correct :: tk_W) ({ frames := 2, cells := 0, slots := 0, locals := 45 })).room s m args below meth c H locs 0 (0) (MQ below (tk_qc G (some (.int r9)) h9 sz9) args s 0 0 (tk_ag G)) (F0 m 64 ls [])) → ∀ (x0 : Nat) (x1 : Int32) (x2 : Int32) (x3 : Int32) (x4 : Int32) (h : tk_AH) (sz : Nat) (H : Heap) (locs : List Loc) (ls : Array Slot), fX5_correct_84 N k64 x0 x1 x2 x3 x4 h sz = some (r9, h9, sz9) → tk_sw G s h sz H locs → lv_has ls 7 [(0, .ref x0), (1, .int x1), (2, .int x2), (3, .int x3), (4, .int x4)] → W p l e (headSpec (coX5_correct :: tk_W) ({ frames := 2, cells := 0, slots := 0, locals := 45 })).room s m args below meth c H locs 0 (0) (MQ below (tk_qc G (some (.int r9)) h9 sz9) args s 0 0 (tk_ag G)) (F0 m 84 ls []) := by
    intro k64 hk64 x0 x1 x2 x3 x4 h sz H locs ls hf hs hl
    unfold fX5_correct_84 at hf
    refine lv_sipush (v := 1000) hx hb dX5_correct_84 (by decide) ?_
    exact j87 k64 hk64 x0 x1 x2 x3 x4 1000 h sz _ _ _ hf hs (lv_sub hl [0, 1, 2, 3, 4] rfl)
  have j64 : ∀ (k57 : Nat → Int32 → Int32 → Int32 → tk_AH → Nat → Option (Int32 × tk_AH × Nat)), (∀ (x0 : Nat) (x1 : Int32) (x2 : Int32) (x3 : Int32) (h : tk_AH) (sz : Nat) (H : Heap) (locs : List Loc) (ls : Array Slot), k57 x0 x1 x2 x3 h sz = some (r9, h9, sz9) → tk_sw G s h sz H locs → lv_has ls 7 [(0, .ref x0), (1, .int x1), (2, .int x2), (3, .int x3)] → W p l e (headSpec (coX5_correct :: tk_W) ({ frames := 2, cells := 0, slots := 0, locals := 45 })).room s m args below meth c H locs 0 (0) (MQ below (tk_qc G (some (.int r9)) h9 sz9) args s 0 0 (tk_ag G)) (F0 m 57 ls [])) → ∀ (n : Nat), ∀ (x0 : Nat) (x1 : Int32) (x2 : Int32) (x3 : Int32) (x4 : Int32) (h : tk_AH) (sz : Nat) (H : Heap) (locs : List Loc) (ls : Array Slot), fX5_correct_64 N k57 n x0 x1 x2 x3 x4 h sz = some (r9, h9, sz9) → tk_sw G s h sz H locs → lv_has ls 7 [(0, .ref x0), (1, .int x1), (2, .int x2), (3, .int x3), (4, .int x4)] → W p l e (headSpec (coX5_correct :: tk_W) ({ frames := 2, cells := 0, slots := 0, locals := 45 })).room s m args below meth c H locs 0 (0) (MQ below (tk_qc G (some (.int r9)) h9 sz9) args s 0 0 (tk_ag G)) (F0 m 64 ls []) := by
    intro k57 hk57 n
    induction n with
    | zero =>
      intro x0 x1 x2 x3 x4 h sz H locs ls hf
      cases hf
    | succ n ih =>
      intro x0 x1 x2 x3 x4 h sz H locs ls hf hs hl
      rw [fX5_correct_64] at hf
      refine lv_iload hx hb dX5_correct_64 (lv_at hl 4 rfl) ?_
      refine lv_if_lt (tgt := 163) hx hb dX5_correct_66 (by decide) (fun c31 => ?_) (fun c31 => ?_)
      · rw [if_pos c31] at hf
        refine lv_iinc (v := x3 + (-1)) (lv' := [(3, .int (x3 + (-1))), (0, .ref x0), (1, .int x1), (2, .int x2), (4, .int x4)]) hx hb dX5_correct_163 hl (k := 3) rfl rfl (by decide) rfl (fun ls hl => ?_)
        refine lv_goto (tgt := 57) hx hb dX5_correct_166 (by decide) ?_
        exact hk57 x0 x1 x2 (x3 + (-1)) h sz _ _ _ hf hs (lv_sub hl [1, 2, 3, 0] rfl)
      · rw [if_neg c31] at hf
        refine lv_iload_n hx hb dX5_correct_69 rfl (lv_at hl 3 rfl) ?_
        refine lv_iload_n hx hb dX5_correct_70 rfl (lv_at hl 1 rfl) ?_
        refine lv_icmp_ne (tgt := 84) hx hb dX5_correct_71 (by decide) (fun c32 => ?_) (fun c32 => ?_)
        · rw [if_neg c32] at hf
          exact j84 (fX5_correct_64 N k57 n) ih x0 x1 x2 x3 x4 h sz _ _ _ hf hs (lv_sub hl [0, 1, 2, 3, 4] rfl)
        · rw [if_pos c32] at hf
          refine lv_iload hx hb dX5_correct_74 (lv_at hl 4 rfl) ?_
          refine lv_iload_n hx hb dX5_correct_76 rfl (lv_at hl 2 rfl) ?_
          refine lv_icmp_ne (tgt := 84) hx hb dX5_correct_77 (by decide) (fun c33 => ?_) (fun c33 => ?_)
          · rw [if_neg c33] at hf
            exact j84 (fX5_correct_64 N k57 n) ih x0 x1 x2 x3 x4 h sz _ _ _ hf hs (lv_sub hl [0, 1, 2, 3, 4] rfl)
          · rw [if_pos c33] at hf
            refine lv_iconst (v := 0) hx hb dX5_correct_80 (by decide) ?_
            refine lv_goto (tgt := 87) hx hb dX5_correct_81 (by decide) ?_
            exact j87 (fX5_correct_64 N k57 n) ih x0 x1 x2 x3 x4 0 h sz _ _ _ hf hs (lv_sub hl [0, 1, 2, 3, 4] rfl)
  have j57 : ∀ (k179 : Nat → Int32 → Int32 → Int32 → Int32 → tk_AH → Nat → Option (Int32 × tk_AH × Nat)), (∀ (x0 : Nat) (x1 : Int32) (x2 : Int32) (x3 : Int32) (x4 : Int32) (h : tk_AH) (sz : Nat) (H : Heap) (locs : List Loc) (ls : Array Slot), k179 x0 x1 x2 x3 x4 h sz = some (r9, h9, sz9) → tk_sw G s h sz H locs → lv_has ls 7 [(0, .ref x0), (1, .int x1), (2, .int x2), (3, .int x3), (4, .int x4)] → W p l e (headSpec (coX5_correct :: tk_W) ({ frames := 2, cells := 0, slots := 0, locals := 45 })).room s m args below meth c H locs 0 (0) (MQ below (tk_qc G (some (.int r9)) h9 sz9) args s 0 0 (tk_ag G)) (F0 m 179 ls [])) → ∀ (n : Nat), ∀ (x0 : Nat) (x1 : Int32) (x2 : Int32) (x3 : Int32) (h : tk_AH) (sz : Nat) (H : Heap) (locs : List Loc) (ls : Array Slot), fX5_correct_57 N k179 n x0 x1 x2 x3 h sz = some (r9, h9, sz9) → tk_sw G s h sz H locs → lv_has ls 7 [(0, .ref x0), (1, .int x1), (2, .int x2), (3, .int x3)] → W p l e (headSpec (coX5_correct :: tk_W) ({ frames := 2, cells := 0, slots := 0, locals := 45 })).room s m args below meth c H locs 0 (0) (MQ below (tk_qc G (some (.int r9)) h9 sz9) args s 0 0 (tk_ag G)) (F0 m 57 ls []) := by
    intro k179 hk179 n
    induction n with
    | zero =>
      intro x0 x1 x2 x3 h sz H locs ls hf
      cases hf
    | succ n ih =>
      intro x0 x1 x2 x3 h sz H locs ls hf hs hl
      rw [fX5_correct_57] at hf
      refine lv_iload_n hx hb dX5_correct_57 rfl (lv_at hl 3 rfl) ?_
      refine lv_if_lt (tgt := 169) hx hb dX5_correct_58 (by decide) (fun c34 => ?_) (fun c34 => ?_)
      · rw [if_pos c34] at hf
        refine lv_aload_n hx hb dX5_correct_169 rfl (lv_at hl 0 rfl) ?_
        refine lv_iconst (v := 0) hx hb dX5_correct_170 (by decide) ?_
        obtain ⟨h35, e35, hf⟩ := tk_bi hf
        refine tk_put hx hb ht inX5 tyX5 tyX5_ok nmX5 hown hE hs rfl 24 (by decide) (ht _ wfX5_201) rfl rfl rfl e35 dX5_correct_171 (fun H locs hs => ?_)
        refine lv_iconst (v := 0) hx hb dX5_correct_174 (by decide) ?_
        refine lv_istore_n (lv' := [(3, .int 0), (0, .ref x0), (1, .int x1), (2, .int x2)]) hx hb dX5_correct_175 rfl hl (by decide) rfl (fun ls hl => ?_)
        refine lv_iconst (v := 0) hx hb dX5_correct_176 (by decide) ?_
        refine lv_istore (lv' := [(4, .int 0), (3, .int 0), (0, .ref x0), (1, .int x1), (2, .int x2)]) hx hb dX5_correct_177 hl (by decide) rfl (fun ls hl => ?_)
        exact hk179 x0 x1 x2 0 0 h35 sz _ _ _ hf hs (lv_sub hl [2, 3, 4, 1, 0] rfl)
      · rw [if_neg c34] at hf
        refine lv_iload_n hx hb dX5_correct_61 rfl (lv_at hl 2 rfl) ?_
        refine lv_istore (lv' := [(4, .int x2), (0, .ref x0), (1, .int x1), (2, .int x2), (3, .int x3)]) hx hb dX5_correct_62 hl (by decide) rfl (fun ls hl => ?_)
        exact j64 (fX5_correct_57 N k179 n) ih N x0 x1 x2 x3 x2 h sz _ _ _ hf hs (lv_sub hl [1, 2, 3, 4, 0] rfl)
  have j41 : ∀ (x0 : Nat) (x1 : Int32) (x2 : Int32) (y0 : Int32) (y1 : Nat) (h : tk_AH) (sz : Nat) (H : Heap) (locs : List Loc) (ls : Array Slot), fX5_correct_41 N x0 x1 x2 y0 y1 h sz = some (r9, h9, sz9) → tk_sw G s h sz H locs → lv_has ls 7 [(0, .ref x0), (1, .int x1), (2, .int x2)] → W p l e (headSpec (coX5_correct :: tk_W) ({ frames := 2, cells := 0, slots := 0, locals := 45 })).room s m args below meth c H locs 0 (0) (MQ below (tk_qc G (some (.int r9)) h9 sz9) args s 0 0 (tk_ag G)) (F0 m 41 ls [.int y0, .ref y1]) := by
    intro x0 x1 x2 y0 y1 h sz H locs ls hf hs hl
    unfold fX5_correct_41 at hf
    refine lv_iconst (v := 1) hx hb dX5_correct_41 (by decide) ?_
    obtain ⟨_, p36, hf⟩ := tk_bi hf
    obtain ⟨o36, e36, hf⟩ := tk_bi hf
    refine tk_call0 (v := some (.int o36.1)) hs (va_runV (As := [.int y0, .int 1]) (rest := []) ⟨hx, hb, hml, hown, ht⟩ (cX5_right_ok l hl0 G N y1 y0 1 h sz o36.1 o36.2.1 o36.2.2 e36) (kwX5_right ht wmX5_96 rfl rfl ⟨Nat.le_of_ble_eq_true rfl, Nat.le_of_ble_eq_true rfl⟩) (tk_preV hE hs (tk_ok_ok p36) rfl) rfl rfl hl.1 rfl (lv_room (Nat.le_of_ble_eq_true rfl)) dX5_correct_42 ⟨(Nat.le_of_ble_eq_true rfl), (Nat.le_of_ble_eq_true rfl)⟩) (fun H locs hs => ?_)
    refine W.eq (g2 := F0 m 45 ls [.int o36.1]) rfl ?_
    refine lv_if_ne (tgt := 50) hx hb dX5_correct_45 (by decide) (fun c38 => ?_) (fun c38 => ?_)
    · rw [if_neg c38] at hf
      refine lv_aload_n hx hb dX5_correct_50 rfl (lv_at hl 0 rfl) ?_
      refine lv_iconst (v := 0) hx hb dX5_correct_51 (by decide) ?_
      obtain ⟨h39, e39, hf⟩ := tk_bi hf
      refine tk_put hx hb ht inX5 tyX5 tyX5_ok nmX5 hown hE hs rfl 23 (by decide) (ht _ wfX5_179) rfl rfl rfl e39 dX5_correct_52 (fun H locs hs => ?_)
      refine lv_iload_n hx hb dX5_correct_55 rfl (lv_at hl 1 rfl) ?_
      refine lv_istore_n (lv' := [(3, .int x1), (0, .ref x0), (1, .int x1), (2, .int x2)]) hx hb dX5_correct_56 rfl hl (by decide) rfl (fun ls hl => ?_)
      exact j57 (fX5_correct_179 N N) (j179 N) N x0 x1 x2 x1 h39 o36.2.2 _ _ _ hf hs (lv_sub hl [1, 2, 3, 0] rfl)
    · rw [if_pos c38] at hf
      refine lv_iconst (v := 0) hx hb dX5_correct_48 (by decide) ?_
      cases hf
      exact tk_iret hx hb hr hlocks hs dX5_correct_49
  have j40 : ∀ (x0 : Nat) (x1 : Int32) (x2 : Int32) (y0 : Nat) (h : tk_AH) (sz : Nat) (H : Heap) (locs : List Loc) (ls : Array Slot), fX5_correct_40 N x0 x1 x2 y0 h sz = some (r9, h9, sz9) → tk_sw G s h sz H locs → lv_has ls 7 [(0, .ref x0), (1, .int x1), (2, .int x2)] → W p l e (headSpec (coX5_correct :: tk_W) ({ frames := 2, cells := 0, slots := 0, locals := 45 })).room s m args below meth c H locs 0 (0) (MQ below (tk_qc G (some (.int r9)) h9 sz9) args s 0 0 (tk_ag G)) (F0 m 40 ls [.ref y0]) := by
    intro x0 x1 x2 y0 h sz H locs ls hf hs hl
    unfold fX5_correct_40 at hf
    refine lv_iconst (v := 0) hx hb dX5_correct_40 (by decide) ?_
    exact j41 x0 x1 x2 0 y0 h sz _ _ _ hf hs (lv_sub hl [0, 1, 2] rfl)
  unfold fX5_correct at hf
  refine lv_aload_n hx hb dX5_correct_0 rfl (lv_at hl 0 rfl) ?_
  refine lv_iconst (v := 0) hx hb dX5_correct_1 (by decide) ?_
  obtain ⟨h40, e40, hf⟩ := tk_bi hf
  refine tk_put hx hb ht inX5 tyX5 tyX5_ok nmX5 hown hE hs rfl 0 (by decide) (ht _ wfX5_89) rfl rfl rfl e40 dX5_correct_2 (fun H locs hs => ?_)
  refine lv_aload_n hx hb dX5_correct_5 rfl (lv_at hl 0 rfl) ?_
  refine lv_iload_n hx hb dX5_correct_6 rfl (lv_at hl 1 rfl) ?_
  refine lv_if_lt (tgt := 40) hx hb dX5_correct_7 (by decide) (fun c41 => ?_) (fun c41 => ?_)
  · rw [if_pos c41] at hf
    exact j40 x0 x1 x2 x0 h40 sz _ _ _ hf hs (lv_sub hl [0, 1, 2] rfl)
  · rw [if_neg c41] at hf
    refine lv_iload_n hx hb dX5_correct_10 rfl (lv_at hl 1 rfl) ?_
    refine lv_bipush (v := 40) hx hb dX5_correct_11 (by decide) ?_
    refine lv_icmp_gt (tgt := 40) hx hb dX5_correct_13 (by decide) (fun c42 => ?_) (fun c42 => ?_)
    · rw [if_pos c42] at hf
      exact j40 x0 x1 x2 x0 h40 sz _ _ _ hf hs (lv_sub hl [0, 1, 2] rfl)
    · rw [if_neg c42] at hf
      refine lv_iload_n hx hb dX5_correct_16 rfl (lv_at hl 2 rfl) ?_
      refine lv_if_lt (tgt := 40) hx hb dX5_correct_17 (by decide) (fun c43 => ?_) (fun c43 => ?_)
      · rw [if_pos c43] at hf
        exact j40 x0 x1 x2 x0 h40 sz _ _ _ hf hs (lv_sub hl [0, 1, 2] rfl)
      · rw [if_neg c43] at hf
        refine lv_iload_n hx hb dX5_correct_20 rfl (lv_at hl 2 rfl) ?_
        refine lv_bipush (v := 40) hx hb dX5_correct_21 (by decide) ?_
        refine lv_icmp_gt (tgt := 40) hx hb dX5_correct_23 (by decide) (fun c44 => ?_) (fun c44 => ?_)
        · rw [if_pos c44] at hf
          exact j40 x0 x1 x2 x0 h40 sz _ _ _ hf hs (lv_sub hl [0, 1, 2] rfl)
        · rw [if_neg c44] at hf
          refine lv_iload_n hx hb dX5_correct_26 rfl (lv_at hl 1 rfl) ?_
          refine lv_iload_n hx hb dX5_correct_27 rfl (lv_at hl 2 rfl) ?_
          refine lv_iadd hx hb dX5_correct_28 ?_
          refine lv_aload_n hx hb dX5_correct_29 rfl (lv_at hl 0 rfl) ?_
          obtain ⟨v45, e45, hf⟩ := tk_bi hf
          refine tk_getI hx hb ht inX5 hown hE hs rfl 23 (by decide) (ht _ wfX5_179) e45 dX5_correct_30 ?_
          refine lv_icmp_gt (tgt := 40) hx hb dX5_correct_33 (by decide) (fun c46 => ?_) (fun c46 => ?_)
          · rw [if_pos c46] at hf
            exact j40 x0 x1 x2 x0 h40 sz _ _ _ hf hs (lv_sub hl [0, 1, 2] rfl)
          · rw [if_neg c46] at hf
            refine lv_iconst (v := 1) hx hb dX5_correct_36 (by decide) ?_
            refine lv_goto (tgt := 41) hx hb dX5_correct_37 (by decide) ?_
            exact j41 x0 x1 x2 1 x0 h40 sz _ _ _ hf hs (lv_sub hl [0, 1, 2] rfl)
def fX5_mark_51 (N : Nat) (y0 : Int32) (h : tk_AH) (sz : Nat) : Option (Int32 × tk_AH × Nat) :=
  some (y0, h, sz)
def fX5_mark_24 (N : Nat) (x0 : Nat) (x1 : Int32) (y0 : Int32) (y1 : Nat) (h : tk_AH) (sz : Nat) : Option (Int32 × tk_AH × Nat) :=
  (tk_ok h 5 y1).bind fun _ =>
  (fX5_right N y1 y0 1 h sz).bind fun o1 =>
  if o1.1 = 0 then (
  some (0, o1.2.1, o1.2.2)) else (
  if x1 = (-1) then (
  (tk_gI o1.2.1 5 24 x0).bind fun v7 =>
  fX5_mark_51 N v7 o1.2.1 o1.2.2) else (
  (tk_gR o1.2.1 5 25 x0).bind fun v5 =>
  (tk_aI o1.2.1 0 v5 x1).bind fun v6 =>
  fX5_mark_51 N v6 o1.2.1 o1.2.2))
def fX5_mark_23 (N : Nat) (x0 : Nat) (x1 : Int32) (y0 : Nat) (h : tk_AH) (sz : Nat) : Option (Int32 × tk_AH × Nat) :=
  fX5_mark_24 N x0 x1 0 y0 h sz
def fX5_mark (N : Nat) (x0 : Nat) (x1 : Int32) (h : tk_AH) (sz : Nat) : Option (Int32 × tk_AH × Nat) :=
  (tk_pF h 5 0 x0 (.int 0)).bind fun h8 =>
  if x1 < (-1) then (
  fX5_mark_23 N x0 x1 x0 h8 sz) else (
  (tk_gI h8 5 24 x0).bind fun v10 =>
  if v10 ≤ x1 then (
  fX5_mark_23 N x0 x1 x0 h8 sz) else (
  fX5_mark_24 N x0 x1 1 x0 h8 sz))
set_option maxHeartbeats 8000000 in
set_option maxRecDepth 100000 in
theorem cX5_mark_ok (l : Launch) (hl0 : l.stackTraces = false) (G : tk_AG) (N : Nat) (x0 : Nat) (x1 : Int32) (h : tk_AH) (sz : Nat) (r9 : Int32) (h9 : tk_AH) (sz9 : Nat) (hf : fX5_mark N x0 x1 h sz = some (r9, h9, sz9)) : Met l yX5_mark (coX5_mark :: tk_W) ({ frames := 1, cells := 0, slots := 0, locals := 22 }) (tk_pc G [.ref x0, .int x1] h sz) (tk_qc G (some (.int r9)) h9 sz9) 0 0 (tk_ag G) := by
  refine Met.ofW (cc := cX5_mark) (maxL := 2) (ret := (some .int)) (by decide) rfl ?_
  intro p e s m args below meth c s₁ B hml hv
  obtain ⟨hav, hE, hrp, hsz, hgs⟩ := hv
  have hx := B.exec
  have hb := B.bytes
  have hr := B.returns
  have hts := atoms_spec (ws := coX5_mark :: tk_W) B.pre
  have ht : ∀ w ∈ tk_W, w.before args s = true := fun w h => hts w (List.mem_cons_of_mem _ h)
  have hown : s.vm.findClass RX5 = some m.cls := findClass_of_methodNamed B.named
  have hlocks := B.notSynchronized
  have hs : tk_sw G s h sz s.heap [] := ⟨hrp, hsz, by rw [hsz]; exact hgs, va_S.rf⟩
  have hl := lv_entry ([.ref x0, .int x1]) (n := 2) (Nat.le_of_ble_eq_true rfl)
  have hent : entryFrame m args 2 = F0 m 0 (lg_sl ([.ref x0, .int x1]) ++ List.replicate (2 - (lg_sl ([.ref x0, .int x1])).length) Slot.unset).toArray [] := by rw [hav, lg_entry_eq]
  rw [hent]
  clear hent
  generalize (lg_sl ([.ref x0, .int x1]) ++ List.replicate (2 - (lg_sl ([.ref x0, .int x1])).length) Slot.unset).toArray = ls at hl ⊢
  have hl : lv_has ls 2 [(0, .ref x0), (1, .int x1)] := hl
  have j51 : ∀ (y0 : Int32) (h : tk_AH) (sz : Nat) (H : Heap) (locs : List Loc) (ls : Array Slot), fX5_mark_51 N y0 h sz = some (r9, h9, sz9) → tk_sw G s h sz H locs → lv_has ls 2 [] → W p l e (headSpec (coX5_mark :: tk_W) ({ frames := 1, cells := 0, slots := 0, locals := 22 })).room s m args below meth c H locs 0 (0) (MQ below (tk_qc G (some (.int r9)) h9 sz9) args s 0 0 (tk_ag G)) (F0 m 51 ls [.int y0]) := by
    intro y0 h sz H locs ls hf hs hl
    unfold fX5_mark_51 at hf
    cases hf
    exact tk_iret hx hb hr hlocks hs dX5_mark_51
  have j24 : ∀ (x0 : Nat) (x1 : Int32) (y0 : Int32) (y1 : Nat) (h : tk_AH) (sz : Nat) (H : Heap) (locs : List Loc) (ls : Array Slot), fX5_mark_24 N x0 x1 y0 y1 h sz = some (r9, h9, sz9) → tk_sw G s h sz H locs → lv_has ls 2 [(0, .ref x0), (1, .int x1)] → W p l e (headSpec (coX5_mark :: tk_W) ({ frames := 1, cells := 0, slots := 0, locals := 22 })).room s m args below meth c H locs 0 (0) (MQ below (tk_qc G (some (.int r9)) h9 sz9) args s 0 0 (tk_ag G)) (F0 m 24 ls [.int y0, .ref y1]) := by
    intro x0 x1 y0 y1 h sz H locs ls hf hs hl
    unfold fX5_mark_24 at hf
    refine lv_iconst (v := 1) hx hb dX5_mark_24 (by decide) ?_
    obtain ⟨_, p1, hf⟩ := tk_bi hf
    obtain ⟨o1, e1, hf⟩ := tk_bi hf
    refine tk_call0 (v := some (.int o1.1)) hs (va_runV (As := [.int y0, .int 1]) (rest := []) ⟨hx, hb, hml, hown, ht⟩ (cX5_right_ok l hl0 G N y1 y0 1 h sz o1.1 o1.2.1 o1.2.2 e1) (kwX5_right ht wmX5_96 rfl rfl ⟨Nat.le_of_ble_eq_true rfl, Nat.le_of_ble_eq_true rfl⟩) (tk_preV hE hs (tk_ok_ok p1) rfl) rfl rfl hl.1 rfl (lv_room (Nat.le_of_ble_eq_true rfl)) dX5_mark_25 ⟨(Nat.le_of_ble_eq_true rfl), (Nat.le_of_ble_eq_true rfl)⟩) (fun H locs hs => ?_)
    refine W.eq (g2 := F0 m 28 ls [.int o1.1]) rfl ?_
    refine lv_if_ne (tgt := 33) hx hb dX5_mark_28 (by decide) (fun c3 => ?_) (fun c3 => ?_)
    · rw [if_neg c3] at hf
      refine lv_iload_n hx hb dX5_mark_33 rfl (lv_at hl 1 rfl) ?_
      refine lv_iconst (v := (-1)) hx hb dX5_mark_34 (by decide) ?_
      refine lv_icmp_ne (tgt := 45) hx hb dX5_mark_35 (by decide) (fun c4 => ?_) (fun c4 => ?_)
      · rw [if_neg c4] at hf
        refine lv_aload_n hx hb dX5_mark_45 rfl (lv_at hl 0 rfl) ?_
        obtain ⟨v5, e5, hf⟩ := tk_bi hf
        refine tk_getR hx hb ht inX5 hown hE hs rfl 25 (by decide) (ht _ wfX5_62) e5 dX5_mark_46 ?_
        refine lv_iload_n hx hb dX5_mark_49 rfl (lv_at hl 1 rfl) ?_
        obtain ⟨v6, e6, hf⟩ := tk_bi hf
        refine tk_iald hx hb hE hs e6 dX5_mark_50 ?_
        exact j51 v6 o1.2.1 o1.2.2 _ _ _ hf hs (lv_sub hl [] rfl)
      · rw [if_pos c4] at hf
        refine lv_aload_n hx hb dX5_mark_38 rfl (lv_at hl 0 rfl) ?_
        obtain ⟨v7, e7, hf⟩ := tk_bi hf
        refine tk_getI hx hb ht inX5 hown hE hs rfl 24 (by decide) (ht _ wfX5_201) e7 dX5_mark_39 ?_
        refine lv_goto (tgt := 51) hx hb dX5_mark_42 (by decide) ?_
        exact j51 v7 o1.2.1 o1.2.2 _ _ _ hf hs (lv_sub hl [] rfl)
    · rw [if_pos c3] at hf
      refine lv_iconst (v := 0) hx hb dX5_mark_31 (by decide) ?_
      cases hf
      exact tk_iret hx hb hr hlocks hs dX5_mark_32
  have j23 : ∀ (x0 : Nat) (x1 : Int32) (y0 : Nat) (h : tk_AH) (sz : Nat) (H : Heap) (locs : List Loc) (ls : Array Slot), fX5_mark_23 N x0 x1 y0 h sz = some (r9, h9, sz9) → tk_sw G s h sz H locs → lv_has ls 2 [(0, .ref x0), (1, .int x1)] → W p l e (headSpec (coX5_mark :: tk_W) ({ frames := 1, cells := 0, slots := 0, locals := 22 })).room s m args below meth c H locs 0 (0) (MQ below (tk_qc G (some (.int r9)) h9 sz9) args s 0 0 (tk_ag G)) (F0 m 23 ls [.ref y0]) := by
    intro x0 x1 y0 h sz H locs ls hf hs hl
    unfold fX5_mark_23 at hf
    refine lv_iconst (v := 0) hx hb dX5_mark_23 (by decide) ?_
    exact j24 x0 x1 0 y0 h sz _ _ _ hf hs (lv_sub hl [0, 1] rfl)
  unfold fX5_mark at hf
  refine lv_aload_n hx hb dX5_mark_0 rfl (lv_at hl 0 rfl) ?_
  refine lv_iconst (v := 0) hx hb dX5_mark_1 (by decide) ?_
  obtain ⟨h8, e8, hf⟩ := tk_bi hf
  refine tk_put hx hb ht inX5 tyX5 tyX5_ok nmX5 hown hE hs rfl 0 (by decide) (ht _ wfX5_89) rfl rfl rfl e8 dX5_mark_2 (fun H locs hs => ?_)
  refine lv_aload_n hx hb dX5_mark_5 rfl (lv_at hl 0 rfl) ?_
  refine lv_iload_n hx hb dX5_mark_6 rfl (lv_at hl 1 rfl) ?_
  refine lv_iconst (v := (-1)) hx hb dX5_mark_7 (by decide) ?_
  refine lv_icmp_lt (tgt := 23) hx hb dX5_mark_8 (by decide) (fun c9 => ?_) (fun c9 => ?_)
  · rw [if_pos c9] at hf
    exact j23 x0 x1 x0 h8 sz _ _ _ hf hs (lv_sub hl [0, 1] rfl)
  · rw [if_neg c9] at hf
    refine lv_iload_n hx hb dX5_mark_11 rfl (lv_at hl 1 rfl) ?_
    refine lv_aload_n hx hb dX5_mark_12 rfl (lv_at hl 0 rfl) ?_
    obtain ⟨v10, e10, hf⟩ := tk_bi hf
    refine tk_getI hx hb ht inX5 hown hE hs rfl 24 (by decide) (ht _ wfX5_201) e10 dX5_mark_13 ?_
    refine lv_icmp_ge (tgt := 23) hx hb dX5_mark_16 (by decide) (fun c11 => ?_) (fun c11 => ?_)
    · rw [if_pos c11] at hf
      exact j23 x0 x1 x0 h8 sz _ _ _ hf hs (lv_sub hl [0, 1] rfl)
    · rw [if_neg c11] at hf
      refine lv_iconst (v := 1) hx hb dX5_mark_19 (by decide) ?_
      refine lv_goto (tgt := 24) hx hb dX5_mark_20 (by decide) ?_
      exact j24 x0 x1 1 x0 h8 sz _ _ _ hf hs (lv_sub hl [0, 1] rfl)
def fX5_marks_54 (N : Nat) (k33 : Nat → Int32 → Int32 → Int32 → tk_AH → Nat → Option (Int32 × tk_AH × Nat)) (x0 : Nat) (x1 : Int32) (x2 : Int32) (x3 : Int32) (h : tk_AH) (sz : Nat) : Option (Int32 × tk_AH × Nat) :=
  k33 x0 x1 x2 (x3 + 1) h sz
def fX5_marks_33 (N : Nat) : Nat → Nat → Int32 → Int32 → Int32 → tk_AH → Nat → Option (Int32 × tk_AH × Nat)
  | 0, _, _, _, _, _, _ => none
  | n + 1, x0, x1, x2, x3, h, sz =>
  (tk_gI h 5 24 x0).bind fun v1 =>
  if v1 ≤ x3 then (
  some (x2, h, sz)) else (
  (tk_gR h 5 25 x0).bind fun v3 =>
  (tk_aI h 0 v3 x3).bind fun v4 =>
  if v4 = x1 then (
  fX5_marks_54 N (fX5_marks_33 N n) x0 x1 (x2 + 1) x3 h sz) else (
  fX5_marks_54 N (fX5_marks_33 N n) x0 x1 x2 x3 h sz))
def fX5_marks_20 (N : Nat) (x0 : Nat) (x1 : Int32) (y0 : Int32) (y1 : Nat) (h : tk_AH) (sz : Nat) : Option (Int32 × tk_AH × Nat) :=
  (tk_ok h 5 y1).bind fun _ =>
  (fX5_right N y1 y0 1 h sz).bind fun o6 =>
  if o6.1 = 0 then (
  some (0, o6.2.1, o6.2.2)) else (
  fX5_marks_33 N N x0 x1 0 0 o6.2.1 o6.2.2)
def fX5_marks_19 (N : Nat) (x0 : Nat) (x1 : Int32) (y0 : Nat) (h : tk_AH) (sz : Nat) : Option (Int32 × tk_AH × Nat) :=
  fX5_marks_20 N x0 x1 0 y0 h sz
def fX5_marks (N : Nat) (x0 : Nat) (x1 : Int32) (h : tk_AH) (sz : Nat) : Option (Int32 × tk_AH × Nat) :=
  (tk_pF h 5 0 x0 (.int 0)).bind fun h9 =>
  if x1 < 0 then (
  fX5_marks_19 N x0 x1 x0 h9 sz) else (
  if 4 < x1 then (
  fX5_marks_19 N x0 x1 x0 h9 sz) else (
  fX5_marks_20 N x0 x1 1 x0 h9 sz))
set_option maxHeartbeats 8000000 in
set_option maxRecDepth 100000 in
theorem cX5_marks_ok (l : Launch) (hl0 : l.stackTraces = false) (G : tk_AG) (N : Nat) (x0 : Nat) (x1 : Int32) (h : tk_AH) (sz : Nat) (r9 : Int32) (h9 : tk_AH) (sz9 : Nat) (hf : fX5_marks N x0 x1 h sz = some (r9, h9, sz9)) : Met l yX5_marks (coX5_marks :: tk_W) ({ frames := 1, cells := 0, slots := 0, locals := 22 }) (tk_pc G [.ref x0, .int x1] h sz) (tk_qc G (some (.int r9)) h9 sz9) 0 0 (tk_ag G) := by
  refine Met.ofW (cc := cX5_marks) (maxL := 4) (ret := (some .int)) (by decide) rfl ?_
  intro p e s m args below meth c s₁ B hml hv
  obtain ⟨hav, hE, hrp, hsz, hgs⟩ := hv
  have hx := B.exec
  have hb := B.bytes
  have hr := B.returns
  have hts := atoms_spec (ws := coX5_marks :: tk_W) B.pre
  have ht : ∀ w ∈ tk_W, w.before args s = true := fun w h => hts w (List.mem_cons_of_mem _ h)
  have hown : s.vm.findClass RX5 = some m.cls := findClass_of_methodNamed B.named
  have hlocks := B.notSynchronized
  have hs : tk_sw G s h sz s.heap [] := ⟨hrp, hsz, by rw [hsz]; exact hgs, va_S.rf⟩
  have hl := lv_entry ([.ref x0, .int x1]) (n := 4) (Nat.le_of_ble_eq_true rfl)
  have hent : entryFrame m args 4 = F0 m 0 (lg_sl ([.ref x0, .int x1]) ++ List.replicate (4 - (lg_sl ([.ref x0, .int x1])).length) Slot.unset).toArray [] := by rw [hav, lg_entry_eq]
  rw [hent]
  clear hent
  generalize (lg_sl ([.ref x0, .int x1]) ++ List.replicate (4 - (lg_sl ([.ref x0, .int x1])).length) Slot.unset).toArray = ls at hl ⊢
  have hl : lv_has ls 4 [(0, .ref x0), (1, .int x1)] := hl
  have j54 : ∀ (k33 : Nat → Int32 → Int32 → Int32 → tk_AH → Nat → Option (Int32 × tk_AH × Nat)), (∀ (x0 : Nat) (x1 : Int32) (x2 : Int32) (x3 : Int32) (h : tk_AH) (sz : Nat) (H : Heap) (locs : List Loc) (ls : Array Slot), k33 x0 x1 x2 x3 h sz = some (r9, h9, sz9) → tk_sw G s h sz H locs → lv_has ls 4 [(0, .ref x0), (1, .int x1), (2, .int x2), (3, .int x3)] → W p l e (headSpec (coX5_marks :: tk_W) ({ frames := 1, cells := 0, slots := 0, locals := 22 })).room s m args below meth c H locs 0 (0) (MQ below (tk_qc G (some (.int r9)) h9 sz9) args s 0 0 (tk_ag G)) (F0 m 33 ls [])) → ∀ (x0 : Nat) (x1 : Int32) (x2 : Int32) (x3 : Int32) (h : tk_AH) (sz : Nat) (H : Heap) (locs : List Loc) (ls : Array Slot), fX5_marks_54 N k33 x0 x1 x2 x3 h sz = some (r9, h9, sz9) → tk_sw G s h sz H locs → lv_has ls 4 [(0, .ref x0), (1, .int x1), (2, .int x2), (3, .int x3)] → W p l e (headSpec (coX5_marks :: tk_W) ({ frames := 1, cells := 0, slots := 0, locals := 22 })).room s m args below meth c H locs 0 (0) (MQ below (tk_qc G (some (.int r9)) h9 sz9) args s 0 0 (tk_ag G)) (F0 m 54 ls []) := by
    intro k33 hk33 x0 x1 x2 x3 h sz H locs ls hf hs hl
    unfold fX5_marks_54 at hf
    refine lv_iinc (v := x3 + 1) (lv' := [(3, .int (x3 + 1)), (0, .ref x0), (1, .int x1), (2, .int x2)]) hx hb dX5_marks_54 hl (k := 3) rfl rfl (by decide) rfl (fun ls hl => ?_)
    refine lv_goto (tgt := 33) hx hb dX5_marks_57 (by decide) ?_
    exact hk33 x0 x1 x2 (x3 + 1) h sz _ _ _ hf hs (lv_sub hl [1, 2, 3, 0] rfl)
  have j33 : ∀ (n : Nat), ∀ (x0 : Nat) (x1 : Int32) (x2 : Int32) (x3 : Int32) (h : tk_AH) (sz : Nat) (H : Heap) (locs : List Loc) (ls : Array Slot), fX5_marks_33 N n x0 x1 x2 x3 h sz = some (r9, h9, sz9) → tk_sw G s h sz H locs → lv_has ls 4 [(0, .ref x0), (1, .int x1), (2, .int x2), (3, .int x3)] → W p l e (headSpec (coX5_marks :: tk_W) ({ frames := 1, cells := 0, slots := 0, locals := 22 })).room s m args below meth c H locs 0 (0) (MQ below (tk_qc G (some (.int r9)) h9 sz9) args s 0 0 (tk_ag G)) (F0 m 33 ls []) := by
    intro n
    induction n with
    | zero =>
      intro x0 x1 x2 x3 h sz H locs ls hf
      cases hf
    | succ n ih =>
      intro x0 x1 x2 x3 h sz H locs ls hf hs hl
      rw [fX5_marks_33] at hf
      refine lv_iload_n hx hb dX5_marks_33 rfl (lv_at hl 3 rfl) ?_
      refine lv_aload_n hx hb dX5_marks_34 rfl (lv_at hl 0 rfl) ?_
      obtain ⟨v1, e1, hf⟩ := tk_bi hf
      refine tk_getI hx hb ht inX5 hown hE hs rfl 24 (by decide) (ht _ wfX5_201) e1 dX5_marks_35 ?_
      refine lv_icmp_ge (tgt := 60) hx hb dX5_marks_38 (by decide) (fun c2 => ?_) (fun c2 => ?_)
      · rw [if_pos c2] at hf
        refine lv_iload_n hx hb dX5_marks_60 rfl (lv_at hl 2 rfl) ?_
        cases hf
        exact tk_iret hx hb hr hlocks hs dX5_marks_61
      · rw [if_neg c2] at hf
        refine lv_aload_n hx hb dX5_marks_41 rfl (lv_at hl 0 rfl) ?_
        obtain ⟨v3, e3, hf⟩ := tk_bi hf
        refine tk_getR hx hb ht inX5 hown hE hs rfl 25 (by decide) (ht _ wfX5_62) e3 dX5_marks_42 ?_
        refine lv_iload_n hx hb dX5_marks_45 rfl (lv_at hl 3 rfl) ?_
        obtain ⟨v4, e4, hf⟩ := tk_bi hf
        refine tk_iald hx hb hE hs e4 dX5_marks_46 ?_
        refine lv_iload_n hx hb dX5_marks_47 rfl (lv_at hl 1 rfl) ?_
        refine lv_icmp_ne (tgt := 54) hx hb dX5_marks_48 (by decide) (fun c5 => ?_) (fun c5 => ?_)
        · rw [if_neg c5] at hf
          exact j54 (fX5_marks_33 N n) ih x0 x1 x2 x3 h sz _ _ _ hf hs (lv_sub hl [0, 1, 2, 3] rfl)
        · rw [if_pos c5] at hf
          refine lv_iinc (v := x2 + 1) (lv' := [(2, .int (x2 + 1)), (0, .ref x0), (1, .int x1), (3, .int x3)]) hx hb dX5_marks_51 hl (k := 2) rfl rfl (by decide) rfl (fun ls hl => ?_)
          exact j54 (fX5_marks_33 N n) ih x0 x1 (x2 + 1) x3 h sz _ _ _ hf hs (lv_sub hl [1, 2, 0, 3] rfl)
  have j20 : ∀ (x0 : Nat) (x1 : Int32) (y0 : Int32) (y1 : Nat) (h : tk_AH) (sz : Nat) (H : Heap) (locs : List Loc) (ls : Array Slot), fX5_marks_20 N x0 x1 y0 y1 h sz = some (r9, h9, sz9) → tk_sw G s h sz H locs → lv_has ls 4 [(0, .ref x0), (1, .int x1)] → W p l e (headSpec (coX5_marks :: tk_W) ({ frames := 1, cells := 0, slots := 0, locals := 22 })).room s m args below meth c H locs 0 (0) (MQ below (tk_qc G (some (.int r9)) h9 sz9) args s 0 0 (tk_ag G)) (F0 m 20 ls [.int y0, .ref y1]) := by
    intro x0 x1 y0 y1 h sz H locs ls hf hs hl
    unfold fX5_marks_20 at hf
    refine lv_iconst (v := 1) hx hb dX5_marks_20 (by decide) ?_
    obtain ⟨_, p6, hf⟩ := tk_bi hf
    obtain ⟨o6, e6, hf⟩ := tk_bi hf
    refine tk_call0 (v := some (.int o6.1)) hs (va_runV (As := [.int y0, .int 1]) (rest := []) ⟨hx, hb, hml, hown, ht⟩ (cX5_right_ok l hl0 G N y1 y0 1 h sz o6.1 o6.2.1 o6.2.2 e6) (kwX5_right ht wmX5_96 rfl rfl ⟨Nat.le_of_ble_eq_true rfl, Nat.le_of_ble_eq_true rfl⟩) (tk_preV hE hs (tk_ok_ok p6) rfl) rfl rfl hl.1 rfl (lv_room (Nat.le_of_ble_eq_true rfl)) dX5_marks_21 ⟨(Nat.le_of_ble_eq_true rfl), (Nat.le_of_ble_eq_true rfl)⟩) (fun H locs hs => ?_)
    refine W.eq (g2 := F0 m 24 ls [.int o6.1]) rfl ?_
    refine lv_if_ne (tgt := 29) hx hb dX5_marks_24 (by decide) (fun c8 => ?_) (fun c8 => ?_)
    · rw [if_neg c8] at hf
      refine lv_iconst (v := 0) hx hb dX5_marks_29 (by decide) ?_
      refine lv_istore_n (lv' := [(2, .int 0), (0, .ref x0), (1, .int x1)]) hx hb dX5_marks_30 rfl hl (by decide) rfl (fun ls hl => ?_)
      refine lv_iconst (v := 0) hx hb dX5_marks_31 (by decide) ?_
      refine lv_istore_n (lv' := [(3, .int 0), (2, .int 0), (0, .ref x0), (1, .int x1)]) hx hb dX5_marks_32 rfl hl (by decide) rfl (fun ls hl => ?_)
      exact j33 N x0 x1 0 0 o6.2.1 o6.2.2 _ _ _ hf hs (lv_sub hl [2, 3, 1, 0] rfl)
    · rw [if_pos c8] at hf
      refine lv_iconst (v := 0) hx hb dX5_marks_27 (by decide) ?_
      cases hf
      exact tk_iret hx hb hr hlocks hs dX5_marks_28
  have j19 : ∀ (x0 : Nat) (x1 : Int32) (y0 : Nat) (h : tk_AH) (sz : Nat) (H : Heap) (locs : List Loc) (ls : Array Slot), fX5_marks_19 N x0 x1 y0 h sz = some (r9, h9, sz9) → tk_sw G s h sz H locs → lv_has ls 4 [(0, .ref x0), (1, .int x1)] → W p l e (headSpec (coX5_marks :: tk_W) ({ frames := 1, cells := 0, slots := 0, locals := 22 })).room s m args below meth c H locs 0 (0) (MQ below (tk_qc G (some (.int r9)) h9 sz9) args s 0 0 (tk_ag G)) (F0 m 19 ls [.ref y0]) := by
    intro x0 x1 y0 h sz H locs ls hf hs hl
    unfold fX5_marks_19 at hf
    refine lv_iconst (v := 0) hx hb dX5_marks_19 (by decide) ?_
    exact j20 x0 x1 0 y0 h sz _ _ _ hf hs (lv_sub hl [0, 1] rfl)
  unfold fX5_marks at hf
  refine lv_aload_n hx hb dX5_marks_0 rfl (lv_at hl 0 rfl) ?_
  refine lv_iconst (v := 0) hx hb dX5_marks_1 (by decide) ?_
  obtain ⟨h9, e9, hf⟩ := tk_bi hf
  refine tk_put hx hb ht inX5 tyX5 tyX5_ok nmX5 hown hE hs rfl 0 (by decide) (ht _ wfX5_89) rfl rfl rfl e9 dX5_marks_2 (fun H locs hs => ?_)
  refine lv_aload_n hx hb dX5_marks_5 rfl (lv_at hl 0 rfl) ?_
  refine lv_iload_n hx hb dX5_marks_6 rfl (lv_at hl 1 rfl) ?_
  refine lv_if_lt (tgt := 19) hx hb dX5_marks_7 (by decide) (fun c10 => ?_) (fun c10 => ?_)
  · rw [if_pos c10] at hf
    exact j19 x0 x1 x0 h9 sz _ _ _ hf hs (lv_sub hl [0, 1] rfl)
  · rw [if_neg c10] at hf
    refine lv_iload_n hx hb dX5_marks_10 rfl (lv_at hl 1 rfl) ?_
    refine lv_iconst (v := 4) hx hb dX5_marks_11 (by decide) ?_
    refine lv_icmp_gt (tgt := 19) hx hb dX5_marks_12 (by decide) (fun c11 => ?_) (fun c11 => ?_)
    · rw [if_pos c11] at hf
      exact j19 x0 x1 x0 h9 sz _ _ _ hf hs (lv_sub hl [0, 1] rfl)
    · rw [if_neg c11] at hf
      refine lv_iconst (v := 1) hx hb dX5_marks_15 (by decide) ?_
      refine lv_goto (tgt := 20) hx hb dX5_marks_16 (by decide) ?_
      exact j20 x0 x1 1 x0 h9 sz _ _ _ hf hs (lv_sub hl [0, 1] rfl)
def fX5_count_80 (N : Nat) (y0 : Int32) (h : tk_AH) (sz : Nat) : Option (Int32 × tk_AH × Nat) :=
  some (y0, h, sz)
def fX5_count_20 (N : Nat) (x0 : Nat) (x1 : Int32) (y0 : Int32) (y1 : Nat) (h : tk_AH) (sz : Nat) : Option (Int32 × tk_AH × Nat) :=
  (tk_ok h 5 y1).bind fun _ =>
  (fX5_right N y1 y0 1 h sz).bind fun o1 =>
  if o1.1 = 0 then (
  some (0, o1.2.1, o1.2.2)) else (
  if x1 = 0 then (
  (tk_gI o1.2.1 5 1 x0).bind fun v12 =>
  fX5_count_80 N v12 o1.2.1 o1.2.2) else (
  if x1 = 1 then (
  (tk_gI o1.2.1 5 2 x0).bind fun v11 =>
  fX5_count_80 N v11 o1.2.1 o1.2.2) else (
  if x1 = 2 then (
  (tk_gI o1.2.1 5 3 x0).bind fun v10 =>
  fX5_count_80 N v10 o1.2.1 o1.2.2) else (
  if x1 = 3 then (
  (tk_gI o1.2.1 5 4 x0).bind fun v9 =>
  fX5_count_80 N v9 o1.2.1 o1.2.2) else (
  (tk_gI o1.2.1 5 23 x0).bind fun v8 =>
  fX5_count_80 N v8 o1.2.1 o1.2.2)))))
def fX5_count_19 (N : Nat) (x0 : Nat) (x1 : Int32) (y0 : Nat) (h : tk_AH) (sz : Nat) : Option (Int32 × tk_AH × Nat) :=
  fX5_count_20 N x0 x1 0 y0 h sz
def fX5_count (N : Nat) (x0 : Nat) (x1 : Int32) (h : tk_AH) (sz : Nat) : Option (Int32 × tk_AH × Nat) :=
  (tk_pF h 5 0 x0 (.int 0)).bind fun h13 =>
  if x1 < 0 then (
  fX5_count_19 N x0 x1 x0 h13 sz) else (
  if 4 < x1 then (
  fX5_count_19 N x0 x1 x0 h13 sz) else (
  fX5_count_20 N x0 x1 1 x0 h13 sz))
set_option maxHeartbeats 8000000 in
set_option maxRecDepth 100000 in
theorem cX5_count_ok (l : Launch) (hl0 : l.stackTraces = false) (G : tk_AG) (N : Nat) (x0 : Nat) (x1 : Int32) (h : tk_AH) (sz : Nat) (r9 : Int32) (h9 : tk_AH) (sz9 : Nat) (hf : fX5_count N x0 x1 h sz = some (r9, h9, sz9)) : Met l yX5_count (coX5_count :: tk_W) ({ frames := 1, cells := 0, slots := 0, locals := 22 }) (tk_pc G [.ref x0, .int x1] h sz) (tk_qc G (some (.int r9)) h9 sz9) 0 0 (tk_ag G) := by
  refine Met.ofW (cc := cX5_count) (maxL := 2) (ret := (some .int)) (by decide) rfl ?_
  intro p e s m args below meth c s₁ B hml hv
  obtain ⟨hav, hE, hrp, hsz, hgs⟩ := hv
  have hx := B.exec
  have hb := B.bytes
  have hr := B.returns
  have hts := atoms_spec (ws := coX5_count :: tk_W) B.pre
  have ht : ∀ w ∈ tk_W, w.before args s = true := fun w h => hts w (List.mem_cons_of_mem _ h)
  have hown : s.vm.findClass RX5 = some m.cls := findClass_of_methodNamed B.named
  have hlocks := B.notSynchronized
  have hs : tk_sw G s h sz s.heap [] := ⟨hrp, hsz, by rw [hsz]; exact hgs, va_S.rf⟩
  have hl := lv_entry ([.ref x0, .int x1]) (n := 2) (Nat.le_of_ble_eq_true rfl)
  have hent : entryFrame m args 2 = F0 m 0 (lg_sl ([.ref x0, .int x1]) ++ List.replicate (2 - (lg_sl ([.ref x0, .int x1])).length) Slot.unset).toArray [] := by rw [hav, lg_entry_eq]
  rw [hent]
  clear hent
  generalize (lg_sl ([.ref x0, .int x1]) ++ List.replicate (2 - (lg_sl ([.ref x0, .int x1])).length) Slot.unset).toArray = ls at hl ⊢
  have hl : lv_has ls 2 [(0, .ref x0), (1, .int x1)] := hl
  have j80 : ∀ (y0 : Int32) (h : tk_AH) (sz : Nat) (H : Heap) (locs : List Loc) (ls : Array Slot), fX5_count_80 N y0 h sz = some (r9, h9, sz9) → tk_sw G s h sz H locs → lv_has ls 2 [] → W p l e (headSpec (coX5_count :: tk_W) ({ frames := 1, cells := 0, slots := 0, locals := 22 })).room s m args below meth c H locs 0 (0) (MQ below (tk_qc G (some (.int r9)) h9 sz9) args s 0 0 (tk_ag G)) (F0 m 80 ls [.int y0]) := by
    intro y0 h sz H locs ls hf hs hl
    unfold fX5_count_80 at hf
    cases hf
    exact tk_iret hx hb hr hlocks hs dX5_count_80
  have j20 : ∀ (x0 : Nat) (x1 : Int32) (y0 : Int32) (y1 : Nat) (h : tk_AH) (sz : Nat) (H : Heap) (locs : List Loc) (ls : Array Slot), fX5_count_20 N x0 x1 y0 y1 h sz = some (r9, h9, sz9) → tk_sw G s h sz H locs → lv_has ls 2 [(0, .ref x0), (1, .int x1)] → W p l e (headSpec (coX5_count :: tk_W) ({ frames := 1, cells := 0, slots := 0, locals := 22 })).room s m args below meth c H locs 0 (0) (MQ below (tk_qc G (some (.int r9)) h9 sz9) args s 0 0 (tk_ag G)) (F0 m 20 ls [.int y0, .ref y1]) := by
    intro x0 x1 y0 y1 h sz H locs ls hf hs hl
    unfold fX5_count_20 at hf
    refine lv_iconst (v := 1) hx hb dX5_count_20 (by decide) ?_
    obtain ⟨_, p1, hf⟩ := tk_bi hf
    obtain ⟨o1, e1, hf⟩ := tk_bi hf
    refine tk_call0 (v := some (.int o1.1)) hs (va_runV (As := [.int y0, .int 1]) (rest := []) ⟨hx, hb, hml, hown, ht⟩ (cX5_right_ok l hl0 G N y1 y0 1 h sz o1.1 o1.2.1 o1.2.2 e1) (kwX5_right ht wmX5_96 rfl rfl ⟨Nat.le_of_ble_eq_true rfl, Nat.le_of_ble_eq_true rfl⟩) (tk_preV hE hs (tk_ok_ok p1) rfl) rfl rfl hl.1 rfl (lv_room (Nat.le_of_ble_eq_true rfl)) dX5_count_21 ⟨(Nat.le_of_ble_eq_true rfl), (Nat.le_of_ble_eq_true rfl)⟩) (fun H locs hs => ?_)
    refine W.eq (g2 := F0 m 24 ls [.int o1.1]) rfl ?_
    refine lv_if_ne (tgt := 29) hx hb dX5_count_24 (by decide) (fun c3 => ?_) (fun c3 => ?_)
    · rw [if_neg c3] at hf
      refine lv_iload_n hx hb dX5_count_29 rfl (lv_at hl 1 rfl) ?_
      refine lv_if_ne (tgt := 40) hx hb dX5_count_30 (by decide) (fun c4 => ?_) (fun c4 => ?_)
      · rw [if_neg c4] at hf
        refine lv_iload_n hx hb dX5_count_40 rfl (lv_at hl 1 rfl) ?_
        refine lv_iconst (v := 1) hx hb dX5_count_41 (by decide) ?_
        refine lv_icmp_ne (tgt := 52) hx hb dX5_count_42 (by decide) (fun c5 => ?_) (fun c5 => ?_)
        · rw [if_neg c5] at hf
          refine lv_iload_n hx hb dX5_count_52 rfl (lv_at hl 1 rfl) ?_
          refine lv_iconst (v := 2) hx hb dX5_count_53 (by decide) ?_
          refine lv_icmp_ne (tgt := 64) hx hb dX5_count_54 (by decide) (fun c6 => ?_) (fun c6 => ?_)
          · rw [if_neg c6] at hf
            refine lv_iload_n hx hb dX5_count_64 rfl (lv_at hl 1 rfl) ?_
            refine lv_iconst (v := 3) hx hb dX5_count_65 (by decide) ?_
            refine lv_icmp_ne (tgt := 76) hx hb dX5_count_66 (by decide) (fun c7 => ?_) (fun c7 => ?_)
            · rw [if_neg c7] at hf
              refine lv_aload_n hx hb dX5_count_76 rfl (lv_at hl 0 rfl) ?_
              obtain ⟨v8, e8, hf⟩ := tk_bi hf
              refine tk_getI hx hb ht inX5 hown hE hs rfl 23 (by decide) (ht _ wfX5_179) e8 dX5_count_77 ?_
              exact j80 v8 o1.2.1 o1.2.2 _ _ _ hf hs (lv_sub hl [] rfl)
            · rw [if_pos c7] at hf
              refine lv_aload_n hx hb dX5_count_69 rfl (lv_at hl 0 rfl) ?_
              obtain ⟨v9, e9, hf⟩ := tk_bi hf
              refine tk_getI hx hb ht inX5 hown hE hs rfl 4 (by decide) (ht _ wfX5_173) e9 dX5_count_70 ?_
              refine lv_goto (tgt := 80) hx hb dX5_count_73 (by decide) ?_
              exact j80 v9 o1.2.1 o1.2.2 _ _ _ hf hs (lv_sub hl [] rfl)
          · rw [if_pos c6] at hf
            refine lv_aload_n hx hb dX5_count_57 rfl (lv_at hl 0 rfl) ?_
            obtain ⟨v10, e10, hf⟩ := tk_bi hf
            refine tk_getI hx hb ht inX5 hown hE hs rfl 3 (by decide) (ht _ wfX5_170) e10 dX5_count_58 ?_
            refine lv_goto (tgt := 80) hx hb dX5_count_61 (by decide) ?_
            exact j80 v10 o1.2.1 o1.2.2 _ _ _ hf hs (lv_sub hl [] rfl)
        · rw [if_pos c5] at hf
          refine lv_aload_n hx hb dX5_count_45 rfl (lv_at hl 0 rfl) ?_
          obtain ⟨v11, e11, hf⟩ := tk_bi hf
          refine tk_getI hx hb ht inX5 hown hE hs rfl 2 (by decide) (ht _ wfX5_167) e11 dX5_count_46 ?_
          refine lv_goto (tgt := 80) hx hb dX5_count_49 (by decide) ?_
          exact j80 v11 o1.2.1 o1.2.2 _ _ _ hf hs (lv_sub hl [] rfl)
      · rw [if_pos c4] at hf
        refine lv_aload_n hx hb dX5_count_33 rfl (lv_at hl 0 rfl) ?_
        obtain ⟨v12, e12, hf⟩ := tk_bi hf
        refine tk_getI hx hb ht inX5 hown hE hs rfl 1 (by decide) (ht _ wfX5_93) e12 dX5_count_34 ?_
        refine lv_goto (tgt := 80) hx hb dX5_count_37 (by decide) ?_
        exact j80 v12 o1.2.1 o1.2.2 _ _ _ hf hs (lv_sub hl [] rfl)
    · rw [if_pos c3] at hf
      refine lv_iconst (v := 0) hx hb dX5_count_27 (by decide) ?_
      cases hf
      exact tk_iret hx hb hr hlocks hs dX5_count_28
  have j19 : ∀ (x0 : Nat) (x1 : Int32) (y0 : Nat) (h : tk_AH) (sz : Nat) (H : Heap) (locs : List Loc) (ls : Array Slot), fX5_count_19 N x0 x1 y0 h sz = some (r9, h9, sz9) → tk_sw G s h sz H locs → lv_has ls 2 [(0, .ref x0), (1, .int x1)] → W p l e (headSpec (coX5_count :: tk_W) ({ frames := 1, cells := 0, slots := 0, locals := 22 })).room s m args below meth c H locs 0 (0) (MQ below (tk_qc G (some (.int r9)) h9 sz9) args s 0 0 (tk_ag G)) (F0 m 19 ls [.ref y0]) := by
    intro x0 x1 y0 h sz H locs ls hf hs hl
    unfold fX5_count_19 at hf
    refine lv_iconst (v := 0) hx hb dX5_count_19 (by decide) ?_
    exact j20 x0 x1 0 y0 h sz _ _ _ hf hs (lv_sub hl [0, 1] rfl)
  unfold fX5_count at hf
  refine lv_aload_n hx hb dX5_count_0 rfl (lv_at hl 0 rfl) ?_
  refine lv_iconst (v := 0) hx hb dX5_count_1 (by decide) ?_
  obtain ⟨h13, e13, hf⟩ := tk_bi hf
  refine tk_put hx hb ht inX5 tyX5 tyX5_ok nmX5 hown hE hs rfl 0 (by decide) (ht _ wfX5_89) rfl rfl rfl e13 dX5_count_2 (fun H locs hs => ?_)
  refine lv_aload_n hx hb dX5_count_5 rfl (lv_at hl 0 rfl) ?_
  refine lv_iload_n hx hb dX5_count_6 rfl (lv_at hl 1 rfl) ?_
  refine lv_if_lt (tgt := 19) hx hb dX5_count_7 (by decide) (fun c14 => ?_) (fun c14 => ?_)
  · rw [if_pos c14] at hf
    exact j19 x0 x1 x0 h13 sz _ _ _ hf hs (lv_sub hl [0, 1] rfl)
  · rw [if_neg c14] at hf
    refine lv_iload_n hx hb dX5_count_10 rfl (lv_at hl 1 rfl) ?_
    refine lv_iconst (v := 4) hx hb dX5_count_11 (by decide) ?_
    refine lv_icmp_gt (tgt := 19) hx hb dX5_count_12 (by decide) (fun c15 => ?_) (fun c15 => ?_)
    · rw [if_pos c15] at hf
      exact j19 x0 x1 x0 h13 sz _ _ _ hf hs (lv_sub hl [0, 1] rfl)
    · rw [if_neg c15] at hf
      refine lv_iconst (v := 1) hx hb dX5_count_15 (by decide) ?_
      refine lv_goto (tgt := 20) hx hb dX5_count_16 (by decide) ?_
      exact j20 x0 x1 1 x0 h13 sz _ _ _ hf hs (lv_sub hl [0, 1] rfl)
