section INIT
variable {N : Nat}
theorem x_init5 {b : Nat} {h : tk_AH} : fX5_init N b (tk_nO h b 5 [.int 0, .int 0, .int 0, .int 0, .int 0, .null, .null, .null, .null, .null, .null, .null, .null, .null, .null, .int 0, .null, .null, .null, .null, .null, .null, .null, .int 0, .int 0, .null, .null, .int 0, .null, .null, .null, .null, .null, .null, .null]) (b + 1) = some (lh b [.inl (5, [.int 0, .int 0, .int 0, .int 0, .int 0, .ref (b + 1), .ref (b + 2), .ref (b + 3), .ref (b + 4), .ref (b + 5), .ref (b + 6), .ref (b + 7), .ref (b + 8), .ref (b + 9), .ref (b + 10), .int 0, .ref (b + 11), .ref (b + 12), .ref (b + 13), .ref (b + 14), .ref (b + 15), .ref (b + 16), .ref (b + 17), .int 0, .int 0, .ref (b + 18), .ref (b + 19), .int 0, .ref (b + 20), .ref (b + 21), .ref (b + 22), .ref (b + 23), .ref (b + 24), .ref (b + 25), .ref (b + 26)]), .inr (0, 14, .inl (fun _ => 0)), .inr (0, 112, .inl (fun _ => 0)), .inr (0, 112, .inl (fun _ => 0)), .inr (0, 112, .inl (fun _ => 0)), .inr (0, 112, .inl (fun _ => 0)), .inr (0, 112, .inl (fun _ => 0)), .inr (0, 28, .inl (fun _ => 0)), .inr (0, 14, .inl (fun _ => 0)), .inr (0, 14, .inl (fun _ => 0)), .inr (0, 14, .inl (fun _ => 0)), .inr (0, 21, .inl (fun _ => 0)), .inr (0, 21, .inl (fun _ => 0)), .inr (1, 14, .inl (fun _ => 0)), .inr (0, 14, .inl (fun _ => 0)), .inr (0, 560, .inl (fun _ => 0)), .inr (0, 560, .inl (fun _ => 0)), .inr (0, 80, .inl (fun _ => 0)), .inr (0, 80, .inl (fun _ => 0)), .inr (0, 3, .inl (fun _ => 0)), .inr (0, 2460, .inl (fun _ => 0)), .inr (0, 820, .inl (fun _ => 0)), .inr (0, 820, .inl (fun _ => 0)), .inr (0, 15, .inl (fun _ => 0)), .inr (0, 16384, .inl (fun _ => 0)), .inr (0, 16384, .inl (fun _ => 0)), .inr (0, 1681, .inl (fun _ => 0))] h, b + 27) := by
  have e0 : tk_nO h b 5 [.int 0, .int 0, .int 0, .int 0, .int 0, .null, .null, .null, .null, .null, .null, .null, .null, .null, .null, .int 0, .null, .null, .null, .null, .null, .null, .null, .int 0, .int 0, .null, .null, .int 0, .null, .null, .null, .null, .null, .null, .null] = lh b [.inl (5, [.int 0, .int 0, .int 0, .int 0, .int 0, .null, .null, .null, .null, .null, .null, .null, .null, .null, .null, .int 0, .null, .null, .null, .null, .null, .null, .null, .int 0, .int 0, .null, .null, .int 0, .null, .null, .null, .null, .null, .null, .null])] h := by
    have e := lh_nO (b := b) (cs := []) (h := h) (s := b) (ci := 5) (fs := [.int 0, .int 0, .int 0, .int 0, .int 0, .null, .null, .null, .null, .null, .null, .null, .null, .null, .null, .int 0, .null, .null, .null, .null, .null, .null, .null, .int 0, .int 0, .null, .null, .int 0, .null, .null, .null, .null, .null, .null, .null]) rfl
    rw [lh_nil] at e; exact e
  rw [e0]
  unfold fX5_init
  simp only [Nat.add_assoc, Nat.reduceAdd]
  rw [lh_nI (by rfl), lh_pF0 (by rfl), Option.bind_some]
  simp only [ls_p, List.cons_append, List.nil_append, List.getElem?_cons_zero, List.getElem?_cons_succ, List.set_cons_zero, List.set_cons_succ, Nat.add_assoc, Nat.reduceAdd]
  rw [lh_nI (by rfl), lh_pF0 (by rfl), Option.bind_some]
  simp only [ls_p, List.cons_append, List.nil_append, List.getElem?_cons_zero, List.getElem?_cons_succ, List.set_cons_zero, List.set_cons_succ, Nat.add_assoc, Nat.reduceAdd]
  rw [lh_nI (by rfl), lh_pF0 (by rfl), Option.bind_some]
  simp only [ls_p, List.cons_append, List.nil_append, List.getElem?_cons_zero, List.getElem?_cons_succ, List.set_cons_zero, List.set_cons_succ, Nat.add_assoc, Nat.reduceAdd]
  rw [lh_nI (by rfl), lh_pF0 (by rfl), Option.bind_some]
  simp only [ls_p, List.cons_append, List.nil_append, List.getElem?_cons_zero, List.getElem?_cons_succ, List.set_cons_zero, List.set_cons_succ, Nat.add_assoc, Nat.reduceAdd]
  rw [lh_nI (by rfl), lh_pF0 (by rfl), Option.bind_some]
  simp only [ls_p, List.cons_append, List.nil_append, List.getElem?_cons_zero, List.getElem?_cons_succ, List.set_cons_zero, List.set_cons_succ, Nat.add_assoc, Nat.reduceAdd]
  rw [lh_nI (by rfl), lh_pF0 (by rfl), Option.bind_some]
  simp only [ls_p, List.cons_append, List.nil_append, List.getElem?_cons_zero, List.getElem?_cons_succ, List.set_cons_zero, List.set_cons_succ, Nat.add_assoc, Nat.reduceAdd]
  rw [lh_nI (by rfl), lh_pF0 (by rfl), Option.bind_some]
  simp only [ls_p, List.cons_append, List.nil_append, List.getElem?_cons_zero, List.getElem?_cons_succ, List.set_cons_zero, List.set_cons_succ, Nat.add_assoc, Nat.reduceAdd]
  rw [lh_nI (by rfl), lh_pF0 (by rfl), Option.bind_some]
  simp only [ls_p, List.cons_append, List.nil_append, List.getElem?_cons_zero, List.getElem?_cons_succ, List.set_cons_zero, List.set_cons_succ, Nat.add_assoc, Nat.reduceAdd]
  rw [lh_nI (by rfl), lh_pF0 (by rfl), Option.bind_some]
  simp only [ls_p, List.cons_append, List.nil_append, List.getElem?_cons_zero, List.getElem?_cons_succ, List.set_cons_zero, List.set_cons_succ, Nat.add_assoc, Nat.reduceAdd]
  rw [lh_nI (by rfl), lh_pF0 (by rfl), Option.bind_some]
  simp only [ls_p, List.cons_append, List.nil_append, List.getElem?_cons_zero, List.getElem?_cons_succ, List.set_cons_zero, List.set_cons_succ, Nat.add_assoc, Nat.reduceAdd]
  rw [lh_nI (by rfl), lh_pF0 (by rfl), Option.bind_some]
  simp only [ls_p, List.cons_append, List.nil_append, List.getElem?_cons_zero, List.getElem?_cons_succ, List.set_cons_zero, List.set_cons_succ, Nat.add_assoc, Nat.reduceAdd]
  rw [lh_nI (by rfl), lh_pF0 (by rfl), Option.bind_some]
  simp only [ls_p, List.cons_append, List.nil_append, List.getElem?_cons_zero, List.getElem?_cons_succ, List.set_cons_zero, List.set_cons_succ, Nat.add_assoc, Nat.reduceAdd]
  rw [lh_nZ (by rfl), lh_pF0 (by rfl), Option.bind_some]
  simp only [ls_p, List.cons_append, List.nil_append, List.getElem?_cons_zero, List.getElem?_cons_succ, List.set_cons_zero, List.set_cons_succ, Nat.add_assoc, Nat.reduceAdd]
  rw [lh_nI (by rfl), lh_pF0 (by rfl), Option.bind_some]
  simp only [ls_p, List.cons_append, List.nil_append, List.getElem?_cons_zero, List.getElem?_cons_succ, List.set_cons_zero, List.set_cons_succ, Nat.add_assoc, Nat.reduceAdd]
  rw [lh_nI (by rfl), lh_pF0 (by rfl), Option.bind_some]
  simp only [ls_p, List.cons_append, List.nil_append, List.getElem?_cons_zero, List.getElem?_cons_succ, List.set_cons_zero, List.set_cons_succ, Nat.add_assoc, Nat.reduceAdd]
  rw [lh_nI (by rfl), lh_pF0 (by rfl), Option.bind_some]
  simp only [ls_p, List.cons_append, List.nil_append, List.getElem?_cons_zero, List.getElem?_cons_succ, List.set_cons_zero, List.set_cons_succ, Nat.add_assoc, Nat.reduceAdd]
  rw [lh_nI (by rfl), lh_pF0 (by rfl), Option.bind_some]
  simp only [ls_p, List.cons_append, List.nil_append, List.getElem?_cons_zero, List.getElem?_cons_succ, List.set_cons_zero, List.set_cons_succ, Nat.add_assoc, Nat.reduceAdd]
  rw [lh_nI (by rfl), lh_pF0 (by rfl), Option.bind_some]
  simp only [ls_p, List.cons_append, List.nil_append, List.getElem?_cons_zero, List.getElem?_cons_succ, List.set_cons_zero, List.set_cons_succ, Nat.add_assoc, Nat.reduceAdd]
  rw [lh_nI (by rfl), lh_pF0 (by rfl), Option.bind_some]
  simp only [ls_p, List.cons_append, List.nil_append, List.getElem?_cons_zero, List.getElem?_cons_succ, List.set_cons_zero, List.set_cons_succ, Nat.add_assoc, Nat.reduceAdd]
  rw [lh_nI (by rfl), lh_pF0 (by rfl), Option.bind_some]
  simp only [ls_p, List.cons_append, List.nil_append, List.getElem?_cons_zero, List.getElem?_cons_succ, List.set_cons_zero, List.set_cons_succ, Nat.add_assoc, Nat.reduceAdd]
  rw [lh_nI (by rfl), lh_pF0 (by rfl), Option.bind_some]
  simp only [ls_p, List.cons_append, List.nil_append, List.getElem?_cons_zero, List.getElem?_cons_succ, List.set_cons_zero, List.set_cons_succ, Nat.add_assoc, Nat.reduceAdd]
  rw [lh_nI (by rfl), lh_pF0 (by rfl), Option.bind_some]
  simp only [ls_p, List.cons_append, List.nil_append, List.getElem?_cons_zero, List.getElem?_cons_succ, List.set_cons_zero, List.set_cons_succ, Nat.add_assoc, Nat.reduceAdd]
  rw [lh_nI (by rfl), lh_pF0 (by rfl), Option.bind_some]
  simp only [ls_p, List.cons_append, List.nil_append, List.getElem?_cons_zero, List.getElem?_cons_succ, List.set_cons_zero, List.set_cons_succ, Nat.add_assoc, Nat.reduceAdd]
  rw [lh_nI (by rfl), lh_pF0 (by rfl), Option.bind_some]
  simp only [ls_p, List.cons_append, List.nil_append, List.getElem?_cons_zero, List.getElem?_cons_succ, List.set_cons_zero, List.set_cons_succ, Nat.add_assoc, Nat.reduceAdd]
  rw [lh_nI (by rfl), lh_pF0 (by rfl), Option.bind_some]
  simp only [ls_p, List.cons_append, List.nil_append, List.getElem?_cons_zero, List.getElem?_cons_succ, List.set_cons_zero, List.set_cons_succ, Nat.add_assoc, Nat.reduceAdd]
  rw [lh_nI (by rfl), lh_pF0 (by rfl), Option.bind_some]
  simp only [ls_p, List.cons_append, List.nil_append, List.getElem?_cons_zero, List.getElem?_cons_succ, List.set_cons_zero, List.set_cons_succ, Nat.add_assoc, Nat.reduceAdd]
theorem x_init4 {b : Nat} {h : tk_AH} : fX4_init N b (tk_nO h b 4 [.null, .null, .null, .null, .null, .int 0, .int 0, .int 0, .int 0, .int 0]) (b + 1) = some (lh b [.inl (4, [.ref (b + 1), .ref (b + 2), .ref (b + 5), .ref (b + 13), .ref (b + 18), .int 0, .int 0, .int 0, .int 0, .int 0]), .inr (3, 14, .inr (.inr (fun _ => none))), .inl (3, [.ref (b + 3), .ref (b + 4)]), .inr (0, 14, .inl (fun _ => 0)), .inr (0, 196, .inl (fun _ => 0)), .inl (1, [.ref (b + 6), .ref (b + 7), .ref (b + 8), .ref (b + 9), .ref (b + 10), .ref (b + 11), .ref (b + 12), .long 0, .int 0, .int 0]), .inr (0, 455, .inl (fun _ => 0)), .inr (0, 455, .inl (fun _ => 0)), .inr (0, 455, .inl (fun _ => 0)), .inr (0, 455, .inl (fun _ => 0)), .inr (0, 15, .inl (fun _ => 0)), .inr (0, 14, .inl (fun _ => 0)), .inr (2, 0, .inr (.inl (fun _ => 0))), .inl (2, [.ref (b + 14), .ref (b + 15), .ref (b + 16), .ref (b + 17), .int 0, .int 0, .int 0, .int 0]), .inr (0, 80, .inl (fun _ => 0)), .inr (0, 1681, .inl (fun _ => 0)), .inr (0, 80, .inl (fun _ => 0)), .inr (0, 5, .inl (fun _ => 0)), .inr (0, 42, .inl (fun _ => 0))] h, b + 19) := by
  have e0 : tk_nO h b 4 [.null, .null, .null, .null, .null, .int 0, .int 0, .int 0, .int 0, .int 0] = lh b [.inl (4, [.null, .null, .null, .null, .null, .int 0, .int 0, .int 0, .int 0, .int 0])] h := by
    have e := lh_nO (b := b) (cs := []) (h := h) (s := b) (ci := 4) (fs := [.null, .null, .null, .null, .null, .int 0, .int 0, .int 0, .int 0, .int 0]) rfl
    rw [lh_nil] at e; exact e
  rw [e0]
  unfold fX4_init
  simp only [Nat.add_assoc, Nat.reduceAdd]
  rw [lh_nQ (by rfl), lh_pF0 (by rfl), Option.bind_some]
  simp only [ls_p, List.cons_append, List.nil_append, List.getElem?_cons_zero, List.getElem?_cons_succ, List.set_cons_zero, List.set_cons_succ, Nat.add_assoc, Nat.reduceAdd]
  rw [lh_nO (by rfl)]
  simp only [ls_p, List.cons_append, List.nil_append, List.getElem?_cons_zero, List.getElem?_cons_succ, List.set_cons_zero, List.set_cons_succ, Nat.add_assoc, Nat.reduceAdd]
  unfold fX3_init
  simp only [Nat.add_assoc, Nat.reduceAdd]
  rw [lh_nI (by rfl), lh_pF (by rfl), Option.bind_some]
  simp only [ls_p, List.cons_append, List.nil_append, List.getElem?_cons_zero, List.getElem?_cons_succ, List.set_cons_zero, List.set_cons_succ, Nat.add_assoc, Nat.reduceAdd]
  rw [lh_nI (by rfl), lh_pF (by rfl), Option.bind_some]
  simp only [ls_p, List.cons_append, List.nil_append, List.getElem?_cons_zero, List.getElem?_cons_succ, List.set_cons_zero, List.set_cons_succ, Nat.add_assoc, Nat.reduceAdd]
  rw [Option.bind_some]
  simp only [ls_p, List.cons_append, List.nil_append, List.getElem?_cons_zero, List.getElem?_cons_succ, List.set_cons_zero, List.set_cons_succ, Nat.add_assoc, Nat.reduceAdd]
  rw [lh_pF0 (by rfl), Option.bind_some]
  simp only [ls_p, List.cons_append, List.nil_append, List.getElem?_cons_zero, List.getElem?_cons_succ, List.set_cons_zero, List.set_cons_succ, Nat.add_assoc, Nat.reduceAdd]
  rw [lh_nO (by rfl)]
  simp only [ls_p, List.cons_append, List.nil_append, List.getElem?_cons_zero, List.getElem?_cons_succ, List.set_cons_zero, List.set_cons_succ, Nat.add_assoc, Nat.reduceAdd]
  unfold fX1_init
  simp only [Nat.add_assoc, Nat.reduceAdd]
  rw [lh_nI (by rfl), lh_pF (by rfl), Option.bind_some]
  simp only [ls_p, List.cons_append, List.nil_append, List.getElem?_cons_zero, List.getElem?_cons_succ, List.set_cons_zero, List.set_cons_succ, Nat.add_assoc, Nat.reduceAdd]
  rw [lh_nI (by rfl), lh_pF (by rfl), Option.bind_some]
  simp only [ls_p, List.cons_append, List.nil_append, List.getElem?_cons_zero, List.getElem?_cons_succ, List.set_cons_zero, List.set_cons_succ, Nat.add_assoc, Nat.reduceAdd]
  rw [lh_nI (by rfl), lh_pF (by rfl), Option.bind_some]
  simp only [ls_p, List.cons_append, List.nil_append, List.getElem?_cons_zero, List.getElem?_cons_succ, List.set_cons_zero, List.set_cons_succ, Nat.add_assoc, Nat.reduceAdd]
  rw [lh_nI (by rfl), lh_pF (by rfl), Option.bind_some]
  simp only [ls_p, List.cons_append, List.nil_append, List.getElem?_cons_zero, List.getElem?_cons_succ, List.set_cons_zero, List.set_cons_succ, Nat.add_assoc, Nat.reduceAdd]
  rw [lh_nI (by rfl), lh_pF (by rfl), Option.bind_some]
  simp only [ls_p, List.cons_append, List.nil_append, List.getElem?_cons_zero, List.getElem?_cons_succ, List.set_cons_zero, List.set_cons_succ, Nat.add_assoc, Nat.reduceAdd]
  rw [lh_nI (by rfl), lh_pF (by rfl), Option.bind_some]
  simp only [ls_p, List.cons_append, List.nil_append, List.getElem?_cons_zero, List.getElem?_cons_succ, List.set_cons_zero, List.set_cons_succ, Nat.add_assoc, Nat.reduceAdd]
  rw [lh_nJ (by rfl), lh_pF (by rfl), Option.bind_some]
  simp only [ls_p, List.cons_append, List.nil_append, List.getElem?_cons_zero, List.getElem?_cons_succ, List.set_cons_zero, List.set_cons_succ, Nat.add_assoc, Nat.reduceAdd]
  rw [Option.bind_some]
  simp only [ls_p, List.cons_append, List.nil_append, List.getElem?_cons_zero, List.getElem?_cons_succ, List.set_cons_zero, List.set_cons_succ, Nat.add_assoc, Nat.reduceAdd]
  rw [lh_pF0 (by rfl), Option.bind_some]
  simp only [ls_p, List.cons_append, List.nil_append, List.getElem?_cons_zero, List.getElem?_cons_succ, List.set_cons_zero, List.set_cons_succ, Nat.add_assoc, Nat.reduceAdd]
  rw [lh_nO (by rfl)]
  simp only [ls_p, List.cons_append, List.nil_append, List.getElem?_cons_zero, List.getElem?_cons_succ, List.set_cons_zero, List.set_cons_succ, Nat.add_assoc, Nat.reduceAdd]
  unfold fX2_init
  simp only [Nat.add_assoc, Nat.reduceAdd]
  rw [lh_nI (by rfl), lh_pF (by rfl), Option.bind_some]
  simp only [ls_p, List.cons_append, List.nil_append, List.getElem?_cons_zero, List.getElem?_cons_succ, List.set_cons_zero, List.set_cons_succ, Nat.add_assoc, Nat.reduceAdd]
  rw [lh_nI (by rfl), lh_pF (by rfl), Option.bind_some]
  simp only [ls_p, List.cons_append, List.nil_append, List.getElem?_cons_zero, List.getElem?_cons_succ, List.set_cons_zero, List.set_cons_succ, Nat.add_assoc, Nat.reduceAdd]
  rw [lh_nI (by rfl), lh_pF (by rfl), Option.bind_some]
  simp only [ls_p, List.cons_append, List.nil_append, List.getElem?_cons_zero, List.getElem?_cons_succ, List.set_cons_zero, List.set_cons_succ, Nat.add_assoc, Nat.reduceAdd]
  rw [lh_nI (by rfl), lh_pF (by rfl), Option.bind_some]
  simp only [ls_p, List.cons_append, List.nil_append, List.getElem?_cons_zero, List.getElem?_cons_succ, List.set_cons_zero, List.set_cons_succ, Nat.add_assoc, Nat.reduceAdd]
  rw [Option.bind_some]
  simp only [ls_p, List.cons_append, List.nil_append, List.getElem?_cons_zero, List.getElem?_cons_succ, List.set_cons_zero, List.set_cons_succ, Nat.add_assoc, Nat.reduceAdd]
  rw [lh_pF0 (by rfl), Option.bind_some]
  simp only [ls_p, List.cons_append, List.nil_append, List.getElem?_cons_zero, List.getElem?_cons_succ, List.set_cons_zero, List.set_cons_succ, Nat.add_assoc, Nat.reduceAdd]
  rw [lh_nI (by rfl), lh_pF0 (by rfl), Option.bind_some]
  simp only [ls_p, List.cons_append, List.nil_append, List.getElem?_cons_zero, List.getElem?_cons_succ, List.set_cons_zero, List.set_cons_succ, Nat.add_assoc, Nat.reduceAdd]
theorem wd_init {A : Nat} : tk_nJ (lh (A + 19) [.inl (5, [.int 0, .int 0, .int 0, .int 0, .int 0, .ref (A + 19 + 1), .ref (A + 19 + 2), .ref (A + 19 + 3), .ref (A + 19 + 4), .ref (A + 19 + 5), .ref (A + 19 + 6), .ref (A + 19 + 7), .ref (A + 19 + 8), .ref (A + 19 + 9), .ref (A + 19 + 10), .int 0, .ref (A + 19 + 11), .ref (A + 19 + 12), .ref (A + 19 + 13), .ref (A + 19 + 14), .ref (A + 19 + 15), .ref (A + 19 + 16), .ref (A + 19 + 17), .int 0, .int 0, .ref (A + 19 + 18), .ref (A + 19 + 19), .int 0, .ref (A + 19 + 20), .ref (A + 19 + 21), .ref (A + 19 + 22), .ref (A + 19 + 23), .ref (A + 19 + 24), .ref (A + 19 + 25), .ref (A + 19 + 26)]), .inr (0, 14, .inl (fun _ => 0)), .inr (0, 112, .inl (fun _ => 0)), .inr (0, 112, .inl (fun _ => 0)), .inr (0, 112, .inl (fun _ => 0)), .inr (0, 112, .inl (fun _ => 0)), .inr (0, 112, .inl (fun _ => 0)), .inr (0, 28, .inl (fun _ => 0)), .inr (0, 14, .inl (fun _ => 0)), .inr (0, 14, .inl (fun _ => 0)), .inr (0, 14, .inl (fun _ => 0)), .inr (0, 21, .inl (fun _ => 0)), .inr (0, 21, .inl (fun _ => 0)), .inr (1, 14, .inl (fun _ => 0)), .inr (0, 14, .inl (fun _ => 0)), .inr (0, 560, .inl (fun _ => 0)), .inr (0, 560, .inl (fun _ => 0)), .inr (0, 80, .inl (fun _ => 0)), .inr (0, 80, .inl (fun _ => 0)), .inr (0, 3, .inl (fun _ => 0)), .inr (0, 2460, .inl (fun _ => 0)), .inr (0, 820, .inl (fun _ => 0)), .inr (0, 820, .inl (fun _ => 0)), .inr (0, 15, .inl (fun _ => 0)), .inr (0, 16384, .inl (fun _ => 0)), .inr (0, 16384, .inl (fun _ => 0)), .inr (0, 1681, .inl (fun _ => 0))] (lh A [.inl (4, [.ref (A + 1), .ref (A + 2), .ref (A + 5), .ref (A + 13), .ref (A + 18), .int 0, .int 0, .int 0, .int 0, .int 0]), .inr (3, 14, .inr (.inr (fun _ => none))), .inl (3, [.ref (A + 3), .ref (A + 4)]), .inr (0, 14, .inl (fun _ => 0)), .inr (0, 196, .inl (fun _ => 0)), .inl (1, [.ref (A + 6), .ref (A + 7), .ref (A + 8), .ref (A + 9), .ref (A + 10), .ref (A + 11), .ref (A + 12), .long 0, .int 0, .int 0]), .inr (0, 455, .inl (fun _ => 0)), .inr (0, 455, .inl (fun _ => 0)), .inr (0, 455, .inl (fun _ => 0)), .inr (0, 455, .inl (fun _ => 0)), .inr (0, 15, .inl (fun _ => 0)), .inr (0, 14, .inl (fun _ => 0)), .inr (2, 0, .inr (.inl (fun _ => 0))), .inl (2, [.ref (A + 14), .ref (A + 15), .ref (A + 16), .ref (A + 17), .int 0, .int 0, .int 0, .int 0]), .inr (0, 80, .inl (fun _ => 0)), .inr (0, 1681, .inl (fun _ => 0)), .inr (0, 80, .inl (fun _ => 0)), .inr (0, 5, .inl (fun _ => 0)), .inr (0, 42, .inl (fun _ => 0))] (fun _ => none))) (A + 46) 1 = wd A (fun _ => 0) (fun _ _ => 0) (fun _ => 0) (fun _ _ => 0) (fun _ => none) 0 (A + 12) (fun _ => 0) (fun _ => none) (fun _ => 0) (fun _ _ => 0) (fun _ _ _ => 0) (fun _ => none) := by
  funext q
  unfold tk_nJ va_up wd
  by_cases h0 : q = A + 46
  · subst h0; rw [if_pos rfl, if_pos ⟨by omega, by omega⟩, Nat.add_sub_cancel_left]; rfl
  · rw [if_neg h0]
    by_cases h1 : A + 19 ≤ q ∧ q < A + 19 + 27
    · obtain ⟨j, hj, rfl⟩ : ∃ j, j < 27 ∧ q = A + 19 + j := ⟨q - (A + 19), by omega, by omega⟩
      rw [if_pos ⟨by omega, by omega⟩, lh_at hj, show A + 19 + j - A = 19 + j by omega]
      match j, hj with
      | 0, _ => rfl
      | 1, _ => rfl
      | 2, _ => rfl
      | 3, _ => rfl
      | 4, _ => rfl
      | 5, _ => rfl
      | 6, _ => rfl
      | 7, _ => rfl
      | 8, _ => rfl
      | 9, _ => rfl
      | 10, _ => rfl
      | 11, _ => rfl
      | 12, _ => rfl
      | 13, _ => rfl
      | 14, _ => rfl
      | 15, _ => rfl
      | 16, _ => rfl
      | 17, _ => rfl
      | 18, _ => rfl
      | 19, _ => rfl
      | 20, _ => rfl
      | 21, _ => rfl
      | 22, _ => rfl
      | 23, _ => rfl
      | 24, _ => rfl
      | 25, _ => rfl
      | 26, _ => rfl
      | j + 27, h => exact absurd h (by omega)
    · have e1 : lh (A + 19) [.inl (5, [.int 0, .int 0, .int 0, .int 0, .int 0, .ref (A + 19 + 1), .ref (A + 19 + 2), .ref (A + 19 + 3), .ref (A + 19 + 4), .ref (A + 19 + 5), .ref (A + 19 + 6), .ref (A + 19 + 7), .ref (A + 19 + 8), .ref (A + 19 + 9), .ref (A + 19 + 10), .int 0, .ref (A + 19 + 11), .ref (A + 19 + 12), .ref (A + 19 + 13), .ref (A + 19 + 14), .ref (A + 19 + 15), .ref (A + 19 + 16), .ref (A + 19 + 17), .int 0, .int 0, .ref (A + 19 + 18), .ref (A + 19 + 19), .int 0, .ref (A + 19 + 20), .ref (A + 19 + 21), .ref (A + 19 + 22), .ref (A + 19 + 23), .ref (A + 19 + 24), .ref (A + 19 + 25), .ref (A + 19 + 26)]), .inr (0, 14, .inl (fun _ => 0)), .inr (0, 112, .inl (fun _ => 0)), .inr (0, 112, .inl (fun _ => 0)), .inr (0, 112, .inl (fun _ => 0)), .inr (0, 112, .inl (fun _ => 0)), .inr (0, 112, .inl (fun _ => 0)), .inr (0, 28, .inl (fun _ => 0)), .inr (0, 14, .inl (fun _ => 0)), .inr (0, 14, .inl (fun _ => 0)), .inr (0, 14, .inl (fun _ => 0)), .inr (0, 21, .inl (fun _ => 0)), .inr (0, 21, .inl (fun _ => 0)), .inr (1, 14, .inl (fun _ => 0)), .inr (0, 14, .inl (fun _ => 0)), .inr (0, 560, .inl (fun _ => 0)), .inr (0, 560, .inl (fun _ => 0)), .inr (0, 80, .inl (fun _ => 0)), .inr (0, 80, .inl (fun _ => 0)), .inr (0, 3, .inl (fun _ => 0)), .inr (0, 2460, .inl (fun _ => 0)), .inr (0, 820, .inl (fun _ => 0)), .inr (0, 820, .inl (fun _ => 0)), .inr (0, 15, .inl (fun _ => 0)), .inr (0, 16384, .inl (fun _ => 0)), .inr (0, 16384, .inl (fun _ => 0)), .inr (0, 1681, .inl (fun _ => 0))] (lh A [.inl (4, [.ref (A + 1), .ref (A + 2), .ref (A + 5), .ref (A + 13), .ref (A + 18), .int 0, .int 0, .int 0, .int 0, .int 0]), .inr (3, 14, .inr (.inr (fun _ => none))), .inl (3, [.ref (A + 3), .ref (A + 4)]), .inr (0, 14, .inl (fun _ => 0)), .inr (0, 196, .inl (fun _ => 0)), .inl (1, [.ref (A + 6), .ref (A + 7), .ref (A + 8), .ref (A + 9), .ref (A + 10), .ref (A + 11), .ref (A + 12), .long 0, .int 0, .int 0]), .inr (0, 455, .inl (fun _ => 0)), .inr (0, 455, .inl (fun _ => 0)), .inr (0, 455, .inl (fun _ => 0)), .inr (0, 455, .inl (fun _ => 0)), .inr (0, 15, .inl (fun _ => 0)), .inr (0, 14, .inl (fun _ => 0)), .inr (2, 0, .inr (.inl (fun _ => 0))), .inl (2, [.ref (A + 14), .ref (A + 15), .ref (A + 16), .ref (A + 17), .int 0, .int 0, .int 0, .int 0]), .inr (0, 80, .inl (fun _ => 0)), .inr (0, 1681, .inl (fun _ => 0)), .inr (0, 80, .inl (fun _ => 0)), .inr (0, 5, .inl (fun _ => 0)), .inr (0, 42, .inl (fun _ => 0))] (fun _ => none)) q = lh A [.inl (4, [.ref (A + 1), .ref (A + 2), .ref (A + 5), .ref (A + 13), .ref (A + 18), .int 0, .int 0, .int 0, .int 0, .int 0]), .inr (3, 14, .inr (.inr (fun _ => none))), .inl (3, [.ref (A + 3), .ref (A + 4)]), .inr (0, 14, .inl (fun _ => 0)), .inr (0, 196, .inl (fun _ => 0)), .inl (1, [.ref (A + 6), .ref (A + 7), .ref (A + 8), .ref (A + 9), .ref (A + 10), .ref (A + 11), .ref (A + 12), .long 0, .int 0, .int 0]), .inr (0, 455, .inl (fun _ => 0)), .inr (0, 455, .inl (fun _ => 0)), .inr (0, 455, .inl (fun _ => 0)), .inr (0, 455, .inl (fun _ => 0)), .inr (0, 15, .inl (fun _ => 0)), .inr (0, 14, .inl (fun _ => 0)), .inr (2, 0, .inr (.inl (fun _ => 0))), .inl (2, [.ref (A + 14), .ref (A + 15), .ref (A + 16), .ref (A + 17), .int 0, .int 0, .int 0, .int 0]), .inr (0, 80, .inl (fun _ => 0)), .inr (0, 1681, .inl (fun _ => 0)), .inr (0, 80, .inl (fun _ => 0)), .inr (0, 5, .inl (fun _ => 0)), .inr (0, 42, .inl (fun _ => 0))] (fun _ => none) q := if_neg h1
      rw [e1]
      by_cases h2 : A ≤ q ∧ q < A + 19
      · obtain ⟨j, hj, rfl⟩ : ∃ j, j < 19 ∧ q = A + j := ⟨q - A, by omega, by omega⟩
        rw [if_pos ⟨by omega, by omega⟩, lh_at hj, Nat.add_sub_cancel_left]
        match j, hj with
        | 0, _ => rfl
        | 1, _ => rfl
        | 2, _ => rfl
        | 3, _ => rfl
        | 4, _ => rfl
        | 5, _ => rfl
        | 6, _ => rfl
        | 7, _ => rfl
        | 8, _ => rfl
        | 9, _ => rfl
        | 10, _ => rfl
        | 11, _ => rfl
        | 12, _ => rfl
        | 13, _ => rfl
        | 14, _ => rfl
        | 15, _ => rfl
        | 16, _ => rfl
        | 17, _ => rfl
        | 18, _ => rfl
        | j + 19, h => exact absurd h (by omega)
      · rw [if_neg (by omega)]
        have e2 : lh A [.inl (4, [.ref (A + 1), .ref (A + 2), .ref (A + 5), .ref (A + 13), .ref (A + 18), .int 0, .int 0, .int 0, .int 0, .int 0]), .inr (3, 14, .inr (.inr (fun _ => none))), .inl (3, [.ref (A + 3), .ref (A + 4)]), .inr (0, 14, .inl (fun _ => 0)), .inr (0, 196, .inl (fun _ => 0)), .inl (1, [.ref (A + 6), .ref (A + 7), .ref (A + 8), .ref (A + 9), .ref (A + 10), .ref (A + 11), .ref (A + 12), .long 0, .int 0, .int 0]), .inr (0, 455, .inl (fun _ => 0)), .inr (0, 455, .inl (fun _ => 0)), .inr (0, 455, .inl (fun _ => 0)), .inr (0, 455, .inl (fun _ => 0)), .inr (0, 15, .inl (fun _ => 0)), .inr (0, 14, .inl (fun _ => 0)), .inr (2, 0, .inr (.inl (fun _ => 0))), .inl (2, [.ref (A + 14), .ref (A + 15), .ref (A + 16), .ref (A + 17), .int 0, .int 0, .int 0, .int 0]), .inr (0, 80, .inl (fun _ => 0)), .inr (0, 1681, .inl (fun _ => 0)), .inr (0, 80, .inl (fun _ => 0)), .inr (0, 5, .inl (fun _ => 0)), .inr (0, 42, .inl (fun _ => 0))] (fun _ => none) q = none := if_neg h2
        rw [e2]
theorem R_init {A : Nat} : tk_R A (fun _ => 0) (fun _ _ => 0) (fun _ => 0) (fun _ _ => 0) (fun _ => none) 0 (A + 12) (fun _ => none) (fun _ => 0) (fun _ _ => 0) (fun _ _ _ => 0) (fun _ => none) 0 (A + 47) 0 0 := by
  refine ⟨by decide, rfl, rfl, fun l hl => by omega, ⟨fun l hl => by omega, fun q l j h => by cases h⟩, ⟨rfl, rfl, rfl⟩, fun l hl => by omega, fun l _ _ => ⟨fun _ _ => ⟨rfl, rfl, rfl, rfl⟩, fun _ _ => rfl, fun _ _ => ⟨rfl, rfl⟩, rfl, rfl, rfl, rfl, rfl⟩, ⟨0, by decide, rfl, rfl, fun k hk => by omega, fun j hj => by omega, fun j j' hj => by omega, fun l hl => by omega, fun l hl => by omega⟩, ⟨⟨0, by decide, rfl, rfl⟩, fun _ _ => rfl, 0, by decide, rfl, rfl, fun j hj => by omega, fun q hq => rfl⟩, ⟨0, by decide, rfl, by omega, Or.inl ⟨rfl, rfl⟩⟩, Nat.le_refl _, fun _ _ => rfl⟩
end INIT

def tk_mf (A : Nat) (h : tk_AH) : Nat := match tk_gR h 1 6 (A + 5), tk_gI h 4 6 A with
  | some mm, some n => match tk_aN h 2 mm with
    | some len => if len.toNatClampNeg < 2 ^ n.toNatClampNeg then 2 ^ n.toNatClampNeg else 0
    | none => 0
  | _, _ => 0
theorem bd_ok {a b : Nat} (h : a ≤ 601024 ∧ b ≤ 7293034) : tk_bd a b = some () := if_pos h
theorem bd_b {a b : Nat} (h : a ≤ 601024 ∧ b ≤ 7293034) (k : Unit → Option Unit) : (tk_bd a b).bind k = k () := by rw [bd_ok h]; rfl
theorem bnd {α β : Type} {x : Option α} {v : α} (h : x = some v) (k : α → Option β) : x.bind k = k v := by rw [h]; rfl
theorem law_sc {L i j : Nat} {xs : Nat → Int32} (h : i + j < L) (hL : L ≤ 3072) : tk_sc L xs (Int32.ofNat i + Int32.ofNat j) = some (xs (i + j)) := by
  unfold tk_sc
  rw [tI_a, tk_nc (by omega), if_neg]
  rw [Int32.lt_iff_toInt_lt, tI_i (by omega)]
  show ¬ ((_ : Int) < 0 ∨ _)
  omega
theorem law_go {L i : Nat} (h : i + 6 ≤ L) (hL : L ≤ 3072) : ¬ (Int32.ofNat L - 6 < Int32.ofNat i) := by
  rw [show (6 : Int32) = Int32.ofNat 6 from rfl, tI_s (by omega), Int32.lt_iff_toInt_lt, tI_i (by omega), tI_i (by omega)]
  omega
theorem law_end {L i : Nat} (h : L < i + 6) (hL : L ≤ 3072) (hi : i < 100000) : Int32.ofNat L - 6 < Int32.ofNat i := by
  rw [Int32.lt_iff_toInt_lt, tI_i (by omega)]
  by_cases h6 : 6 ≤ L
  · rw [show (6 : Int32) = Int32.ofNat 6 from rfl, tI_s h6, tI_i (by omega)]; omega
  · have : ∀ L, L < 6 → (Int32.ofNat L - 6).toInt < 0 := by decide
    have := this L (by omega)
    omega
section LAW
variable {A : Nat} {f : Nat → Int32} {a : Nat → Nat → Int32} {xi : Nat → Int32} {xa : Nat → Nat → Int32} {lr : Nat → Option Nat} {wk : Int64} {mm : Nat} {o : Nat → Int64} {own : Nat → Option (Nat × Nat)} {ad : Nat → Nat} {lf : Nat → Nat → Int32} {la : Nat → Nat → Nat → Int32} {h0 : tk_AH} {N sz n c len : Nat} {mf : tk_AH → Nat} {L i F kc ks : Nat} {xs : Nat → Int32}
theorem law_1 (hN : 20000 ≤ N) (hop : xs i &&& 31 = 1) (hi : i + 6 ≤ L) (hL : L ≤ 3072) (hkc : kc + 9 ≤ 601024) (hks : ks + 137 ≤ 7293034) (hR : tk_R A f a xi xa lr wk mm own ad lf la h0 n sz c len) : ∃ h' s', tk_inv A (c + 1) len s' h' ∧ fL_law_23 N mf L xs (F + 1) A (A + 19) (A + 46) (Int32.ofNat i) (wd A f a xi xa lr wk mm o own ad lf la h0) sz kc ks = fL_law_23 N mf L xs F A (A + 19) (A + 46) (Int32.ofNat (i + 6)) h' s' (kc + 1) (ks + 6) := by
  have s0 : tk_sc L xs (Int32.ofNat i) = some (xs i) := by have := law_sc (L := L) (xs := xs) (i := i) (j := 0) (by omega) hL; rw [tI_a] at this; exact this
  have s1 : tk_sc L xs (Int32.ofNat i + 1) = some (xs (i + 1)) := law_sc (j := 1) (by omega) hL
  have b1 := fun k : Int32 → Option Unit => bnd s1 k
  have s2 : tk_sc L xs (Int32.ofNat i + 2) = some (xs (i + 2)) := law_sc (j := 2) (by omega) hL
  have b2 := fun k : Int32 → Option Unit => bnd s2 k
  have s3 : tk_sc L xs (Int32.ofNat i + 3) = some (xs (i + 3)) := law_sc (j := 3) (by omega) hL
  have b3 := fun k : Int32 → Option Unit => bnd s3 k
  have s4 : tk_sc L xs (Int32.ofNat i + 4) = some (xs (i + 4)) := law_sc (j := 4) (by omega) hL
  have b4 := fun k : Int32 → Option Unit => bnd s4 k
  have s5 : tk_sc L xs (Int32.ofNat i + 5) = some (xs (i + 5)) := law_sc (j := 5) (by omega) hL
  have b5 := fun k : Int32 → Option Unit => bnd s5 k
  have s6 : Int32.ofNat i + 6 = Int32.ofNat (i + 6) := tI_a i 6
  have hgo := law_go hi hL
  obtain ⟨p, e1, q, e2, t1, t2, t3, t4, t5, t6⟩ := st_hours (N := N) (o := o) (xs (i + 1)) (xs (i + 2)) hR
  refine ⟨q.2.1, q.2.2, by rw [t3]; exact t6, ?_⟩
  have th : fX5_thrown N (A + 19) q.2.1 q.2.2 = some (p.1, q.2.1, q.2.2) := by unfold fX5_thrown; rw [t1]; rfl
  have e1b := fun k : _ → Option Unit => bnd e1 k
  have e2b := fun k : _ → Option Unit => bnd e2 k
  have t4b := fun k : _ → Option Unit => bnd t4 k
  have t5b := fun k : _ → Option Unit => bnd t5 k
  have thb := fun k : _ → Option Unit => bnd th k
  rw [fL_law_23, if_neg hgo, s0, Option.bind_some, hop, if_neg (show ¬ ((1 : Int32) = 0) by decide), if_pos (show (1 : Int32) = 1 from rfl)]
  by_cases hz : p.1 = 0
  · have t2b := fun k : _ → Option Unit => bnd (t2 hz) k
    simp (disch := omega) only [↓b1, ↓b2, ↓b3, ↓b4, ↓b5, s6, ↓bd_b, ↓e1b, ↓t4b, ↓e2b, ↓t5b, ↓thb, hz, ↓t2b, cmp0, ↓reduceIte, ↓fL_law_1856, ↓fL_law_1853, ↓fL_law_1797, ↓fL_law_1741, ↓fL_law_1685, ↓fL_law_1544, ↓fL_law_1488, ↓fL_law_1408, ↓fL_law_1402, ↓fL_law_1368, ↓fL_law_1335, ↓fL_law_1305, ↓fL_law_1249, ↓fL_law_1193, ↓fL_law_1137, ↓fL_law_1131, ↓fL_law_1074, ↓fL_law_980, ↓fL_law_888, ↓fL_law_820, ↓fL_law_752, ↓fL_law_672, ↓fL_law_666, ↓fL_law_632, ↓fL_law_593, ↓fL_law_557, ↓fL_law_551, ↓fL_law_517, ↓fL_law_484, ↓fL_law_454, ↓fL_law_398, ↓fL_law_330, ↓fL_law_250]
  · simp (disch := omega) only [↓b1, ↓b2, ↓b3, ↓b4, ↓b5, s6, ↓bd_b, ↓e1b, ↓t4b, ↓e2b, ↓t5b, ↓thb, hz, ↓reduceIte, ↓fL_law_1856, ↓fL_law_1853, ↓fL_law_1797, ↓fL_law_1741, ↓fL_law_1685, ↓fL_law_1544, ↓fL_law_1488, ↓fL_law_1408, ↓fL_law_1402, ↓fL_law_1368, ↓fL_law_1335, ↓fL_law_1305, ↓fL_law_1249, ↓fL_law_1193, ↓fL_law_1137, ↓fL_law_1131, ↓fL_law_1074, ↓fL_law_980, ↓fL_law_888, ↓fL_law_820, ↓fL_law_752, ↓fL_law_672, ↓fL_law_666, ↓fL_law_632, ↓fL_law_593, ↓fL_law_557, ↓fL_law_551, ↓fL_law_517, ↓fL_law_484, ↓fL_law_454, ↓fL_law_398, ↓fL_law_330, ↓fL_law_250]
theorem law_2 (hN : 20000 ≤ N) (hop : xs i &&& 31 = 2) (hi : i + 6 ≤ L) (hL : L ≤ 3072) (hkc : kc + 9 ≤ 601024) (hks : ks + 137 ≤ 7293034) (hR : tk_R A f a xi xa lr wk mm own ad lf la h0 n sz c len) : ∃ h' s', tk_inv A (c + 1) len s' h' ∧ fL_law_23 N mf L xs (F + 1) A (A + 19) (A + 46) (Int32.ofNat i) (wd A f a xi xa lr wk mm o own ad lf la h0) sz kc ks = fL_law_23 N mf L xs F A (A + 19) (A + 46) (Int32.ofNat (i + 6)) h' s' (kc + 1) (ks + 6) := by
  have s0 : tk_sc L xs (Int32.ofNat i) = some (xs i) := by have := law_sc (L := L) (xs := xs) (i := i) (j := 0) (by omega) hL; rw [tI_a] at this; exact this
  have s1 : tk_sc L xs (Int32.ofNat i + 1) = some (xs (i + 1)) := law_sc (j := 1) (by omega) hL
  have b1 := fun k : Int32 → Option Unit => bnd s1 k
  have s2 : tk_sc L xs (Int32.ofNat i + 2) = some (xs (i + 2)) := law_sc (j := 2) (by omega) hL
  have b2 := fun k : Int32 → Option Unit => bnd s2 k
  have s3 : tk_sc L xs (Int32.ofNat i + 3) = some (xs (i + 3)) := law_sc (j := 3) (by omega) hL
  have b3 := fun k : Int32 → Option Unit => bnd s3 k
  have s4 : tk_sc L xs (Int32.ofNat i + 4) = some (xs (i + 4)) := law_sc (j := 4) (by omega) hL
  have b4 := fun k : Int32 → Option Unit => bnd s4 k
  have s5 : tk_sc L xs (Int32.ofNat i + 5) = some (xs (i + 5)) := law_sc (j := 5) (by omega) hL
  have b5 := fun k : Int32 → Option Unit => bnd s5 k
  have s6 : Int32.ofNat i + 6 = Int32.ofNat (i + 6) := tI_a i 6
  have hgo := law_go hi hL
  obtain ⟨p, e1, q, e2, t1, t2, t3, t4, t5, t6⟩ := st_claim (N := N) (o := o) (xs (i + 1)) (xs (i + 2)) (xs (i + 3)) hR
  refine ⟨q.2.1, q.2.2, by rw [t3]; exact t6, ?_⟩
  have th : fX5_thrown N (A + 19) q.2.1 q.2.2 = some (p.1, q.2.1, q.2.2) := by unfold fX5_thrown; rw [t1]; rfl
  have e1b := fun k : _ → Option Unit => bnd e1 k
  have e2b := fun k : _ → Option Unit => bnd e2 k
  have t4b := fun k : _ → Option Unit => bnd t4 k
  have t5b := fun k : _ → Option Unit => bnd t5 k
  have thb := fun k : _ → Option Unit => bnd th k
  rw [fL_law_23, if_neg hgo, s0, Option.bind_some, hop, if_neg (show ¬ ((2 : Int32) = 0) by decide), if_neg (show ¬ ((2 : Int32) = 1) by decide), if_pos (show (2 : Int32) = 2 from rfl)]
  by_cases hz : p.1 = 0
  · have t2b := fun k : _ → Option Unit => bnd (t2 hz) k
    simp (disch := omega) only [↓b1, ↓b2, ↓b3, ↓b4, ↓b5, s6, ↓bd_b, ↓e1b, ↓t4b, ↓e2b, ↓t5b, ↓thb, hz, ↓t2b, cmp0, ↓reduceIte, ↓fL_law_1856, ↓fL_law_1853, ↓fL_law_1797, ↓fL_law_1741, ↓fL_law_1685, ↓fL_law_1544, ↓fL_law_1488, ↓fL_law_1408, ↓fL_law_1402, ↓fL_law_1368, ↓fL_law_1335, ↓fL_law_1305, ↓fL_law_1249, ↓fL_law_1193, ↓fL_law_1137, ↓fL_law_1131, ↓fL_law_1074, ↓fL_law_980, ↓fL_law_888, ↓fL_law_820, ↓fL_law_752, ↓fL_law_672, ↓fL_law_666, ↓fL_law_632, ↓fL_law_593, ↓fL_law_557, ↓fL_law_551, ↓fL_law_517, ↓fL_law_484, ↓fL_law_454, ↓fL_law_398, ↓fL_law_330, ↓fL_law_250]
  · simp (disch := omega) only [↓b1, ↓b2, ↓b3, ↓b4, ↓b5, s6, ↓bd_b, ↓e1b, ↓t4b, ↓e2b, ↓t5b, ↓thb, hz, ↓reduceIte, ↓fL_law_1856, ↓fL_law_1853, ↓fL_law_1797, ↓fL_law_1741, ↓fL_law_1685, ↓fL_law_1544, ↓fL_law_1488, ↓fL_law_1408, ↓fL_law_1402, ↓fL_law_1368, ↓fL_law_1335, ↓fL_law_1305, ↓fL_law_1249, ↓fL_law_1193, ↓fL_law_1137, ↓fL_law_1131, ↓fL_law_1074, ↓fL_law_980, ↓fL_law_888, ↓fL_law_820, ↓fL_law_752, ↓fL_law_672, ↓fL_law_666, ↓fL_law_632, ↓fL_law_593, ↓fL_law_557, ↓fL_law_551, ↓fL_law_517, ↓fL_law_484, ↓fL_law_454, ↓fL_law_398, ↓fL_law_330, ↓fL_law_250]
theorem law_3 (hN : 20000 ≤ N) (hop : xs i &&& 31 = 3) (hi : i + 6 ≤ L) (hL : L ≤ 3072) (hkc : kc + 9 ≤ 601024) (hks : ks + 137 ≤ 7293034) (hR : tk_R A f a xi xa lr wk mm own ad lf la h0 n sz c len) : ∃ h' s', tk_inv A (c + 1) len s' h' ∧ fL_law_23 N mf L xs (F + 1) A (A + 19) (A + 46) (Int32.ofNat i) (wd A f a xi xa lr wk mm o own ad lf la h0) sz kc ks = fL_law_23 N mf L xs F A (A + 19) (A + 46) (Int32.ofNat (i + 6)) h' s' (kc + 1) (ks + 6) := by
  have s0 : tk_sc L xs (Int32.ofNat i) = some (xs i) := by have := law_sc (L := L) (xs := xs) (i := i) (j := 0) (by omega) hL; rw [tI_a] at this; exact this
  have s1 : tk_sc L xs (Int32.ofNat i + 1) = some (xs (i + 1)) := law_sc (j := 1) (by omega) hL
  have b1 := fun k : Int32 → Option Unit => bnd s1 k
  have s2 : tk_sc L xs (Int32.ofNat i + 2) = some (xs (i + 2)) := law_sc (j := 2) (by omega) hL
  have b2 := fun k : Int32 → Option Unit => bnd s2 k
  have s3 : tk_sc L xs (Int32.ofNat i + 3) = some (xs (i + 3)) := law_sc (j := 3) (by omega) hL
  have b3 := fun k : Int32 → Option Unit => bnd s3 k
  have s4 : tk_sc L xs (Int32.ofNat i + 4) = some (xs (i + 4)) := law_sc (j := 4) (by omega) hL
  have b4 := fun k : Int32 → Option Unit => bnd s4 k
  have s5 : tk_sc L xs (Int32.ofNat i + 5) = some (xs (i + 5)) := law_sc (j := 5) (by omega) hL
  have b5 := fun k : Int32 → Option Unit => bnd s5 k
  have s6 : Int32.ofNat i + 6 = Int32.ofNat (i + 6) := tI_a i 6
  have hgo := law_go hi hL
  obtain ⟨p, e1, q, e2, t1, t2, t3, t4, t5, t6⟩ := st_want (N := N) (o := o) (xs (i + 1)) (xs (i + 2)) hN hR
  refine ⟨q.2.1, q.2.2, by rw [t3]; exact t6, ?_⟩
  have th : fX5_thrown N (A + 19) q.2.1 q.2.2 = some (p.1, q.2.1, q.2.2) := by unfold fX5_thrown; rw [t1]; rfl
  have e1b := fun k : _ → Option Unit => bnd e1 k
  have e2b := fun k : _ → Option Unit => bnd e2 k
  have t4b := fun k : _ → Option Unit => bnd t4 k
  have t5b := fun k : _ → Option Unit => bnd t5 k
  have thb := fun k : _ → Option Unit => bnd th k
  rw [fL_law_23, if_neg hgo, s0, Option.bind_some, hop, if_neg (show ¬ ((3 : Int32) = 0) by decide), if_neg (show ¬ ((3 : Int32) = 1) by decide), if_neg (show ¬ ((3 : Int32) = 2) by decide), if_pos (show (3 : Int32) = 3 from rfl)]
  by_cases hz : p.1 = 0
  · have t2b := fun k : _ → Option Unit => bnd (t2 hz) k
    simp (disch := omega) only [↓b1, ↓b2, ↓b3, ↓b4, ↓b5, s6, ↓bd_b, ↓e1b, ↓t4b, ↓e2b, ↓t5b, ↓thb, hz, ↓t2b, cmp0, ↓reduceIte, ↓fL_law_1856, ↓fL_law_1853, ↓fL_law_1797, ↓fL_law_1741, ↓fL_law_1685, ↓fL_law_1544, ↓fL_law_1488, ↓fL_law_1408, ↓fL_law_1402, ↓fL_law_1368, ↓fL_law_1335, ↓fL_law_1305, ↓fL_law_1249, ↓fL_law_1193, ↓fL_law_1137, ↓fL_law_1131, ↓fL_law_1074, ↓fL_law_980, ↓fL_law_888, ↓fL_law_820, ↓fL_law_752, ↓fL_law_672, ↓fL_law_666, ↓fL_law_632, ↓fL_law_593, ↓fL_law_557, ↓fL_law_551, ↓fL_law_517, ↓fL_law_484, ↓fL_law_454, ↓fL_law_398, ↓fL_law_330, ↓fL_law_250]
  · simp (disch := omega) only [↓b1, ↓b2, ↓b3, ↓b4, ↓b5, s6, ↓bd_b, ↓e1b, ↓t4b, ↓e2b, ↓t5b, ↓thb, hz, ↓reduceIte, ↓fL_law_1856, ↓fL_law_1853, ↓fL_law_1797, ↓fL_law_1741, ↓fL_law_1685, ↓fL_law_1544, ↓fL_law_1488, ↓fL_law_1408, ↓fL_law_1402, ↓fL_law_1368, ↓fL_law_1335, ↓fL_law_1305, ↓fL_law_1249, ↓fL_law_1193, ↓fL_law_1137, ↓fL_law_1131, ↓fL_law_1074, ↓fL_law_980, ↓fL_law_888, ↓fL_law_820, ↓fL_law_752, ↓fL_law_672, ↓fL_law_666, ↓fL_law_632, ↓fL_law_593, ↓fL_law_557, ↓fL_law_551, ↓fL_law_517, ↓fL_law_484, ↓fL_law_454, ↓fL_law_398, ↓fL_law_330, ↓fL_law_250]
theorem law_4 (hN : 20000 ≤ N) (hop : xs i &&& 31 = 4) (hi : i + 6 ≤ L) (hL : L ≤ 3072) (hkc : kc + 9 ≤ 601024) (hks : ks + 137 ≤ 7293034) (hR : tk_R A f a xi xa lr wk mm own ad lf la h0 n sz c len) : ∃ h' s', tk_inv A (c + 1) len s' h' ∧ fL_law_23 N mf L xs (F + 1) A (A + 19) (A + 46) (Int32.ofNat i) (wd A f a xi xa lr wk mm o own ad lf la h0) sz kc ks = fL_law_23 N mf L xs F A (A + 19) (A + 46) (Int32.ofNat (i + 6)) h' s' (kc + 1) (ks + 6) := by
  have s0 : tk_sc L xs (Int32.ofNat i) = some (xs i) := by have := law_sc (L := L) (xs := xs) (i := i) (j := 0) (by omega) hL; rw [tI_a] at this; exact this
  have s1 : tk_sc L xs (Int32.ofNat i + 1) = some (xs (i + 1)) := law_sc (j := 1) (by omega) hL
  have b1 := fun k : Int32 → Option Unit => bnd s1 k
  have s2 : tk_sc L xs (Int32.ofNat i + 2) = some (xs (i + 2)) := law_sc (j := 2) (by omega) hL
  have b2 := fun k : Int32 → Option Unit => bnd s2 k
  have s3 : tk_sc L xs (Int32.ofNat i + 3) = some (xs (i + 3)) := law_sc (j := 3) (by omega) hL
  have b3 := fun k : Int32 → Option Unit => bnd s3 k
  have s4 : tk_sc L xs (Int32.ofNat i + 4) = some (xs (i + 4)) := law_sc (j := 4) (by omega) hL
  have b4 := fun k : Int32 → Option Unit => bnd s4 k
  have s5 : tk_sc L xs (Int32.ofNat i + 5) = some (xs (i + 5)) := law_sc (j := 5) (by omega) hL
  have b5 := fun k : Int32 → Option Unit => bnd s5 k
  have s6 : Int32.ofNat i + 6 = Int32.ofNat (i + 6) := tI_a i 6
  have hgo := law_go hi hL
  obtain ⟨p, e1, q, e2, t1, t2, t3, t4, t5, t6⟩ := st_unwant (N := N) (o := o) (xs (i + 1)) hR
  refine ⟨q.2.1, q.2.2, by rw [t3]; exact t6, ?_⟩
  have th : fX5_thrown N (A + 19) q.2.1 q.2.2 = some (p.1, q.2.1, q.2.2) := by unfold fX5_thrown; rw [t1]; rfl
  have e1b := fun k : _ → Option Unit => bnd e1 k
  have e2b := fun k : _ → Option Unit => bnd e2 k
  have t4b := fun k : _ → Option Unit => bnd t4 k
  have t5b := fun k : _ → Option Unit => bnd t5 k
  have thb := fun k : _ → Option Unit => bnd th k
  rw [fL_law_23, if_neg hgo, s0, Option.bind_some, hop, if_neg (show ¬ ((4 : Int32) = 0) by decide), if_neg (show ¬ ((4 : Int32) = 1) by decide), if_neg (show ¬ ((4 : Int32) = 2) by decide), if_neg (show ¬ ((4 : Int32) = 3) by decide), if_pos (show (4 : Int32) = 4 from rfl)]
  by_cases hz : p.1 = 0
  · have t2b := fun k : _ → Option Unit => bnd (t2 hz) k
    simp (disch := omega) only [↓b1, ↓b2, ↓b3, ↓b4, ↓b5, s6, ↓bd_b, ↓e1b, ↓t4b, ↓e2b, ↓t5b, ↓thb, hz, ↓t2b, cmp0, ↓reduceIte, ↓fL_law_1856, ↓fL_law_1853, ↓fL_law_1797, ↓fL_law_1741, ↓fL_law_1685, ↓fL_law_1544, ↓fL_law_1488, ↓fL_law_1408, ↓fL_law_1402, ↓fL_law_1368, ↓fL_law_1335, ↓fL_law_1305, ↓fL_law_1249, ↓fL_law_1193, ↓fL_law_1137, ↓fL_law_1131, ↓fL_law_1074, ↓fL_law_980, ↓fL_law_888, ↓fL_law_820, ↓fL_law_752, ↓fL_law_672, ↓fL_law_666, ↓fL_law_632, ↓fL_law_593, ↓fL_law_557, ↓fL_law_551, ↓fL_law_517, ↓fL_law_484, ↓fL_law_454, ↓fL_law_398, ↓fL_law_330, ↓fL_law_250]
  · simp (disch := omega) only [↓b1, ↓b2, ↓b3, ↓b4, ↓b5, s6, ↓bd_b, ↓e1b, ↓t4b, ↓e2b, ↓t5b, ↓thb, hz, ↓reduceIte, ↓fL_law_1856, ↓fL_law_1853, ↓fL_law_1797, ↓fL_law_1741, ↓fL_law_1685, ↓fL_law_1544, ↓fL_law_1488, ↓fL_law_1408, ↓fL_law_1402, ↓fL_law_1368, ↓fL_law_1335, ↓fL_law_1305, ↓fL_law_1249, ↓fL_law_1193, ↓fL_law_1137, ↓fL_law_1131, ↓fL_law_1074, ↓fL_law_980, ↓fL_law_888, ↓fL_law_820, ↓fL_law_752, ↓fL_law_672, ↓fL_law_666, ↓fL_law_632, ↓fL_law_593, ↓fL_law_557, ↓fL_law_551, ↓fL_law_517, ↓fL_law_484, ↓fL_law_454, ↓fL_law_398, ↓fL_law_330, ↓fL_law_250]
theorem law_5 (hN : 20000 ≤ N) (hop : xs i &&& 31 = 5) (hi : i + 6 ≤ L) (hL : L ≤ 3072) (hkc : kc + 9 ≤ 601024) (hks : ks + 137 ≤ 7293034) (hR : tk_R A f a xi xa lr wk mm own ad lf la h0 n sz c len) : ∃ h' s', tk_inv A (c + 1) len s' h' ∧ fL_law_23 N mf L xs (F + 1) A (A + 19) (A + 46) (Int32.ofNat i) (wd A f a xi xa lr wk mm o own ad lf la h0) sz kc ks = fL_law_23 N mf L xs F A (A + 19) (A + 46) (Int32.ofNat (i + 6)) h' s' (kc + 1) (ks + 6) := by
  have s0 : tk_sc L xs (Int32.ofNat i) = some (xs i) := by have := law_sc (L := L) (xs := xs) (i := i) (j := 0) (by omega) hL; rw [tI_a] at this; exact this
  have s1 : tk_sc L xs (Int32.ofNat i + 1) = some (xs (i + 1)) := law_sc (j := 1) (by omega) hL
  have b1 := fun k : Int32 → Option Unit => bnd s1 k
  have s2 : tk_sc L xs (Int32.ofNat i + 2) = some (xs (i + 2)) := law_sc (j := 2) (by omega) hL
  have b2 := fun k : Int32 → Option Unit => bnd s2 k
  have s3 : tk_sc L xs (Int32.ofNat i + 3) = some (xs (i + 3)) := law_sc (j := 3) (by omega) hL
  have b3 := fun k : Int32 → Option Unit => bnd s3 k
  have s4 : tk_sc L xs (Int32.ofNat i + 4) = some (xs (i + 4)) := law_sc (j := 4) (by omega) hL
  have b4 := fun k : Int32 → Option Unit => bnd s4 k
  have s5 : tk_sc L xs (Int32.ofNat i + 5) = some (xs (i + 5)) := law_sc (j := 5) (by omega) hL
  have b5 := fun k : Int32 → Option Unit => bnd s5 k
  have s6 : Int32.ofNat i + 6 = Int32.ofNat (i + 6) := tI_a i 6
  have hgo := law_go hi hL
  by_cases hv : xs (i + 3) = 0
  · have hv' := hv
    obtain ⟨p, e1, q, e2, t1, t2, t3, t4, t5, t6⟩ := st_bar (N := N) (o := o) (xs (i + 1)) (xs (i + 2)) 0 hR
    refine ⟨q.2.1, q.2.2, by rw [t3]; exact t6, ?_⟩
    have th : fX5_thrown N (A + 19) q.2.1 q.2.2 = some (p.1, q.2.1, q.2.2) := by unfold fX5_thrown; rw [t1]; rfl
    have e1b := fun k : _ → Option Unit => bnd e1 k
    have e2b := fun k : _ → Option Unit => bnd e2 k
    have t4b := fun k : _ → Option Unit => bnd t4 k
    have t5b := fun k : _ → Option Unit => bnd t5 k
    have thb := fun k : _ → Option Unit => bnd th k
    rw [fL_law_23, if_neg hgo, s0, Option.bind_some, hop, if_neg (show ¬ ((5 : Int32) = 0) by decide), if_neg (show ¬ ((5 : Int32) = 1) by decide), if_neg (show ¬ ((5 : Int32) = 2) by decide), if_neg (show ¬ ((5 : Int32) = 3) by decide), if_neg (show ¬ ((5 : Int32) = 4) by decide), if_pos (show (5 : Int32) = 5 from rfl)]
    by_cases hz : p.1 = 0
    · have t2 := t2 hz
      by_cases hq : q.1 = 0
      · rw [show tk_cb q.1 = 0 from if_pos hq] at t2
        have t2b := fun k : _ → Option Unit => bnd t2 k
        simp (disch := omega) only [↓b1, ↓b2, ↓b3, ↓b4, ↓b5, s6, ↓bd_b, ↓e1b, ↓t4b, ↓e2b, ↓t5b, ↓thb, hz, hq, ↓t2b, cmp0, ↓reduceIte, ↓fL_law_1856, ↓fL_law_1853, ↓fL_law_1797, ↓fL_law_1741, ↓fL_law_1685, ↓fL_law_1544, ↓fL_law_1488, ↓fL_law_1408, ↓fL_law_1402, ↓fL_law_1368, ↓fL_law_1335, ↓fL_law_1305, ↓fL_law_1249, ↓fL_law_1193, ↓fL_law_1137, ↓fL_law_1131, ↓fL_law_1074, ↓fL_law_980, ↓fL_law_888, ↓fL_law_820, ↓fL_law_752, ↓fL_law_672, ↓fL_law_666, ↓fL_law_632, ↓fL_law_593, ↓fL_law_557, ↓fL_law_551, ↓fL_law_517, ↓fL_law_484, ↓fL_law_454, ↓fL_law_398, ↓fL_law_330, ↓fL_law_250, hv]
      · rw [show tk_cb q.1 = 1 from if_neg hq] at t2
        have t2b := fun k : _ → Option Unit => bnd t2 k
        simp (disch := omega) only [↓b1, ↓b2, ↓b3, ↓b4, ↓b5, s6, ↓bd_b, ↓e1b, ↓t4b, ↓e2b, ↓t5b, ↓thb, hz, hq, ↓t2b, cmp0, ↓reduceIte, ↓fL_law_1856, ↓fL_law_1853, ↓fL_law_1797, ↓fL_law_1741, ↓fL_law_1685, ↓fL_law_1544, ↓fL_law_1488, ↓fL_law_1408, ↓fL_law_1402, ↓fL_law_1368, ↓fL_law_1335, ↓fL_law_1305, ↓fL_law_1249, ↓fL_law_1193, ↓fL_law_1137, ↓fL_law_1131, ↓fL_law_1074, ↓fL_law_980, ↓fL_law_888, ↓fL_law_820, ↓fL_law_752, ↓fL_law_672, ↓fL_law_666, ↓fL_law_632, ↓fL_law_593, ↓fL_law_557, ↓fL_law_551, ↓fL_law_517, ↓fL_law_484, ↓fL_law_454, ↓fL_law_398, ↓fL_law_330, ↓fL_law_250, hv]
    · simp (disch := omega) only [↓b1, ↓b2, ↓b3, ↓b4, ↓b5, s6, ↓bd_b, ↓e1b, ↓t4b, ↓e2b, ↓t5b, ↓thb, hz, ↓reduceIte, ↓fL_law_1856, ↓fL_law_1853, ↓fL_law_1797, ↓fL_law_1741, ↓fL_law_1685, ↓fL_law_1544, ↓fL_law_1488, ↓fL_law_1408, ↓fL_law_1402, ↓fL_law_1368, ↓fL_law_1335, ↓fL_law_1305, ↓fL_law_1249, ↓fL_law_1193, ↓fL_law_1137, ↓fL_law_1131, ↓fL_law_1074, ↓fL_law_980, ↓fL_law_888, ↓fL_law_820, ↓fL_law_752, ↓fL_law_672, ↓fL_law_666, ↓fL_law_632, ↓fL_law_593, ↓fL_law_557, ↓fL_law_551, ↓fL_law_517, ↓fL_law_484, ↓fL_law_454, ↓fL_law_398, ↓fL_law_330, ↓fL_law_250, hv]
  · have hv' := hv
    obtain ⟨p, e1, q, e2, t1, t2, t3, t4, t5, t6⟩ := st_bar (N := N) (o := o) (xs (i + 1)) (xs (i + 2)) 1 hR
    refine ⟨q.2.1, q.2.2, by rw [t3]; exact t6, ?_⟩
    have th : fX5_thrown N (A + 19) q.2.1 q.2.2 = some (p.1, q.2.1, q.2.2) := by unfold fX5_thrown; rw [t1]; rfl
    have e1b := fun k : _ → Option Unit => bnd e1 k
    have e2b := fun k : _ → Option Unit => bnd e2 k
    have t4b := fun k : _ → Option Unit => bnd t4 k
    have t5b := fun k : _ → Option Unit => bnd t5 k
    have thb := fun k : _ → Option Unit => bnd th k
    rw [fL_law_23, if_neg hgo, s0, Option.bind_some, hop, if_neg (show ¬ ((5 : Int32) = 0) by decide), if_neg (show ¬ ((5 : Int32) = 1) by decide), if_neg (show ¬ ((5 : Int32) = 2) by decide), if_neg (show ¬ ((5 : Int32) = 3) by decide), if_neg (show ¬ ((5 : Int32) = 4) by decide), if_pos (show (5 : Int32) = 5 from rfl)]
    by_cases hz : p.1 = 0
    · have t2 := t2 hz
      by_cases hq : q.1 = 0
      · rw [show tk_cb q.1 = 0 from if_pos hq] at t2
        have t2b := fun k : _ → Option Unit => bnd t2 k
        simp (disch := omega) only [↓b1, ↓b2, ↓b3, ↓b4, ↓b5, s6, ↓bd_b, ↓e1b, ↓t4b, ↓e2b, ↓t5b, ↓thb, hz, hq, ↓t2b, cmp0, ↓reduceIte, ↓fL_law_1856, ↓fL_law_1853, ↓fL_law_1797, ↓fL_law_1741, ↓fL_law_1685, ↓fL_law_1544, ↓fL_law_1488, ↓fL_law_1408, ↓fL_law_1402, ↓fL_law_1368, ↓fL_law_1335, ↓fL_law_1305, ↓fL_law_1249, ↓fL_law_1193, ↓fL_law_1137, ↓fL_law_1131, ↓fL_law_1074, ↓fL_law_980, ↓fL_law_888, ↓fL_law_820, ↓fL_law_752, ↓fL_law_672, ↓fL_law_666, ↓fL_law_632, ↓fL_law_593, ↓fL_law_557, ↓fL_law_551, ↓fL_law_517, ↓fL_law_484, ↓fL_law_454, ↓fL_law_398, ↓fL_law_330, ↓fL_law_250, hv]
      · rw [show tk_cb q.1 = 1 from if_neg hq] at t2
        have t2b := fun k : _ → Option Unit => bnd t2 k
        simp (disch := omega) only [↓b1, ↓b2, ↓b3, ↓b4, ↓b5, s6, ↓bd_b, ↓e1b, ↓t4b, ↓e2b, ↓t5b, ↓thb, hz, hq, ↓t2b, cmp0, ↓reduceIte, ↓fL_law_1856, ↓fL_law_1853, ↓fL_law_1797, ↓fL_law_1741, ↓fL_law_1685, ↓fL_law_1544, ↓fL_law_1488, ↓fL_law_1408, ↓fL_law_1402, ↓fL_law_1368, ↓fL_law_1335, ↓fL_law_1305, ↓fL_law_1249, ↓fL_law_1193, ↓fL_law_1137, ↓fL_law_1131, ↓fL_law_1074, ↓fL_law_980, ↓fL_law_888, ↓fL_law_820, ↓fL_law_752, ↓fL_law_672, ↓fL_law_666, ↓fL_law_632, ↓fL_law_593, ↓fL_law_557, ↓fL_law_551, ↓fL_law_517, ↓fL_law_484, ↓fL_law_454, ↓fL_law_398, ↓fL_law_330, ↓fL_law_250, hv]
    · simp (disch := omega) only [↓b1, ↓b2, ↓b3, ↓b4, ↓b5, s6, ↓bd_b, ↓e1b, ↓t4b, ↓e2b, ↓t5b, ↓thb, hz, ↓reduceIte, ↓fL_law_1856, ↓fL_law_1853, ↓fL_law_1797, ↓fL_law_1741, ↓fL_law_1685, ↓fL_law_1544, ↓fL_law_1488, ↓fL_law_1408, ↓fL_law_1402, ↓fL_law_1368, ↓fL_law_1335, ↓fL_law_1305, ↓fL_law_1249, ↓fL_law_1193, ↓fL_law_1137, ↓fL_law_1131, ↓fL_law_1074, ↓fL_law_980, ↓fL_law_888, ↓fL_law_820, ↓fL_law_752, ↓fL_law_672, ↓fL_law_666, ↓fL_law_632, ↓fL_law_593, ↓fL_law_557, ↓fL_law_551, ↓fL_law_517, ↓fL_law_484, ↓fL_law_454, ↓fL_law_398, ↓fL_law_330, ↓fL_law_250, hv]
theorem law_6 (hN : 20000 ≤ N) (hop : xs i &&& 31 = 6) (hi : i + 6 ≤ L) (hL : L ≤ 3072) (hkc : kc + 9 ≤ 601024) (hks : ks + 137 ≤ 7293034) (hR : tk_R A f a xi xa lr wk mm own ad lf la h0 n sz c len) : ∃ h' s', tk_inv A (c + 1) len s' h' ∧ fL_law_23 N mf L xs (F + 1) A (A + 19) (A + 46) (Int32.ofNat i) (wd A f a xi xa lr wk mm o own ad lf la h0) sz kc ks = fL_law_23 N mf L xs F A (A + 19) (A + 46) (Int32.ofNat (i + 6)) h' s' (kc + 1) (ks + 6) := by
  have s0 : tk_sc L xs (Int32.ofNat i) = some (xs i) := by have := law_sc (L := L) (xs := xs) (i := i) (j := 0) (by omega) hL; rw [tI_a] at this; exact this
  have s1 : tk_sc L xs (Int32.ofNat i + 1) = some (xs (i + 1)) := law_sc (j := 1) (by omega) hL
  have b1 := fun k : Int32 → Option Unit => bnd s1 k
  have s2 : tk_sc L xs (Int32.ofNat i + 2) = some (xs (i + 2)) := law_sc (j := 2) (by omega) hL
  have b2 := fun k : Int32 → Option Unit => bnd s2 k
  have s3 : tk_sc L xs (Int32.ofNat i + 3) = some (xs (i + 3)) := law_sc (j := 3) (by omega) hL
  have b3 := fun k : Int32 → Option Unit => bnd s3 k
  have s4 : tk_sc L xs (Int32.ofNat i + 4) = some (xs (i + 4)) := law_sc (j := 4) (by omega) hL
  have b4 := fun k : Int32 → Option Unit => bnd s4 k
  have s5 : tk_sc L xs (Int32.ofNat i + 5) = some (xs (i + 5)) := law_sc (j := 5) (by omega) hL
  have b5 := fun k : Int32 → Option Unit => bnd s5 k
  have s6 : Int32.ofNat i + 6 = Int32.ofNat (i + 6) := tI_a i 6
  have hgo := law_go hi hL
  by_cases hv : xs (i + 4) = 0
  · have hv' := hv
    obtain ⟨p, e1, q, e2, t1, t2, t3, t4, t5, t6⟩ := st_test (N := N) (o := o) (xs (i + 1)) (xs (i + 2)) (xs (i + 3)) 0 hR
    refine ⟨q.2.1, q.2.2, by rw [t3]; exact t6, ?_⟩
    have th : fX5_thrown N (A + 19) q.2.1 q.2.2 = some (p.1, q.2.1, q.2.2) := by unfold fX5_thrown; rw [t1]; rfl
    have e1b := fun k : _ → Option Unit => bnd e1 k
    have e2b := fun k : _ → Option Unit => bnd e2 k
    have t4b := fun k : _ → Option Unit => bnd t4 k
    have t5b := fun k : _ → Option Unit => bnd t5 k
    have thb := fun k : _ → Option Unit => bnd th k
    rw [fL_law_23, if_neg hgo, s0, Option.bind_some, hop, if_neg (show ¬ ((6 : Int32) = 0) by decide), if_neg (show ¬ ((6 : Int32) = 1) by decide), if_neg (show ¬ ((6 : Int32) = 2) by decide), if_neg (show ¬ ((6 : Int32) = 3) by decide), if_neg (show ¬ ((6 : Int32) = 4) by decide), if_neg (show ¬ ((6 : Int32) = 5) by decide), if_pos (show (6 : Int32) = 6 from rfl)]
    by_cases hz : p.1 = 0
    · have t2 := t2 hz
      by_cases hq : q.1 = 0
      · rw [show tk_cb q.1 = 0 from if_pos hq] at t2
        have t2b := fun k : _ → Option Unit => bnd t2 k
        simp (disch := omega) only [↓b1, ↓b2, ↓b3, ↓b4, ↓b5, s6, ↓bd_b, ↓e1b, ↓t4b, ↓e2b, ↓t5b, ↓thb, hz, hq, ↓t2b, cmp0, ↓reduceIte, ↓fL_law_1856, ↓fL_law_1853, ↓fL_law_1797, ↓fL_law_1741, ↓fL_law_1685, ↓fL_law_1544, ↓fL_law_1488, ↓fL_law_1408, ↓fL_law_1402, ↓fL_law_1368, ↓fL_law_1335, ↓fL_law_1305, ↓fL_law_1249, ↓fL_law_1193, ↓fL_law_1137, ↓fL_law_1131, ↓fL_law_1074, ↓fL_law_980, ↓fL_law_888, ↓fL_law_820, ↓fL_law_752, ↓fL_law_672, ↓fL_law_666, ↓fL_law_632, ↓fL_law_593, ↓fL_law_557, ↓fL_law_551, ↓fL_law_517, ↓fL_law_484, ↓fL_law_454, ↓fL_law_398, ↓fL_law_330, ↓fL_law_250, hv]
      · rw [show tk_cb q.1 = 1 from if_neg hq] at t2
        have t2b := fun k : _ → Option Unit => bnd t2 k
        simp (disch := omega) only [↓b1, ↓b2, ↓b3, ↓b4, ↓b5, s6, ↓bd_b, ↓e1b, ↓t4b, ↓e2b, ↓t5b, ↓thb, hz, hq, ↓t2b, cmp0, ↓reduceIte, ↓fL_law_1856, ↓fL_law_1853, ↓fL_law_1797, ↓fL_law_1741, ↓fL_law_1685, ↓fL_law_1544, ↓fL_law_1488, ↓fL_law_1408, ↓fL_law_1402, ↓fL_law_1368, ↓fL_law_1335, ↓fL_law_1305, ↓fL_law_1249, ↓fL_law_1193, ↓fL_law_1137, ↓fL_law_1131, ↓fL_law_1074, ↓fL_law_980, ↓fL_law_888, ↓fL_law_820, ↓fL_law_752, ↓fL_law_672, ↓fL_law_666, ↓fL_law_632, ↓fL_law_593, ↓fL_law_557, ↓fL_law_551, ↓fL_law_517, ↓fL_law_484, ↓fL_law_454, ↓fL_law_398, ↓fL_law_330, ↓fL_law_250, hv]
    · simp (disch := omega) only [↓b1, ↓b2, ↓b3, ↓b4, ↓b5, s6, ↓bd_b, ↓e1b, ↓t4b, ↓e2b, ↓t5b, ↓thb, hz, ↓reduceIte, ↓fL_law_1856, ↓fL_law_1853, ↓fL_law_1797, ↓fL_law_1741, ↓fL_law_1685, ↓fL_law_1544, ↓fL_law_1488, ↓fL_law_1408, ↓fL_law_1402, ↓fL_law_1368, ↓fL_law_1335, ↓fL_law_1305, ↓fL_law_1249, ↓fL_law_1193, ↓fL_law_1137, ↓fL_law_1131, ↓fL_law_1074, ↓fL_law_980, ↓fL_law_888, ↓fL_law_820, ↓fL_law_752, ↓fL_law_672, ↓fL_law_666, ↓fL_law_632, ↓fL_law_593, ↓fL_law_557, ↓fL_law_551, ↓fL_law_517, ↓fL_law_484, ↓fL_law_454, ↓fL_law_398, ↓fL_law_330, ↓fL_law_250, hv]
  · have hv' := hv
    obtain ⟨p, e1, q, e2, t1, t2, t3, t4, t5, t6⟩ := st_test (N := N) (o := o) (xs (i + 1)) (xs (i + 2)) (xs (i + 3)) 1 hR
    refine ⟨q.2.1, q.2.2, by rw [t3]; exact t6, ?_⟩
    have th : fX5_thrown N (A + 19) q.2.1 q.2.2 = some (p.1, q.2.1, q.2.2) := by unfold fX5_thrown; rw [t1]; rfl
    have e1b := fun k : _ → Option Unit => bnd e1 k
    have e2b := fun k : _ → Option Unit => bnd e2 k
    have t4b := fun k : _ → Option Unit => bnd t4 k
    have t5b := fun k : _ → Option Unit => bnd t5 k
    have thb := fun k : _ → Option Unit => bnd th k
    rw [fL_law_23, if_neg hgo, s0, Option.bind_some, hop, if_neg (show ¬ ((6 : Int32) = 0) by decide), if_neg (show ¬ ((6 : Int32) = 1) by decide), if_neg (show ¬ ((6 : Int32) = 2) by decide), if_neg (show ¬ ((6 : Int32) = 3) by decide), if_neg (show ¬ ((6 : Int32) = 4) by decide), if_neg (show ¬ ((6 : Int32) = 5) by decide), if_pos (show (6 : Int32) = 6 from rfl)]
    by_cases hz : p.1 = 0
    · have t2 := t2 hz
      by_cases hq : q.1 = 0
      · rw [show tk_cb q.1 = 0 from if_pos hq] at t2
        have t2b := fun k : _ → Option Unit => bnd t2 k
        simp (disch := omega) only [↓b1, ↓b2, ↓b3, ↓b4, ↓b5, s6, ↓bd_b, ↓e1b, ↓t4b, ↓e2b, ↓t5b, ↓thb, hz, hq, ↓t2b, cmp0, ↓reduceIte, ↓fL_law_1856, ↓fL_law_1853, ↓fL_law_1797, ↓fL_law_1741, ↓fL_law_1685, ↓fL_law_1544, ↓fL_law_1488, ↓fL_law_1408, ↓fL_law_1402, ↓fL_law_1368, ↓fL_law_1335, ↓fL_law_1305, ↓fL_law_1249, ↓fL_law_1193, ↓fL_law_1137, ↓fL_law_1131, ↓fL_law_1074, ↓fL_law_980, ↓fL_law_888, ↓fL_law_820, ↓fL_law_752, ↓fL_law_672, ↓fL_law_666, ↓fL_law_632, ↓fL_law_593, ↓fL_law_557, ↓fL_law_551, ↓fL_law_517, ↓fL_law_484, ↓fL_law_454, ↓fL_law_398, ↓fL_law_330, ↓fL_law_250, hv]
      · rw [show tk_cb q.1 = 1 from if_neg hq] at t2
        have t2b := fun k : _ → Option Unit => bnd t2 k
        simp (disch := omega) only [↓b1, ↓b2, ↓b3, ↓b4, ↓b5, s6, ↓bd_b, ↓e1b, ↓t4b, ↓e2b, ↓t5b, ↓thb, hz, hq, ↓t2b, cmp0, ↓reduceIte, ↓fL_law_1856, ↓fL_law_1853, ↓fL_law_1797, ↓fL_law_1741, ↓fL_law_1685, ↓fL_law_1544, ↓fL_law_1488, ↓fL_law_1408, ↓fL_law_1402, ↓fL_law_1368, ↓fL_law_1335, ↓fL_law_1305, ↓fL_law_1249, ↓fL_law_1193, ↓fL_law_1137, ↓fL_law_1131, ↓fL_law_1074, ↓fL_law_980, ↓fL_law_888, ↓fL_law_820, ↓fL_law_752, ↓fL_law_672, ↓fL_law_666, ↓fL_law_632, ↓fL_law_593, ↓fL_law_557, ↓fL_law_551, ↓fL_law_517, ↓fL_law_484, ↓fL_law_454, ↓fL_law_398, ↓fL_law_330, ↓fL_law_250, hv]
    · simp (disch := omega) only [↓b1, ↓b2, ↓b3, ↓b4, ↓b5, s6, ↓bd_b, ↓e1b, ↓t4b, ↓e2b, ↓t5b, ↓thb, hz, ↓reduceIte, ↓fL_law_1856, ↓fL_law_1853, ↓fL_law_1797, ↓fL_law_1741, ↓fL_law_1685, ↓fL_law_1544, ↓fL_law_1488, ↓fL_law_1408, ↓fL_law_1402, ↓fL_law_1368, ↓fL_law_1335, ↓fL_law_1305, ↓fL_law_1249, ↓fL_law_1193, ↓fL_law_1137, ↓fL_law_1131, ↓fL_law_1074, ↓fL_law_980, ↓fL_law_888, ↓fL_law_820, ↓fL_law_752, ↓fL_law_672, ↓fL_law_666, ↓fL_law_632, ↓fL_law_593, ↓fL_law_557, ↓fL_law_551, ↓fL_law_517, ↓fL_law_484, ↓fL_law_454, ↓fL_law_398, ↓fL_law_330, ↓fL_law_250, hv]
theorem law_7 (hN : 20000 ≤ N) (hop : xs i &&& 31 = 7) (hi : i + 6 ≤ L) (hL : L ≤ 3072) (hkc : kc + 9 ≤ 601024) (hks : ks + 137 ≤ 7293034) (hR : tk_R A f a xi xa lr wk mm own ad lf la h0 n sz c len) : ∃ h' s', tk_inv A (c + 1) len s' h' ∧ fL_law_23 N mf L xs (F + 1) A (A + 19) (A + 46) (Int32.ofNat i) (wd A f a xi xa lr wk mm o own ad lf la h0) sz kc ks = fL_law_23 N mf L xs F A (A + 19) (A + 46) (Int32.ofNat (i + 6)) h' s' (kc + 1) (ks + 6) := by
  have s0 : tk_sc L xs (Int32.ofNat i) = some (xs i) := by have := law_sc (L := L) (xs := xs) (i := i) (j := 0) (by omega) hL; rw [tI_a] at this; exact this
  have s1 : tk_sc L xs (Int32.ofNat i + 1) = some (xs (i + 1)) := law_sc (j := 1) (by omega) hL
  have b1 := fun k : Int32 → Option Unit => bnd s1 k
  have s2 : tk_sc L xs (Int32.ofNat i + 2) = some (xs (i + 2)) := law_sc (j := 2) (by omega) hL
  have b2 := fun k : Int32 → Option Unit => bnd s2 k
  have s3 : tk_sc L xs (Int32.ofNat i + 3) = some (xs (i + 3)) := law_sc (j := 3) (by omega) hL
  have b3 := fun k : Int32 → Option Unit => bnd s3 k
  have s4 : tk_sc L xs (Int32.ofNat i + 4) = some (xs (i + 4)) := law_sc (j := 4) (by omega) hL
  have b4 := fun k : Int32 → Option Unit => bnd s4 k
  have s5 : tk_sc L xs (Int32.ofNat i + 5) = some (xs (i + 5)) := law_sc (j := 5) (by omega) hL
  have b5 := fun k : Int32 → Option Unit => bnd s5 k
  have s6 : Int32.ofNat i + 6 = Int32.ofNat (i + 6) := tI_a i 6
  have hgo := law_go hi hL
  obtain ⟨p, e1, q, e2, t1, t2, t3, t4, t5, t6⟩ := st_level (N := N) (o := o) (xs (i + 1)) (xs (i + 2)) (xs (i + 3)) hR
  refine ⟨q.2.1, q.2.2, by rw [t3]; exact t6, ?_⟩
  have th : fX5_thrown N (A + 19) q.2.1 q.2.2 = some (p.1, q.2.1, q.2.2) := by unfold fX5_thrown; rw [t1]; rfl
  have e1b := fun k : _ → Option Unit => bnd e1 k
  have e2b := fun k : _ → Option Unit => bnd e2 k
  have t4b := fun k : _ → Option Unit => bnd t4 k
  have t5b := fun k : _ → Option Unit => bnd t5 k
  have thb := fun k : _ → Option Unit => bnd th k
  rw [fL_law_23, if_neg hgo, s0, Option.bind_some, hop, if_neg (show ¬ ((7 : Int32) = 0) by decide), if_neg (show ¬ ((7 : Int32) = 1) by decide), if_neg (show ¬ ((7 : Int32) = 2) by decide), if_neg (show ¬ ((7 : Int32) = 3) by decide), if_neg (show ¬ ((7 : Int32) = 4) by decide), if_neg (show ¬ ((7 : Int32) = 5) by decide), if_neg (show ¬ ((7 : Int32) = 6) by decide), if_pos (show (7 : Int32) = 7 from rfl)]
  by_cases hz : p.1 = 0
  · have t2b := fun k : _ → Option Unit => bnd (t2 hz) k
    simp (disch := omega) only [↓b1, ↓b2, ↓b3, ↓b4, ↓b5, s6, ↓bd_b, ↓e1b, ↓t4b, ↓e2b, ↓t5b, ↓thb, hz, ↓t2b, cmp0, ↓reduceIte, ↓fL_law_1856, ↓fL_law_1853, ↓fL_law_1797, ↓fL_law_1741, ↓fL_law_1685, ↓fL_law_1544, ↓fL_law_1488, ↓fL_law_1408, ↓fL_law_1402, ↓fL_law_1368, ↓fL_law_1335, ↓fL_law_1305, ↓fL_law_1249, ↓fL_law_1193, ↓fL_law_1137, ↓fL_law_1131, ↓fL_law_1074, ↓fL_law_980, ↓fL_law_888, ↓fL_law_820, ↓fL_law_752, ↓fL_law_672, ↓fL_law_666, ↓fL_law_632, ↓fL_law_593, ↓fL_law_557, ↓fL_law_551, ↓fL_law_517, ↓fL_law_484, ↓fL_law_454, ↓fL_law_398, ↓fL_law_330, ↓fL_law_250]
  · simp (disch := omega) only [↓b1, ↓b2, ↓b3, ↓b4, ↓b5, s6, ↓bd_b, ↓e1b, ↓t4b, ↓e2b, ↓t5b, ↓thb, hz, ↓reduceIte, ↓fL_law_1856, ↓fL_law_1853, ↓fL_law_1797, ↓fL_law_1741, ↓fL_law_1685, ↓fL_law_1544, ↓fL_law_1488, ↓fL_law_1408, ↓fL_law_1402, ↓fL_law_1368, ↓fL_law_1335, ↓fL_law_1305, ↓fL_law_1249, ↓fL_law_1193, ↓fL_law_1137, ↓fL_law_1131, ↓fL_law_1074, ↓fL_law_980, ↓fL_law_888, ↓fL_law_820, ↓fL_law_752, ↓fL_law_672, ↓fL_law_666, ↓fL_law_632, ↓fL_law_593, ↓fL_law_557, ↓fL_law_551, ↓fL_law_517, ↓fL_law_484, ↓fL_law_454, ↓fL_law_398, ↓fL_law_330, ↓fL_law_250]
theorem law_8 (hN : 20000 ≤ N) (hop : xs i &&& 31 = 8) (hi : i + 6 ≤ L) (hL : L ≤ 3072) (hkc : kc + 9 ≤ 601024) (hks : ks + 137 ≤ 7293034) (hR : tk_R A f a xi xa lr wk mm own ad lf la h0 n sz c len) : ∃ h' s', tk_inv A (c + 1) len s' h' ∧ fL_law_23 N mf L xs (F + 1) A (A + 19) (A + 46) (Int32.ofNat i) (wd A f a xi xa lr wk mm o own ad lf la h0) sz kc ks = fL_law_23 N mf L xs F A (A + 19) (A + 46) (Int32.ofNat (i + 6)) h' s' (kc + 1) (ks + 6) := by
  have s0 : tk_sc L xs (Int32.ofNat i) = some (xs i) := by have := law_sc (L := L) (xs := xs) (i := i) (j := 0) (by omega) hL; rw [tI_a] at this; exact this
  have s1 : tk_sc L xs (Int32.ofNat i + 1) = some (xs (i + 1)) := law_sc (j := 1) (by omega) hL
  have b1 := fun k : Int32 → Option Unit => bnd s1 k
  have s2 : tk_sc L xs (Int32.ofNat i + 2) = some (xs (i + 2)) := law_sc (j := 2) (by omega) hL
  have b2 := fun k : Int32 → Option Unit => bnd s2 k
  have s3 : tk_sc L xs (Int32.ofNat i + 3) = some (xs (i + 3)) := law_sc (j := 3) (by omega) hL
  have b3 := fun k : Int32 → Option Unit => bnd s3 k
  have s4 : tk_sc L xs (Int32.ofNat i + 4) = some (xs (i + 4)) := law_sc (j := 4) (by omega) hL
  have b4 := fun k : Int32 → Option Unit => bnd s4 k
  have s5 : tk_sc L xs (Int32.ofNat i + 5) = some (xs (i + 5)) := law_sc (j := 5) (by omega) hL
  have b5 := fun k : Int32 → Option Unit => bnd s5 k
  have s6 : Int32.ofNat i + 6 = Int32.ofNat (i + 6) := tI_a i 6
  have hgo := law_go hi hL
  obtain ⟨p, e1, q, e2, t1, t2, t3, t4, t5, t6⟩ := st_gift (N := N) (o := o) (xs (i + 1)) (xs (i + 2)) hN hR
  refine ⟨q.2.1, q.2.2, by rw [t3]; exact t6, ?_⟩
  have th : fX5_thrown N (A + 19) q.2.1 q.2.2 = some (p.1, q.2.1, q.2.2) := by unfold fX5_thrown; rw [t1]; rfl
  have e1b := fun k : _ → Option Unit => bnd e1 k
  have e2b := fun k : _ → Option Unit => bnd e2 k
  have t4b := fun k : _ → Option Unit => bnd t4 k
  have t5b := fun k : _ → Option Unit => bnd t5 k
  have thb := fun k : _ → Option Unit => bnd th k
  rw [fL_law_23, if_neg hgo, s0, Option.bind_some, hop, if_neg (show ¬ ((8 : Int32) = 0) by decide), if_neg (show ¬ ((8 : Int32) = 1) by decide), if_neg (show ¬ ((8 : Int32) = 2) by decide), if_neg (show ¬ ((8 : Int32) = 3) by decide), if_neg (show ¬ ((8 : Int32) = 4) by decide), if_neg (show ¬ ((8 : Int32) = 5) by decide), if_neg (show ¬ ((8 : Int32) = 6) by decide), if_neg (show ¬ ((8 : Int32) = 7) by decide), if_pos (show (8 : Int32) = 8 from rfl)]
  by_cases hz : p.1 = 0
  · have t2b := fun k : _ → Option Unit => bnd (t2 hz) k
    simp (disch := omega) only [↓b1, ↓b2, ↓b3, ↓b4, ↓b5, s6, ↓bd_b, ↓e1b, ↓t4b, ↓e2b, ↓t5b, ↓thb, hz, ↓t2b, cmp0, ↓reduceIte, ↓fL_law_1856, ↓fL_law_1853, ↓fL_law_1797, ↓fL_law_1741, ↓fL_law_1685, ↓fL_law_1544, ↓fL_law_1488, ↓fL_law_1408, ↓fL_law_1402, ↓fL_law_1368, ↓fL_law_1335, ↓fL_law_1305, ↓fL_law_1249, ↓fL_law_1193, ↓fL_law_1137, ↓fL_law_1131, ↓fL_law_1074, ↓fL_law_980, ↓fL_law_888, ↓fL_law_820, ↓fL_law_752, ↓fL_law_672, ↓fL_law_666, ↓fL_law_632, ↓fL_law_593, ↓fL_law_557, ↓fL_law_551, ↓fL_law_517, ↓fL_law_484, ↓fL_law_454, ↓fL_law_398, ↓fL_law_330, ↓fL_law_250]
  · simp (disch := omega) only [↓b1, ↓b2, ↓b3, ↓b4, ↓b5, s6, ↓bd_b, ↓e1b, ↓t4b, ↓e2b, ↓t5b, ↓thb, hz, ↓reduceIte, ↓fL_law_1856, ↓fL_law_1853, ↓fL_law_1797, ↓fL_law_1741, ↓fL_law_1685, ↓fL_law_1544, ↓fL_law_1488, ↓fL_law_1408, ↓fL_law_1402, ↓fL_law_1368, ↓fL_law_1335, ↓fL_law_1305, ↓fL_law_1249, ↓fL_law_1193, ↓fL_law_1137, ↓fL_law_1131, ↓fL_law_1074, ↓fL_law_980, ↓fL_law_888, ↓fL_law_820, ↓fL_law_752, ↓fL_law_672, ↓fL_law_666, ↓fL_law_632, ↓fL_law_593, ↓fL_law_557, ↓fL_law_551, ↓fL_law_517, ↓fL_law_484, ↓fL_law_454, ↓fL_law_398, ↓fL_law_330, ↓fL_law_250]
theorem law_9 (hN : 20000 ≤ N) (hop : xs i &&& 31 = 9) (hi : i + 6 ≤ L) (hL : L ≤ 3072) (hkc : kc + 9 ≤ 601024) (hks : ks + 137 ≤ 7293034) (hR : tk_R A f a xi xa lr wk mm own ad lf la h0 n sz c len) : ∃ h' s', tk_inv A (c + 1) len s' h' ∧ fL_law_23 N mf L xs (F + 1) A (A + 19) (A + 46) (Int32.ofNat i) (wd A f a xi xa lr wk mm o own ad lf la h0) sz kc ks = fL_law_23 N mf L xs F A (A + 19) (A + 46) (Int32.ofNat (i + 6)) h' s' (kc + 1) (ks + 6) := by
  have s0 : tk_sc L xs (Int32.ofNat i) = some (xs i) := by have := law_sc (L := L) (xs := xs) (i := i) (j := 0) (by omega) hL; rw [tI_a] at this; exact this
  have s1 : tk_sc L xs (Int32.ofNat i + 1) = some (xs (i + 1)) := law_sc (j := 1) (by omega) hL
  have b1 := fun k : Int32 → Option Unit => bnd s1 k
  have s2 : tk_sc L xs (Int32.ofNat i + 2) = some (xs (i + 2)) := law_sc (j := 2) (by omega) hL
  have b2 := fun k : Int32 → Option Unit => bnd s2 k
  have s3 : tk_sc L xs (Int32.ofNat i + 3) = some (xs (i + 3)) := law_sc (j := 3) (by omega) hL
  have b3 := fun k : Int32 → Option Unit => bnd s3 k
  have s4 : tk_sc L xs (Int32.ofNat i + 4) = some (xs (i + 4)) := law_sc (j := 4) (by omega) hL
  have b4 := fun k : Int32 → Option Unit => bnd s4 k
  have s5 : tk_sc L xs (Int32.ofNat i + 5) = some (xs (i + 5)) := law_sc (j := 5) (by omega) hL
  have b5 := fun k : Int32 → Option Unit => bnd s5 k
  have s6 : Int32.ofNat i + 6 = Int32.ofNat (i + 6) := tI_a i 6
  have hgo := law_go hi hL
  obtain ⟨p, e1, q, e2, t1, t2, t3, t4, t5, t6⟩ := st_meet (N := N) (o := o) (xs (i + 1)) (xs (i + 2)) hN hR
  refine ⟨q.2.1, q.2.2, by rw [t3]; exact t6, ?_⟩
  have th : fX5_thrown N (A + 19) q.2.1 q.2.2 = some (p.1, q.2.1, q.2.2) := by unfold fX5_thrown; rw [t1]; rfl
  have e1b := fun k : _ → Option Unit => bnd e1 k
  have e2b := fun k : _ → Option Unit => bnd e2 k
  have t4b := fun k : _ → Option Unit => bnd t4 k
  have t5b := fun k : _ → Option Unit => bnd t5 k
  have thb := fun k : _ → Option Unit => bnd th k
  rw [fL_law_23, if_neg hgo, s0, Option.bind_some, hop, if_neg (show ¬ ((9 : Int32) = 0) by decide), if_neg (show ¬ ((9 : Int32) = 1) by decide), if_neg (show ¬ ((9 : Int32) = 2) by decide), if_neg (show ¬ ((9 : Int32) = 3) by decide), if_neg (show ¬ ((9 : Int32) = 4) by decide), if_neg (show ¬ ((9 : Int32) = 5) by decide), if_neg (show ¬ ((9 : Int32) = 6) by decide), if_neg (show ¬ ((9 : Int32) = 7) by decide), if_neg (show ¬ ((9 : Int32) = 8) by decide), if_pos (show (9 : Int32) = 9 from rfl)]
  by_cases hz : p.1 = 0
  · have t2b := fun k : _ → Option Unit => bnd (t2 hz) k
    simp (disch := omega) only [↓b1, ↓b2, ↓b3, ↓b4, ↓b5, s6, ↓bd_b, ↓e1b, ↓t4b, ↓e2b, ↓t5b, ↓thb, hz, ↓t2b, cmp0, ↓reduceIte, ↓fL_law_1856, ↓fL_law_1853, ↓fL_law_1797, ↓fL_law_1741, ↓fL_law_1685, ↓fL_law_1544, ↓fL_law_1488, ↓fL_law_1408, ↓fL_law_1402, ↓fL_law_1368, ↓fL_law_1335, ↓fL_law_1305, ↓fL_law_1249, ↓fL_law_1193, ↓fL_law_1137, ↓fL_law_1131, ↓fL_law_1074, ↓fL_law_980, ↓fL_law_888, ↓fL_law_820, ↓fL_law_752, ↓fL_law_672, ↓fL_law_666, ↓fL_law_632, ↓fL_law_593, ↓fL_law_557, ↓fL_law_551, ↓fL_law_517, ↓fL_law_484, ↓fL_law_454, ↓fL_law_398, ↓fL_law_330, ↓fL_law_250]
  · simp (disch := omega) only [↓b1, ↓b2, ↓b3, ↓b4, ↓b5, s6, ↓bd_b, ↓e1b, ↓t4b, ↓e2b, ↓t5b, ↓thb, hz, ↓reduceIte, ↓fL_law_1856, ↓fL_law_1853, ↓fL_law_1797, ↓fL_law_1741, ↓fL_law_1685, ↓fL_law_1544, ↓fL_law_1488, ↓fL_law_1408, ↓fL_law_1402, ↓fL_law_1368, ↓fL_law_1335, ↓fL_law_1305, ↓fL_law_1249, ↓fL_law_1193, ↓fL_law_1137, ↓fL_law_1131, ↓fL_law_1074, ↓fL_law_980, ↓fL_law_888, ↓fL_law_820, ↓fL_law_752, ↓fL_law_672, ↓fL_law_666, ↓fL_law_632, ↓fL_law_593, ↓fL_law_557, ↓fL_law_551, ↓fL_law_517, ↓fL_law_484, ↓fL_law_454, ↓fL_law_398, ↓fL_law_330, ↓fL_law_250]
theorem law_10 (hN : 20000 ≤ N) (hop : xs i &&& 31 = 10) (hi : i + 6 ≤ L) (hL : L ≤ 3072) (hkc : kc + 9 ≤ 601024) (hks : ks + 137 ≤ 7293034) (hR : tk_R A f a xi xa lr wk mm own ad lf la h0 n sz c len) : ∃ h' s', tk_inv A (c + 1) len s' h' ∧ fL_law_23 N mf L xs (F + 1) A (A + 19) (A + 46) (Int32.ofNat i) (wd A f a xi xa lr wk mm o own ad lf la h0) sz kc ks = fL_law_23 N mf L xs F A (A + 19) (A + 46) (Int32.ofNat (i + 6)) h' s' (kc + 1) (ks + 6) := by
  have s0 : tk_sc L xs (Int32.ofNat i) = some (xs i) := by have := law_sc (L := L) (xs := xs) (i := i) (j := 0) (by omega) hL; rw [tI_a] at this; exact this
  have s1 : tk_sc L xs (Int32.ofNat i + 1) = some (xs (i + 1)) := law_sc (j := 1) (by omega) hL
  have b1 := fun k : Int32 → Option Unit => bnd s1 k
  have s2 : tk_sc L xs (Int32.ofNat i + 2) = some (xs (i + 2)) := law_sc (j := 2) (by omega) hL
  have b2 := fun k : Int32 → Option Unit => bnd s2 k
  have s3 : tk_sc L xs (Int32.ofNat i + 3) = some (xs (i + 3)) := law_sc (j := 3) (by omega) hL
  have b3 := fun k : Int32 → Option Unit => bnd s3 k
  have s4 : tk_sc L xs (Int32.ofNat i + 4) = some (xs (i + 4)) := law_sc (j := 4) (by omega) hL
  have b4 := fun k : Int32 → Option Unit => bnd s4 k
  have s5 : tk_sc L xs (Int32.ofNat i + 5) = some (xs (i + 5)) := law_sc (j := 5) (by omega) hL
  have b5 := fun k : Int32 → Option Unit => bnd s5 k
  have s6 : Int32.ofNat i + 6 = Int32.ofNat (i + 6) := tI_a i 6
  have hgo := law_go hi hL
  obtain ⟨p, e1, q, e2, t1, t2, t3, t4, t5, t6⟩ := st_ring (N := N) (o := o) (xs (i + 1)) (xs (i + 2)) (xs (i + 3)) (xs (i + 4)) hN hR
  refine ⟨q.2.1, q.2.2, by rw [t3]; exact t6, ?_⟩
  have th : fX5_thrown N (A + 19) q.2.1 q.2.2 = some (p.1, q.2.1, q.2.2) := by unfold fX5_thrown; rw [t1]; rfl
  have e1b := fun k : _ → Option Unit => bnd e1 k
  have e2b := fun k : _ → Option Unit => bnd e2 k
  have t4b := fun k : _ → Option Unit => bnd t4 k
  have t5b := fun k : _ → Option Unit => bnd t5 k
  have thb := fun k : _ → Option Unit => bnd th k
  rw [fL_law_23, if_neg hgo, s0, Option.bind_some, hop, if_neg (show ¬ ((10 : Int32) = 0) by decide), if_neg (show ¬ ((10 : Int32) = 1) by decide), if_neg (show ¬ ((10 : Int32) = 2) by decide), if_neg (show ¬ ((10 : Int32) = 3) by decide), if_neg (show ¬ ((10 : Int32) = 4) by decide), if_neg (show ¬ ((10 : Int32) = 5) by decide), if_neg (show ¬ ((10 : Int32) = 6) by decide), if_neg (show ¬ ((10 : Int32) = 7) by decide), if_neg (show ¬ ((10 : Int32) = 8) by decide), if_neg (show ¬ ((10 : Int32) = 9) by decide), if_pos (show (10 : Int32) = 10 from rfl)]
  by_cases hz : p.1 = 0
  · have t2b := fun k : _ → Option Unit => bnd (t2 hz) k
    simp (disch := omega) only [↓b1, ↓b2, ↓b3, ↓b4, ↓b5, s6, ↓bd_b, ↓e1b, ↓t4b, ↓e2b, ↓t5b, ↓thb, hz, ↓t2b, cmp0, ↓reduceIte, ↓fL_law_1856, ↓fL_law_1853, ↓fL_law_1797, ↓fL_law_1741, ↓fL_law_1685, ↓fL_law_1544, ↓fL_law_1488, ↓fL_law_1408, ↓fL_law_1402, ↓fL_law_1368, ↓fL_law_1335, ↓fL_law_1305, ↓fL_law_1249, ↓fL_law_1193, ↓fL_law_1137, ↓fL_law_1131, ↓fL_law_1074, ↓fL_law_980, ↓fL_law_888, ↓fL_law_820, ↓fL_law_752, ↓fL_law_672, ↓fL_law_666, ↓fL_law_632, ↓fL_law_593, ↓fL_law_557, ↓fL_law_551, ↓fL_law_517, ↓fL_law_484, ↓fL_law_454, ↓fL_law_398, ↓fL_law_330, ↓fL_law_250]
  · simp (disch := omega) only [↓b1, ↓b2, ↓b3, ↓b4, ↓b5, s6, ↓bd_b, ↓e1b, ↓t4b, ↓e2b, ↓t5b, ↓thb, hz, ↓reduceIte, ↓fL_law_1856, ↓fL_law_1853, ↓fL_law_1797, ↓fL_law_1741, ↓fL_law_1685, ↓fL_law_1544, ↓fL_law_1488, ↓fL_law_1408, ↓fL_law_1402, ↓fL_law_1368, ↓fL_law_1335, ↓fL_law_1305, ↓fL_law_1249, ↓fL_law_1193, ↓fL_law_1137, ↓fL_law_1131, ↓fL_law_1074, ↓fL_law_980, ↓fL_law_888, ↓fL_law_820, ↓fL_law_752, ↓fL_law_672, ↓fL_law_666, ↓fL_law_632, ↓fL_law_593, ↓fL_law_557, ↓fL_law_551, ↓fL_law_517, ↓fL_law_484, ↓fL_law_454, ↓fL_law_398, ↓fL_law_330, ↓fL_law_250]
theorem law_13 (hN : 20000 ≤ N) (hop : xs i &&& 31 = 13) (hi : i + 6 ≤ L) (hL : L ≤ 3072) (hkc : kc + 9 ≤ 601024) (hks : ks + 137 ≤ 7293034) (hR : tk_R A f a xi xa lr wk mm own ad lf la h0 n sz c len) : ∃ h' s', tk_inv A (c + 1) len s' h' ∧ fL_law_23 N mf L xs (F + 1) A (A + 19) (A + 46) (Int32.ofNat i) (wd A f a xi xa lr wk mm o own ad lf la h0) sz kc ks = fL_law_23 N mf L xs F A (A + 19) (A + 46) (Int32.ofNat (i + 6)) h' s' (kc + 1) (ks + 6) := by
  have s0 : tk_sc L xs (Int32.ofNat i) = some (xs i) := by have := law_sc (L := L) (xs := xs) (i := i) (j := 0) (by omega) hL; rw [tI_a] at this; exact this
  have s1 : tk_sc L xs (Int32.ofNat i + 1) = some (xs (i + 1)) := law_sc (j := 1) (by omega) hL
  have b1 := fun k : Int32 → Option Unit => bnd s1 k
  have s2 : tk_sc L xs (Int32.ofNat i + 2) = some (xs (i + 2)) := law_sc (j := 2) (by omega) hL
  have b2 := fun k : Int32 → Option Unit => bnd s2 k
  have s3 : tk_sc L xs (Int32.ofNat i + 3) = some (xs (i + 3)) := law_sc (j := 3) (by omega) hL
  have b3 := fun k : Int32 → Option Unit => bnd s3 k
  have s4 : tk_sc L xs (Int32.ofNat i + 4) = some (xs (i + 4)) := law_sc (j := 4) (by omega) hL
  have b4 := fun k : Int32 → Option Unit => bnd s4 k
  have s5 : tk_sc L xs (Int32.ofNat i + 5) = some (xs (i + 5)) := law_sc (j := 5) (by omega) hL
  have b5 := fun k : Int32 → Option Unit => bnd s5 k
  have s6 : Int32.ofNat i + 6 = Int32.ofNat (i + 6) := tI_a i 6
  have hgo := law_go hi hL
  obtain ⟨p, e1, q, e2, t1, t2, t3, t4, t5, t6⟩ := st_ringOf (N := N) (o := o) (xs (i + 1)) (xs (i + 2)) hR
  refine ⟨q.2.1, q.2.2, by rw [t3]; exact t6, ?_⟩
  have th : fX5_thrown N (A + 19) q.2.1 q.2.2 = some (p.1, q.2.1, q.2.2) := by unfold fX5_thrown; rw [t1]; rfl
  have e1b := fun k : _ → Option Unit => bnd e1 k
  have e2b := fun k : _ → Option Unit => bnd e2 k
  have t4b := fun k : _ → Option Unit => bnd t4 k
  have t5b := fun k : _ → Option Unit => bnd t5 k
  have thb := fun k : _ → Option Unit => bnd th k
  rw [fL_law_23, if_neg hgo, s0, Option.bind_some, hop, if_neg (show ¬ ((13 : Int32) = 0) by decide), if_neg (show ¬ ((13 : Int32) = 1) by decide), if_neg (show ¬ ((13 : Int32) = 2) by decide), if_neg (show ¬ ((13 : Int32) = 3) by decide), if_neg (show ¬ ((13 : Int32) = 4) by decide), if_neg (show ¬ ((13 : Int32) = 5) by decide), if_neg (show ¬ ((13 : Int32) = 6) by decide), if_neg (show ¬ ((13 : Int32) = 7) by decide), if_neg (show ¬ ((13 : Int32) = 8) by decide), if_neg (show ¬ ((13 : Int32) = 9) by decide), if_neg (show ¬ ((13 : Int32) = 10) by decide), if_neg (show ¬ ((13 : Int32) = 11) by decide), if_neg (show ¬ ((13 : Int32) = 12) by decide), if_pos (show (13 : Int32) = 13 from rfl)]
  by_cases hz : p.1 = 0
  · have t2b := fun k : _ → Option Unit => bnd (t2 hz) k
    simp (disch := omega) only [↓b1, ↓b2, ↓b3, ↓b4, ↓b5, s6, ↓bd_b, ↓e1b, ↓t4b, ↓e2b, ↓t5b, ↓thb, hz, ↓t2b, cmp0, ↓reduceIte, ↓fL_law_1856, ↓fL_law_1853, ↓fL_law_1797, ↓fL_law_1741, ↓fL_law_1685, ↓fL_law_1544, ↓fL_law_1488, ↓fL_law_1408, ↓fL_law_1402, ↓fL_law_1368, ↓fL_law_1335, ↓fL_law_1305, ↓fL_law_1249, ↓fL_law_1193, ↓fL_law_1137, ↓fL_law_1131, ↓fL_law_1074, ↓fL_law_980, ↓fL_law_888, ↓fL_law_820, ↓fL_law_752, ↓fL_law_672, ↓fL_law_666, ↓fL_law_632, ↓fL_law_593, ↓fL_law_557, ↓fL_law_551, ↓fL_law_517, ↓fL_law_484, ↓fL_law_454, ↓fL_law_398, ↓fL_law_330, ↓fL_law_250]
  · simp (disch := omega) only [↓b1, ↓b2, ↓b3, ↓b4, ↓b5, s6, ↓bd_b, ↓e1b, ↓t4b, ↓e2b, ↓t5b, ↓thb, hz, ↓reduceIte, ↓fL_law_1856, ↓fL_law_1853, ↓fL_law_1797, ↓fL_law_1741, ↓fL_law_1685, ↓fL_law_1544, ↓fL_law_1488, ↓fL_law_1408, ↓fL_law_1402, ↓fL_law_1368, ↓fL_law_1335, ↓fL_law_1305, ↓fL_law_1249, ↓fL_law_1193, ↓fL_law_1137, ↓fL_law_1131, ↓fL_law_1074, ↓fL_law_980, ↓fL_law_888, ↓fL_law_820, ↓fL_law_752, ↓fL_law_672, ↓fL_law_666, ↓fL_law_632, ↓fL_law_593, ↓fL_law_557, ↓fL_law_551, ↓fL_law_517, ↓fL_law_484, ↓fL_law_454, ↓fL_law_398, ↓fL_law_330, ↓fL_law_250]
theorem law_14 (hN : 20000 ≤ N) (hop : xs i &&& 31 = 14) (hi : i + 6 ≤ L) (hL : L ≤ 3072) (hkc : kc + 9 ≤ 601024) (hks : ks + 137 ≤ 7293034) (hR : tk_R A f a xi xa lr wk mm own ad lf la h0 n sz c len) : ∃ h' s', tk_inv A (c + 1) len s' h' ∧ fL_law_23 N mf L xs (F + 1) A (A + 19) (A + 46) (Int32.ofNat i) (wd A f a xi xa lr wk mm o own ad lf la h0) sz kc ks = fL_law_23 N mf L xs F A (A + 19) (A + 46) (Int32.ofNat (i + 6)) h' s' (kc + 1) (ks + 6) := by
  have s0 : tk_sc L xs (Int32.ofNat i) = some (xs i) := by have := law_sc (L := L) (xs := xs) (i := i) (j := 0) (by omega) hL; rw [tI_a] at this; exact this
  have s1 : tk_sc L xs (Int32.ofNat i + 1) = some (xs (i + 1)) := law_sc (j := 1) (by omega) hL
  have b1 := fun k : Int32 → Option Unit => bnd s1 k
  have s2 : tk_sc L xs (Int32.ofNat i + 2) = some (xs (i + 2)) := law_sc (j := 2) (by omega) hL
  have b2 := fun k : Int32 → Option Unit => bnd s2 k
  have s3 : tk_sc L xs (Int32.ofNat i + 3) = some (xs (i + 3)) := law_sc (j := 3) (by omega) hL
  have b3 := fun k : Int32 → Option Unit => bnd s3 k
  have s4 : tk_sc L xs (Int32.ofNat i + 4) = some (xs (i + 4)) := law_sc (j := 4) (by omega) hL
  have b4 := fun k : Int32 → Option Unit => bnd s4 k
  have s5 : tk_sc L xs (Int32.ofNat i + 5) = some (xs (i + 5)) := law_sc (j := 5) (by omega) hL
  have b5 := fun k : Int32 → Option Unit => bnd s5 k
  have s6 : Int32.ofNat i + 6 = Int32.ofNat (i + 6) := tI_a i 6
  have hgo := law_go hi hL
  obtain ⟨p, e1, q, e2, t1, t2, t3, t4, t5, t6⟩ := st_missed (N := N) (o := o) (xs (i + 1)) hN hR
  refine ⟨q.2.1, q.2.2, by rw [t3]; exact t6, ?_⟩
  have th : fX5_thrown N (A + 19) q.2.1 q.2.2 = some (p.1, q.2.1, q.2.2) := by unfold fX5_thrown; rw [t1]; rfl
  have e1b := fun k : _ → Option Unit => bnd e1 k
  have e2b := fun k : _ → Option Unit => bnd e2 k
  have t4b := fun k : _ → Option Unit => bnd t4 k
  have t5b := fun k : _ → Option Unit => bnd t5 k
  have thb := fun k : _ → Option Unit => bnd th k
  rw [fL_law_23, if_neg hgo, s0, Option.bind_some, hop, if_neg (show ¬ ((14 : Int32) = 0) by decide), if_neg (show ¬ ((14 : Int32) = 1) by decide), if_neg (show ¬ ((14 : Int32) = 2) by decide), if_neg (show ¬ ((14 : Int32) = 3) by decide), if_neg (show ¬ ((14 : Int32) = 4) by decide), if_neg (show ¬ ((14 : Int32) = 5) by decide), if_neg (show ¬ ((14 : Int32) = 6) by decide), if_neg (show ¬ ((14 : Int32) = 7) by decide), if_neg (show ¬ ((14 : Int32) = 8) by decide), if_neg (show ¬ ((14 : Int32) = 9) by decide), if_neg (show ¬ ((14 : Int32) = 10) by decide), if_neg (show ¬ ((14 : Int32) = 11) by decide), if_neg (show ¬ ((14 : Int32) = 12) by decide), if_neg (show ¬ ((14 : Int32) = 13) by decide), if_pos (show (14 : Int32) = 14 from rfl)]
  by_cases hz : p.1 = 0
  · have t2 := t2 hz
    by_cases hq : q.1 = 0
    · rw [show tk_cb q.1 = 0 from if_pos hq] at t2
      have t2b := fun k : _ → Option Unit => bnd t2 k
      simp (disch := omega) only [↓b1, ↓b2, ↓b3, ↓b4, ↓b5, s6, ↓bd_b, ↓e1b, ↓t4b, ↓e2b, ↓t5b, ↓thb, hz, hq, ↓t2b, cmp0, ↓reduceIte, ↓fL_law_1856, ↓fL_law_1853, ↓fL_law_1797, ↓fL_law_1741, ↓fL_law_1685, ↓fL_law_1544, ↓fL_law_1488, ↓fL_law_1408, ↓fL_law_1402, ↓fL_law_1368, ↓fL_law_1335, ↓fL_law_1305, ↓fL_law_1249, ↓fL_law_1193, ↓fL_law_1137, ↓fL_law_1131, ↓fL_law_1074, ↓fL_law_980, ↓fL_law_888, ↓fL_law_820, ↓fL_law_752, ↓fL_law_672, ↓fL_law_666, ↓fL_law_632, ↓fL_law_593, ↓fL_law_557, ↓fL_law_551, ↓fL_law_517, ↓fL_law_484, ↓fL_law_454, ↓fL_law_398, ↓fL_law_330, ↓fL_law_250]
    · rw [show tk_cb q.1 = 1 from if_neg hq] at t2
      have t2b := fun k : _ → Option Unit => bnd t2 k
      simp (disch := omega) only [↓b1, ↓b2, ↓b3, ↓b4, ↓b5, s6, ↓bd_b, ↓e1b, ↓t4b, ↓e2b, ↓t5b, ↓thb, hz, hq, ↓t2b, cmp0, ↓reduceIte, ↓fL_law_1856, ↓fL_law_1853, ↓fL_law_1797, ↓fL_law_1741, ↓fL_law_1685, ↓fL_law_1544, ↓fL_law_1488, ↓fL_law_1408, ↓fL_law_1402, ↓fL_law_1368, ↓fL_law_1335, ↓fL_law_1305, ↓fL_law_1249, ↓fL_law_1193, ↓fL_law_1137, ↓fL_law_1131, ↓fL_law_1074, ↓fL_law_980, ↓fL_law_888, ↓fL_law_820, ↓fL_law_752, ↓fL_law_672, ↓fL_law_666, ↓fL_law_632, ↓fL_law_593, ↓fL_law_557, ↓fL_law_551, ↓fL_law_517, ↓fL_law_484, ↓fL_law_454, ↓fL_law_398, ↓fL_law_330, ↓fL_law_250]
  · simp (disch := omega) only [↓b1, ↓b2, ↓b3, ↓b4, ↓b5, s6, ↓bd_b, ↓e1b, ↓t4b, ↓e2b, ↓t5b, ↓thb, hz, ↓reduceIte, ↓fL_law_1856, ↓fL_law_1853, ↓fL_law_1797, ↓fL_law_1741, ↓fL_law_1685, ↓fL_law_1544, ↓fL_law_1488, ↓fL_law_1408, ↓fL_law_1402, ↓fL_law_1368, ↓fL_law_1335, ↓fL_law_1305, ↓fL_law_1249, ↓fL_law_1193, ↓fL_law_1137, ↓fL_law_1131, ↓fL_law_1074, ↓fL_law_980, ↓fL_law_888, ↓fL_law_820, ↓fL_law_752, ↓fL_law_672, ↓fL_law_666, ↓fL_law_632, ↓fL_law_593, ↓fL_law_557, ↓fL_law_551, ↓fL_law_517, ↓fL_law_484, ↓fL_law_454, ↓fL_law_398, ↓fL_law_330, ↓fL_law_250]
theorem law_15 (hN : 20000 ≤ N) (hop : xs i &&& 31 = 15) (hi : i + 6 ≤ L) (hL : L ≤ 3072) (hkc : kc + 9 ≤ 601024) (hks : ks + 137 ≤ 7293034) (hR : tk_R A f a xi xa lr wk mm own ad lf la h0 n sz c len) : ∃ h' s', tk_inv A (c + 1) len s' h' ∧ fL_law_23 N mf L xs (F + 1) A (A + 19) (A + 46) (Int32.ofNat i) (wd A f a xi xa lr wk mm o own ad lf la h0) sz kc ks = fL_law_23 N mf L xs F A (A + 19) (A + 46) (Int32.ofNat (i + 6)) h' s' (kc + 1) (ks + 6) := by
  have s0 : tk_sc L xs (Int32.ofNat i) = some (xs i) := by have := law_sc (L := L) (xs := xs) (i := i) (j := 0) (by omega) hL; rw [tI_a] at this; exact this
  have s1 : tk_sc L xs (Int32.ofNat i + 1) = some (xs (i + 1)) := law_sc (j := 1) (by omega) hL
  have b1 := fun k : Int32 → Option Unit => bnd s1 k
  have s2 : tk_sc L xs (Int32.ofNat i + 2) = some (xs (i + 2)) := law_sc (j := 2) (by omega) hL
  have b2 := fun k : Int32 → Option Unit => bnd s2 k
  have s3 : tk_sc L xs (Int32.ofNat i + 3) = some (xs (i + 3)) := law_sc (j := 3) (by omega) hL
  have b3 := fun k : Int32 → Option Unit => bnd s3 k
  have s4 : tk_sc L xs (Int32.ofNat i + 4) = some (xs (i + 4)) := law_sc (j := 4) (by omega) hL
  have b4 := fun k : Int32 → Option Unit => bnd s4 k
  have s5 : tk_sc L xs (Int32.ofNat i + 5) = some (xs (i + 5)) := law_sc (j := 5) (by omega) hL
  have b5 := fun k : Int32 → Option Unit => bnd s5 k
  have s6 : Int32.ofNat i + 6 = Int32.ofNat (i + 6) := tI_a i 6
  have hgo := law_go hi hL
  obtain ⟨p, e1, q, e2, t1, t2, t3, t4, t5, t6⟩ := st_waited (N := N) (o := o) (xs (i + 1)) hR
  refine ⟨q.2.1, q.2.2, by rw [t3]; exact t6, ?_⟩
  have th : fX5_thrown N (A + 19) q.2.1 q.2.2 = some (p.1, q.2.1, q.2.2) := by unfold fX5_thrown; rw [t1]; rfl
  have e1b := fun k : _ → Option Unit => bnd e1 k
  have e2b := fun k : _ → Option Unit => bnd e2 k
  have t4b := fun k : _ → Option Unit => bnd t4 k
  have t5b := fun k : _ → Option Unit => bnd t5 k
  have thb := fun k : _ → Option Unit => bnd th k
  rw [fL_law_23, if_neg hgo, s0, Option.bind_some, hop, if_neg (show ¬ ((15 : Int32) = 0) by decide), if_neg (show ¬ ((15 : Int32) = 1) by decide), if_neg (show ¬ ((15 : Int32) = 2) by decide), if_neg (show ¬ ((15 : Int32) = 3) by decide), if_neg (show ¬ ((15 : Int32) = 4) by decide), if_neg (show ¬ ((15 : Int32) = 5) by decide), if_neg (show ¬ ((15 : Int32) = 6) by decide), if_neg (show ¬ ((15 : Int32) = 7) by decide), if_neg (show ¬ ((15 : Int32) = 8) by decide), if_neg (show ¬ ((15 : Int32) = 9) by decide), if_neg (show ¬ ((15 : Int32) = 10) by decide), if_neg (show ¬ ((15 : Int32) = 11) by decide), if_neg (show ¬ ((15 : Int32) = 12) by decide), if_neg (show ¬ ((15 : Int32) = 13) by decide), if_neg (show ¬ ((15 : Int32) = 14) by decide), if_pos (show (15 : Int32) = 15 from rfl)]
  by_cases hz : p.1 = 0
  · have t2b := fun k : _ → Option Unit => bnd (t2 hz) k
    simp (disch := omega) only [↓b1, ↓b2, ↓b3, ↓b4, ↓b5, s6, ↓bd_b, ↓e1b, ↓t4b, ↓e2b, ↓t5b, ↓thb, hz, ↓t2b, cmp0, ↓reduceIte, ↓fL_law_1856, ↓fL_law_1853, ↓fL_law_1797, ↓fL_law_1741, ↓fL_law_1685, ↓fL_law_1544, ↓fL_law_1488, ↓fL_law_1408, ↓fL_law_1402, ↓fL_law_1368, ↓fL_law_1335, ↓fL_law_1305, ↓fL_law_1249, ↓fL_law_1193, ↓fL_law_1137, ↓fL_law_1131, ↓fL_law_1074, ↓fL_law_980, ↓fL_law_888, ↓fL_law_820, ↓fL_law_752, ↓fL_law_672, ↓fL_law_666, ↓fL_law_632, ↓fL_law_593, ↓fL_law_557, ↓fL_law_551, ↓fL_law_517, ↓fL_law_484, ↓fL_law_454, ↓fL_law_398, ↓fL_law_330, ↓fL_law_250]
  · simp (disch := omega) only [↓b1, ↓b2, ↓b3, ↓b4, ↓b5, s6, ↓bd_b, ↓e1b, ↓t4b, ↓e2b, ↓t5b, ↓thb, hz, ↓reduceIte, ↓fL_law_1856, ↓fL_law_1853, ↓fL_law_1797, ↓fL_law_1741, ↓fL_law_1685, ↓fL_law_1544, ↓fL_law_1488, ↓fL_law_1408, ↓fL_law_1402, ↓fL_law_1368, ↓fL_law_1335, ↓fL_law_1305, ↓fL_law_1249, ↓fL_law_1193, ↓fL_law_1137, ↓fL_law_1131, ↓fL_law_1074, ↓fL_law_980, ↓fL_law_888, ↓fL_law_820, ↓fL_law_752, ↓fL_law_672, ↓fL_law_666, ↓fL_law_632, ↓fL_law_593, ↓fL_law_557, ↓fL_law_551, ↓fL_law_517, ↓fL_law_484, ↓fL_law_454, ↓fL_law_398, ↓fL_law_330, ↓fL_law_250]
theorem law_16 (hN : 20000 ≤ N) (hop : xs i &&& 31 = 16) (hi : i + 6 ≤ L) (hL : L ≤ 3072) (hkc : kc + 9 ≤ 601024) (hks : ks + 137 ≤ 7293034) (hR : tk_R A f a xi xa lr wk mm own ad lf la h0 n sz c len) : ∃ h' s', tk_inv A (c + 1) len s' h' ∧ fL_law_23 N mf L xs (F + 1) A (A + 19) (A + 46) (Int32.ofNat i) (wd A f a xi xa lr wk mm o own ad lf la h0) sz kc ks = fL_law_23 N mf L xs F A (A + 19) (A + 46) (Int32.ofNat (i + 6)) h' s' (kc + 1) (ks + 6) := by
  have s0 : tk_sc L xs (Int32.ofNat i) = some (xs i) := by have := law_sc (L := L) (xs := xs) (i := i) (j := 0) (by omega) hL; rw [tI_a] at this; exact this
  have s1 : tk_sc L xs (Int32.ofNat i + 1) = some (xs (i + 1)) := law_sc (j := 1) (by omega) hL
  have b1 := fun k : Int32 → Option Unit => bnd s1 k
  have s2 : tk_sc L xs (Int32.ofNat i + 2) = some (xs (i + 2)) := law_sc (j := 2) (by omega) hL
  have b2 := fun k : Int32 → Option Unit => bnd s2 k
  have s3 : tk_sc L xs (Int32.ofNat i + 3) = some (xs (i + 3)) := law_sc (j := 3) (by omega) hL
  have b3 := fun k : Int32 → Option Unit => bnd s3 k
  have s4 : tk_sc L xs (Int32.ofNat i + 4) = some (xs (i + 4)) := law_sc (j := 4) (by omega) hL
  have b4 := fun k : Int32 → Option Unit => bnd s4 k
  have s5 : tk_sc L xs (Int32.ofNat i + 5) = some (xs (i + 5)) := law_sc (j := 5) (by omega) hL
  have b5 := fun k : Int32 → Option Unit => bnd s5 k
  have s6 : Int32.ofNat i + 6 = Int32.ofNat (i + 6) := tI_a i 6
  have hgo := law_go hi hL
  obtain ⟨p, e1, q, e2, t1, t2, t3, t4, t5, t6⟩ := st_days (N := N) (o := o) (xs (i + 1)) hR
  refine ⟨q.2.1, q.2.2, by rw [t3]; exact t6, ?_⟩
  have th : fX5_thrown N (A + 19) q.2.1 q.2.2 = some (p.1, q.2.1, q.2.2) := by unfold fX5_thrown; rw [t1]; rfl
  have e1b := fun k : _ → Option Unit => bnd e1 k
  have e2b := fun k : _ → Option Unit => bnd e2 k
  have t4b := fun k : _ → Option Unit => bnd t4 k
  have t5b := fun k : _ → Option Unit => bnd t5 k
  have thb := fun k : _ → Option Unit => bnd th k
  rw [fL_law_23, if_neg hgo, s0, Option.bind_some, hop, if_neg (show ¬ ((16 : Int32) = 0) by decide), if_neg (show ¬ ((16 : Int32) = 1) by decide), if_neg (show ¬ ((16 : Int32) = 2) by decide), if_neg (show ¬ ((16 : Int32) = 3) by decide), if_neg (show ¬ ((16 : Int32) = 4) by decide), if_neg (show ¬ ((16 : Int32) = 5) by decide), if_neg (show ¬ ((16 : Int32) = 6) by decide), if_neg (show ¬ ((16 : Int32) = 7) by decide), if_neg (show ¬ ((16 : Int32) = 8) by decide), if_neg (show ¬ ((16 : Int32) = 9) by decide), if_neg (show ¬ ((16 : Int32) = 10) by decide), if_neg (show ¬ ((16 : Int32) = 11) by decide), if_neg (show ¬ ((16 : Int32) = 12) by decide), if_neg (show ¬ ((16 : Int32) = 13) by decide), if_neg (show ¬ ((16 : Int32) = 14) by decide), if_neg (show ¬ ((16 : Int32) = 15) by decide), if_pos (show (16 : Int32) = 16 from rfl)]
  by_cases hz : p.1 = 0
  · have t2b := fun k : _ → Option Unit => bnd (t2 hz) k
    simp (disch := omega) only [↓b1, ↓b2, ↓b3, ↓b4, ↓b5, s6, ↓bd_b, ↓e1b, ↓t4b, ↓e2b, ↓t5b, ↓thb, hz, ↓t2b, cmp0, ↓reduceIte, ↓fL_law_1856, ↓fL_law_1853, ↓fL_law_1797, ↓fL_law_1741, ↓fL_law_1685, ↓fL_law_1544, ↓fL_law_1488, ↓fL_law_1408, ↓fL_law_1402, ↓fL_law_1368, ↓fL_law_1335, ↓fL_law_1305, ↓fL_law_1249, ↓fL_law_1193, ↓fL_law_1137, ↓fL_law_1131, ↓fL_law_1074, ↓fL_law_980, ↓fL_law_888, ↓fL_law_820, ↓fL_law_752, ↓fL_law_672, ↓fL_law_666, ↓fL_law_632, ↓fL_law_593, ↓fL_law_557, ↓fL_law_551, ↓fL_law_517, ↓fL_law_484, ↓fL_law_454, ↓fL_law_398, ↓fL_law_330, ↓fL_law_250]
  · simp (disch := omega) only [↓b1, ↓b2, ↓b3, ↓b4, ↓b5, s6, ↓bd_b, ↓e1b, ↓t4b, ↓e2b, ↓t5b, ↓thb, hz, ↓reduceIte, ↓fL_law_1856, ↓fL_law_1853, ↓fL_law_1797, ↓fL_law_1741, ↓fL_law_1685, ↓fL_law_1544, ↓fL_law_1488, ↓fL_law_1408, ↓fL_law_1402, ↓fL_law_1368, ↓fL_law_1335, ↓fL_law_1305, ↓fL_law_1249, ↓fL_law_1193, ↓fL_law_1137, ↓fL_law_1131, ↓fL_law_1074, ↓fL_law_980, ↓fL_law_888, ↓fL_law_820, ↓fL_law_752, ↓fL_law_672, ↓fL_law_666, ↓fL_law_632, ↓fL_law_593, ↓fL_law_557, ↓fL_law_551, ↓fL_law_517, ↓fL_law_484, ↓fL_law_454, ↓fL_law_398, ↓fL_law_330, ↓fL_law_250]
theorem law_17 (hN : 20000 ≤ N) (hop : xs i &&& 31 = 17) (hi : i + 6 ≤ L) (hL : L ≤ 3072) (hkc : kc + 9 ≤ 601024) (hks : ks + 137 ≤ 7293034) (hR : tk_R A f a xi xa lr wk mm own ad lf la h0 n sz c len) : ∃ h' s', tk_inv A (c + 1) len s' h' ∧ fL_law_23 N mf L xs (F + 1) A (A + 19) (A + 46) (Int32.ofNat i) (wd A f a xi xa lr wk mm o own ad lf la h0) sz kc ks = fL_law_23 N mf L xs F A (A + 19) (A + 46) (Int32.ofNat (i + 6)) h' s' (kc + 1) (ks + 6) := by
  have s0 : tk_sc L xs (Int32.ofNat i) = some (xs i) := by have := law_sc (L := L) (xs := xs) (i := i) (j := 0) (by omega) hL; rw [tI_a] at this; exact this
  have s1 : tk_sc L xs (Int32.ofNat i + 1) = some (xs (i + 1)) := law_sc (j := 1) (by omega) hL
  have b1 := fun k : Int32 → Option Unit => bnd s1 k
  have s2 : tk_sc L xs (Int32.ofNat i + 2) = some (xs (i + 2)) := law_sc (j := 2) (by omega) hL
  have b2 := fun k : Int32 → Option Unit => bnd s2 k
  have s3 : tk_sc L xs (Int32.ofNat i + 3) = some (xs (i + 3)) := law_sc (j := 3) (by omega) hL
  have b3 := fun k : Int32 → Option Unit => bnd s3 k
  have s4 : tk_sc L xs (Int32.ofNat i + 4) = some (xs (i + 4)) := law_sc (j := 4) (by omega) hL
  have b4 := fun k : Int32 → Option Unit => bnd s4 k
  have s5 : tk_sc L xs (Int32.ofNat i + 5) = some (xs (i + 5)) := law_sc (j := 5) (by omega) hL
  have b5 := fun k : Int32 → Option Unit => bnd s5 k
  have s6 : Int32.ofNat i + 6 = Int32.ofNat (i + 6) := tI_a i 6
  have hgo := law_go hi hL
  obtain ⟨p, e1, q, e2, t1, t2, t3, t4, t5, t6⟩ := st_word (N := N) (o := o) (xs (i + 1)) hR
  refine ⟨q.2.1, q.2.2, by rw [t3]; exact t6, ?_⟩
  have th : fX5_thrown N (A + 19) q.2.1 q.2.2 = some (p.1, q.2.1, q.2.2) := by unfold fX5_thrown; rw [t1]; rfl
  have e1b := fun k : _ → Option Unit => bnd e1 k
  have e2b := fun k : _ → Option Unit => bnd e2 k
  have t4b := fun k : _ → Option Unit => bnd t4 k
  have t5b := fun k : _ → Option Unit => bnd t5 k
  have thb := fun k : _ → Option Unit => bnd th k
  rw [fL_law_23, if_neg hgo, s0, Option.bind_some, hop, if_neg (show ¬ ((17 : Int32) = 0) by decide), if_neg (show ¬ ((17 : Int32) = 1) by decide), if_neg (show ¬ ((17 : Int32) = 2) by decide), if_neg (show ¬ ((17 : Int32) = 3) by decide), if_neg (show ¬ ((17 : Int32) = 4) by decide), if_neg (show ¬ ((17 : Int32) = 5) by decide), if_neg (show ¬ ((17 : Int32) = 6) by decide), if_neg (show ¬ ((17 : Int32) = 7) by decide), if_neg (show ¬ ((17 : Int32) = 8) by decide), if_neg (show ¬ ((17 : Int32) = 9) by decide), if_neg (show ¬ ((17 : Int32) = 10) by decide), if_neg (show ¬ ((17 : Int32) = 11) by decide), if_neg (show ¬ ((17 : Int32) = 12) by decide), if_neg (show ¬ ((17 : Int32) = 13) by decide), if_neg (show ¬ ((17 : Int32) = 14) by decide), if_neg (show ¬ ((17 : Int32) = 15) by decide), if_neg (show ¬ ((17 : Int32) = 16) by decide), if_pos (show (17 : Int32) = 17 from rfl)]
  by_cases hz : p.1 = 0
  · have t2b := fun k : _ → Option Unit => bnd (t2 hz) k
    simp (disch := omega) only [↓b1, ↓b2, ↓b3, ↓b4, ↓b5, s6, ↓bd_b, ↓e1b, ↓t4b, ↓e2b, ↓t5b, ↓thb, hz, ↓t2b, cmp0, ↓reduceIte, ↓fL_law_1856, ↓fL_law_1853, ↓fL_law_1797, ↓fL_law_1741, ↓fL_law_1685, ↓fL_law_1544, ↓fL_law_1488, ↓fL_law_1408, ↓fL_law_1402, ↓fL_law_1368, ↓fL_law_1335, ↓fL_law_1305, ↓fL_law_1249, ↓fL_law_1193, ↓fL_law_1137, ↓fL_law_1131, ↓fL_law_1074, ↓fL_law_980, ↓fL_law_888, ↓fL_law_820, ↓fL_law_752, ↓fL_law_672, ↓fL_law_666, ↓fL_law_632, ↓fL_law_593, ↓fL_law_557, ↓fL_law_551, ↓fL_law_517, ↓fL_law_484, ↓fL_law_454, ↓fL_law_398, ↓fL_law_330, ↓fL_law_250]
  · simp (disch := omega) only [↓b1, ↓b2, ↓b3, ↓b4, ↓b5, s6, ↓bd_b, ↓e1b, ↓t4b, ↓e2b, ↓t5b, ↓thb, hz, ↓reduceIte, ↓fL_law_1856, ↓fL_law_1853, ↓fL_law_1797, ↓fL_law_1741, ↓fL_law_1685, ↓fL_law_1544, ↓fL_law_1488, ↓fL_law_1408, ↓fL_law_1402, ↓fL_law_1368, ↓fL_law_1335, ↓fL_law_1305, ↓fL_law_1249, ↓fL_law_1193, ↓fL_law_1137, ↓fL_law_1131, ↓fL_law_1074, ↓fL_law_980, ↓fL_law_888, ↓fL_law_820, ↓fL_law_752, ↓fL_law_672, ↓fL_law_666, ↓fL_law_632, ↓fL_law_593, ↓fL_law_557, ↓fL_law_551, ↓fL_law_517, ↓fL_law_484, ↓fL_law_454, ↓fL_law_398, ↓fL_law_330, ↓fL_law_250]
theorem law_18 (hN : 20000 ≤ N) (hop : xs i &&& 31 = 18) (hi : i + 6 ≤ L) (hL : L ≤ 3072) (hkc : kc + 9 ≤ 601024) (hks : ks + 137 ≤ 7293034) (hR : tk_R A f a xi xa lr wk mm own ad lf la h0 n sz c len) : ∃ h' s', tk_inv A (c + 1) len s' h' ∧ fL_law_23 N mf L xs (F + 1) A (A + 19) (A + 46) (Int32.ofNat i) (wd A f a xi xa lr wk mm o own ad lf la h0) sz kc ks = fL_law_23 N mf L xs F A (A + 19) (A + 46) (Int32.ofNat (i + 6)) h' s' (kc + 1) (ks + 6) := by
  have s0 : tk_sc L xs (Int32.ofNat i) = some (xs i) := by have := law_sc (L := L) (xs := xs) (i := i) (j := 0) (by omega) hL; rw [tI_a] at this; exact this
  have s1 : tk_sc L xs (Int32.ofNat i + 1) = some (xs (i + 1)) := law_sc (j := 1) (by omega) hL
  have b1 := fun k : Int32 → Option Unit => bnd s1 k
  have s2 : tk_sc L xs (Int32.ofNat i + 2) = some (xs (i + 2)) := law_sc (j := 2) (by omega) hL
  have b2 := fun k : Int32 → Option Unit => bnd s2 k
  have s3 : tk_sc L xs (Int32.ofNat i + 3) = some (xs (i + 3)) := law_sc (j := 3) (by omega) hL
  have b3 := fun k : Int32 → Option Unit => bnd s3 k
  have s4 : tk_sc L xs (Int32.ofNat i + 4) = some (xs (i + 4)) := law_sc (j := 4) (by omega) hL
  have b4 := fun k : Int32 → Option Unit => bnd s4 k
  have s5 : tk_sc L xs (Int32.ofNat i + 5) = some (xs (i + 5)) := law_sc (j := 5) (by omega) hL
  have b5 := fun k : Int32 → Option Unit => bnd s5 k
  have s6 : Int32.ofNat i + 6 = Int32.ofNat (i + 6) := tI_a i 6
  have hgo := law_go hi hL
  by_cases hv : xs (i + 3) = 0
  · have hv' := hv
    obtain ⟨p, e1, q, e2, t1, t2, t3, t4, t5, t6⟩ := st_asked (N := N) (o := o) (xs (i + 1)) (xs (i + 2)) 0 hR
    refine ⟨q.2.1, q.2.2, by rw [t3]; exact t6, ?_⟩
    have th : fX5_thrown N (A + 19) q.2.1 q.2.2 = some (p.1, q.2.1, q.2.2) := by unfold fX5_thrown; rw [t1]; rfl
    have e1b := fun k : _ → Option Unit => bnd e1 k
    have e2b := fun k : _ → Option Unit => bnd e2 k
    have t4b := fun k : _ → Option Unit => bnd t4 k
    have t5b := fun k : _ → Option Unit => bnd t5 k
    have thb := fun k : _ → Option Unit => bnd th k
    rw [fL_law_23, if_neg hgo, s0, Option.bind_some, hop, if_neg (show ¬ ((18 : Int32) = 0) by decide), if_neg (show ¬ ((18 : Int32) = 1) by decide), if_neg (show ¬ ((18 : Int32) = 2) by decide), if_neg (show ¬ ((18 : Int32) = 3) by decide), if_neg (show ¬ ((18 : Int32) = 4) by decide), if_neg (show ¬ ((18 : Int32) = 5) by decide), if_neg (show ¬ ((18 : Int32) = 6) by decide), if_neg (show ¬ ((18 : Int32) = 7) by decide), if_neg (show ¬ ((18 : Int32) = 8) by decide), if_neg (show ¬ ((18 : Int32) = 9) by decide), if_neg (show ¬ ((18 : Int32) = 10) by decide), if_neg (show ¬ ((18 : Int32) = 11) by decide), if_neg (show ¬ ((18 : Int32) = 12) by decide), if_neg (show ¬ ((18 : Int32) = 13) by decide), if_neg (show ¬ ((18 : Int32) = 14) by decide), if_neg (show ¬ ((18 : Int32) = 15) by decide), if_neg (show ¬ ((18 : Int32) = 16) by decide), if_neg (show ¬ ((18 : Int32) = 17) by decide), if_pos (show (18 : Int32) = 18 from rfl)]
    by_cases hz : p.1 = 0
    · have t2 := t2 hz
      by_cases hq : q.1 = 0
      · rw [show tk_cb q.1 = 0 from if_pos hq] at t2
        have t2b := fun k : _ → Option Unit => bnd t2 k
        simp (disch := omega) only [↓b1, ↓b2, ↓b3, ↓b4, ↓b5, s6, ↓bd_b, ↓e1b, ↓t4b, ↓e2b, ↓t5b, ↓thb, hz, hq, ↓t2b, cmp0, ↓reduceIte, ↓fL_law_1856, ↓fL_law_1853, ↓fL_law_1797, ↓fL_law_1741, ↓fL_law_1685, ↓fL_law_1544, ↓fL_law_1488, ↓fL_law_1408, ↓fL_law_1402, ↓fL_law_1368, ↓fL_law_1335, ↓fL_law_1305, ↓fL_law_1249, ↓fL_law_1193, ↓fL_law_1137, ↓fL_law_1131, ↓fL_law_1074, ↓fL_law_980, ↓fL_law_888, ↓fL_law_820, ↓fL_law_752, ↓fL_law_672, ↓fL_law_666, ↓fL_law_632, ↓fL_law_593, ↓fL_law_557, ↓fL_law_551, ↓fL_law_517, ↓fL_law_484, ↓fL_law_454, ↓fL_law_398, ↓fL_law_330, ↓fL_law_250, hv]
      · rw [show tk_cb q.1 = 1 from if_neg hq] at t2
        have t2b := fun k : _ → Option Unit => bnd t2 k
        simp (disch := omega) only [↓b1, ↓b2, ↓b3, ↓b4, ↓b5, s6, ↓bd_b, ↓e1b, ↓t4b, ↓e2b, ↓t5b, ↓thb, hz, hq, ↓t2b, cmp0, ↓reduceIte, ↓fL_law_1856, ↓fL_law_1853, ↓fL_law_1797, ↓fL_law_1741, ↓fL_law_1685, ↓fL_law_1544, ↓fL_law_1488, ↓fL_law_1408, ↓fL_law_1402, ↓fL_law_1368, ↓fL_law_1335, ↓fL_law_1305, ↓fL_law_1249, ↓fL_law_1193, ↓fL_law_1137, ↓fL_law_1131, ↓fL_law_1074, ↓fL_law_980, ↓fL_law_888, ↓fL_law_820, ↓fL_law_752, ↓fL_law_672, ↓fL_law_666, ↓fL_law_632, ↓fL_law_593, ↓fL_law_557, ↓fL_law_551, ↓fL_law_517, ↓fL_law_484, ↓fL_law_454, ↓fL_law_398, ↓fL_law_330, ↓fL_law_250, hv]
    · simp (disch := omega) only [↓b1, ↓b2, ↓b3, ↓b4, ↓b5, s6, ↓bd_b, ↓e1b, ↓t4b, ↓e2b, ↓t5b, ↓thb, hz, ↓reduceIte, ↓fL_law_1856, ↓fL_law_1853, ↓fL_law_1797, ↓fL_law_1741, ↓fL_law_1685, ↓fL_law_1544, ↓fL_law_1488, ↓fL_law_1408, ↓fL_law_1402, ↓fL_law_1368, ↓fL_law_1335, ↓fL_law_1305, ↓fL_law_1249, ↓fL_law_1193, ↓fL_law_1137, ↓fL_law_1131, ↓fL_law_1074, ↓fL_law_980, ↓fL_law_888, ↓fL_law_820, ↓fL_law_752, ↓fL_law_672, ↓fL_law_666, ↓fL_law_632, ↓fL_law_593, ↓fL_law_557, ↓fL_law_551, ↓fL_law_517, ↓fL_law_484, ↓fL_law_454, ↓fL_law_398, ↓fL_law_330, ↓fL_law_250, hv]
  · have hv' := hv
    obtain ⟨p, e1, q, e2, t1, t2, t3, t4, t5, t6⟩ := st_asked (N := N) (o := o) (xs (i + 1)) (xs (i + 2)) 1 hR
    refine ⟨q.2.1, q.2.2, by rw [t3]; exact t6, ?_⟩
    have th : fX5_thrown N (A + 19) q.2.1 q.2.2 = some (p.1, q.2.1, q.2.2) := by unfold fX5_thrown; rw [t1]; rfl
    have e1b := fun k : _ → Option Unit => bnd e1 k
    have e2b := fun k : _ → Option Unit => bnd e2 k
    have t4b := fun k : _ → Option Unit => bnd t4 k
    have t5b := fun k : _ → Option Unit => bnd t5 k
    have thb := fun k : _ → Option Unit => bnd th k
    rw [fL_law_23, if_neg hgo, s0, Option.bind_some, hop, if_neg (show ¬ ((18 : Int32) = 0) by decide), if_neg (show ¬ ((18 : Int32) = 1) by decide), if_neg (show ¬ ((18 : Int32) = 2) by decide), if_neg (show ¬ ((18 : Int32) = 3) by decide), if_neg (show ¬ ((18 : Int32) = 4) by decide), if_neg (show ¬ ((18 : Int32) = 5) by decide), if_neg (show ¬ ((18 : Int32) = 6) by decide), if_neg (show ¬ ((18 : Int32) = 7) by decide), if_neg (show ¬ ((18 : Int32) = 8) by decide), if_neg (show ¬ ((18 : Int32) = 9) by decide), if_neg (show ¬ ((18 : Int32) = 10) by decide), if_neg (show ¬ ((18 : Int32) = 11) by decide), if_neg (show ¬ ((18 : Int32) = 12) by decide), if_neg (show ¬ ((18 : Int32) = 13) by decide), if_neg (show ¬ ((18 : Int32) = 14) by decide), if_neg (show ¬ ((18 : Int32) = 15) by decide), if_neg (show ¬ ((18 : Int32) = 16) by decide), if_neg (show ¬ ((18 : Int32) = 17) by decide), if_pos (show (18 : Int32) = 18 from rfl)]
    by_cases hz : p.1 = 0
    · have t2 := t2 hz
      by_cases hq : q.1 = 0
      · rw [show tk_cb q.1 = 0 from if_pos hq] at t2
        have t2b := fun k : _ → Option Unit => bnd t2 k
        simp (disch := omega) only [↓b1, ↓b2, ↓b3, ↓b4, ↓b5, s6, ↓bd_b, ↓e1b, ↓t4b, ↓e2b, ↓t5b, ↓thb, hz, hq, ↓t2b, cmp0, ↓reduceIte, ↓fL_law_1856, ↓fL_law_1853, ↓fL_law_1797, ↓fL_law_1741, ↓fL_law_1685, ↓fL_law_1544, ↓fL_law_1488, ↓fL_law_1408, ↓fL_law_1402, ↓fL_law_1368, ↓fL_law_1335, ↓fL_law_1305, ↓fL_law_1249, ↓fL_law_1193, ↓fL_law_1137, ↓fL_law_1131, ↓fL_law_1074, ↓fL_law_980, ↓fL_law_888, ↓fL_law_820, ↓fL_law_752, ↓fL_law_672, ↓fL_law_666, ↓fL_law_632, ↓fL_law_593, ↓fL_law_557, ↓fL_law_551, ↓fL_law_517, ↓fL_law_484, ↓fL_law_454, ↓fL_law_398, ↓fL_law_330, ↓fL_law_250, hv]
      · rw [show tk_cb q.1 = 1 from if_neg hq] at t2
        have t2b := fun k : _ → Option Unit => bnd t2 k
        simp (disch := omega) only [↓b1, ↓b2, ↓b3, ↓b4, ↓b5, s6, ↓bd_b, ↓e1b, ↓t4b, ↓e2b, ↓t5b, ↓thb, hz, hq, ↓t2b, cmp0, ↓reduceIte, ↓fL_law_1856, ↓fL_law_1853, ↓fL_law_1797, ↓fL_law_1741, ↓fL_law_1685, ↓fL_law_1544, ↓fL_law_1488, ↓fL_law_1408, ↓fL_law_1402, ↓fL_law_1368, ↓fL_law_1335, ↓fL_law_1305, ↓fL_law_1249, ↓fL_law_1193, ↓fL_law_1137, ↓fL_law_1131, ↓fL_law_1074, ↓fL_law_980, ↓fL_law_888, ↓fL_law_820, ↓fL_law_752, ↓fL_law_672, ↓fL_law_666, ↓fL_law_632, ↓fL_law_593, ↓fL_law_557, ↓fL_law_551, ↓fL_law_517, ↓fL_law_484, ↓fL_law_454, ↓fL_law_398, ↓fL_law_330, ↓fL_law_250, hv]
    · simp (disch := omega) only [↓b1, ↓b2, ↓b3, ↓b4, ↓b5, s6, ↓bd_b, ↓e1b, ↓t4b, ↓e2b, ↓t5b, ↓thb, hz, ↓reduceIte, ↓fL_law_1856, ↓fL_law_1853, ↓fL_law_1797, ↓fL_law_1741, ↓fL_law_1685, ↓fL_law_1544, ↓fL_law_1488, ↓fL_law_1408, ↓fL_law_1402, ↓fL_law_1368, ↓fL_law_1335, ↓fL_law_1305, ↓fL_law_1249, ↓fL_law_1193, ↓fL_law_1137, ↓fL_law_1131, ↓fL_law_1074, ↓fL_law_980, ↓fL_law_888, ↓fL_law_820, ↓fL_law_752, ↓fL_law_672, ↓fL_law_666, ↓fL_law_632, ↓fL_law_593, ↓fL_law_557, ↓fL_law_551, ↓fL_law_517, ↓fL_law_484, ↓fL_law_454, ↓fL_law_398, ↓fL_law_330, ↓fL_law_250, hv]
theorem law_19 (hN : 20000 ≤ N) (hop : xs i &&& 31 = 19) (hi : i + 6 ≤ L) (hL : L ≤ 3072) (hkc : kc + 9 ≤ 601024) (hks : ks + 137 ≤ 7293034) (hR : tk_R A f a xi xa lr wk mm own ad lf la h0 n sz c len) : ∃ h' s', tk_inv A (c + 1) len s' h' ∧ fL_law_23 N mf L xs (F + 1) A (A + 19) (A + 46) (Int32.ofNat i) (wd A f a xi xa lr wk mm o own ad lf la h0) sz kc ks = fL_law_23 N mf L xs F A (A + 19) (A + 46) (Int32.ofNat (i + 6)) h' s' (kc + 1) (ks + 6) := by
  have s0 : tk_sc L xs (Int32.ofNat i) = some (xs i) := by have := law_sc (L := L) (xs := xs) (i := i) (j := 0) (by omega) hL; rw [tI_a] at this; exact this
  have s1 : tk_sc L xs (Int32.ofNat i + 1) = some (xs (i + 1)) := law_sc (j := 1) (by omega) hL
  have b1 := fun k : Int32 → Option Unit => bnd s1 k
  have s2 : tk_sc L xs (Int32.ofNat i + 2) = some (xs (i + 2)) := law_sc (j := 2) (by omega) hL
  have b2 := fun k : Int32 → Option Unit => bnd s2 k
  have s3 : tk_sc L xs (Int32.ofNat i + 3) = some (xs (i + 3)) := law_sc (j := 3) (by omega) hL
  have b3 := fun k : Int32 → Option Unit => bnd s3 k
  have s4 : tk_sc L xs (Int32.ofNat i + 4) = some (xs (i + 4)) := law_sc (j := 4) (by omega) hL
  have b4 := fun k : Int32 → Option Unit => bnd s4 k
  have s5 : tk_sc L xs (Int32.ofNat i + 5) = some (xs (i + 5)) := law_sc (j := 5) (by omega) hL
  have b5 := fun k : Int32 → Option Unit => bnd s5 k
  have s6 : Int32.ofNat i + 6 = Int32.ofNat (i + 6) := tI_a i 6
  have hgo := law_go hi hL
  obtain ⟨p, e1, q, e2, t1, t2, t3, t4, t5, t6⟩ := st_wordOf (N := N) (o := o) (xs (i + 1)) (xs (i + 2)) (xs (i + 3)) hR
  refine ⟨q.2.1, q.2.2, by rw [t3]; exact t6, ?_⟩
  have th : fX5_thrown N (A + 19) q.2.1 q.2.2 = some (p.1, q.2.1, q.2.2) := by unfold fX5_thrown; rw [t1]; rfl
  have e1b := fun k : _ → Option Unit => bnd e1 k
  have e2b := fun k : _ → Option Unit => bnd e2 k
  have t4b := fun k : _ → Option Unit => bnd t4 k
  have t5b := fun k : _ → Option Unit => bnd t5 k
  have thb := fun k : _ → Option Unit => bnd th k
  rw [fL_law_23, if_neg hgo, s0, Option.bind_some, hop, if_neg (show ¬ ((19 : Int32) = 0) by decide), if_neg (show ¬ ((19 : Int32) = 1) by decide), if_neg (show ¬ ((19 : Int32) = 2) by decide), if_neg (show ¬ ((19 : Int32) = 3) by decide), if_neg (show ¬ ((19 : Int32) = 4) by decide), if_neg (show ¬ ((19 : Int32) = 5) by decide), if_neg (show ¬ ((19 : Int32) = 6) by decide), if_neg (show ¬ ((19 : Int32) = 7) by decide), if_neg (show ¬ ((19 : Int32) = 8) by decide), if_neg (show ¬ ((19 : Int32) = 9) by decide), if_neg (show ¬ ((19 : Int32) = 10) by decide), if_neg (show ¬ ((19 : Int32) = 11) by decide), if_neg (show ¬ ((19 : Int32) = 12) by decide), if_neg (show ¬ ((19 : Int32) = 13) by decide), if_neg (show ¬ ((19 : Int32) = 14) by decide), if_neg (show ¬ ((19 : Int32) = 15) by decide), if_neg (show ¬ ((19 : Int32) = 16) by decide), if_neg (show ¬ ((19 : Int32) = 17) by decide), if_neg (show ¬ ((19 : Int32) = 18) by decide), if_pos (show (19 : Int32) = 19 from rfl)]
  by_cases hz : p.1 = 0
  · have t2b := fun k : _ → Option Unit => bnd (t2 hz) k
    simp (disch := omega) only [↓b1, ↓b2, ↓b3, ↓b4, ↓b5, s6, ↓bd_b, ↓e1b, ↓t4b, ↓e2b, ↓t5b, ↓thb, hz, ↓t2b, cmp0, ↓reduceIte, ↓fL_law_1856, ↓fL_law_1853, ↓fL_law_1797, ↓fL_law_1741, ↓fL_law_1685, ↓fL_law_1544, ↓fL_law_1488, ↓fL_law_1408, ↓fL_law_1402, ↓fL_law_1368, ↓fL_law_1335, ↓fL_law_1305, ↓fL_law_1249, ↓fL_law_1193, ↓fL_law_1137, ↓fL_law_1131, ↓fL_law_1074, ↓fL_law_980, ↓fL_law_888, ↓fL_law_820, ↓fL_law_752, ↓fL_law_672, ↓fL_law_666, ↓fL_law_632, ↓fL_law_593, ↓fL_law_557, ↓fL_law_551, ↓fL_law_517, ↓fL_law_484, ↓fL_law_454, ↓fL_law_398, ↓fL_law_330, ↓fL_law_250]
  · simp (disch := omega) only [↓b1, ↓b2, ↓b3, ↓b4, ↓b5, s6, ↓bd_b, ↓e1b, ↓t4b, ↓e2b, ↓t5b, ↓thb, hz, ↓reduceIte, ↓fL_law_1856, ↓fL_law_1853, ↓fL_law_1797, ↓fL_law_1741, ↓fL_law_1685, ↓fL_law_1544, ↓fL_law_1488, ↓fL_law_1408, ↓fL_law_1402, ↓fL_law_1368, ↓fL_law_1335, ↓fL_law_1305, ↓fL_law_1249, ↓fL_law_1193, ↓fL_law_1137, ↓fL_law_1131, ↓fL_law_1074, ↓fL_law_980, ↓fL_law_888, ↓fL_law_820, ↓fL_law_752, ↓fL_law_672, ↓fL_law_666, ↓fL_law_632, ↓fL_law_593, ↓fL_law_557, ↓fL_law_551, ↓fL_law_517, ↓fL_law_484, ↓fL_law_454, ↓fL_law_398, ↓fL_law_330, ↓fL_law_250]
theorem law_20 (hN : 20000 ≤ N) (hop : xs i &&& 31 = 20) (hi : i + 6 ≤ L) (hL : L ≤ 3072) (hkc : kc + 9 ≤ 601024) (hks : ks + 137 ≤ 7293034) (hR : tk_R A f a xi xa lr wk mm own ad lf la h0 n sz c len) : ∃ h' s', tk_inv A (c + 1) len s' h' ∧ fL_law_23 N mf L xs (F + 1) A (A + 19) (A + 46) (Int32.ofNat i) (wd A f a xi xa lr wk mm o own ad lf la h0) sz kc ks = fL_law_23 N mf L xs F A (A + 19) (A + 46) (Int32.ofNat (i + 6)) h' s' (kc + 1) (ks + 6) := by
  have s0 : tk_sc L xs (Int32.ofNat i) = some (xs i) := by have := law_sc (L := L) (xs := xs) (i := i) (j := 0) (by omega) hL; rw [tI_a] at this; exact this
  have s1 : tk_sc L xs (Int32.ofNat i + 1) = some (xs (i + 1)) := law_sc (j := 1) (by omega) hL
  have b1 := fun k : Int32 → Option Unit => bnd s1 k
  have s2 : tk_sc L xs (Int32.ofNat i + 2) = some (xs (i + 2)) := law_sc (j := 2) (by omega) hL
  have b2 := fun k : Int32 → Option Unit => bnd s2 k
  have s3 : tk_sc L xs (Int32.ofNat i + 3) = some (xs (i + 3)) := law_sc (j := 3) (by omega) hL
  have b3 := fun k : Int32 → Option Unit => bnd s3 k
  have s4 : tk_sc L xs (Int32.ofNat i + 4) = some (xs (i + 4)) := law_sc (j := 4) (by omega) hL
  have b4 := fun k : Int32 → Option Unit => bnd s4 k
  have s5 : tk_sc L xs (Int32.ofNat i + 5) = some (xs (i + 5)) := law_sc (j := 5) (by omega) hL
  have b5 := fun k : Int32 → Option Unit => bnd s5 k
  have s6 : Int32.ofNat i + 6 = Int32.ofNat (i + 6) := tI_a i 6
  have hgo := law_go hi hL
  obtain ⟨p, e1, q, e2, t1, t2, t3, t4, t5, t6⟩ := st_next (N := N) (o := o) (xs (i + 1)) hN hR
  refine ⟨q.2.1, q.2.2, by rw [t3]; exact t6, ?_⟩
  have th : fX5_thrown N (A + 19) q.2.1 q.2.2 = some (p.1, q.2.1, q.2.2) := by unfold fX5_thrown; rw [t1]; rfl
  have e1b := fun k : _ → Option Unit => bnd e1 k
  have e2b := fun k : _ → Option Unit => bnd e2 k
  have t4b := fun k : _ → Option Unit => bnd t4 k
  have t5b := fun k : _ → Option Unit => bnd t5 k
  have thb := fun k : _ → Option Unit => bnd th k
  rw [fL_law_23, if_neg hgo, s0, Option.bind_some, hop, if_neg (show ¬ ((20 : Int32) = 0) by decide), if_neg (show ¬ ((20 : Int32) = 1) by decide), if_neg (show ¬ ((20 : Int32) = 2) by decide), if_neg (show ¬ ((20 : Int32) = 3) by decide), if_neg (show ¬ ((20 : Int32) = 4) by decide), if_neg (show ¬ ((20 : Int32) = 5) by decide), if_neg (show ¬ ((20 : Int32) = 6) by decide), if_neg (show ¬ ((20 : Int32) = 7) by decide), if_neg (show ¬ ((20 : Int32) = 8) by decide), if_neg (show ¬ ((20 : Int32) = 9) by decide), if_neg (show ¬ ((20 : Int32) = 10) by decide), if_neg (show ¬ ((20 : Int32) = 11) by decide), if_neg (show ¬ ((20 : Int32) = 12) by decide), if_neg (show ¬ ((20 : Int32) = 13) by decide), if_neg (show ¬ ((20 : Int32) = 14) by decide), if_neg (show ¬ ((20 : Int32) = 15) by decide), if_neg (show ¬ ((20 : Int32) = 16) by decide), if_neg (show ¬ ((20 : Int32) = 17) by decide), if_neg (show ¬ ((20 : Int32) = 18) by decide), if_neg (show ¬ ((20 : Int32) = 19) by decide), if_pos (show (20 : Int32) = 20 from rfl)]
  by_cases hz : p.1 = 0
  · have t2b := fun k : _ → Option Unit => bnd (t2 hz) k
    simp (disch := omega) only [↓b1, ↓b2, ↓b3, ↓b4, ↓b5, s6, ↓bd_b, ↓e1b, ↓t4b, ↓e2b, ↓t5b, ↓thb, hz, ↓t2b, cmp0, ↓reduceIte, ↓fL_law_1856, ↓fL_law_1853, ↓fL_law_1797, ↓fL_law_1741, ↓fL_law_1685, ↓fL_law_1544, ↓fL_law_1488, ↓fL_law_1408, ↓fL_law_1402, ↓fL_law_1368, ↓fL_law_1335, ↓fL_law_1305, ↓fL_law_1249, ↓fL_law_1193, ↓fL_law_1137, ↓fL_law_1131, ↓fL_law_1074, ↓fL_law_980, ↓fL_law_888, ↓fL_law_820, ↓fL_law_752, ↓fL_law_672, ↓fL_law_666, ↓fL_law_632, ↓fL_law_593, ↓fL_law_557, ↓fL_law_551, ↓fL_law_517, ↓fL_law_484, ↓fL_law_454, ↓fL_law_398, ↓fL_law_330, ↓fL_law_250]
  · simp (disch := omega) only [↓b1, ↓b2, ↓b3, ↓b4, ↓b5, s6, ↓bd_b, ↓e1b, ↓t4b, ↓e2b, ↓t5b, ↓thb, hz, ↓reduceIte, ↓fL_law_1856, ↓fL_law_1853, ↓fL_law_1797, ↓fL_law_1741, ↓fL_law_1685, ↓fL_law_1544, ↓fL_law_1488, ↓fL_law_1408, ↓fL_law_1402, ↓fL_law_1368, ↓fL_law_1335, ↓fL_law_1305, ↓fL_law_1249, ↓fL_law_1193, ↓fL_law_1137, ↓fL_law_1131, ↓fL_law_1074, ↓fL_law_980, ↓fL_law_888, ↓fL_law_820, ↓fL_law_752, ↓fL_law_672, ↓fL_law_666, ↓fL_law_632, ↓fL_law_593, ↓fL_law_557, ↓fL_law_551, ↓fL_law_517, ↓fL_law_484, ↓fL_law_454, ↓fL_law_398, ↓fL_law_330, ↓fL_law_250]
theorem law_22 (hN : 20000 ≤ N) (hop : xs i &&& 31 = 22) (hi : i + 6 ≤ L) (hL : L ≤ 3072) (hkc : kc + 9 ≤ 601024) (hks : ks + 137 ≤ 7293034) (hR : tk_R A f a xi xa lr wk mm own ad lf la h0 n sz c len) : ∃ h' s', tk_inv A (c + 1) len s' h' ∧ fL_law_23 N mf L xs (F + 1) A (A + 19) (A + 46) (Int32.ofNat i) (wd A f a xi xa lr wk mm o own ad lf la h0) sz kc ks = fL_law_23 N mf L xs F A (A + 19) (A + 46) (Int32.ofNat (i + 6)) h' s' (kc + 1) (ks + 6) := by
  have s0 : tk_sc L xs (Int32.ofNat i) = some (xs i) := by have := law_sc (L := L) (xs := xs) (i := i) (j := 0) (by omega) hL; rw [tI_a] at this; exact this
  have s1 : tk_sc L xs (Int32.ofNat i + 1) = some (xs (i + 1)) := law_sc (j := 1) (by omega) hL
  have b1 := fun k : Int32 → Option Unit => bnd s1 k
  have s2 : tk_sc L xs (Int32.ofNat i + 2) = some (xs (i + 2)) := law_sc (j := 2) (by omega) hL
  have b2 := fun k : Int32 → Option Unit => bnd s2 k
  have s3 : tk_sc L xs (Int32.ofNat i + 3) = some (xs (i + 3)) := law_sc (j := 3) (by omega) hL
  have b3 := fun k : Int32 → Option Unit => bnd s3 k
  have s4 : tk_sc L xs (Int32.ofNat i + 4) = some (xs (i + 4)) := law_sc (j := 4) (by omega) hL
  have b4 := fun k : Int32 → Option Unit => bnd s4 k
  have s5 : tk_sc L xs (Int32.ofNat i + 5) = some (xs (i + 5)) := law_sc (j := 5) (by omega) hL
  have b5 := fun k : Int32 → Option Unit => bnd s5 k
  have s6 : Int32.ofNat i + 6 = Int32.ofNat (i + 6) := tI_a i 6
  have hgo := law_go hi hL
  obtain ⟨p, e1, q, e2, t1, t2, t3, t4, t5, t6⟩ := st_correct (N := N) (o := o) (xs (i + 1)) (xs (i + 2)) hN hR
  refine ⟨q.2.1, q.2.2, by rw [t3]; exact t6, ?_⟩
  have th : fX5_thrown N (A + 19) q.2.1 q.2.2 = some (p.1, q.2.1, q.2.2) := by unfold fX5_thrown; rw [t1]; rfl
  have e1b := fun k : _ → Option Unit => bnd e1 k
  have e2b := fun k : _ → Option Unit => bnd e2 k
  have t4b := fun k : _ → Option Unit => bnd t4 k
  have t5b := fun k : _ → Option Unit => bnd t5 k
  have thb := fun k : _ → Option Unit => bnd th k
  rw [fL_law_23, if_neg hgo, s0, Option.bind_some, hop, if_neg (show ¬ ((22 : Int32) = 0) by decide), if_neg (show ¬ ((22 : Int32) = 1) by decide), if_neg (show ¬ ((22 : Int32) = 2) by decide), if_neg (show ¬ ((22 : Int32) = 3) by decide), if_neg (show ¬ ((22 : Int32) = 4) by decide), if_neg (show ¬ ((22 : Int32) = 5) by decide), if_neg (show ¬ ((22 : Int32) = 6) by decide), if_neg (show ¬ ((22 : Int32) = 7) by decide), if_neg (show ¬ ((22 : Int32) = 8) by decide), if_neg (show ¬ ((22 : Int32) = 9) by decide), if_neg (show ¬ ((22 : Int32) = 10) by decide), if_neg (show ¬ ((22 : Int32) = 11) by decide), if_neg (show ¬ ((22 : Int32) = 12) by decide), if_neg (show ¬ ((22 : Int32) = 13) by decide), if_neg (show ¬ ((22 : Int32) = 14) by decide), if_neg (show ¬ ((22 : Int32) = 15) by decide), if_neg (show ¬ ((22 : Int32) = 16) by decide), if_neg (show ¬ ((22 : Int32) = 17) by decide), if_neg (show ¬ ((22 : Int32) = 18) by decide), if_neg (show ¬ ((22 : Int32) = 19) by decide), if_neg (show ¬ ((22 : Int32) = 20) by decide), if_neg (show ¬ ((22 : Int32) = 21) by decide), if_pos (show (22 : Int32) = 22 from rfl)]
  by_cases hz : p.1 = 0
  · have t2b := fun k : _ → Option Unit => bnd (t2 hz) k
    simp (disch := omega) only [↓b1, ↓b2, ↓b3, ↓b4, ↓b5, s6, ↓bd_b, ↓e1b, ↓t4b, ↓e2b, ↓t5b, ↓thb, hz, ↓t2b, cmp0, ↓reduceIte, ↓fL_law_1856, ↓fL_law_1853, ↓fL_law_1797, ↓fL_law_1741, ↓fL_law_1685, ↓fL_law_1544, ↓fL_law_1488, ↓fL_law_1408, ↓fL_law_1402, ↓fL_law_1368, ↓fL_law_1335, ↓fL_law_1305, ↓fL_law_1249, ↓fL_law_1193, ↓fL_law_1137, ↓fL_law_1131, ↓fL_law_1074, ↓fL_law_980, ↓fL_law_888, ↓fL_law_820, ↓fL_law_752, ↓fL_law_672, ↓fL_law_666, ↓fL_law_632, ↓fL_law_593, ↓fL_law_557, ↓fL_law_551, ↓fL_law_517, ↓fL_law_484, ↓fL_law_454, ↓fL_law_398, ↓fL_law_330, ↓fL_law_250]
  · simp (disch := omega) only [↓b1, ↓b2, ↓b3, ↓b4, ↓b5, s6, ↓bd_b, ↓e1b, ↓t4b, ↓e2b, ↓t5b, ↓thb, hz, ↓reduceIte, ↓fL_law_1856, ↓fL_law_1853, ↓fL_law_1797, ↓fL_law_1741, ↓fL_law_1685, ↓fL_law_1544, ↓fL_law_1488, ↓fL_law_1408, ↓fL_law_1402, ↓fL_law_1368, ↓fL_law_1335, ↓fL_law_1305, ↓fL_law_1249, ↓fL_law_1193, ↓fL_law_1137, ↓fL_law_1131, ↓fL_law_1074, ↓fL_law_980, ↓fL_law_888, ↓fL_law_820, ↓fL_law_752, ↓fL_law_672, ↓fL_law_666, ↓fL_law_632, ↓fL_law_593, ↓fL_law_557, ↓fL_law_551, ↓fL_law_517, ↓fL_law_484, ↓fL_law_454, ↓fL_law_398, ↓fL_law_330, ↓fL_law_250]
theorem law_23 (hN : 20000 ≤ N) (hop : xs i &&& 31 = 23) (hi : i + 6 ≤ L) (hL : L ≤ 3072) (hkc : kc + 9 ≤ 601024) (hks : ks + 137 ≤ 7293034) (hR : tk_R A f a xi xa lr wk mm own ad lf la h0 n sz c len) : ∃ h' s', tk_inv A (c + 1) len s' h' ∧ fL_law_23 N mf L xs (F + 1) A (A + 19) (A + 46) (Int32.ofNat i) (wd A f a xi xa lr wk mm o own ad lf la h0) sz kc ks = fL_law_23 N mf L xs F A (A + 19) (A + 46) (Int32.ofNat (i + 6)) h' s' (kc + 1) (ks + 6) := by
  have s0 : tk_sc L xs (Int32.ofNat i) = some (xs i) := by have := law_sc (L := L) (xs := xs) (i := i) (j := 0) (by omega) hL; rw [tI_a] at this; exact this
  have s1 : tk_sc L xs (Int32.ofNat i + 1) = some (xs (i + 1)) := law_sc (j := 1) (by omega) hL
  have b1 := fun k : Int32 → Option Unit => bnd s1 k
  have s2 : tk_sc L xs (Int32.ofNat i + 2) = some (xs (i + 2)) := law_sc (j := 2) (by omega) hL
  have b2 := fun k : Int32 → Option Unit => bnd s2 k
  have s3 : tk_sc L xs (Int32.ofNat i + 3) = some (xs (i + 3)) := law_sc (j := 3) (by omega) hL
  have b3 := fun k : Int32 → Option Unit => bnd s3 k
  have s4 : tk_sc L xs (Int32.ofNat i + 4) = some (xs (i + 4)) := law_sc (j := 4) (by omega) hL
  have b4 := fun k : Int32 → Option Unit => bnd s4 k
  have s5 : tk_sc L xs (Int32.ofNat i + 5) = some (xs (i + 5)) := law_sc (j := 5) (by omega) hL
  have b5 := fun k : Int32 → Option Unit => bnd s5 k
  have s6 : Int32.ofNat i + 6 = Int32.ofNat (i + 6) := tI_a i 6
  have hgo := law_go hi hL
  obtain ⟨p, e1, q, e2, t1, t2, t3, t4, t5, t6⟩ := st_mark (N := N) (o := o) (xs (i + 1)) hR
  refine ⟨q.2.1, q.2.2, by rw [t3]; exact t6, ?_⟩
  have th : fX5_thrown N (A + 19) q.2.1 q.2.2 = some (p.1, q.2.1, q.2.2) := by unfold fX5_thrown; rw [t1]; rfl
  have e1b := fun k : _ → Option Unit => bnd e1 k
  have e2b := fun k : _ → Option Unit => bnd e2 k
  have t4b := fun k : _ → Option Unit => bnd t4 k
  have t5b := fun k : _ → Option Unit => bnd t5 k
  have thb := fun k : _ → Option Unit => bnd th k
  rw [fL_law_23, if_neg hgo, s0, Option.bind_some, hop, if_neg (show ¬ ((23 : Int32) = 0) by decide), if_neg (show ¬ ((23 : Int32) = 1) by decide), if_neg (show ¬ ((23 : Int32) = 2) by decide), if_neg (show ¬ ((23 : Int32) = 3) by decide), if_neg (show ¬ ((23 : Int32) = 4) by decide), if_neg (show ¬ ((23 : Int32) = 5) by decide), if_neg (show ¬ ((23 : Int32) = 6) by decide), if_neg (show ¬ ((23 : Int32) = 7) by decide), if_neg (show ¬ ((23 : Int32) = 8) by decide), if_neg (show ¬ ((23 : Int32) = 9) by decide), if_neg (show ¬ ((23 : Int32) = 10) by decide), if_neg (show ¬ ((23 : Int32) = 11) by decide), if_neg (show ¬ ((23 : Int32) = 12) by decide), if_neg (show ¬ ((23 : Int32) = 13) by decide), if_neg (show ¬ ((23 : Int32) = 14) by decide), if_neg (show ¬ ((23 : Int32) = 15) by decide), if_neg (show ¬ ((23 : Int32) = 16) by decide), if_neg (show ¬ ((23 : Int32) = 17) by decide), if_neg (show ¬ ((23 : Int32) = 18) by decide), if_neg (show ¬ ((23 : Int32) = 19) by decide), if_neg (show ¬ ((23 : Int32) = 20) by decide), if_neg (show ¬ ((23 : Int32) = 21) by decide), if_neg (show ¬ ((23 : Int32) = 22) by decide), if_pos (show (23 : Int32) = 23 from rfl)]
  by_cases hz : p.1 = 0
  · have t2b := fun k : _ → Option Unit => bnd (t2 hz) k
    simp (disch := omega) only [↓b1, ↓b2, ↓b3, ↓b4, ↓b5, s6, ↓bd_b, ↓e1b, ↓t4b, ↓e2b, ↓t5b, ↓thb, hz, ↓t2b, cmp0, ↓reduceIte, ↓fL_law_1856, ↓fL_law_1853, ↓fL_law_1797, ↓fL_law_1741, ↓fL_law_1685, ↓fL_law_1544, ↓fL_law_1488, ↓fL_law_1408, ↓fL_law_1402, ↓fL_law_1368, ↓fL_law_1335, ↓fL_law_1305, ↓fL_law_1249, ↓fL_law_1193, ↓fL_law_1137, ↓fL_law_1131, ↓fL_law_1074, ↓fL_law_980, ↓fL_law_888, ↓fL_law_820, ↓fL_law_752, ↓fL_law_672, ↓fL_law_666, ↓fL_law_632, ↓fL_law_593, ↓fL_law_557, ↓fL_law_551, ↓fL_law_517, ↓fL_law_484, ↓fL_law_454, ↓fL_law_398, ↓fL_law_330, ↓fL_law_250]
  · simp (disch := omega) only [↓b1, ↓b2, ↓b3, ↓b4, ↓b5, s6, ↓bd_b, ↓e1b, ↓t4b, ↓e2b, ↓t5b, ↓thb, hz, ↓reduceIte, ↓fL_law_1856, ↓fL_law_1853, ↓fL_law_1797, ↓fL_law_1741, ↓fL_law_1685, ↓fL_law_1544, ↓fL_law_1488, ↓fL_law_1408, ↓fL_law_1402, ↓fL_law_1368, ↓fL_law_1335, ↓fL_law_1305, ↓fL_law_1249, ↓fL_law_1193, ↓fL_law_1137, ↓fL_law_1131, ↓fL_law_1074, ↓fL_law_980, ↓fL_law_888, ↓fL_law_820, ↓fL_law_752, ↓fL_law_672, ↓fL_law_666, ↓fL_law_632, ↓fL_law_593, ↓fL_law_557, ↓fL_law_551, ↓fL_law_517, ↓fL_law_484, ↓fL_law_454, ↓fL_law_398, ↓fL_law_330, ↓fL_law_250]
theorem law_24 (hN : 20000 ≤ N) (hop : xs i &&& 31 = 24) (hi : i + 6 ≤ L) (hL : L ≤ 3072) (hkc : kc + 9 ≤ 601024) (hks : ks + 137 ≤ 7293034) (hR : tk_R A f a xi xa lr wk mm own ad lf la h0 n sz c len) : ∃ h' s', tk_inv A (c + 1) len s' h' ∧ fL_law_23 N mf L xs (F + 1) A (A + 19) (A + 46) (Int32.ofNat i) (wd A f a xi xa lr wk mm o own ad lf la h0) sz kc ks = fL_law_23 N mf L xs F A (A + 19) (A + 46) (Int32.ofNat (i + 6)) h' s' (kc + 1) (ks + 6) := by
  have s0 : tk_sc L xs (Int32.ofNat i) = some (xs i) := by have := law_sc (L := L) (xs := xs) (i := i) (j := 0) (by omega) hL; rw [tI_a] at this; exact this
  have s1 : tk_sc L xs (Int32.ofNat i + 1) = some (xs (i + 1)) := law_sc (j := 1) (by omega) hL
  have b1 := fun k : Int32 → Option Unit => bnd s1 k
  have s2 : tk_sc L xs (Int32.ofNat i + 2) = some (xs (i + 2)) := law_sc (j := 2) (by omega) hL
  have b2 := fun k : Int32 → Option Unit => bnd s2 k
  have s3 : tk_sc L xs (Int32.ofNat i + 3) = some (xs (i + 3)) := law_sc (j := 3) (by omega) hL
  have b3 := fun k : Int32 → Option Unit => bnd s3 k
  have s4 : tk_sc L xs (Int32.ofNat i + 4) = some (xs (i + 4)) := law_sc (j := 4) (by omega) hL
  have b4 := fun k : Int32 → Option Unit => bnd s4 k
  have s5 : tk_sc L xs (Int32.ofNat i + 5) = some (xs (i + 5)) := law_sc (j := 5) (by omega) hL
  have b5 := fun k : Int32 → Option Unit => bnd s5 k
  have s6 : Int32.ofNat i + 6 = Int32.ofNat (i + 6) := tI_a i 6
  have hgo := law_go hi hL
  obtain ⟨p, e1, q, e2, t1, t2, t3, t4, t5, t6⟩ := st_marks (N := N) (o := o) (xs (i + 1)) hN hR
  refine ⟨q.2.1, q.2.2, by rw [t3]; exact t6, ?_⟩
  have th : fX5_thrown N (A + 19) q.2.1 q.2.2 = some (p.1, q.2.1, q.2.2) := by unfold fX5_thrown; rw [t1]; rfl
  have e1b := fun k : _ → Option Unit => bnd e1 k
  have e2b := fun k : _ → Option Unit => bnd e2 k
  have t4b := fun k : _ → Option Unit => bnd t4 k
  have t5b := fun k : _ → Option Unit => bnd t5 k
  have thb := fun k : _ → Option Unit => bnd th k
  rw [fL_law_23, if_neg hgo, s0, Option.bind_some, hop, if_neg (show ¬ ((24 : Int32) = 0) by decide), if_neg (show ¬ ((24 : Int32) = 1) by decide), if_neg (show ¬ ((24 : Int32) = 2) by decide), if_neg (show ¬ ((24 : Int32) = 3) by decide), if_neg (show ¬ ((24 : Int32) = 4) by decide), if_neg (show ¬ ((24 : Int32) = 5) by decide), if_neg (show ¬ ((24 : Int32) = 6) by decide), if_neg (show ¬ ((24 : Int32) = 7) by decide), if_neg (show ¬ ((24 : Int32) = 8) by decide), if_neg (show ¬ ((24 : Int32) = 9) by decide), if_neg (show ¬ ((24 : Int32) = 10) by decide), if_neg (show ¬ ((24 : Int32) = 11) by decide), if_neg (show ¬ ((24 : Int32) = 12) by decide), if_neg (show ¬ ((24 : Int32) = 13) by decide), if_neg (show ¬ ((24 : Int32) = 14) by decide), if_neg (show ¬ ((24 : Int32) = 15) by decide), if_neg (show ¬ ((24 : Int32) = 16) by decide), if_neg (show ¬ ((24 : Int32) = 17) by decide), if_neg (show ¬ ((24 : Int32) = 18) by decide), if_neg (show ¬ ((24 : Int32) = 19) by decide), if_neg (show ¬ ((24 : Int32) = 20) by decide), if_neg (show ¬ ((24 : Int32) = 21) by decide), if_neg (show ¬ ((24 : Int32) = 22) by decide), if_neg (show ¬ ((24 : Int32) = 23) by decide), if_pos (show (24 : Int32) = 24 from rfl)]
  by_cases hz : p.1 = 0
  · have t2b := fun k : _ → Option Unit => bnd (t2 hz) k
    simp (disch := omega) only [↓b1, ↓b2, ↓b3, ↓b4, ↓b5, s6, ↓bd_b, ↓e1b, ↓t4b, ↓e2b, ↓t5b, ↓thb, hz, ↓t2b, cmp0, ↓reduceIte, ↓fL_law_1856, ↓fL_law_1853, ↓fL_law_1797, ↓fL_law_1741, ↓fL_law_1685, ↓fL_law_1544, ↓fL_law_1488, ↓fL_law_1408, ↓fL_law_1402, ↓fL_law_1368, ↓fL_law_1335, ↓fL_law_1305, ↓fL_law_1249, ↓fL_law_1193, ↓fL_law_1137, ↓fL_law_1131, ↓fL_law_1074, ↓fL_law_980, ↓fL_law_888, ↓fL_law_820, ↓fL_law_752, ↓fL_law_672, ↓fL_law_666, ↓fL_law_632, ↓fL_law_593, ↓fL_law_557, ↓fL_law_551, ↓fL_law_517, ↓fL_law_484, ↓fL_law_454, ↓fL_law_398, ↓fL_law_330, ↓fL_law_250]
  · simp (disch := omega) only [↓b1, ↓b2, ↓b3, ↓b4, ↓b5, s6, ↓bd_b, ↓e1b, ↓t4b, ↓e2b, ↓t5b, ↓thb, hz, ↓reduceIte, ↓fL_law_1856, ↓fL_law_1853, ↓fL_law_1797, ↓fL_law_1741, ↓fL_law_1685, ↓fL_law_1544, ↓fL_law_1488, ↓fL_law_1408, ↓fL_law_1402, ↓fL_law_1368, ↓fL_law_1335, ↓fL_law_1305, ↓fL_law_1249, ↓fL_law_1193, ↓fL_law_1137, ↓fL_law_1131, ↓fL_law_1074, ↓fL_law_980, ↓fL_law_888, ↓fL_law_820, ↓fL_law_752, ↓fL_law_672, ↓fL_law_666, ↓fL_law_632, ↓fL_law_593, ↓fL_law_557, ↓fL_law_551, ↓fL_law_517, ↓fL_law_484, ↓fL_law_454, ↓fL_law_398, ↓fL_law_330, ↓fL_law_250]
theorem law_25 (hN : 20000 ≤ N) (hop : xs i &&& 31 = 25) (hi : i + 6 ≤ L) (hL : L ≤ 3072) (hkc : kc + 9 ≤ 601024) (hks : ks + 137 ≤ 7293034) (hR : tk_R A f a xi xa lr wk mm own ad lf la h0 n sz c len) : ∃ h' s', tk_inv A (c + 1) len s' h' ∧ fL_law_23 N mf L xs (F + 1) A (A + 19) (A + 46) (Int32.ofNat i) (wd A f a xi xa lr wk mm o own ad lf la h0) sz kc ks = fL_law_23 N mf L xs F A (A + 19) (A + 46) (Int32.ofNat (i + 6)) h' s' (kc + 1) (ks + 6) := by
  have s0 : tk_sc L xs (Int32.ofNat i) = some (xs i) := by have := law_sc (L := L) (xs := xs) (i := i) (j := 0) (by omega) hL; rw [tI_a] at this; exact this
  have s1 : tk_sc L xs (Int32.ofNat i + 1) = some (xs (i + 1)) := law_sc (j := 1) (by omega) hL
  have b1 := fun k : Int32 → Option Unit => bnd s1 k
  have s2 : tk_sc L xs (Int32.ofNat i + 2) = some (xs (i + 2)) := law_sc (j := 2) (by omega) hL
  have b2 := fun k : Int32 → Option Unit => bnd s2 k
  have s3 : tk_sc L xs (Int32.ofNat i + 3) = some (xs (i + 3)) := law_sc (j := 3) (by omega) hL
  have b3 := fun k : Int32 → Option Unit => bnd s3 k
  have s4 : tk_sc L xs (Int32.ofNat i + 4) = some (xs (i + 4)) := law_sc (j := 4) (by omega) hL
  have b4 := fun k : Int32 → Option Unit => bnd s4 k
  have s5 : tk_sc L xs (Int32.ofNat i + 5) = some (xs (i + 5)) := law_sc (j := 5) (by omega) hL
  have b5 := fun k : Int32 → Option Unit => bnd s5 k
  have s6 : Int32.ofNat i + 6 = Int32.ofNat (i + 6) := tI_a i 6
  have hgo := law_go hi hL
  obtain ⟨p, e1, q, e2, t1, t2, t3, t4, t5, t6⟩ := st_count (N := N) (o := o) (xs (i + 1)) hR
  refine ⟨q.2.1, q.2.2, by rw [t3]; exact t6, ?_⟩
  have th : fX5_thrown N (A + 19) q.2.1 q.2.2 = some (p.1, q.2.1, q.2.2) := by unfold fX5_thrown; rw [t1]; rfl
  have e1b := fun k : _ → Option Unit => bnd e1 k
  have e2b := fun k : _ → Option Unit => bnd e2 k
  have t4b := fun k : _ → Option Unit => bnd t4 k
  have t5b := fun k : _ → Option Unit => bnd t5 k
  have thb := fun k : _ → Option Unit => bnd th k
  rw [fL_law_23, if_neg hgo, s0, Option.bind_some, hop, if_neg (show ¬ ((25 : Int32) = 0) by decide), if_neg (show ¬ ((25 : Int32) = 1) by decide), if_neg (show ¬ ((25 : Int32) = 2) by decide), if_neg (show ¬ ((25 : Int32) = 3) by decide), if_neg (show ¬ ((25 : Int32) = 4) by decide), if_neg (show ¬ ((25 : Int32) = 5) by decide), if_neg (show ¬ ((25 : Int32) = 6) by decide), if_neg (show ¬ ((25 : Int32) = 7) by decide), if_neg (show ¬ ((25 : Int32) = 8) by decide), if_neg (show ¬ ((25 : Int32) = 9) by decide), if_neg (show ¬ ((25 : Int32) = 10) by decide), if_neg (show ¬ ((25 : Int32) = 11) by decide), if_neg (show ¬ ((25 : Int32) = 12) by decide), if_neg (show ¬ ((25 : Int32) = 13) by decide), if_neg (show ¬ ((25 : Int32) = 14) by decide), if_neg (show ¬ ((25 : Int32) = 15) by decide), if_neg (show ¬ ((25 : Int32) = 16) by decide), if_neg (show ¬ ((25 : Int32) = 17) by decide), if_neg (show ¬ ((25 : Int32) = 18) by decide), if_neg (show ¬ ((25 : Int32) = 19) by decide), if_neg (show ¬ ((25 : Int32) = 20) by decide), if_neg (show ¬ ((25 : Int32) = 21) by decide), if_neg (show ¬ ((25 : Int32) = 22) by decide), if_neg (show ¬ ((25 : Int32) = 23) by decide), if_neg (show ¬ ((25 : Int32) = 24) by decide), if_pos (show (25 : Int32) = 25 from rfl)]
  by_cases hz : p.1 = 0
  · have t2b := fun k : _ → Option Unit => bnd (t2 hz) k
    simp (disch := omega) only [↓b1, ↓b2, ↓b3, ↓b4, ↓b5, s6, ↓bd_b, ↓e1b, ↓t4b, ↓e2b, ↓t5b, ↓thb, hz, ↓t2b, cmp0, ↓reduceIte, ↓fL_law_1856, ↓fL_law_1853, ↓fL_law_1797, ↓fL_law_1741, ↓fL_law_1685, ↓fL_law_1544, ↓fL_law_1488, ↓fL_law_1408, ↓fL_law_1402, ↓fL_law_1368, ↓fL_law_1335, ↓fL_law_1305, ↓fL_law_1249, ↓fL_law_1193, ↓fL_law_1137, ↓fL_law_1131, ↓fL_law_1074, ↓fL_law_980, ↓fL_law_888, ↓fL_law_820, ↓fL_law_752, ↓fL_law_672, ↓fL_law_666, ↓fL_law_632, ↓fL_law_593, ↓fL_law_557, ↓fL_law_551, ↓fL_law_517, ↓fL_law_484, ↓fL_law_454, ↓fL_law_398, ↓fL_law_330, ↓fL_law_250]
  · simp (disch := omega) only [↓b1, ↓b2, ↓b3, ↓b4, ↓b5, s6, ↓bd_b, ↓e1b, ↓t4b, ↓e2b, ↓t5b, ↓thb, hz, ↓reduceIte, ↓fL_law_1856, ↓fL_law_1853, ↓fL_law_1797, ↓fL_law_1741, ↓fL_law_1685, ↓fL_law_1544, ↓fL_law_1488, ↓fL_law_1408, ↓fL_law_1402, ↓fL_law_1368, ↓fL_law_1335, ↓fL_law_1305, ↓fL_law_1249, ↓fL_law_1193, ↓fL_law_1137, ↓fL_law_1131, ↓fL_law_1074, ↓fL_law_980, ↓fL_law_888, ↓fL_law_820, ↓fL_law_752, ↓fL_law_672, ↓fL_law_666, ↓fL_law_632, ↓fL_law_593, ↓fL_law_557, ↓fL_law_551, ↓fL_law_517, ↓fL_law_484, ↓fL_law_454, ↓fL_law_398, ↓fL_law_330, ↓fL_law_250]
theorem law_0 (hN : 20000 ≤ N) (hop : xs i &&& 31 = 0) (hi : i + 6 ≤ L) (hL : L ≤ 3072) (hkc : kc + 9 ≤ 601024) (hks : ks + 137 ≤ 7293034) (hR : tk_R A f a xi xa lr wk mm own ad lf la h0 n sz c len) : ∃ h' s', tk_inv A (c + 1) len s' h' ∧ fL_law_23 N mf L xs (F + 1) A (A + 19) (A + 46) (Int32.ofNat i) (wd A f a xi xa lr wk mm o own ad lf la h0) sz kc ks = fL_law_23 N mf L xs F A (A + 19) (A + 46) (Int32.ofNat (i + 6)) h' s' (kc + 9) (ks + 137) := by
  have s0 : tk_sc L xs (Int32.ofNat i) = some (xs i) := by have := law_sc (L := L) (xs := xs) (i := i) (j := 0) (by omega) hL; rw [tI_a] at this; exact this
  have s1 : tk_sc L xs (Int32.ofNat i + 1) = some (xs (i + 1)) := law_sc (j := 1) (by omega) hL
  have b1 := fun k : Int32 → Option Unit => bnd s1 k
  have s2 : tk_sc L xs (Int32.ofNat i + 2) = some (xs (i + 2)) := law_sc (j := 2) (by omega) hL
  have b2 := fun k : Int32 → Option Unit => bnd s2 k
  have s3 : tk_sc L xs (Int32.ofNat i + 3) = some (xs (i + 3)) := law_sc (j := 3) (by omega) hL
  have b3 := fun k : Int32 → Option Unit => bnd s3 k
  have s4 : tk_sc L xs (Int32.ofNat i + 4) = some (xs (i + 4)) := law_sc (j := 4) (by omega) hL
  have b4 := fun k : Int32 → Option Unit => bnd s4 k
  have s5 : tk_sc L xs (Int32.ofNat i + 5) = some (xs (i + 5)) := law_sc (j := 5) (by omega) hL
  have b5 := fun k : Int32 → Option Unit => bnd s5 k
  have s6 : Int32.ofNat i + 6 = Int32.ofNat (i + 6) := tI_a i 6
  have hgo := law_go hi hL
  obtain ⟨p, e1, t4, q, e2, t1, t6⟩ := sd_learner (N := N) (o := o) (xs (i + 1)) hN hR
  refine ⟨q.2.1, q.2.2, t6, ?_⟩
  have e1b := fun k : _ → Option Unit => bnd e1 k
  have e2b := fun k : _ → Option Unit => bnd e2 k
  have t4b := fun k : _ → Option Unit => bnd t4 k
  rw [fL_law_23, if_neg hgo, s0, Option.bind_some, hop, if_pos (show (0 : Int32) = 0 from rfl)]
  simp (disch := omega) only [↓b1, ↓b2, ↓b3, ↓b4, ↓b5, s6, ↓bd_b, ↓bwo_4, ↓e1b, ↓t4b, ↓e2b, t1, ↓reduceIte, ↓fL_law_1856, ↓fL_law_1853, ↓fL_law_1797, ↓fL_law_1741, ↓fL_law_1685, ↓fL_law_1544, ↓fL_law_1488, ↓fL_law_1408, ↓fL_law_1402, ↓fL_law_1368, ↓fL_law_1335, ↓fL_law_1305, ↓fL_law_1249, ↓fL_law_1193, ↓fL_law_1137, ↓fL_law_1131, ↓fL_law_1074, ↓fL_law_980, ↓fL_law_888, ↓fL_law_820, ↓fL_law_752, ↓fL_law_672, ↓fL_law_666, ↓fL_law_632, ↓fL_law_593, ↓fL_law_557, ↓fL_law_551, ↓fL_law_517, ↓fL_law_484, ↓fL_law_454, ↓fL_law_398, ↓fL_law_330, ↓fL_law_250]
theorem law_12 (hN : 20000 ≤ N) (hop : xs i &&& 31 = 12) (hi : i + 6 ≤ L) (hL : L ≤ 3072) (hkc : kc + 9 ≤ 601024) (hks : ks + 137 ≤ 7293034) (hR : tk_R A f a xi xa lr wk mm own ad lf la h0 n sz c len) : ∃ h' s', tk_inv A (c + 1) len s' h' ∧ fL_law_23 N mf L xs (F + 1) A (A + 19) (A + 46) (Int32.ofNat i) (wd A f a xi xa lr wk mm o own ad lf la h0) sz kc ks = fL_law_23 N mf L xs F A (A + 19) (A + 46) (Int32.ofNat (i + 6)) h' s' kc ks := by
  have s0 : tk_sc L xs (Int32.ofNat i) = some (xs i) := by have := law_sc (L := L) (xs := xs) (i := i) (j := 0) (by omega) hL; rw [tI_a] at this; exact this
  have s1 : tk_sc L xs (Int32.ofNat i + 1) = some (xs (i + 1)) := law_sc (j := 1) (by omega) hL
  have b1 := fun k : Int32 → Option Unit => bnd s1 k
  have s2 : tk_sc L xs (Int32.ofNat i + 2) = some (xs (i + 2)) := law_sc (j := 2) (by omega) hL
  have b2 := fun k : Int32 → Option Unit => bnd s2 k
  have s3 : tk_sc L xs (Int32.ofNat i + 3) = some (xs (i + 3)) := law_sc (j := 3) (by omega) hL
  have b3 := fun k : Int32 → Option Unit => bnd s3 k
  have s4 : tk_sc L xs (Int32.ofNat i + 4) = some (xs (i + 4)) := law_sc (j := 4) (by omega) hL
  have b4 := fun k : Int32 → Option Unit => bnd s4 k
  have s5 : tk_sc L xs (Int32.ofNat i + 5) = some (xs (i + 5)) := law_sc (j := 5) (by omega) hL
  have b5 := fun k : Int32 → Option Unit => bnd s5 k
  have s6 : Int32.ofNat i + 6 = Int32.ofNat (i + 6) := tI_a i 6
  have hgo := law_go hi hL
  obtain ⟨p, e1, t4, q, e2, t1, t6⟩ := sd_rings (N := N) (o := o)  hR
  refine ⟨q.2.1, q.2.2, t6, ?_⟩
  have e1b := fun k : _ → Option Unit => bnd e1 k
  have e2b := fun k : _ → Option Unit => bnd e2 k
  have t4b := fun k : _ → Option Unit => bnd t4 k
  rw [fL_law_23, if_neg hgo, s0, Option.bind_some, hop, if_neg (show ¬ ((12 : Int32) = 0) by decide), if_neg (show ¬ ((12 : Int32) = 1) by decide), if_neg (show ¬ ((12 : Int32) = 2) by decide), if_neg (show ¬ ((12 : Int32) = 3) by decide), if_neg (show ¬ ((12 : Int32) = 4) by decide), if_neg (show ¬ ((12 : Int32) = 5) by decide), if_neg (show ¬ ((12 : Int32) = 6) by decide), if_neg (show ¬ ((12 : Int32) = 7) by decide), if_neg (show ¬ ((12 : Int32) = 8) by decide), if_neg (show ¬ ((12 : Int32) = 9) by decide), if_neg (show ¬ ((12 : Int32) = 10) by decide), if_neg (show ¬ ((12 : Int32) = 11) by decide), if_pos (show (12 : Int32) = 12 from rfl)]
  simp (disch := omega) only [↓b1, ↓b2, ↓b3, ↓b4, ↓b5, s6, ↓bd_b, ↓bwo_4, ↓e1b, ↓t4b, ↓e2b, t1, ↓reduceIte, ↓fL_law_1856, ↓fL_law_1853, ↓fL_law_1797, ↓fL_law_1741, ↓fL_law_1685, ↓fL_law_1544, ↓fL_law_1488, ↓fL_law_1408, ↓fL_law_1402, ↓fL_law_1368, ↓fL_law_1335, ↓fL_law_1305, ↓fL_law_1249, ↓fL_law_1193, ↓fL_law_1137, ↓fL_law_1131, ↓fL_law_1074, ↓fL_law_980, ↓fL_law_888, ↓fL_law_820, ↓fL_law_752, ↓fL_law_672, ↓fL_law_666, ↓fL_law_632, ↓fL_law_593, ↓fL_law_557, ↓fL_law_551, ↓fL_law_517, ↓fL_law_484, ↓fL_law_454, ↓fL_law_398, ↓fL_law_330, ↓fL_law_250]
theorem law_21 (hN : 20000 ≤ N) (hop : xs i &&& 31 = 21) (hi : i + 6 ≤ L) (hL : L ≤ 3072) (hkc : kc + 9 ≤ 601024) (hks : ks + 137 ≤ 7293034) (hR : tk_R A f a xi xa lr wk mm own ad lf la h0 n sz c len) : ∃ h' s', tk_inv A (c + 1) len s' h' ∧ fL_law_23 N mf L xs (F + 1) A (A + 19) (A + 46) (Int32.ofNat i) (wd A f a xi xa lr wk mm o own ad lf la h0) sz kc ks = fL_law_23 N mf L xs F A (A + 19) (A + 46) (Int32.ofNat (i + 6)) h' s' kc ks := by
  have s0 : tk_sc L xs (Int32.ofNat i) = some (xs i) := by have := law_sc (L := L) (xs := xs) (i := i) (j := 0) (by omega) hL; rw [tI_a] at this; exact this
  have s1 : tk_sc L xs (Int32.ofNat i + 1) = some (xs (i + 1)) := law_sc (j := 1) (by omega) hL
  have b1 := fun k : Int32 → Option Unit => bnd s1 k
  have s2 : tk_sc L xs (Int32.ofNat i + 2) = some (xs (i + 2)) := law_sc (j := 2) (by omega) hL
  have b2 := fun k : Int32 → Option Unit => bnd s2 k
  have s3 : tk_sc L xs (Int32.ofNat i + 3) = some (xs (i + 3)) := law_sc (j := 3) (by omega) hL
  have b3 := fun k : Int32 → Option Unit => bnd s3 k
  have s4 : tk_sc L xs (Int32.ofNat i + 4) = some (xs (i + 4)) := law_sc (j := 4) (by omega) hL
  have b4 := fun k : Int32 → Option Unit => bnd s4 k
  have s5 : tk_sc L xs (Int32.ofNat i + 5) = some (xs (i + 5)) := law_sc (j := 5) (by omega) hL
  have b5 := fun k : Int32 → Option Unit => bnd s5 k
  have s6 : Int32.ofNat i + 6 = Int32.ofNat (i + 6) := tI_a i 6
  have hgo := law_go hi hL
  obtain ⟨p, e1, t4, q, e2, t1, t6⟩ := sd_feed (N := N) (o := o) (xs (i + 1)) (xs (i + 2)) (xs (i + 3)) (xs (i + 4)) (xs (i + 5)) hN hR
  refine ⟨q.2.1, q.2.2, t6, ?_⟩
  have e1b := fun k : _ → Option Unit => bnd e1 k
  have e2b := fun k : _ → Option Unit => bnd e2 k
  have t4b := fun k : _ → Option Unit => bnd t4 k
  rw [fL_law_23, if_neg hgo, s0, Option.bind_some, hop, if_neg (show ¬ ((21 : Int32) = 0) by decide), if_neg (show ¬ ((21 : Int32) = 1) by decide), if_neg (show ¬ ((21 : Int32) = 2) by decide), if_neg (show ¬ ((21 : Int32) = 3) by decide), if_neg (show ¬ ((21 : Int32) = 4) by decide), if_neg (show ¬ ((21 : Int32) = 5) by decide), if_neg (show ¬ ((21 : Int32) = 6) by decide), if_neg (show ¬ ((21 : Int32) = 7) by decide), if_neg (show ¬ ((21 : Int32) = 8) by decide), if_neg (show ¬ ((21 : Int32) = 9) by decide), if_neg (show ¬ ((21 : Int32) = 10) by decide), if_neg (show ¬ ((21 : Int32) = 11) by decide), if_neg (show ¬ ((21 : Int32) = 12) by decide), if_neg (show ¬ ((21 : Int32) = 13) by decide), if_neg (show ¬ ((21 : Int32) = 14) by decide), if_neg (show ¬ ((21 : Int32) = 15) by decide), if_neg (show ¬ ((21 : Int32) = 16) by decide), if_neg (show ¬ ((21 : Int32) = 17) by decide), if_neg (show ¬ ((21 : Int32) = 18) by decide), if_neg (show ¬ ((21 : Int32) = 19) by decide), if_neg (show ¬ ((21 : Int32) = 20) by decide), if_pos (show (21 : Int32) = 21 from rfl)]
  simp (disch := omega) only [↓b1, ↓b2, ↓b3, ↓b4, ↓b5, s6, ↓bd_b, ↓bwo_4, ↓e1b, ↓t4b, ↓e2b, t1, ↓reduceIte, ↓fL_law_1856, ↓fL_law_1853, ↓fL_law_1797, ↓fL_law_1741, ↓fL_law_1685, ↓fL_law_1544, ↓fL_law_1488, ↓fL_law_1408, ↓fL_law_1402, ↓fL_law_1368, ↓fL_law_1335, ↓fL_law_1305, ↓fL_law_1249, ↓fL_law_1193, ↓fL_law_1137, ↓fL_law_1131, ↓fL_law_1074, ↓fL_law_980, ↓fL_law_888, ↓fL_law_820, ↓fL_law_752, ↓fL_law_672, ↓fL_law_666, ↓fL_law_632, ↓fL_law_593, ↓fL_law_557, ↓fL_law_551, ↓fL_law_517, ↓fL_law_484, ↓fL_law_454, ↓fL_law_398, ↓fL_law_330, ↓fL_law_250]
theorem mf_is (hR : tk_R A f a xi xa lr wk mm own ad lf la h0 n sz c len) : tk_mf A (wd A f a xi xa lr wk mm o own ad lf la h0) = if len < 2 ^ n then 2 ^ n else 0 := by
  obtain ⟨g1, g2, g3, g4, hO, g6, g7, g8, g9, g10, g11, g12, g13⟩ := id hR
  obtain ⟨w0, w1, w2, w3, w4⟩ := g11
  have eN : tk_aN (wd A f a xi xa lr wk mm o own ad lf la h0) 2 mm = some (Int32.ofNat len) ∧ len ≤ 16384 := by
    rcases w4 with ⟨rfl, rfl⟩ | ⟨h1, h2, ⟨s, h3, h4⟩, g, h5, h6⟩
    · unfold tk_aN; rw [wd_at (by decide)]; exact ⟨rfl, by decide⟩
    · have := Nat.pow_le_pow_right (n := 2) (by decide) h3
      have hMo : Mo A mm len own h0 g := ⟨h1, h2, h5⟩
      refine ⟨?_, by omega⟩
      unfold tk_aN; rw [mo_at hMo]; rfl
  unfold tk_mf
  rw [wg_1_6, wg_4_6, g3]
  simp only
  rw [eN.1]
  simp only
  rw [tk_nc (by omega), tk_nc (by omega)]
theorem law_11 (hc : c < 900000) (hN : 20000 ≤ N) (hop : xs i &&& 31 = 11) (hi : i + 6 ≤ L) (hL : L ≤ 3072) (hkc : kc + 9 ≤ 601024) (hks : ks + 137 ≤ 7293034) (hR : tk_R A f a xi xa lr wk mm own ad lf la h0 n sz c len) : ∃ h' s' len', tk_inv A (c + 1) len' s' h' ∧ (len' = len ∧ tk_mf A (wd A f a xi xa lr wk mm o own ad lf la h0) = 0 ∨ (2 * len ≤ tk_mf A (wd A f a xi xa lr wk mm o own ad lf la h0) ∧ len' = tk_mf A (wd A f a xi xa lr wk mm o own ad lf la h0) ∧ len' ≤ 16384)) ∧ (ks + tk_mf A (wd A f a xi xa lr wk mm o own ad lf la h0) ≤ 7293034 → fL_law_23 N (tk_mf A) L xs (F + 1) A (A + 19) (A + 46) (Int32.ofNat i) (wd A f a xi xa lr wk mm o own ad lf la h0) sz kc ks = fL_law_23 N (tk_mf A) L xs F A (A + 19) (A + 46) (Int32.ofNat (i + 6)) h' s' (kc + 1) (ks + tk_mf A (wd A f a xi xa lr wk mm o own ad lf la h0))) := by
  have s0 : tk_sc L xs (Int32.ofNat i) = some (xs i) := by have := law_sc (L := L) (xs := xs) (i := i) (j := 0) (by omega) hL; rw [tI_a] at this; exact this
  have s1 : tk_sc L xs (Int32.ofNat i + 1) = some (xs (i + 1)) := law_sc (j := 1) (by omega) hL
  have b1 := fun k : Int32 → Option Unit => bnd s1 k
  have s2 : tk_sc L xs (Int32.ofNat i + 2) = some (xs (i + 2)) := law_sc (j := 2) (by omega) hL
  have b2 := fun k : Int32 → Option Unit => bnd s2 k
  have s3 : tk_sc L xs (Int32.ofNat i + 3) = some (xs (i + 3)) := law_sc (j := 3) (by omega) hL
  have b3 := fun k : Int32 → Option Unit => bnd s3 k
  have s4 : tk_sc L xs (Int32.ofNat i + 4) = some (xs (i + 4)) := law_sc (j := 4) (by omega) hL
  have b4 := fun k : Int32 → Option Unit => bnd s4 k
  have s5 : tk_sc L xs (Int32.ofNat i + 5) = some (xs (i + 5)) := law_sc (j := 5) (by omega) hL
  have b5 := fun k : Int32 → Option Unit => bnd s5 k
  have s6 : Int32.ofNat i + 6 = Int32.ofNat (i + 6) := tI_a i 6
  have hgo := law_go hi hL
  have hmf := mf_is (o := o) hR
  obtain ⟨r, h1, s1', e1, t4, q, e2, t1, len', t6, t7⟩ := sd_week (N := N) (o := o) (M := tk_mf A (wd A f a xi xa lr wk mm o own ad lf la h0)) hN hc hmf hR
  refine ⟨q.2.1, q.2.2, len', t6, ?_, fun hb => ?_⟩
  · obtain ⟨g1, g2, g3, g4, hO, g6, g7, g8, g9, g10, g11, g12, g13⟩ := id hR
    have hp14 : 2 ^ n ≤ 16384 := Nat.pow_le_pow_right (n := 2) (by decide) g1
    have hpos : 1 ≤ 2 ^ n := Nat.one_le_two_pow
    rcases t7 with ⟨h, hl⟩ | ⟨h2, h3⟩
    · rw [if_neg (by omega)] at hmf
      exact Or.inl ⟨h, hmf⟩
    · rw [if_pos h2] at hmf
      refine Or.inr ⟨?_, by omega, by omega⟩
      obtain ⟨w0, w1, w2, w3, w4⟩ := g11
      rcases w4 with ⟨-, rfl⟩ | ⟨-, -, ⟨s, h4, h5⟩, -⟩
      · omega
      · have : s < n := by
          apply Classical.byContradiction
          intro hs
          have := Nat.pow_le_pow_right (n := 2) (by decide) (Nat.le_of_not_lt hs)
          omega
        have h6 := Nat.pow_le_pow_right (n := 2) (by decide) (Nat.succ_le_of_lt this)
        rw [Nat.pow_succ] at h6
        omega
  · rw [fL_law_23, if_neg hgo, s0, Option.bind_some, hop, if_neg (show ¬ ((11 : Int32) = 0) by decide), if_neg (show ¬ ((11 : Int32) = 1) by decide), if_neg (show ¬ ((11 : Int32) = 2) by decide), if_neg (show ¬ ((11 : Int32) = 3) by decide), if_neg (show ¬ ((11 : Int32) = 4) by decide), if_neg (show ¬ ((11 : Int32) = 5) by decide), if_neg (show ¬ ((11 : Int32) = 6) by decide), if_neg (show ¬ ((11 : Int32) = 7) by decide), if_neg (show ¬ ((11 : Int32) = 8) by decide), if_neg (show ¬ ((11 : Int32) = 9) by decide), if_neg (show ¬ ((11 : Int32) = 10) by decide), if_pos (show (11 : Int32) = 11 from rfl)]
    have e1b := fun k : _ → Option Unit => bnd e1 k
    have e2b := fun k : _ → Option Unit => bnd e2 k
    have t4b := fun k : _ → Option Unit => bnd t4 k
    simp (disch := omega) only [↓b1, ↓b2, ↓b3, ↓b4, ↓b5, s6, ↓bd_b, ↓bwo_4, ↓e1b, ↓t4b, ↓e2b, t1, ↓Sum.elim_inl, ↓reduceIte, ↓fL_law_1856, ↓fL_law_1853, ↓fL_law_1797, ↓fL_law_1741, ↓fL_law_1685, ↓fL_law_1544, ↓fL_law_1488, ↓fL_law_1408, ↓fL_law_1402, ↓fL_law_1368, ↓fL_law_1335, ↓fL_law_1305, ↓fL_law_1249, ↓fL_law_1193, ↓fL_law_1137, ↓fL_law_1131, ↓fL_law_1074, ↓fL_law_980, ↓fL_law_888, ↓fL_law_820, ↓fL_law_752, ↓fL_law_672, ↓fL_law_666, ↓fL_law_632, ↓fL_law_593, ↓fL_law_557, ↓fL_law_551, ↓fL_law_517, ↓fL_law_484, ↓fL_law_454, ↓fL_law_398, ↓fL_law_330, ↓fL_law_250]
end LAW

theorem law_loop {A L : Nat} {xs : Nat → Int32} (hL : L ≤ 3072) : ∀ d c F len sz h kc ks, L < 6 * c + 6 * d + 6 → d < F → kc ≤ 47 + 9 * c → ks ≤ 44588 + 137 * c + 2 * len → len ≤ 16384 → 6 * c ≤ 6144 → tk_inv A c len sz h → fL_law_23 20000 (tk_mf A) L xs F A (A + 19) (A + 46) (Int32.ofNat (6 * c)) h sz kc ks = some () := by
  intro d
  induction d with
  | zero =>
    intro c F len sz h kc ks hd hF hkc hks hlen hc hinv
    obtain ⟨G, rfl⟩ : ∃ G, F = G + 1 := ⟨F - 1, by omega⟩
    rw [fL_law_23, if_pos (law_end (by omega) hL (by omega)), bd_b (by omega)]
  | succ d ih =>
    intro c F len sz h kc ks hd hF hkc hks hlen hc hinv
    obtain ⟨G, rfl⟩ : ∃ G, F = G + 1 := ⟨F - 1, by omega⟩
    by_cases hend : L < 6 * c + 6
    · rw [fL_law_23, if_pos (law_end (by omega) hL (by omega)), bd_b (by omega)]
    · have hi : 6 * c + 6 ≤ L := by omega
      have next : ∀ len' h' s' kc' ks', tk_inv A (c + 1) len' s' h' → kc' ≤ 47 + 9 * (c + 1) → ks' ≤ 44588 + 137 * (c + 1) + 2 * len' → len' ≤ 16384 → fL_law_23 20000 (tk_mf A) L xs G A (A + 19) (A + 46) (Int32.ofNat (6 * c + 6)) h' s' kc' ks' = some () := by
        intro len' h' s' kc' ks' h1 h2 h3 h4
        exact ih (c + 1) G len' s' h' kc' ks' (by omega) (by omega) h2 h3 h4 (by omega) h1
      obtain ⟨f, a, xi, xa, lr, wk, mm, o, own, ad, lf, la, h0, n, rfl, hR⟩ := hinv
      by_cases e0 : xs (6 * c) &&& 31 = 0
      · obtain ⟨h', s', t1, t3⟩ := law_0 (N := 20000) (F := G) (kc := kc) (ks := ks) (mf := tk_mf A) (o := o) (f := f) (Nat.le_refl _) e0 hi hL (by omega) (by omega) hR
        rw [t3]
        exact next len h' s' _ _ t1 (by omega) (by omega) hlen
      by_cases e1 : xs (6 * c) &&& 31 = 1
      · obtain ⟨h', s', t1, t3⟩ := law_1 (N := 20000) (F := G) (kc := kc) (ks := ks) (mf := tk_mf A) (o := o) (f := f) (Nat.le_refl _) e1 hi hL (by omega) (by omega) hR
        rw [t3]
        exact next len h' s' _ _ t1 (by omega) (by omega) hlen
      by_cases e2 : xs (6 * c) &&& 31 = 2
      · obtain ⟨h', s', t1, t3⟩ := law_2 (N := 20000) (F := G) (kc := kc) (ks := ks) (mf := tk_mf A) (o := o) (f := f) (Nat.le_refl _) e2 hi hL (by omega) (by omega) hR
        rw [t3]
        exact next len h' s' _ _ t1 (by omega) (by omega) hlen
      by_cases e3 : xs (6 * c) &&& 31 = 3
      · obtain ⟨h', s', t1, t3⟩ := law_3 (N := 20000) (F := G) (kc := kc) (ks := ks) (mf := tk_mf A) (o := o) (f := f) (Nat.le_refl _) e3 hi hL (by omega) (by omega) hR
        rw [t3]
        exact next len h' s' _ _ t1 (by omega) (by omega) hlen
      by_cases e4 : xs (6 * c) &&& 31 = 4
      · obtain ⟨h', s', t1, t3⟩ := law_4 (N := 20000) (F := G) (kc := kc) (ks := ks) (mf := tk_mf A) (o := o) (f := f) (Nat.le_refl _) e4 hi hL (by omega) (by omega) hR
        rw [t3]
        exact next len h' s' _ _ t1 (by omega) (by omega) hlen
      by_cases e5 : xs (6 * c) &&& 31 = 5
      · obtain ⟨h', s', t1, t3⟩ := law_5 (N := 20000) (F := G) (kc := kc) (ks := ks) (mf := tk_mf A) (o := o) (f := f) (Nat.le_refl _) e5 hi hL (by omega) (by omega) hR
        rw [t3]
        exact next len h' s' _ _ t1 (by omega) (by omega) hlen
      by_cases e6 : xs (6 * c) &&& 31 = 6
      · obtain ⟨h', s', t1, t3⟩ := law_6 (N := 20000) (F := G) (kc := kc) (ks := ks) (mf := tk_mf A) (o := o) (f := f) (Nat.le_refl _) e6 hi hL (by omega) (by omega) hR
        rw [t3]
        exact next len h' s' _ _ t1 (by omega) (by omega) hlen
      by_cases e7 : xs (6 * c) &&& 31 = 7
      · obtain ⟨h', s', t1, t3⟩ := law_7 (N := 20000) (F := G) (kc := kc) (ks := ks) (mf := tk_mf A) (o := o) (f := f) (Nat.le_refl _) e7 hi hL (by omega) (by omega) hR
        rw [t3]
        exact next len h' s' _ _ t1 (by omega) (by omega) hlen
      by_cases e8 : xs (6 * c) &&& 31 = 8
      · obtain ⟨h', s', t1, t3⟩ := law_8 (N := 20000) (F := G) (kc := kc) (ks := ks) (mf := tk_mf A) (o := o) (f := f) (Nat.le_refl _) e8 hi hL (by omega) (by omega) hR
        rw [t3]
        exact next len h' s' _ _ t1 (by omega) (by omega) hlen
      by_cases e9 : xs (6 * c) &&& 31 = 9
      · obtain ⟨h', s', t1, t3⟩ := law_9 (N := 20000) (F := G) (kc := kc) (ks := ks) (mf := tk_mf A) (o := o) (f := f) (Nat.le_refl _) e9 hi hL (by omega) (by omega) hR
        rw [t3]
        exact next len h' s' _ _ t1 (by omega) (by omega) hlen
      by_cases e10 : xs (6 * c) &&& 31 = 10
      · obtain ⟨h', s', t1, t3⟩ := law_10 (N := 20000) (F := G) (kc := kc) (ks := ks) (mf := tk_mf A) (o := o) (f := f) (Nat.le_refl _) e10 hi hL (by omega) (by omega) hR
        rw [t3]
        exact next len h' s' _ _ t1 (by omega) (by omega) hlen
      by_cases e11 : xs (6 * c) &&& 31 = 11
      · obtain ⟨h', s', len', t1, t2, t3⟩ := law_11 (N := 20000) (F := G) (kc := kc) (ks := ks) (o := o) (f := f) (by omega : c < 900000) (Nat.le_refl _) e11 hi hL (by omega) (by omega) hR
        have hmfl : tk_mf A (wd A f a xi xa lr wk mm o own ad lf la h0) ≤ 16384 := by rcases t2 with ⟨-, h⟩ | ⟨-, h, h5⟩ <;> omega
        rw [t3 (by omega)]
        exact next len' h' s' _ _ t1 (by omega) (by rcases t2 with ⟨h, h2⟩ | ⟨h, h2, h5⟩ <;> omega) (by rcases t2 with ⟨h, h2⟩ | ⟨h, h2, h5⟩ <;> omega)
      by_cases e12 : xs (6 * c) &&& 31 = 12
      · obtain ⟨h', s', t1, t3⟩ := law_12 (N := 20000) (F := G) (kc := kc) (ks := ks) (mf := tk_mf A) (o := o) (f := f) (Nat.le_refl _) e12 hi hL (by omega) (by omega) hR
        rw [t3]
        exact next len h' s' _ _ t1 (by omega) (by omega) hlen
      by_cases e13 : xs (6 * c) &&& 31 = 13
      · obtain ⟨h', s', t1, t3⟩ := law_13 (N := 20000) (F := G) (kc := kc) (ks := ks) (mf := tk_mf A) (o := o) (f := f) (Nat.le_refl _) e13 hi hL (by omega) (by omega) hR
        rw [t3]
        exact next len h' s' _ _ t1 (by omega) (by omega) hlen
      by_cases e14 : xs (6 * c) &&& 31 = 14
      · obtain ⟨h', s', t1, t3⟩ := law_14 (N := 20000) (F := G) (kc := kc) (ks := ks) (mf := tk_mf A) (o := o) (f := f) (Nat.le_refl _) e14 hi hL (by omega) (by omega) hR
        rw [t3]
        exact next len h' s' _ _ t1 (by omega) (by omega) hlen
      by_cases e15 : xs (6 * c) &&& 31 = 15
      · obtain ⟨h', s', t1, t3⟩ := law_15 (N := 20000) (F := G) (kc := kc) (ks := ks) (mf := tk_mf A) (o := o) (f := f) (Nat.le_refl _) e15 hi hL (by omega) (by omega) hR
        rw [t3]
        exact next len h' s' _ _ t1 (by omega) (by omega) hlen
      by_cases e16 : xs (6 * c) &&& 31 = 16
      · obtain ⟨h', s', t1, t3⟩ := law_16 (N := 20000) (F := G) (kc := kc) (ks := ks) (mf := tk_mf A) (o := o) (f := f) (Nat.le_refl _) e16 hi hL (by omega) (by omega) hR
        rw [t3]
        exact next len h' s' _ _ t1 (by omega) (by omega) hlen
      by_cases e17 : xs (6 * c) &&& 31 = 17
      · obtain ⟨h', s', t1, t3⟩ := law_17 (N := 20000) (F := G) (kc := kc) (ks := ks) (mf := tk_mf A) (o := o) (f := f) (Nat.le_refl _) e17 hi hL (by omega) (by omega) hR
        rw [t3]
        exact next len h' s' _ _ t1 (by omega) (by omega) hlen
      by_cases e18 : xs (6 * c) &&& 31 = 18
      · obtain ⟨h', s', t1, t3⟩ := law_18 (N := 20000) (F := G) (kc := kc) (ks := ks) (mf := tk_mf A) (o := o) (f := f) (Nat.le_refl _) e18 hi hL (by omega) (by omega) hR
        rw [t3]
        exact next len h' s' _ _ t1 (by omega) (by omega) hlen
      by_cases e19 : xs (6 * c) &&& 31 = 19
      · obtain ⟨h', s', t1, t3⟩ := law_19 (N := 20000) (F := G) (kc := kc) (ks := ks) (mf := tk_mf A) (o := o) (f := f) (Nat.le_refl _) e19 hi hL (by omega) (by omega) hR
        rw [t3]
        exact next len h' s' _ _ t1 (by omega) (by omega) hlen
      by_cases e20 : xs (6 * c) &&& 31 = 20
      · obtain ⟨h', s', t1, t3⟩ := law_20 (N := 20000) (F := G) (kc := kc) (ks := ks) (mf := tk_mf A) (o := o) (f := f) (Nat.le_refl _) e20 hi hL (by omega) (by omega) hR
        rw [t3]
        exact next len h' s' _ _ t1 (by omega) (by omega) hlen
      by_cases e21 : xs (6 * c) &&& 31 = 21
      · obtain ⟨h', s', t1, t3⟩ := law_21 (N := 20000) (F := G) (kc := kc) (ks := ks) (mf := tk_mf A) (o := o) (f := f) (Nat.le_refl _) e21 hi hL (by omega) (by omega) hR
        rw [t3]
        exact next len h' s' _ _ t1 (by omega) (by omega) hlen
      by_cases e22 : xs (6 * c) &&& 31 = 22
      · obtain ⟨h', s', t1, t3⟩ := law_22 (N := 20000) (F := G) (kc := kc) (ks := ks) (mf := tk_mf A) (o := o) (f := f) (Nat.le_refl _) e22 hi hL (by omega) (by omega) hR
        rw [t3]
        exact next len h' s' _ _ t1 (by omega) (by omega) hlen
      by_cases e23 : xs (6 * c) &&& 31 = 23
      · obtain ⟨h', s', t1, t3⟩ := law_23 (N := 20000) (F := G) (kc := kc) (ks := ks) (mf := tk_mf A) (o := o) (f := f) (Nat.le_refl _) e23 hi hL (by omega) (by omega) hR
        rw [t3]
        exact next len h' s' _ _ t1 (by omega) (by omega) hlen
      by_cases e24 : xs (6 * c) &&& 31 = 24
      · obtain ⟨h', s', t1, t3⟩ := law_24 (N := 20000) (F := G) (kc := kc) (ks := ks) (mf := tk_mf A) (o := o) (f := f) (Nat.le_refl _) e24 hi hL (by omega) (by omega) hR
        rw [t3]
        exact next len h' s' _ _ t1 (by omega) (by omega) hlen
      by_cases e25 : xs (6 * c) &&& 31 = 25
      · obtain ⟨h', s', t1, t3⟩ := law_25 (N := 20000) (F := G) (kc := kc) (ks := ks) (mf := tk_mf A) (o := o) (f := f) (Nat.le_refl _) e25 hi hL (by omega) (by omega) hR
        rw [t3]
        exact next len h' s' _ _ t1 (by omega) (by omega) hlen
      have s0 : tk_sc L xs (Int32.ofNat (6 * c)) = some (xs (6 * c)) := by have := law_sc (L := L) (xs := xs) (i := 6 * c) (j := 0) (by omega) hL; rw [tI_a] at this; exact this
      rw [fL_law_23, if_neg (law_go hi hL), s0, Option.bind_some, if_neg e0, if_neg e1, if_neg e2, if_neg e3, if_neg e4, if_neg e5, if_neg e6, if_neg e7, if_neg e8, if_neg e9, if_neg e10, if_neg e11, if_neg e12, if_neg e13, if_neg e14, if_neg e15, if_neg e16, if_neg e17, if_neg e18, if_neg e19, if_neg e20, if_neg e21, if_neg e22, if_neg e23, if_neg e24, if_neg e25]
      unfold fL_law_1856
      rw [show Int32.ofNat (6 * c) + 6 = Int32.ofNat (6 * c + 6) from tI_a (6 * c) 6]
      exact next len _ sz kc ks ⟨f, a, xi, xa, lr, wk, mm, o, own, ad, lf, la, h0, n, rfl, tk_R_eq (fun _ _ _ => rfl) (fun _ _ => rfl) (fun _ _ _ _ _ => rfl) (fun _ _ _ => rfl) (Nat.le_refl _) (Nat.le_succ _) hR⟩ (by omega) (by omega) hlen
/-- THE PURE SIDE: the law's mirror answers -/
theorem tk_pure (L : Nat) (xs : Nat → Int32) (sz : Nat) (hL : L ≤ 3072) : fL_law 20000 (tk_mf sz) L xs (fun _ => none) sz = some () := by
  unfold fL_law
  rw [bd_b (by omega), x_init4, Option.bind_some, bd_b (by omega)]
  simp only
  rw [x_init5, Option.bind_some]
  simp only
  rw [show sz + 19 + 27 = sz + 46 from rfl, wd_init]
  exact law_loop hL 512 0 20000 0 (sz + 47) _ 47 44588 (by omega) (by omega) (by omega) (by omega) (by omega) (by omega) ⟨_, _, _, _, _, _, _, _, _, _, _, _, _, _, rfl, R_init⟩
