theorem tI_i {a : Nat} (ha : a < 2147483648) : (Int32.ofNat a).toInt = (a : Int) := Int32.toInt_ofNat_of_lt ha
theorem tI_e {a b : Nat} (ha : a < 2147483648) (hb : b < 2147483648) : (Int32.ofNat a = Int32.ofNat b) = (a = b) := by
  rw [← Int32.toInt_inj, tI_i ha, tI_i hb]; exact propext (by omega)
theorem tI_a (a b : Nat) : Int32.ofNat a + Int32.ofNat b = Int32.ofNat (a + b) := (Int32.ofNat_add a b).symm
theorem tI_s {a b : Nat} (h : b ≤ a) : Int32.ofNat a - Int32.ofNat b = Int32.ofNat (a - b) := (Int32.ofNat_sub a b h).symm
theorem tI_x {x : Int32} (h : 0 ≤ x.toInt) : ∃ n : Nat, x = Int32.ofNat n ∧ (n : Int) = x.toInt := ⟨x.toInt.toNat, by rw [← Int32.toInt_inj, tI_i (by have := Int32.toInt_lt x; omega)]; omega, by omega⟩
theorem tI_in {x : Int32} {n : Nat} (h0 : 0 ≤ x.toInt) (h1 : x.toInt < n) : ∃ l : Nat, l < n ∧ x = Int32.ofNat l := by
  obtain ⟨l, h2, h3⟩ := tI_x h0
  exact ⟨l, by omega, h2⟩
theorem tT_m1 : Int32.toInt (-1) = -1 := rfl
theorem tE_m1 {a : Nat} (ha : a < 2147483648) : (Int32.ofNat a = -1) = False := by
  rw [← Int32.toInt_inj, tI_i ha, tT_m1]; exact eq_false (by omega)
theorem tP_m1 {a : Nat} (ha : 1 ≤ a) : Int32.ofNat a + (-1) = Int32.ofNat (a - 1) := by
  rw [← Int32.sub_eq_add_neg]; exact tI_s (b := 1) ha
theorem tT_0 : Int32.toInt 0 = 0 := rfl
theorem tE_0 {a : Nat} (ha : a < 2147483648) : (Int32.ofNat a = 0) = (a = 0) := tI_e (b := 0) ha (by decide)
theorem tP_0 (a : Nat) : Int32.ofNat a + 0 = Int32.ofNat (a + 0) := tI_a a 0
theorem tM_0 (a : Nat) : 0 * Int32.ofNat a = Int32.ofNat (0 * a) := (Int32.ofNat_mul 0 a).symm
theorem tN_0 (a : Nat) : Int32.ofNat a * 0 = Int32.ofNat (a * 0) := (Int32.ofNat_mul a 0).symm
theorem tS_0 {a : Nat} (h : 0 ≤ a) : Int32.ofNat a - 0 = Int32.ofNat (a - 0) := tI_s (b := 0) h
theorem tT_1 : Int32.toInt 1 = 1 := rfl
theorem tE_1 {a : Nat} (ha : a < 2147483648) : (Int32.ofNat a = 1) = (a = 1) := tI_e (b := 1) ha (by decide)
theorem tP_1 (a : Nat) : Int32.ofNat a + 1 = Int32.ofNat (a + 1) := tI_a a 1
theorem tM_1 (a : Nat) : 1 * Int32.ofNat a = Int32.ofNat (1 * a) := (Int32.ofNat_mul 1 a).symm
theorem tN_1 (a : Nat) : Int32.ofNat a * 1 = Int32.ofNat (a * 1) := (Int32.ofNat_mul a 1).symm
theorem tS_1 {a : Nat} (h : 1 ≤ a) : Int32.ofNat a - 1 = Int32.ofNat (a - 1) := tI_s (b := 1) h
theorem tT_2 : Int32.toInt 2 = 2 := rfl
theorem tE_2 {a : Nat} (ha : a < 2147483648) : (Int32.ofNat a = 2) = (a = 2) := tI_e (b := 2) ha (by decide)
theorem tP_2 (a : Nat) : Int32.ofNat a + 2 = Int32.ofNat (a + 2) := tI_a a 2
theorem tM_2 (a : Nat) : 2 * Int32.ofNat a = Int32.ofNat (2 * a) := (Int32.ofNat_mul 2 a).symm
theorem tN_2 (a : Nat) : Int32.ofNat a * 2 = Int32.ofNat (a * 2) := (Int32.ofNat_mul a 2).symm
theorem tS_2 {a : Nat} (h : 2 ≤ a) : Int32.ofNat a - 2 = Int32.ofNat (a - 2) := tI_s (b := 2) h
theorem tT_3 : Int32.toInt 3 = 3 := rfl
theorem tE_3 {a : Nat} (ha : a < 2147483648) : (Int32.ofNat a = 3) = (a = 3) := tI_e (b := 3) ha (by decide)
theorem tP_3 (a : Nat) : Int32.ofNat a + 3 = Int32.ofNat (a + 3) := tI_a a 3
theorem tM_3 (a : Nat) : 3 * Int32.ofNat a = Int32.ofNat (3 * a) := (Int32.ofNat_mul 3 a).symm
theorem tN_3 (a : Nat) : Int32.ofNat a * 3 = Int32.ofNat (a * 3) := (Int32.ofNat_mul a 3).symm
theorem tS_3 {a : Nat} (h : 3 ≤ a) : Int32.ofNat a - 3 = Int32.ofNat (a - 3) := tI_s (b := 3) h
theorem tT_4 : Int32.toInt 4 = 4 := rfl
theorem tE_4 {a : Nat} (ha : a < 2147483648) : (Int32.ofNat a = 4) = (a = 4) := tI_e (b := 4) ha (by decide)
theorem tP_4 (a : Nat) : Int32.ofNat a + 4 = Int32.ofNat (a + 4) := tI_a a 4
theorem tM_4 (a : Nat) : 4 * Int32.ofNat a = Int32.ofNat (4 * a) := (Int32.ofNat_mul 4 a).symm
theorem tN_4 (a : Nat) : Int32.ofNat a * 4 = Int32.ofNat (a * 4) := (Int32.ofNat_mul a 4).symm
theorem tS_4 {a : Nat} (h : 4 ≤ a) : Int32.ofNat a - 4 = Int32.ofNat (a - 4) := tI_s (b := 4) h
theorem tT_5 : Int32.toInt 5 = 5 := rfl
theorem tE_5 {a : Nat} (ha : a < 2147483648) : (Int32.ofNat a = 5) = (a = 5) := tI_e (b := 5) ha (by decide)
theorem tP_5 (a : Nat) : Int32.ofNat a + 5 = Int32.ofNat (a + 5) := tI_a a 5
theorem tM_5 (a : Nat) : 5 * Int32.ofNat a = Int32.ofNat (5 * a) := (Int32.ofNat_mul 5 a).symm
theorem tN_5 (a : Nat) : Int32.ofNat a * 5 = Int32.ofNat (a * 5) := (Int32.ofNat_mul a 5).symm
theorem tS_5 {a : Nat} (h : 5 ≤ a) : Int32.ofNat a - 5 = Int32.ofNat (a - 5) := tI_s (b := 5) h
theorem tT_6 : Int32.toInt 6 = 6 := rfl
theorem tE_6 {a : Nat} (ha : a < 2147483648) : (Int32.ofNat a = 6) = (a = 6) := tI_e (b := 6) ha (by decide)
theorem tP_6 (a : Nat) : Int32.ofNat a + 6 = Int32.ofNat (a + 6) := tI_a a 6
theorem tM_6 (a : Nat) : 6 * Int32.ofNat a = Int32.ofNat (6 * a) := (Int32.ofNat_mul 6 a).symm
theorem tN_6 (a : Nat) : Int32.ofNat a * 6 = Int32.ofNat (a * 6) := (Int32.ofNat_mul a 6).symm
theorem tS_6 {a : Nat} (h : 6 ≤ a) : Int32.ofNat a - 6 = Int32.ofNat (a - 6) := tI_s (b := 6) h
theorem tT_7 : Int32.toInt 7 = 7 := rfl
theorem tE_7 {a : Nat} (ha : a < 2147483648) : (Int32.ofNat a = 7) = (a = 7) := tI_e (b := 7) ha (by decide)
theorem tP_7 (a : Nat) : Int32.ofNat a + 7 = Int32.ofNat (a + 7) := tI_a a 7
theorem tM_7 (a : Nat) : 7 * Int32.ofNat a = Int32.ofNat (7 * a) := (Int32.ofNat_mul 7 a).symm
theorem tN_7 (a : Nat) : Int32.ofNat a * 7 = Int32.ofNat (a * 7) := (Int32.ofNat_mul a 7).symm
theorem tS_7 {a : Nat} (h : 7 ≤ a) : Int32.ofNat a - 7 = Int32.ofNat (a - 7) := tI_s (b := 7) h
theorem tT_8 : Int32.toInt 8 = 8 := rfl
theorem tE_8 {a : Nat} (ha : a < 2147483648) : (Int32.ofNat a = 8) = (a = 8) := tI_e (b := 8) ha (by decide)
theorem tP_8 (a : Nat) : Int32.ofNat a + 8 = Int32.ofNat (a + 8) := tI_a a 8
theorem tM_8 (a : Nat) : 8 * Int32.ofNat a = Int32.ofNat (8 * a) := (Int32.ofNat_mul 8 a).symm
theorem tN_8 (a : Nat) : Int32.ofNat a * 8 = Int32.ofNat (a * 8) := (Int32.ofNat_mul a 8).symm
theorem tS_8 {a : Nat} (h : 8 ≤ a) : Int32.ofNat a - 8 = Int32.ofNat (a - 8) := tI_s (b := 8) h
theorem tT_10 : Int32.toInt 10 = 10 := rfl
theorem tE_10 {a : Nat} (ha : a < 2147483648) : (Int32.ofNat a = 10) = (a = 10) := tI_e (b := 10) ha (by decide)
theorem tP_10 (a : Nat) : Int32.ofNat a + 10 = Int32.ofNat (a + 10) := tI_a a 10
theorem tM_10 (a : Nat) : 10 * Int32.ofNat a = Int32.ofNat (10 * a) := (Int32.ofNat_mul 10 a).symm
theorem tN_10 (a : Nat) : Int32.ofNat a * 10 = Int32.ofNat (a * 10) := (Int32.ofNat_mul a 10).symm
theorem tS_10 {a : Nat} (h : 10 ≤ a) : Int32.ofNat a - 10 = Int32.ofNat (a - 10) := tI_s (b := 10) h
theorem tT_14 : Int32.toInt 14 = 14 := rfl
theorem tE_14 {a : Nat} (ha : a < 2147483648) : (Int32.ofNat a = 14) = (a = 14) := tI_e (b := 14) ha (by decide)
theorem tP_14 (a : Nat) : Int32.ofNat a + 14 = Int32.ofNat (a + 14) := tI_a a 14
theorem tM_14 (a : Nat) : 14 * Int32.ofNat a = Int32.ofNat (14 * a) := (Int32.ofNat_mul 14 a).symm
theorem tN_14 (a : Nat) : Int32.ofNat a * 14 = Int32.ofNat (a * 14) := (Int32.ofNat_mul a 14).symm
theorem tS_14 {a : Nat} (h : 14 ≤ a) : Int32.ofNat a - 14 = Int32.ofNat (a - 14) := tI_s (b := 14) h
theorem tT_16 : Int32.toInt 16 = 16 := rfl
theorem tE_16 {a : Nat} (ha : a < 2147483648) : (Int32.ofNat a = 16) = (a = 16) := tI_e (b := 16) ha (by decide)
theorem tP_16 (a : Nat) : Int32.ofNat a + 16 = Int32.ofNat (a + 16) := tI_a a 16
theorem tM_16 (a : Nat) : 16 * Int32.ofNat a = Int32.ofNat (16 * a) := (Int32.ofNat_mul 16 a).symm
theorem tN_16 (a : Nat) : Int32.ofNat a * 16 = Int32.ofNat (a * 16) := (Int32.ofNat_mul a 16).symm
theorem tS_16 {a : Nat} (h : 16 ≤ a) : Int32.ofNat a - 16 = Int32.ofNat (a - 16) := tI_s (b := 16) h
theorem tT_20 : Int32.toInt 20 = 20 := rfl
theorem tE_20 {a : Nat} (ha : a < 2147483648) : (Int32.ofNat a = 20) = (a = 20) := tI_e (b := 20) ha (by decide)
theorem tP_20 (a : Nat) : Int32.ofNat a + 20 = Int32.ofNat (a + 20) := tI_a a 20
theorem tM_20 (a : Nat) : 20 * Int32.ofNat a = Int32.ofNat (20 * a) := (Int32.ofNat_mul 20 a).symm
theorem tN_20 (a : Nat) : Int32.ofNat a * 20 = Int32.ofNat (a * 20) := (Int32.ofNat_mul a 20).symm
theorem tS_20 {a : Nat} (h : 20 ≤ a) : Int32.ofNat a - 20 = Int32.ofNat (a - 20) := tI_s (b := 20) h
theorem tT_24 : Int32.toInt 24 = 24 := rfl
theorem tE_24 {a : Nat} (ha : a < 2147483648) : (Int32.ofNat a = 24) = (a = 24) := tI_e (b := 24) ha (by decide)
theorem tP_24 (a : Nat) : Int32.ofNat a + 24 = Int32.ofNat (a + 24) := tI_a a 24
theorem tM_24 (a : Nat) : 24 * Int32.ofNat a = Int32.ofNat (24 * a) := (Int32.ofNat_mul 24 a).symm
theorem tN_24 (a : Nat) : Int32.ofNat a * 24 = Int32.ofNat (a * 24) := (Int32.ofNat_mul a 24).symm
theorem tS_24 {a : Nat} (h : 24 ≤ a) : Int32.ofNat a - 24 = Int32.ofNat (a - 24) := tI_s (b := 24) h
theorem tT_40 : Int32.toInt 40 = 40 := rfl
theorem tE_40 {a : Nat} (ha : a < 2147483648) : (Int32.ofNat a = 40) = (a = 40) := tI_e (b := 40) ha (by decide)
theorem tP_40 (a : Nat) : Int32.ofNat a + 40 = Int32.ofNat (a + 40) := tI_a a 40
theorem tM_40 (a : Nat) : 40 * Int32.ofNat a = Int32.ofNat (40 * a) := (Int32.ofNat_mul 40 a).symm
theorem tN_40 (a : Nat) : Int32.ofNat a * 40 = Int32.ofNat (a * 40) := (Int32.ofNat_mul a 40).symm
theorem tS_40 {a : Nat} (h : 40 ≤ a) : Int32.ofNat a - 40 = Int32.ofNat (a - 40) := tI_s (b := 40) h
theorem tT_41 : Int32.toInt 41 = 41 := rfl
theorem tE_41 {a : Nat} (ha : a < 2147483648) : (Int32.ofNat a = 41) = (a = 41) := tI_e (b := 41) ha (by decide)
theorem tP_41 (a : Nat) : Int32.ofNat a + 41 = Int32.ofNat (a + 41) := tI_a a 41
theorem tM_41 (a : Nat) : 41 * Int32.ofNat a = Int32.ofNat (41 * a) := (Int32.ofNat_mul 41 a).symm
theorem tN_41 (a : Nat) : Int32.ofNat a * 41 = Int32.ofNat (a * 41) := (Int32.ofNat_mul a 41).symm
theorem tS_41 {a : Nat} (h : 41 ≤ a) : Int32.ofNat a - 41 = Int32.ofNat (a - 41) := tI_s (b := 41) h
theorem tT_80 : Int32.toInt 80 = 80 := rfl
theorem tE_80 {a : Nat} (ha : a < 2147483648) : (Int32.ofNat a = 80) = (a = 80) := tI_e (b := 80) ha (by decide)
theorem tP_80 (a : Nat) : Int32.ofNat a + 80 = Int32.ofNat (a + 80) := tI_a a 80
theorem tM_80 (a : Nat) : 80 * Int32.ofNat a = Int32.ofNat (80 * a) := (Int32.ofNat_mul 80 a).symm
theorem tN_80 (a : Nat) : Int32.ofNat a * 80 = Int32.ofNat (a * 80) := (Int32.ofNat_mul a 80).symm
theorem tS_80 {a : Nat} (h : 80 ≤ a) : Int32.ofNat a - 80 = Int32.ofNat (a - 80) := tI_s (b := 80) h
theorem tT_455 : Int32.toInt 455 = 455 := rfl
theorem tE_455 {a : Nat} (ha : a < 2147483648) : (Int32.ofNat a = 455) = (a = 455) := tI_e (b := 455) ha (by decide)
theorem tP_455 (a : Nat) : Int32.ofNat a + 455 = Int32.ofNat (a + 455) := tI_a a 455
theorem tM_455 (a : Nat) : 455 * Int32.ofNat a = Int32.ofNat (455 * a) := (Int32.ofNat_mul 455 a).symm
theorem tN_455 (a : Nat) : Int32.ofNat a * 455 = Int32.ofNat (a * 455) := (Int32.ofNat_mul a 455).symm
theorem tS_455 {a : Nat} (h : 455 ≤ a) : Int32.ofNat a - 455 = Int32.ofNat (a - 455) := tI_s (b := 455) h
theorem tT_1000 : Int32.toInt 1000 = 1000 := rfl
theorem tE_1000 {a : Nat} (ha : a < 2147483648) : (Int32.ofNat a = 1000) = (a = 1000) := tI_e (b := 1000) ha (by decide)
theorem tP_1000 (a : Nat) : Int32.ofNat a + 1000 = Int32.ofNat (a + 1000) := tI_a a 1000
theorem tM_1000 (a : Nat) : 1000 * Int32.ofNat a = Int32.ofNat (1000 * a) := (Int32.ofNat_mul 1000 a).symm
theorem tN_1000 (a : Nat) : Int32.ofNat a * 1000 = Int32.ofNat (a * 1000) := (Int32.ofNat_mul a 1000).symm
theorem tS_1000 {a : Nat} (h : 1000 ≤ a) : Int32.ofNat a - 1000 = Int32.ofNat (a - 1000) := tI_s (b := 1000) h
theorem tT_1000000 : Int32.toInt 1000000 = 1000000 := rfl
theorem tE_1000000 {a : Nat} (ha : a < 2147483648) : (Int32.ofNat a = 1000000) = (a = 1000000) := tI_e (b := 1000000) ha (by decide)
theorem tP_1000000 (a : Nat) : Int32.ofNat a + 1000000 = Int32.ofNat (a + 1000000) := tI_a a 1000000
theorem tM_1000000 (a : Nat) : 1000000 * Int32.ofNat a = Int32.ofNat (1000000 * a) := (Int32.ofNat_mul 1000000 a).symm
theorem tN_1000000 (a : Nat) : Int32.ofNat a * 1000000 = Int32.ofNat (a * 1000000) := (Int32.ofNat_mul a 1000000).symm
theorem tS_1000000 {a : Nat} (h : 1000000 ≤ a) : Int32.ofNat a - 1000000 = Int32.ofNat (a - 1000000) := tI_s (b := 1000000) h
