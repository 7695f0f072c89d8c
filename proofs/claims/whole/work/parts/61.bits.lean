set_option maxRecDepth 20000 in
theorem zn_xor (x : Int64) : x ^^^ zq_min = x + zq_min := by
  rw [zq_min_eq]
  apply Int64.toBitVec_inj.mp
  rw [Int64.toBitVec_xor, Int64.toBitVec_add]
  generalize x.toBitVec = b
  have e : (-9223372036854775808 : Int64).toBitVec = BitVec.ofNat 64 (2 ^ 63) := by decide
  rw [e]
  apply BitVec.eq_of_toNat_eq
  rw [BitVec.toNat_xor, BitVec.toNat_add]
  have e2 : (BitVec.ofNat 64 (2 ^ 63)).toNat = 2 ^ 63 := by decide
  rw [e2]
  have hb := b.isLt
  by_cases h : b.toNat < 2 ^ 63
  · have : b.toNat ^^^ 2 ^ 63 = 2 ^ 63 + b.toNat := by
      apply Nat.eq_of_testBit_eq
      intro i
      rw [Nat.testBit_xor, Nat.testBit_two_pow]
      rcases Nat.lt_trichotomy i 63 with hi | hi | hi
      · rw [Nat.testBit_two_pow_add_gt hi]
        simp [Nat.ne_of_gt hi]
      · subst hi
        rw [Nat.testBit_two_pow_add_eq]
        simp
      · have h1 : b.toNat.testBit i = false := Nat.testBit_lt_two_pow (Nat.lt_of_lt_of_le h (Nat.pow_le_pow_right (by omega) (by omega)))
        have h2 : (2 ^ 63 + b.toNat).testBit i = false := Nat.testBit_lt_two_pow (Nat.lt_of_lt_of_le (show 2 ^ 63 + b.toNat < 2 ^ 64 by omega) (Nat.pow_le_pow_right (by omega) (by omega)))
        rw [h1, h2]
        simp [Nat.ne_of_lt hi]
    rw [this]; omega
  · obtain ⟨c, hc⟩ : ∃ c, b.toNat = 2 ^ 63 + c := ⟨b.toNat - 2 ^ 63, by omega⟩
    have hc2 : c < 2 ^ 63 := by omega
    rw [hc]
    have : (2 ^ 63 + c) ^^^ 2 ^ 63 = c := by
      apply Nat.eq_of_testBit_eq
      intro i
      rw [Nat.testBit_xor, Nat.testBit_two_pow]
      rcases Nat.lt_trichotomy i 63 with hi | hi | hi
      · rw [Nat.testBit_two_pow_add_gt hi]
        simp [Nat.ne_of_gt hi]
      · subst hi
        rw [Nat.testBit_two_pow_add_eq]
        have h1 : c.testBit 63 = false := Nat.testBit_lt_two_pow hc2
        simp [h1]
      · have h1 : c.testBit i = false := Nat.testBit_lt_two_pow (Nat.lt_of_lt_of_le hc2 (Nat.pow_le_pow_right (by omega) (by omega)))
        have h2 : (2 ^ 63 + c).testBit i = false := Nat.testBit_lt_two_pow (Nat.lt_of_lt_of_le (show 2 ^ 63 + c < 2 ^ 64 by omega) (Nat.pow_le_pow_right (by omega) (by omega)))
        rw [h1, h2]
        simp [Nat.ne_of_lt hi]
    rw [this]; omega
set_option maxRecDepth 20000 in
theorem zn_below (a b : Int64) (post : Int32 → Prop) : wp_Work_isBelow a b post = wp_M_isLess a b post := by
  unfold wp_Work_isBelow wp_M_isLess
  rw [zn_xor, zn_xor]
abbrev zn_U (x : Int64) : Nat := x.toBitVec.toNat
set_option maxRecDepth 20000 in
theorem zn_less (a b : Int64) : (b + zq_min ≤ a + zq_min) ↔ b.toBitVec.toNat ≤ a.toBitVec.toNat := by
  have key : ∀ x : Int64, (x + zq_min).toInt = (x.toBitVec.toNat : Int) - 2 ^ 63 := by
    intro x
    rw [zq_min_eq, Int64.toInt_add]
    have e : (-9223372036854775808 : Int64).toInt = -2 ^ 63 := by decide
    rw [e]
    have hx : x.toInt = x.toBitVec.toInt := rfl
    have hb := x.toBitVec.isLt
    rw [hx, BitVec.toInt_eq_toNat_bmod]
    rw [Int.bmod_add_bmod] <;> try skip
    rw [Int.bmod_def]
    split <;> omega
  rw [Int64.le_iff_toInt_le, key, key]
  omega
set_option maxRecDepth 20000 in
theorem zn_ite {c A B : Prop} [Decidable c] (h1 : c → A) (h2 : ¬ c → B) : if c then A else B := by
  by_cases h : c
  · rw [if_pos h]; exact h1 h
  · rw [if_neg h]; exact h2 h
set_option maxRecDepth 20000 in
theorem zn_it {c A B : Prop} [Decidable c] (h : c) (h1 : A) : if c then A else B := by
  rw [if_pos h]; exact h1
set_option maxRecDepth 20000 in
theorem zn_if {c A B : Prop} [Decidable c] (h : ¬ c) (h1 : B) : if c then A else B := by
  rw [if_neg h]; exact h1
set_option maxRecDepth 20000 in
theorem zn_isLess {a b : Int64} {post : Int32 → Prop} (h1 : zn_U b ≤ zn_U a → post 0) (h2 : zn_U a < zn_U b → post 1) : wp_M_isLess a b post :=
  zn_ite (fun h => h1 ((zn_less a b).mp h)) (fun h => h2 (Nat.lt_of_not_le (fun z => h ((zn_less a b).mpr z))))
set_option maxRecDepth 20000 in
theorem zn_isBelow {a b : Int64} {post : Int32 → Prop} (h1 : zn_U b ≤ zn_U a → post 0) (h2 : zn_U a < zn_U b → post 1) : wp_Work_isBelow a b post := by
  rw [zn_below]; exact zn_isLess h1 h2
