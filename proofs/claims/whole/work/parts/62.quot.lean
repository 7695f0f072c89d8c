abbrev zn_N (x : Int64) : Nat := x.toBitVec.toNat
set_option maxRecDepth 20000 in
theorem zn_N_inj {x y : Int64} (h : zn_N x = zn_N y) : x = y := Int64.toBitVec_inj.mp (BitVec.eq_of_toNat_eq h)
set_option maxRecDepth 20000 in
theorem zn_N_lt (x : Int64) : zn_N x < 2 ^ 64 := x.toBitVec.isLt
set_option maxRecDepth 20000 in
theorem zn_toInt (x : Int64) : x.toInt = if zn_N x < 2 ^ 63 then (zn_N x : Int) else (zn_N x : Int) - 2 ^ 64 := by
  show x.toBitVec.toInt = _
  rw [BitVec.toInt_eq_toNat_cond]
  have := zn_N_lt x
  by_cases h : zn_N x < 2 ^ 63
  · rw [if_pos h, if_pos (by show 2 * zn_N x < 2 ^ 64; omega)]
  · rw [if_neg h, if_neg (by show ¬ 2 * zn_N x < 2 ^ 64; omega)]
    rfl
set_option maxRecDepth 20000 in
theorem zn_lushr1 (a : Int64) : zn_N (zq_j_lushr a 1) = zn_N a / 2 := by
  unfold zq_j_lushr
  have e : ((1 : Int32).toInt64.toUInt64 &&& Int64.toUInt64 63) = 1 := by decide
  rw [e]
  show (a.toUInt64 >>> 1).toBitVec.toNat = _
  rw [UInt64.toBitVec_shiftRight]
  have e1 : ((1 : UInt64).toBitVec % 64) = 1#64 := by decide
  rw [e1]
  rw [BitVec.ushiftRight_eq', BitVec.toNat_ushiftRight]
  show zn_N a >>> 1 = _
  rw [Nat.shiftRight_eq_div_pow]
set_option maxRecDepth 20000 in
theorem zn_lshl1 (a : Int64) : zn_N (zq_j_lshl a 1) = (2 * zn_N a) % 2 ^ 64 := by
  unfold zq_j_lshl
  have e : ((1 : Int32).toInt64 &&& 63) = 1 := by decide
  rw [e]
  show (a <<< (1 : Int64)).toBitVec.toNat = _
  rw [Int64.toBitVec_shiftLeft]
  have e1 : ((1 : Int64).toBitVec.smod 64) = 1#64 := by decide
  rw [e1]
  rw [BitVec.shiftLeft_eq', BitVec.toNat_shiftLeft]
  show (zn_N a <<< 1) % 2 ^ 64 = _
  rw [Nat.shiftLeft_eq]
  omega
set_option maxRecDepth 20000 in
theorem zn_mul (a b : Int64) : zn_N (a * b) = (zn_N a * zn_N b) % 2 ^ 64 := by
  show (a * b).toBitVec.toNat = _
  rw [Int64.toBitVec_mul, BitVec.toNat_mul]
set_option maxRecDepth 20000 in
theorem zn_sub (a b : Int64) : zn_N (a - b) = (zn_N a + (2 ^ 64 - zn_N b)) % 2 ^ 64 := by
  show (a - b).toBitVec.toNat = _
  rw [Int64.toBitVec_sub, BitVec.toNat_sub]
  rw [Nat.add_comm]
set_option maxRecDepth 20000 in
theorem zn_add (a b : Int64) : zn_N (a + b) = (zn_N a + zn_N b) % 2 ^ 64 := by
  show (a + b).toBitVec.toNat = _
  rw [Int64.toBitVec_add, BitVec.toNat_add]
set_option maxRecDepth 20000 in
theorem zn_div {a b : Int64} (ha : zn_N a < 2 ^ 63) (hb : zn_N b < 2 ^ 63) : zn_N (a / b) = zn_N a / zn_N b := by
  show (a / b).toBitVec.toNat = _
  rw [Int64.toBitVec_div]
  have m1 : a.toBitVec.msb = false := by rw [BitVec.msb_eq_decide]; simpa using ha
  have m2 : b.toBitVec.msb = false := by rw [BitVec.msb_eq_decide]; simpa using hb
  rw [BitVec.sdiv_eq, m1, m2]
  simp only
  rw [BitVec.udiv_eq, BitVec.toNat_udiv]
set_option maxRecDepth 20000 in
theorem zn_pos {x : Int64} : 0 ≤ x ↔ zn_N x < 2 ^ 63 := by
  rw [Int64.le_iff_toInt_le, zn_toInt x]
  have := zn_N_lt x
  have e : (0 : Int64).toInt = 0 := by decide
  rw [e]
  split <;> omega
set_option maxRecDepth 20000 in
theorem zn_zero {x : Int64} : x = 0 ↔ zn_N x = 0 := by
  refine ⟨fun h => by rw [h]; decide, fun h => zn_N_inj (h.trans (by decide))⟩
set_option maxRecDepth 20000 in
theorem zn_pos' {x : Int64} : 0 < x ↔ (0 < zn_N x ∧ zn_N x < 2 ^ 63) := by
  rw [Int64.lt_iff_toInt_lt, zn_toInt x]
  have := zn_N_lt x
  have e : (0 : Int64).toInt = 0 := by decide
  rw [e]
  split <;> omega
set_option maxRecDepth 20000 in
theorem zn_half {a b : Nat} (hb : 0 < b) : 2 * (a / 2 / b) * b ≤ a ∧ a < 2 * (a / 2 / b) * b + 2 * b := by
  have h1 := Nat.div_mul_le_self (a / 2) b
  have h2 := Nat.lt_div_mul_add (a := a / 2) hb
  constructor
  · rw [Nat.mul_assoc]; omega
  · rw [Nat.mul_assoc]; omega
set_option maxRecDepth 20000 in
theorem zn_quot {a b : Int64} (hb : ¬ b = 0) : ∃ q : Int64, (∀ post : Int64 → Prop, post q → wp_Work_quotient a b post) ∧ (∀ post : Int64 → Prop, post q → wp_M_quotient a b post) := by
  have hb0 : zn_N b ≠ 0 := fun h => hb (zn_zero.mpr h)
  by_cases hp : 0 < b
  · have hp1 := zn_pos'.mp hp
    by_cases ha : a < 0
    · by_cases hc : zn_N b ≤ zn_N (a - zq_j_lshl (zq_j_lushr a 1 / b) 1 * b)
      · refine ⟨zq_j_lshl (zq_j_lushr a 1 / b) 1 + 1, fun post h => zn_it hp (zn_it ha ⟨hb, zn_isBelow (fun _ => ?_) (fun h2 => absurd hc (Nat.not_le.mpr h2))⟩), fun post h => zn_it (zn_pos.mpr hp1.2) ⟨hb, zn_isLess (fun _ => ?_) (fun h2 => absurd hc (Nat.not_le.mpr h2))⟩⟩
        · exact zn_it rfl h
        · exact zn_it rfl h
      · refine ⟨zq_j_lshl (zq_j_lushr a 1 / b) 1, fun post h => zn_it hp (zn_it ha ⟨hb, zn_isBelow (fun h2 => absurd h2 hc) (fun _ => ?_)⟩), fun post h => zn_it (zn_pos.mpr hp1.2) ⟨hb, zn_isLess (fun h2 => absurd h2 hc) (fun _ => ?_)⟩⟩
        · exact zn_if (by decide) h
        · exact zn_if (by decide) h
    · have ha1 : zn_N a < 2 ^ 63 := by
        apply zn_pos.mp
        rw [Int64.le_iff_toInt_le]
        rw [Int64.lt_iff_toInt_lt] at ha
        omega
      have e1 : zn_N (zq_j_lushr a 1 / b) = zn_N a / 2 / zn_N b := by
        rw [zn_div (by rw [zn_lushr1]; omega) hp1.2, zn_lushr1]
      obtain ⟨k1, k2⟩ := zn_half (a := zn_N a) hp1.1
      generalize hh : zn_N a / 2 / zn_N b = t at e1 k1 k2
      have ht : t ≤ zn_N a / 2 := by rw [← hh]; exact Nat.div_le_self _ _
      have e2 : zn_N (zq_j_lshl (zq_j_lushr a 1 / b) 1) = 2 * t := by
        rw [zn_lshl1, e1]; omega
      have e3 : zn_N (zq_j_lshl (zq_j_lushr a 1 / b) 1 * b) = 2 * t * zn_N b := by
        rw [zn_mul, e2]; omega
      have e4 : zn_N (a - zq_j_lshl (zq_j_lushr a 1 / b) 1 * b) = zn_N a - 2 * t * zn_N b := by
        rw [zn_sub, e3]; omega
      have e5 : zn_N (a / b) = zn_N a / zn_N b := zn_div ha1 hp1.2
      refine ⟨a / b, fun post h => zn_it hp (zn_if ha ⟨hb, h⟩), fun post h => zn_it (zn_pos.mpr hp1.2) ⟨hb, zn_isLess (fun hc => zn_it rfl ?_) (fun hc => zn_if (by decide) ?_)⟩⟩
      · have hc : zn_N b ≤ zn_N a - 2 * t * zn_N b := by rw [← e4]; exact hc
        have : zq_j_lshl (zq_j_lushr a 1 / b) 1 + 1 = a / b := by
          apply zn_N_inj
          rw [zn_add, e2, e5, show zn_N 1 = 1 by decide]
          have : zn_N a / zn_N b = 2 * t + 1 := by
            rw [Nat.div_eq_iff hp1.1]
            have x1 : (2 * t + 1) * zn_N b = 2 * t * zn_N b + zn_N b := by rw [Nat.add_mul, Nat.one_mul]
            constructor <;> omega
          rw [this]; omega
        rw [this]; exact h
      · have hc : zn_N a - 2 * t * zn_N b < zn_N b := by rw [← e4]; exact hc
        have : zq_j_lshl (zq_j_lushr a 1 / b) 1 = a / b := by
          apply zn_N_inj
          rw [e2, e5]
          have : zn_N a / zn_N b = 2 * t := by
            rw [Nat.div_eq_iff hp1.1]
            constructor <;> omega
          rw [this]
        rw [this]; exact h
  · have hn : ¬ 0 ≤ b := by
      intro h
      apply hp
      rw [Int64.le_iff_toInt_le] at h
      rw [Int64.lt_iff_toInt_lt]
      have : b.toInt ≠ (0 : Int64).toInt := fun h2 => hb (Int64.toInt_inj.mp h2)
      omega
    by_cases hc : zn_N b ≤ zn_N a
    · exact ⟨1, fun post h => zn_if hp (zn_if hb (zn_isBelow (fun _ => zn_it rfl h) (fun h2 => absurd hc (Nat.not_le.mpr h2)))), fun post h => zn_if hn (zn_isLess (fun _ => zn_it rfl h) (fun h2 => absurd hc (Nat.not_le.mpr h2)))⟩
    · exact ⟨0, fun post h => zn_if hp (zn_if hb (zn_isBelow (fun h2 => absurd h2 hc) (fun _ => zn_if (by decide) h))), fun post h => zn_if hn (zn_isLess (fun h2 => absurd h2 hc) (fun _ => zn_if (by decide) h))⟩
