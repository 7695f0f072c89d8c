set_option maxRecDepth 20000 in
theorem zn_i2l (x : Int32) : (zq_j_i2l x).toInt = x.toInt := Int32.toInt_toInt64 x
set_option maxRecDepth 20000 in
theorem zn_bool {x : Int32} (h : zq_bz x) : vp_nar .boolean x = x := by
  rcases h with rfl | rfl <;> rfl
set_option maxRecDepth 20000 in
theorem zn_byte (x : Int32) : vp_nar .byte x = x.toInt8.toInt32 := rfl
set_option maxRecDepth 20000 in
theorem zn_l2i_i2l (x : Int32) : zq_j_l2i (zq_j_i2l x) = x := by
  unfold zq_j_l2i zq_j_i2l
  simp
set_option maxRecDepth 20000 in
theorem zn_masks : ∀ w : Nat, w < 64 → 1 ≤ w → zq_j_lushr (-1) (64 - nI w) = zq_j_lshl 1 (nI w) - 1 := by decide +kernel
set_option maxRecDepth 20000 in
theorem zn_mask64 : zq_j_lushr (-1) (64 - nI 64) = -1 := by decide +kernel
def zn_cut (w : Int32) (x : Int64) : Int64 := if w = 64 then x else x &&& (zq_j_lshl 1 w - 1)
set_option maxRecDepth 20000 in
theorem zn_cut_eq {w : Nat} (h1 : 1 ≤ w) (h2 : w ≤ 64) (x : Int64) : x &&& zq_j_lushr (-1) (64 - nI w) = zn_cut (nI w) x := by
  unfold zn_cut
  by_cases h : w = 64
  · subst h
    rw [if_pos (by decide), zn_mask64]
    exact Int64.and_neg_one
  · rw [if_neg (by rw [show (64 : Int32) = nI 64 by decide, nI_eq (by omega) (by omega)]; exact h), zn_masks w (by omega) h1]
set_option maxRecDepth 20000 in
theorem zn_and2 (x m : Int64) : (x &&& m) &&& m = x &&& m := by
  rw [Int64.and_assoc, Int64.and_self]
set_option maxRecDepth 20000 in
theorem zn_place {p : Int32} (h0 : 0 ≤ p.toInt) (h1 : p.toInt ≤ 65535) : zq_j_i2l p &&& 65535 = zq_j_i2l p := by
  obtain ⟨k, hk, rfl⟩ : ∃ k : Nat, k < 65536 ∧ p = nI k := by
    refine ⟨p.toInt.toNat, by omega, ?_⟩
    apply Int32.toInt_inj.mp
    rw [nI_toInt (by omega)]
    omega
  have e : zq_j_i2l (nI k) = Int64.ofNat k := by
    apply Int64.toInt_inj.mp
    rw [zn_i2l, nI_toInt (by omega), Int64.toInt_ofNat_of_lt (by omega)]
  rw [e]
  apply Int64.toBitVec_inj.mp
  apply BitVec.eq_of_toNat_eq
  rw [Int64.toBitVec_and, BitVec.toNat_and]
  have e1 : (Int64.ofNat k).toBitVec.toNat = k := by
    show (BitVec.ofNat 64 k).toNat = k
    rw [BitVec.toNat_ofNat]; omega
  have e2 : (65535 : Int64).toBitVec.toNat = 2 ^ 16 - 1 := by decide
  rw [e1, e2, Nat.and_two_pow_sub_one_eq_mod]
  omega
