set_option maxRecDepth 20000 in
theorem zn_sh1 : ∀ k : Nat, k < 64 → ((nI k).toInt64 &&& 63).toBitVec.smod 64 = BitVec.ofNat 64 k := by decide +kernel
set_option maxRecDepth 20000 in
theorem zn_sh2 : ∀ k : Nat, k < 64 → ((nI k).toInt64.toUInt64 &&& Int64.toUInt64 63).toBitVec % 64 = BitVec.ofNat 64 k := by decide +kernel
set_option maxRecDepth 20000 in
theorem zn_sh3 : ∀ k : Nat, k < 32 → (nI k &&& 31).toBitVec.smod 32 = BitVec.ofNat 32 k := by decide +kernel
set_option maxRecDepth 20000 in
theorem zn_lshl {k : Nat} (hk : k < 64) (x : Int64) (i : Nat) : (zq_j_lshl x (nI k)).toBitVec.getLsbD i = (decide (i < 64) && !decide (i < k) && x.toBitVec.getLsbD (i - k)) := by
  unfold zq_j_lshl
  rw [Int64.toBitVec_shiftLeft, zn_sh1 k hk, BitVec.shiftLeft_eq', BitVec.toNat_ofNat, Nat.mod_eq_of_lt (by omega), BitVec.getLsbD_shiftLeft]
set_option maxRecDepth 20000 in
theorem zn_lushr {k : Nat} (hk : k < 64) (x : Int64) (i : Nat) : (zq_j_lushr x (nI k)).toBitVec.getLsbD i = x.toBitVec.getLsbD (k + i) := by
  unfold zq_j_lushr
  show (x.toUInt64 >>> ((nI k).toInt64.toUInt64 &&& Int64.toUInt64 63)).toBitVec.getLsbD i = _
  rw [UInt64.toBitVec_shiftRight, zn_sh2 k hk, BitVec.ushiftRight_eq', BitVec.toNat_ofNat, Nat.mod_eq_of_lt (by omega), BitVec.getLsbD_ushiftRight]
  rfl
set_option maxRecDepth 20000 in
theorem zn_lshr {k : Nat} (hk : k < 64) (x : Int64) (i : Nat) (hi : i < 64) : (zq_j_lshr x (nI k)).toBitVec.getLsbD i = if k + i < 64 then x.toBitVec.getLsbD (k + i) else x.toBitVec.msb := by
  unfold zq_j_lshr
  rw [Int64.toBitVec_shiftRight, zn_sh1 k hk, BitVec.sshiftRight_eq', BitVec.toNat_ofNat, Nat.mod_eq_of_lt (by omega), BitVec.getLsbD_sshiftRight]
  have : ¬ (64 ≤ i) := by omega
  simp [this]
set_option maxRecDepth 20000 in
theorem zn_ishr {k : Nat} (hk : k < 32) (x : Int32) (i : Nat) (hi : i < 32) : (x >>> ((nI k : Int32) &&& 31)).toBitVec.getLsbD i = if k + i < 32 then x.toBitVec.getLsbD (k + i) else x.toBitVec.msb := by
  rw [Int32.toBitVec_shiftRight, zn_sh3 k hk, BitVec.sshiftRight_eq', BitVec.toNat_ofNat, Nat.mod_eq_of_lt (by omega), BitVec.getLsbD_sshiftRight]
  have : ¬ (32 ≤ i) := by omega
  simp [this]
set_option maxRecDepth 20000 in
theorem zn_ishl {k : Nat} (hk : k < 32) (x : Int32) (i : Nat) : (x <<< ((nI k : Int32) &&& 31)).toBitVec.getLsbD i = (decide (i < 32) && !decide (i < k) && x.toBitVec.getLsbD (i - k)) := by
  rw [Int32.toBitVec_shiftLeft, zn_sh3 k hk, BitVec.shiftLeft_eq', BitVec.toNat_ofNat, Nat.mod_eq_of_lt (by omega), BitVec.getLsbD_shiftLeft]
set_option maxRecDepth 20000 in
theorem zn_bi2l (x : Int32) (i : Nat) (hi : i < 64) : (zq_j_i2l x).toBitVec.getLsbD i = if i < 32 then x.toBitVec.getLsbD i else x.toBitVec.msb := by
  unfold zq_j_i2l
  show (x.toBitVec.signExtend 64).getLsbD i = _
  rw [BitVec.getLsbD_signExtend]
  simp [hi]
set_option maxRecDepth 20000 in
theorem zn_bl2i (x : Int64) (i : Nat) (hi : i < 32) : (zq_j_l2i x).toBitVec.getLsbD i = x.toBitVec.getLsbD i := by
  unfold zq_j_l2i
  show (x.toBitVec.signExtend 32).getLsbD i = _
  rw [BitVec.getLsbD_signExtend]
  simp [hi, show i < 64 by omega]
set_option maxRecDepth 20000 in
theorem zn_i2b {x y : Int32} (h : ∀ i, i < 8 → x.toBitVec.getLsbD i = y.toBitVec.getLsbD i) : zq_j_i2b x = zq_j_i2b y := by
  unfold zq_j_i2b
  have : x.toInt8 = y.toInt8 := by
    apply Int8.toBitVec_inj.mp
    show x.toBitVec.signExtend 8 = y.toBitVec.signExtend 8
    apply BitVec.eq_of_getLsbD_eq
    intro i hi
    rw [BitVec.getLsbD_signExtend, BitVec.getLsbD_signExtend]
    have h9 := h i hi
    simp only [hi, show i < 32 by omega, decide_true, Bool.true_and, if_true]
    exact h9
  rw [this]
set_option maxRecDepth 20000 in
theorem zn_narb (x : Int32) : vp_nar .byte (zq_j_i2b x) = zq_j_i2b x := by
  rw [zn_byte]
  unfold zq_j_i2b
  simp
def zn_isb (x : Int32) : Prop := zq_j_i2b x = x
set_option maxRecDepth 20000 in
theorem zn_isb_i2b (x : Int32) : zn_isb (zq_j_i2b x) := by
  unfold zn_isb zq_j_i2b
  simp
set_option maxRecDepth 20000 in
theorem zn_b255 (x : Int32) (i : Nat) : (x &&& 255).toBitVec.getLsbD i = (x.toBitVec.getLsbD i && decide (i < 8)) := by
  rw [Int32.toBitVec_and, BitVec.getLsbD_and]
  have : (255 : Int32).toBitVec = BitVec.ofNat 32 (2 ^ 8 - 1) := by decide
  rw [this, BitVec.getLsbD_ofNat, Nat.testBit_two_pow_sub_one]
  by_cases h : i < 8
  · simp [h, show i < 32 by omega]
  · simp [h]
set_option maxRecDepth 20000 in
theorem zn_undo {b : Int32} (h : zn_isb b) : zq_j_i2b (zq_j_l2i (zq_j_i2l (b &&& 255))) = b := by
  rw [zn_l2i_i2l]
  refine Eq.trans (zn_i2b fun i hi => ?_) h
  rw [zn_b255]
  simp [hi]
set_option maxRecDepth 20000 in
theorem zn_wbit (a b : Int32) (i : Nat) (hi : i < 32) : ((a &&& 255) ||| ((b &&& 255) <<< ((8 : Int32) &&& 31))).toBitVec.getLsbD i = ((a.toBitVec.getLsbD i && decide (i < 8)) || (!decide (i < 8) && decide (i < 16) && b.toBitVec.getLsbD (i - 8))) := by
  rw [Int32.toBitVec_or, BitVec.getLsbD_or, zn_b255, show (8 : Int32) = nI 8 by decide, zn_ishl (by omega), zn_b255]
  by_cases h1 : i < 8
  · simp [h1]
  · by_cases h2 : i < 16
    · simp [h1, h2, hi, show i - 8 < 8 by omega]
    · simp [h1, h2, hi, show ¬ i - 8 < 8 by omega]
set_option maxRecDepth 20000 in
theorem zn_undo0 {a b : Int32} (h : zn_isb a) : zq_j_i2b (zq_j_l2i (zq_j_i2l ((a &&& 255) ||| ((b &&& 255) <<< ((8 : Int32) &&& 31))))) = a := by
  rw [zn_l2i_i2l]
  refine Eq.trans (zn_i2b fun i hi => ?_) h
  rw [zn_wbit a b i (by omega)]
  simp [hi]
set_option maxRecDepth 20000 in
theorem zn_undo1 {a b : Int32} (h : zn_isb b) : zq_j_i2b (zq_j_l2i (zq_j_lushr (zq_j_i2l ((a &&& 255) ||| ((b &&& 255) <<< ((8 : Int32) &&& 31)))) 8)) = b := by
  refine Eq.trans (zn_i2b fun i hi => ?_) h
  rw [zn_bl2i _ i (by omega), show (8 : Int32) = nI 8 by decide, zn_lushr (by omega), zn_bi2l _ _ (by omega), if_pos (by omega), show nI 8 = (8 : Int32) by decide, zn_wbit a b _ (by omega)]
  simp [show ¬ 8 + i < 8 by omega, show 8 + i < 16 by omega]
set_option maxRecDepth 20000 in
theorem zn_hi8 (x : Int64) : zq_j_i2b (zq_j_l2i (zq_j_lushr x 8)) = zq_j_i2b (zq_j_l2i (zq_j_lshr x 8)) := by
  refine zn_i2b fun i hi => ?_
  rw [zn_bl2i _ i (by omega), zn_bl2i _ i (by omega), show (8 : Int32) = nI 8 by decide, zn_lushr (by omega), zn_lshr (by omega) _ _ (by omega), if_pos (by omega)]

set_option maxRecDepth 20000 in
theorem zn_fa : ∀ t : Nat, t < 16 → ∀ f : Nat, f < 16 → f ≤ t → (63 - nI t = nI (63 - t) ∧ (63 - nI t) + nI f = nI (63 - t + f) ∧ (nI t - nI f) + 1 = nI (t - f + 1)) := by decide +kernel
set_option maxRecDepth 20000 in
theorem zn_ones : ∀ k : Nat, k ≤ 16 → ((1 : Int32) <<< ((nI k : Int32) &&& 31)) - 1 = Int32.ofNat (2 ^ k - 1) := by decide +kernel
set_option maxRecDepth 20000 in
theorem zn_onesb {k : Nat} (hk : k ≤ 16) (i : Nat) (hi : i < 32) : (Int32.ofNat (2 ^ k - 1)).toBitVec.getLsbD i = decide (i < k) := by
  show (BitVec.ofNat 32 (2 ^ k - 1)).getLsbD i = _
  rw [BitVec.getLsbD_ofNat, Nat.testBit_two_pow_sub_one]
  simp [hi]
set_option maxRecDepth 20000 in
theorem zn_msb32 {x : Int32} (h : 0 ≤ x.toInt) : x.toBitVec.msb = false := by
  have h2 : 0 ≤ x.toBitVec.toInt := h
  cases hm : x.toBitVec.msb with
  | false => rfl
  | true =>
    have h3 := BitVec.toInt_neg_of_msb_true hm
    omega
set_option maxRecDepth 20000 in
theorem zn_w16 {x : Int32} (h0 : 0 ≤ x.toInt) (h1 : x.toInt < 65536) (i : Nat) (hi : 16 ≤ i) : x.toBitVec.getLsbD i = false := by
  obtain ⟨k, hk, rfl⟩ : ∃ k : Nat, k < 65536 ∧ x = nI k := by
    refine ⟨x.toInt.toNat, by omega, ?_⟩
    apply Int32.toInt_inj.mp
    rw [nI_toInt (by omega)]
    omega
  show (BitVec.ofNat 32 k).getLsbD i = false
  rw [BitVec.getLsbD_ofNat, Nat.testBit_lt_two_pow (Nat.lt_of_lt_of_le hk (show 65536 ≤ 2 ^ i from Nat.le_trans (by decide) (Nat.pow_le_pow_right (by omega) hi)))]
  simp
set_option maxRecDepth 20000 in
theorem zn_eq64 {x y : Int64} (h : ∀ i, i < 64 → x.toBitVec.getLsbD i = y.toBitVec.getLsbD i) : x = y := Int64.toBitVec_inj.mp (BitVec.eq_of_getLsbD_eq h)
def zn_fld (w : Int32) (f t : Nat) : Int64 := zq_j_i2l ((w >>> ((nI f : Int32) &&& 31)) &&& ((1 <<< (((nI t - nI f) + 1 : Int32) &&& 31)) - 1))
set_option maxRecDepth 20000 in
theorem zn_fldb {w : Int32} (h0 : 0 ≤ w.toInt) (h1 : w.toInt < 65536) {f t : Nat} (hft : f ≤ t) (ht : t < 16) (i : Nat) (hi : i < 64) : (zn_fld w f t).toBitVec.getLsbD i = (decide (i < t - f + 1) && w.toBitVec.getLsbD (f + i)) := by
  obtain ⟨-, -, e3⟩ := zn_fa t ht f (by omega) hft
  have hm := zn_msb32 h0
  have inner : ∀ j, j < 32 → ((w >>> ((nI f : Int32) &&& 31)) &&& ((1 <<< (((nI t - nI f) + 1 : Int32) &&& 31)) - 1)).toBitVec.getLsbD j = (decide (j < t - f + 1) && w.toBitVec.getLsbD (f + j)) := by
    intro j hj
    rw [e3, zn_ones _ (by omega), Int32.toBitVec_and, BitVec.getLsbD_and, zn_ishr (by omega) _ _ hj, zn_onesb (by omega) _ hj, Bool.and_comm]
    by_cases c : f + j < 32
    · rw [if_pos c]
    · rw [if_neg c, hm, zn_w16 h0 h1 _ (by omega)]
  unfold zn_fld
  rw [zn_bi2l _ _ hi]
  by_cases c : i < 32
  · rw [if_pos c, inner i c]
  · rw [if_neg c, BitVec.msb_eq_getLsbD_last]
    have := inner 31 (by omega)
    rw [show (32 - 1 : Nat) = 31 from rfl, this]
    have d1 : ¬ (31 < t - f + 1) := by omega
    have d2 : ¬ (i < t - f + 1) := by omega
    simp [d1, d2]
set_option maxRecDepth 20000 in
theorem zn_field0 {w : Int32} (h0 : 0 ≤ w.toInt) (h1 : w.toInt < 65536) {f t : Nat} (hft : f ≤ t) (ht : t < 16) : zq_j_lushr (zq_j_lshl (zq_j_i2l w) (63 - nI t)) ((63 - nI t) + nI f) = zn_fld w f t := by
  obtain ⟨e1, e2, -⟩ := zn_fa t ht f (by omega) hft
  refine zn_eq64 fun i hi => ?_
  rw [zn_fldb h0 h1 hft ht i hi, e2, e1, zn_lushr (by omega), zn_lshl (by omega)]
  by_cases c : i < t - f + 1
  · rw [zn_bi2l _ _ (by omega), if_pos (by omega), show 63 - t + f + i - (63 - t) = f + i by omega]
    simp [c, show 63 - t + f + i < 64 by omega, show ¬ 63 - t + f + i < 63 - t by omega]
  · simp [c, show ¬ 63 - t + f + i < 64 by omega]
set_option maxRecDepth 20000 in
theorem zn_bit1 {x : Int32} : (x &&& 1 = 1) ↔ x.toBitVec.getLsbD 0 = true := by
  have key : ∀ i, i < 32 → (x &&& 1).toBitVec.getLsbD i = (x.toBitVec.getLsbD i && decide (i = 0)) := by
    intro i hi
    rw [Int32.toBitVec_and, BitVec.getLsbD_and]
    have : (1 : Int32).toBitVec = 1#32 := by decide
    rw [this, BitVec.getLsbD_one]
    by_cases c : i = 0 <;> simp [c]
  constructor
  · intro h
    have := key 0 (by omega)
    rw [h] at this
    have e : (1 : Int32).toBitVec.getLsbD 0 = true := by decide
    rw [e] at this
    simpa using this.symm
  · intro h
    apply Int32.toBitVec_inj.mp
    apply BitVec.eq_of_getLsbD_eq
    intro i hi
    rw [key i hi]
    have e : (1 : Int32).toBitVec = 1#32 := by decide
    rw [e, BitVec.getLsbD_one]
    by_cases c : i = 0
    · subst c; rw [h]; simp
    · simp [c]
set_option maxRecDepth 20000 in
theorem zn_fieldS {w : Int32} (h0 : 0 ≤ w.toInt) (h1 : w.toInt < 65536) {f t : Nat} (hft : f ≤ t) (ht : t < 16) : zq_j_lshr (zq_j_lshl (zq_j_i2l w) (63 - nI t)) ((63 - nI t) + nI f) = (if ((w >>> ((nI t : Int32) &&& 31)) &&& 1) = 1 then zn_fld w f t ||| zq_j_lshl (-1) ((nI t - nI f) + 1) else zn_fld w f t) := by
  obtain ⟨e1, e2, e3⟩ := zn_fa t ht f (by omega) hft
  have hb : ((w >>> ((nI t : Int32) &&& 31)) &&& 1 = 1) ↔ w.toBitVec.getLsbD t = true := by
    rw [zn_bit1, zn_ishr (by omega) _ _ (by omega), if_pos (by omega), Nat.add_zero]
  have hL : ∀ i, i < 64 → (zq_j_lshr (zq_j_lshl (zq_j_i2l w) (63 - nI t)) ((63 - nI t) + nI f)).toBitVec.getLsbD i = if i < t - f + 1 then w.toBitVec.getLsbD (f + i) else w.toBitVec.getLsbD t := by
    intro i hi
    rw [e2, e1, zn_lshr (by omega) _ _ hi]
    by_cases c : i < t - f + 1
    · rw [if_pos c, if_pos (by omega), zn_lshl (by omega), zn_bi2l _ _ (by omega), if_pos (by omega), show 63 - t + f + i - (63 - t) = f + i by omega]
      simp [show 63 - t + f + i < 64 by omega, show ¬ 63 - t + f + i < 63 - t by omega]
    · rw [if_neg c, if_neg (by omega), BitVec.msb_eq_getLsbD_last, zn_lshl (by omega), zn_bi2l _ _ (by omega), if_pos (by omega), show 64 - 1 - (63 - t) = t by omega]
      simp [show ¬ 63 < 63 - t by omega]
  refine zn_eq64 fun i hi => ?_
  rw [hL i hi]
  by_cases hs : w.toBitVec.getLsbD t = true
  · rw [if_pos (hb.mpr hs), Int64.toBitVec_or, BitVec.getLsbD_or, zn_fldb h0 h1 hft ht i hi, e3, zn_lshl (by omega), hs]
    have e : (-1 : Int64).toBitVec = BitVec.allOnes 64 := by decide
    rw [e, BitVec.getLsbD_allOnes]
    by_cases c : i < t - f + 1
    · simp [c]
    · simp [c, hi, show i - (t - f + 1) < 64 by omega]
  · rw [if_neg (fun z => hs (hb.mp z)), zn_fldb h0 h1 hft ht i hi]
    have hs2 : w.toBitVec.getLsbD t = false := by simpa using hs
    by_cases c : i < t - f + 1
    · simp [c]
    · simp [c, hs2]
