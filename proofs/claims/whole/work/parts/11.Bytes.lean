abbrev W_Bytes_hasByte (kT : Nat → ClassId) (ad : Nat → Nat)  : va_W := [(ad 5, .inr (1, [.ref (ad 6)]))]
abbrev A_Bytes_hasByte (ad : Nat → Nat) : List Nat := [ad 5]
def wp_Bytes_hasByte  (p0 : Int64) (post : Int32 → Prop) : Prop := (if p0 < 0 then post 0  else (if 4096 ≤ p0 then post 0  else post 1 ))
set_option maxHeartbeats 4000000 in
set_option maxRecDepth 100000 in
theorem c_Bytes_hasByte (l : Launch) (D : va_G) (kT : Nat → ClassId) (ad : Nat → Nat)  (p0 : Int64) (post : Int32 → Prop) (h : wp_Bytes_hasByte  p0 post) : zq_Mi l zy_Bytes_hasByte zs_Bytes_hasByte ({ frames := 0, cells := 0, slots := 0, locals := 0 }) D kT [.ref (ad 5), .long p0] (W_Bytes_hasByte kT ad ) (fun r w' => w' = (W_Bytes_hasByte kT ad ) ∧ post r ) := by
  refine zq_Mz_of (adl := (A_Bytes_hasByte ad)) (cc := zb_Bytes_hasByte) (maxL := 3) (own := zR_Bytes) rfl (by decide) rfl rfl (Nat.le_of_ble_eq_true rfl) ?_
  intro p e s m AV below meth c A QQ H locs ls hx hb hml hown ht hE hA hret hP hD hS hl
  have hK := hE.1
  have hl : lv_has ls 3 [(0, .ref (ad 5)), (1, .long p0)] := hl
  unfold wp_Bytes_hasByte at h
  refine lv_lload_n hx hb zd_Bytes_hasByte_0 rfl (lv_at hl 1 rfl) ?_
  refine lv_lconst (v := 0) hx hb zd_Bytes_hasByte_1 (by decide) ?_
  refine W.lcmp hx hb zd_Bytes_hasByte_2 ?_
  refine lv_if_lt (tgt := 18) hx hb zd_Bytes_hasByte_3 (by decide) (fun c_1 => ?_) (fun c_1 => ?_)
  · have h := zq_it (zq_lc_lt.mp c_1) h
    refine lv_iconst (v := 0) hx hb zd_Bytes_hasByte_18 (by decide) ?_
    exact hret 0 rfl _ H locs 19 ls ⟨rfl, h⟩ hP rfl hS zd_Bytes_hasByte_19
  · have h := zq_if (fun z => c_1 (zq_lc_lt.mpr z)) h
    refine lv_lload_n hx hb zd_Bytes_hasByte_6 rfl (lv_at hl 1 rfl) ?_
    refine W.ldc2 (v := 4096) hx hb hown (ht _ zw_130) rfl zd_Bytes_hasByte_7 ?_
    refine W.eq (g2 := F0 m 10 ls [.long 4096, .long p0]) rfl ?_
    refine W.lcmp hx hb zd_Bytes_hasByte_10 ?_
    refine lv_if_ge (tgt := 18) hx hb zd_Bytes_hasByte_11 (by decide) (fun c_2 => ?_) (fun c_2 => ?_)
    · have h := zq_it (zq_lc_ge.mp c_2) h
      refine lv_iconst (v := 0) hx hb zd_Bytes_hasByte_18 (by decide) ?_
      exact hret 0 rfl _ H locs 19 ls ⟨rfl, h⟩ hP rfl hS zd_Bytes_hasByte_19
    · have h := zq_if (fun z => c_2 (zq_lc_ge.mpr z)) h
      refine lv_iconst (v := 1) hx hb zd_Bytes_hasByte_14 (by decide) ?_
      refine lv_goto (tgt := 19) hx hb zd_Bytes_hasByte_15 (by decide) ?_
      exact hret 1 rfl _ H locs 19 ls ⟨rfl, h⟩ hP rfl hS zd_Bytes_hasByte_19
abbrev W_Bytes_hasWord (kT : Nat → ClassId) (ad : Nat → Nat)  : va_W := [(ad 5, .inr (1, [.ref (ad 6)]))]
abbrev A_Bytes_hasWord (ad : Nat → Nat) : List Nat := [ad 5]
def wp_Bytes_hasWord  (p0 : Int64) (post : Int32 → Prop) : Prop := wp_Bytes_hasByte p0 (fun r_1 => (if r_1 = 0 then post 0  else (if (p0 &&& 1) = 0 then post 1  else post 0 )))
set_option maxHeartbeats 4000000 in
set_option maxRecDepth 100000 in
theorem c_Bytes_hasWord (l : Launch) (D : va_G) (kT : Nat → ClassId) (ad : Nat → Nat)  (p0 : Int64) (post : Int32 → Prop) (h : wp_Bytes_hasWord  p0 post) : zq_Mi l zy_Bytes_hasWord zs_Bytes_hasWord ({ frames := 1, cells := 0, slots := 0, locals := 22 }) D kT [.ref (ad 5), .long p0] (W_Bytes_hasWord kT ad ) (fun r w' => w' = (W_Bytes_hasWord kT ad ) ∧ post r ) := by
  refine zq_Mz_of (adl := (A_Bytes_hasWord ad)) (cc := zb_Bytes_hasWord) (maxL := 3) (own := zR_Bytes) rfl (by decide) rfl rfl (Nat.le_of_ble_eq_true rfl) ?_
  intro p e s m AV below meth c A QQ H locs ls hx hb hml hown ht hE hA hret hP hD hS hl
  have hK := hE.1
  have hl : lv_has ls 3 [(0, .ref (ad 5)), (1, .long p0)] := hl
  refine lv_aload_n hx hb zd_Bytes_hasWord_0 rfl (lv_at hl 0 rfl) ?_
  refine lv_lload_n hx hb zd_Bytes_hasWord_1 rfl (lv_at hl 1 rfl) ?_
  refine zq_c_Vi (rest := []) (adl := (A_Bytes_hasWord ad)) (wr := []) ⟨hx, hb, hml, hown, ht⟩ (c_Bytes_hasByte l D kT ad p0 _ h) (cwV 1 ht (zq_gV zw_131 zw_132 zw_133 zw_134 zw_135) rfl rfl rfl zh_Bytes_hasByte ⟨Nat.le_of_ble_eq_true rfl, Nat.le_of_ble_eq_true rfl⟩) hE hP hD hS hA [0] [] 1 rfl (by decide +kernel) rfl (by decide +kernel) rfl rfl 0 rfl rfl rfl rfl hl.1 (Nat.le_of_ble_eq_true rfl) rfl zd_Bytes_hasWord_2 ⟨Nat.zero_le _, Nat.zero_le _⟩ (fun r_1 w1 H locs hw hJ hS => ?_)
  obtain ⟨rfl, h⟩ := hw
  obtain ⟨hP, hD⟩ := hJ (W_Bytes_hasWord kT ad ) rfl rfl rfl
  refine lv_if_eq (tgt := 20) hx hb zd_Bytes_hasWord_5 (by decide) (fun c_2 => ?_) (fun c_2 => ?_)
  · have h := zq_it c_2 h
    refine lv_iconst (v := 0) hx hb zd_Bytes_hasWord_20 (by decide) ?_
    exact hret 0 rfl _ H locs 21 ls ⟨rfl, h⟩ hP rfl hS zd_Bytes_hasWord_21
  · have h := zq_if c_2 h
    refine lv_lload_n hx hb zd_Bytes_hasWord_8 rfl (lv_at hl 1 rfl) ?_
    refine lv_lconst (v := 1) hx hb zd_Bytes_hasWord_9 (by decide) ?_
    refine lv_land hx hb zd_Bytes_hasWord_10 ?_
    refine lv_lconst (v := 0) hx hb zd_Bytes_hasWord_11 (by decide) ?_
    refine W.lcmp hx hb zd_Bytes_hasWord_12 ?_
    refine lv_if_ne (tgt := 20) hx hb zd_Bytes_hasWord_13 (by decide) (fun c_3 => ?_) (fun c_3 => ?_)
    · have h := zq_if (fun z => c_3 (zq_lc_eq.mpr z)) h
      refine lv_iconst (v := 0) hx hb zd_Bytes_hasWord_20 (by decide) ?_
      exact hret 0 rfl _ H locs 21 ls ⟨rfl, h⟩ hP rfl hS zd_Bytes_hasWord_21
    · have h := zq_it (zq_lc_eq.mp c_3) h
      refine lv_iconst (v := 1) hx hb zd_Bytes_hasWord_16 (by decide) ?_
      refine lv_goto (tgt := 21) hx hb zd_Bytes_hasWord_17 (by decide) ?_
      exact hret 1 rfl _ H locs 21 ls ⟨rfl, h⟩ hP rfl hS zd_Bytes_hasWord_21
abbrev W_Bytes_byteOf (kT : Nat → ClassId) (ad : Nat → Nat) (bc : Nat → Int32) : va_W := [(ad 5, .inr (1, [.ref (ad 6)])), (ad 6, .inl (kT 3, 4096, .inl bc))]
abbrev A_Bytes_byteOf (ad : Nat → Nat) : List Nat := [ad 5, ad 6]
def wp_Bytes_byteOf (bc : Nat → Int32) (p0 : Int32) (post : Int32 → Prop) : Prop := vp_in p0 4096 ∧ post ((bc p0.toNatClampNeg) &&& 255) 
set_option maxHeartbeats 4000000 in
set_option maxRecDepth 100000 in
theorem c_Bytes_byteOf (l : Launch) (D : va_G) (kT : Nat → ClassId) (ad : Nat → Nat) (bc : Nat → Int32) (p0 : Int32) (post : Int32 → Prop) (h : wp_Bytes_byteOf bc p0 post) : zq_Mi l zy_Bytes_byteOf zs_Bytes_byteOf ({ frames := 0, cells := 0, slots := 0, locals := 0 }) D kT [.ref (ad 5), .int p0] (W_Bytes_byteOf kT ad bc) (fun r w' => w' = (W_Bytes_byteOf kT ad bc) ∧ post r ) := by
  refine zq_Mi_of (adl := (A_Bytes_byteOf ad)) (cc := zb_Bytes_byteOf) (maxL := 2) (own := zR_Bytes) rfl (by decide) rfl rfl (Nat.le_of_ble_eq_true rfl) ?_
  intro p e s m AV below meth c A QQ H locs ls hx hb hml hown ht hE hA hret hP hD hS hl
  have hK := hE.1
  have hl : lv_has ls 2 [(0, .ref (ad 5)), (1, .int p0)] := hl
  refine lv_aload_n hx hb zd_Bytes_byteOf_0 rfl (lv_at hl 0 rfl) ?_
  refine va_get (D := D) (ci := 1) (v := .ref (ad 6)) (C := zR_Bytes) (T := zF_Bytes) (N := 1) hx hb ht zi_Bytes hown hK hP 0 rfl rfl 0 (by decide) (ht _ zw_136) (fun _ h9 => h9) rfl zd_Bytes_byteOf_1 ?_
  refine lv_iload_n hx hb zd_Bytes_byteOf_4 rfl (lv_at hl 1 rfl) ?_
  obtain ⟨hi_1, h⟩ := h
  refine zq_a_bald (D := D) hx hb hK hP 1 3 rfl rfl hi_1 rfl zd_Bytes_byteOf_5 ?_
  refine lv_sipush (v := 255) hx hb zd_Bytes_byteOf_6 (by decide) ?_
  refine lv_iand hx hb zd_Bytes_byteOf_9 ?_
  exact hret ((bc p0.toNatClampNeg) &&& 255)  _ H locs 10 ls ⟨rfl, h⟩ hP rfl hS zd_Bytes_byteOf_10
abbrev W_Bytes_wordOf (kT : Nat → ClassId) (ad : Nat → Nat) (bc : Nat → Int32) : va_W := [(ad 5, .inr (1, [.ref (ad 6)])), (ad 6, .inl (kT 3, 4096, .inl bc))]
abbrev A_Bytes_wordOf (ad : Nat → Nat) : List Nat := [ad 5, ad 6]
def wp_Bytes_wordOf (bc : Nat → Int32) (p0 : Int32) (post : Int32 → Prop) : Prop := vp_in p0 4096 ∧ vp_in (p0 + 1) 4096 ∧ post (((bc p0.toNatClampNeg) &&& 255) ||| (((bc ((p0 + 1)).toNatClampNeg) &&& 255) <<< ((8 : Int32) &&& 31))) 
set_option maxHeartbeats 4000000 in
set_option maxRecDepth 100000 in
theorem c_Bytes_wordOf (l : Launch) (D : va_G) (kT : Nat → ClassId) (ad : Nat → Nat) (bc : Nat → Int32) (p0 : Int32) (post : Int32 → Prop) (h : wp_Bytes_wordOf bc p0 post) : zq_Mi l zy_Bytes_wordOf zs_Bytes_wordOf ({ frames := 0, cells := 0, slots := 0, locals := 0 }) D kT [.ref (ad 5), .int p0] (W_Bytes_wordOf kT ad bc) (fun r w' => w' = (W_Bytes_wordOf kT ad bc) ∧ post r ) := by
  refine zq_Mi_of (adl := (A_Bytes_wordOf ad)) (cc := zb_Bytes_wordOf) (maxL := 2) (own := zR_Bytes) rfl (by decide) rfl rfl (Nat.le_of_ble_eq_true rfl) ?_
  intro p e s m AV below meth c A QQ H locs ls hx hb hml hown ht hE hA hret hP hD hS hl
  have hK := hE.1
  have hl : lv_has ls 2 [(0, .ref (ad 5)), (1, .int p0)] := hl
  refine lv_aload_n hx hb zd_Bytes_wordOf_0 rfl (lv_at hl 0 rfl) ?_
  refine va_get (D := D) (ci := 1) (v := .ref (ad 6)) (C := zR_Bytes) (T := zF_Bytes) (N := 1) hx hb ht zi_Bytes hown hK hP 0 rfl rfl 0 (by decide) (ht _ zw_136) (fun _ h9 => h9) rfl zd_Bytes_wordOf_1 ?_
  refine lv_iload_n hx hb zd_Bytes_wordOf_4 rfl (lv_at hl 1 rfl) ?_
  obtain ⟨hi_1, h⟩ := h
  refine zq_a_bald (D := D) hx hb hK hP 1 3 rfl rfl hi_1 rfl zd_Bytes_wordOf_5 ?_
  refine lv_sipush (v := 255) hx hb zd_Bytes_wordOf_6 (by decide) ?_
  refine lv_iand hx hb zd_Bytes_wordOf_9 ?_
  refine lv_aload_n hx hb zd_Bytes_wordOf_10 rfl (lv_at hl 0 rfl) ?_
  refine va_get (D := D) (ci := 1) (v := .ref (ad 6)) (C := zR_Bytes) (T := zF_Bytes) (N := 1) hx hb ht zi_Bytes hown hK hP 0 rfl rfl 0 (by decide) (ht _ zw_136) (fun _ h9 => h9) rfl zd_Bytes_wordOf_11 ?_
  refine lv_iload_n hx hb zd_Bytes_wordOf_14 rfl (lv_at hl 1 rfl) ?_
  refine lv_iconst (v := 1) hx hb zd_Bytes_wordOf_15 (by decide) ?_
  refine lv_iadd hx hb zd_Bytes_wordOf_16 ?_
  obtain ⟨hi_2, h⟩ := h
  refine zq_a_bald (D := D) hx hb hK hP 1 3 rfl rfl hi_2 rfl zd_Bytes_wordOf_17 ?_
  refine lv_sipush (v := 255) hx hb zd_Bytes_wordOf_18 (by decide) ?_
  refine lv_iand hx hb zd_Bytes_wordOf_21 ?_
  refine lv_bipush (v := 8) hx hb zd_Bytes_wordOf_22 (by decide) ?_
  refine lv_ishl hx hb zd_Bytes_wordOf_24 ?_
  refine lv_ior hx hb zd_Bytes_wordOf_25 ?_
  exact hret (((bc p0.toNatClampNeg) &&& 255) ||| (((bc ((p0 + 1)).toNatClampNeg) &&& 255) <<< ((8 : Int32) &&& 31)))  _ H locs 26 ls ⟨rfl, h⟩ hP rfl hS zd_Bytes_wordOf_26
abbrev W_Bytes_putByte (kT : Nat → ClassId) (ad : Nat → Nat) (bc : Nat → Int32) : va_W := [(ad 5, .inr (1, [.ref (ad 6)])), (ad 6, .inl (kT 3, 4096, .inl bc))]
abbrev A_Bytes_putByte (ad : Nat → Nat) : List Nat := [ad 5, ad 6]
def wp_Bytes_putByte (bc : Nat → Int32) (p0 : Int32) (p1 : Int64) (post : (Nat → Int32) → Prop) : Prop := vp_in p0 4096 ∧ post  (upd bc p0.toNatClampNeg (vp_nar .byte (zq_j_i2b (zq_j_l2i p1))))
set_option maxHeartbeats 4000000 in
set_option maxRecDepth 100000 in
theorem c_Bytes_putByte (l : Launch) (D : va_G) (kT : Nat → ClassId) (ad : Nat → Nat) (bc : Nat → Int32) (p0 : Int32) (p1 : Int64) (post : (Nat → Int32) → Prop) (h : wp_Bytes_putByte bc p0 p1 post) : zq_Mv l zy_Bytes_putByte zs_Bytes_putByte ({ frames := 0, cells := 0, slots := 0, locals := 0 }) D kT [.ref (ad 5), .int p0, .long p1] (W_Bytes_putByte kT ad bc) (fun w' => ∃ (bc' : Nat → Int32), w' = (W_Bytes_putByte kT ad bc') ∧ post  bc') := by
  refine zq_Mv_of (adl := (A_Bytes_putByte ad)) (cc := zb_Bytes_putByte) (maxL := 4) (own := zR_Bytes) rfl (by decide) rfl rfl (Nat.le_of_ble_eq_true rfl) ?_
  intro p e s m AV below meth c A QQ H locs ls hx hb hml hown ht hE hA hret hP hD hS hl
  have hK := hE.1
  have hl : lv_has ls 4 [(0, .ref (ad 5)), (1, .int p0), (2, .long p1)] := hl
  refine lv_aload_n hx hb zd_Bytes_putByte_0 rfl (lv_at hl 0 rfl) ?_
  refine va_get (D := D) (ci := 1) (v := .ref (ad 6)) (C := zR_Bytes) (T := zF_Bytes) (N := 1) hx hb ht zi_Bytes hown hK hP 0 rfl rfl 0 (by decide) (ht _ zw_136) (fun _ h9 => h9) rfl zd_Bytes_putByte_1 ?_
  refine lv_iload_n hx hb zd_Bytes_putByte_4 rfl (lv_at hl 1 rfl) ?_
  refine lv_lload_n hx hb zd_Bytes_putByte_5 rfl (lv_at hl 2 rfl) ?_
  refine lv_l2i (v := (zq_j_l2i p1)) hx hb zd_Bytes_putByte_6 rfl ?_
  refine lv_i2b (v := (zq_j_i2b (zq_j_l2i p1))) hx hb zd_Bytes_putByte_7 rfl ?_
  obtain ⟨hi_1, h⟩ := h
  refine zq_a_bast (D := D) hx hb hK hP hD hS 1 3 rfl rfl hi_1 rfl zd_Bytes_putByte_8 (fun H locs hP hD hS => ?_)
  have hP : va_P D vwCl (W_Bytes_putByte kT ad (upd bc p0.toNatClampNeg (vp_nar .byte (zq_j_i2b (zq_j_l2i p1))))) H := hP
  have hD : va_D A (W_Bytes_putByte kT ad (upd bc p0.toNatClampNeg (vp_nar .byte (zq_j_i2b (zq_j_l2i p1))))) := hD
  exact hret  _ H locs 9 ls ⟨(upd bc p0.toNatClampNeg (vp_nar .byte (zq_j_i2b (zq_j_l2i p1)))), rfl, h⟩ hP rfl hS zd_Bytes_putByte_9
abbrev W_Bytes_putWord (kT : Nat → ClassId) (ad : Nat → Nat) (bc : Nat → Int32) : va_W := [(ad 5, .inr (1, [.ref (ad 6)])), (ad 6, .inl (kT 3, 4096, .inl bc))]
abbrev A_Bytes_putWord (ad : Nat → Nat) : List Nat := [ad 5, ad 6]
def wp_Bytes_putWord (bc : Nat → Int32) (p0 : Int32) (p1 : Int64) (post : (Nat → Int32) → Prop) : Prop := vp_in p0 4096 ∧ vp_in (p0 + 1) 4096 ∧ post  (upd (upd bc p0.toNatClampNeg (vp_nar .byte (zq_j_i2b (zq_j_l2i p1)))) ((p0 + 1)).toNatClampNeg (vp_nar .byte (zq_j_i2b (zq_j_l2i (zq_j_lushr p1 8)))))
set_option maxHeartbeats 4000000 in
set_option maxRecDepth 100000 in
theorem c_Bytes_putWord (l : Launch) (D : va_G) (kT : Nat → ClassId) (ad : Nat → Nat) (bc : Nat → Int32) (p0 : Int32) (p1 : Int64) (post : (Nat → Int32) → Prop) (h : wp_Bytes_putWord bc p0 p1 post) : zq_Mv l zy_Bytes_putWord zs_Bytes_putWord ({ frames := 0, cells := 0, slots := 0, locals := 0 }) D kT [.ref (ad 5), .int p0, .long p1] (W_Bytes_putWord kT ad bc) (fun w' => ∃ (bc' : Nat → Int32), w' = (W_Bytes_putWord kT ad bc') ∧ post  bc') := by
  refine zq_Mv_of (adl := (A_Bytes_putWord ad)) (cc := zb_Bytes_putWord) (maxL := 4) (own := zR_Bytes) rfl (by decide) rfl rfl (Nat.le_of_ble_eq_true rfl) ?_
  intro p e s m AV below meth c A QQ H locs ls hx hb hml hown ht hE hA hret hP hD hS hl
  have hK := hE.1
  have hl : lv_has ls 4 [(0, .ref (ad 5)), (1, .int p0), (2, .long p1)] := hl
  refine lv_aload_n hx hb zd_Bytes_putWord_0 rfl (lv_at hl 0 rfl) ?_
  refine va_get (D := D) (ci := 1) (v := .ref (ad 6)) (C := zR_Bytes) (T := zF_Bytes) (N := 1) hx hb ht zi_Bytes hown hK hP 0 rfl rfl 0 (by decide) (ht _ zw_136) (fun _ h9 => h9) rfl zd_Bytes_putWord_1 ?_
  refine lv_iload_n hx hb zd_Bytes_putWord_4 rfl (lv_at hl 1 rfl) ?_
  refine lv_lload_n hx hb zd_Bytes_putWord_5 rfl (lv_at hl 2 rfl) ?_
  refine lv_l2i (v := (zq_j_l2i p1)) hx hb zd_Bytes_putWord_6 rfl ?_
  refine lv_i2b (v := (zq_j_i2b (zq_j_l2i p1))) hx hb zd_Bytes_putWord_7 rfl ?_
  obtain ⟨hi_1, h⟩ := h
  refine zq_a_bast (D := D) hx hb hK hP hD hS 1 3 rfl rfl hi_1 rfl zd_Bytes_putWord_8 (fun H locs hP hD hS => ?_)
  have hP : va_P D vwCl (W_Bytes_putWord kT ad (upd bc p0.toNatClampNeg (vp_nar .byte (zq_j_i2b (zq_j_l2i p1))))) H := hP
  have hD : va_D A (W_Bytes_putWord kT ad (upd bc p0.toNatClampNeg (vp_nar .byte (zq_j_i2b (zq_j_l2i p1))))) := hD
  refine lv_aload_n hx hb zd_Bytes_putWord_9 rfl (lv_at hl 0 rfl) ?_
  refine va_get (D := D) (ci := 1) (v := .ref (ad 6)) (C := zR_Bytes) (T := zF_Bytes) (N := 1) hx hb ht zi_Bytes hown hK hP 0 rfl rfl 0 (by decide) (ht _ zw_136) (fun _ h9 => h9) rfl zd_Bytes_putWord_10 ?_
  refine lv_iload_n hx hb zd_Bytes_putWord_13 rfl (lv_at hl 1 rfl) ?_
  refine lv_iconst (v := 1) hx hb zd_Bytes_putWord_14 (by decide) ?_
  refine lv_iadd hx hb zd_Bytes_putWord_15 ?_
  refine lv_lload_n hx hb zd_Bytes_putWord_16 rfl (lv_at hl 2 rfl) ?_
  refine lv_bipush (v := 8) hx hb zd_Bytes_putWord_17 (by decide) ?_
  refine lv_lushr (v := (zq_j_lushr p1 8)) hx hb zd_Bytes_putWord_19 rfl ?_
  refine lv_l2i (v := (zq_j_l2i (zq_j_lushr p1 8))) hx hb zd_Bytes_putWord_20 rfl ?_
  refine lv_i2b (v := (zq_j_i2b (zq_j_l2i (zq_j_lushr p1 8)))) hx hb zd_Bytes_putWord_21 rfl ?_
  obtain ⟨hi_2, h⟩ := h
  refine zq_a_bast (D := D) hx hb hK hP hD hS 1 3 rfl rfl hi_2 rfl zd_Bytes_putWord_22 (fun H locs hP hD hS => ?_)
  have hP : va_P D vwCl (W_Bytes_putWord kT ad (upd (upd bc p0.toNatClampNeg (vp_nar .byte (zq_j_i2b (zq_j_l2i p1)))) ((p0 + 1)).toNatClampNeg (vp_nar .byte (zq_j_i2b (zq_j_l2i (zq_j_lushr p1 8)))))) H := hP
  have hD : va_D A (W_Bytes_putWord kT ad (upd (upd bc p0.toNatClampNeg (vp_nar .byte (zq_j_i2b (zq_j_l2i p1)))) ((p0 + 1)).toNatClampNeg (vp_nar .byte (zq_j_i2b (zq_j_l2i (zq_j_lushr p1 8)))))) := hD
  exact hret  _ H locs 23 ls ⟨(upd (upd bc p0.toNatClampNeg (vp_nar .byte (zq_j_i2b (zq_j_l2i p1)))) ((p0 + 1)).toNatClampNeg (vp_nar .byte (zq_j_i2b (zq_j_l2i (zq_j_lushr p1 8))))), rfl, h⟩ hP rfl hS zd_Bytes_putWord_23
