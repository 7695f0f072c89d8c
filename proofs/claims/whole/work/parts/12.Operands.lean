abbrev W_Operands_addConstant (kT : Nat → ClassId) (ad : Nat → Nat) (ocn : Int32) (ofn : Int32) (oc : Nat → Int64) : va_W := [(ad 7, .inr (2, [.ref (ad 1), .ref (ad 8), .ref (ad 9), .ref (ad 10), .ref (ad 11), .int ocn, .int ofn])), (ad 8, .inl (kT 1, 16, .inr (.inl oc)))]
abbrev A_Operands_addConstant (ad : Nat → Nat) : List Nat := [ad 7, ad 8]
def wp_Operands_addConstant (ocn : Int32) (ofn : Int32) (oc : Nat → Int64) (p0 : Int64) (post : Int32 → Int32 → (Nat → Int64) → Prop) : Prop := vp_in ocn 16 ∧ post ((32 + (ocn + 1)) - 1) (ocn + 1) (vp_updL oc ocn.toNatClampNeg p0)
set_option maxHeartbeats 4000000 in
set_option maxRecDepth 100000 in
theorem c_Operands_addConstant (l : Launch) (D : va_G) (kT : Nat → ClassId) (ad : Nat → Nat) (ocn : Int32) (ofn : Int32) (oc : Nat → Int64) (p0 : Int64) (post : Int32 → Int32 → (Nat → Int64) → Prop) (h : wp_Operands_addConstant ocn ofn oc p0 post) : zq_Mi l zy_Operands_addConstant zs_Operands_addConstant ({ frames := 0, cells := 0, slots := 0, locals := 0 }) D kT [.ref (ad 7), .long p0] (W_Operands_addConstant kT ad ocn ofn oc) (fun r w' => ∃ (ocn' : Int32) (oc' : Nat → Int64), w' = (W_Operands_addConstant kT ad ocn' ofn oc') ∧ post r ocn' oc') := by
  refine zq_Mi_of (adl := (A_Operands_addConstant ad)) (cc := zb_Operands_addConstant) (maxL := 3) (own := zR_Operands) rfl (by decide) rfl rfl (Nat.le_of_ble_eq_true rfl) ?_
  intro p e s m AV below meth c A QQ H locs ls hx hb hml hown ht hE hA hret hP hD hS hl
  have hK := hE.1
  have hl : lv_has ls 3 [(0, .ref (ad 7)), (1, .long p0)] := hl
  refine lv_aload_n hx hb zd_Operands_addConstant_0 rfl (lv_at hl 0 rfl) ?_
  refine va_get (D := D) (ci := 2) (v := .ref (ad 8)) (C := zR_Operands) (T := zF_Operands) (N := 7) hx hb ht zi_Operands hown hK hP 0 rfl rfl 1 (by decide) (ht _ zw_137) (fun _ h9 => h9) rfl zd_Operands_addConstant_1 ?_
  refine lv_aload_n hx hb zd_Operands_addConstant_4 rfl (lv_at hl 0 rfl) ?_
  refine va_get (D := D) (ci := 2) (v := .int ocn) (C := zR_Operands) (T := zF_Operands) (N := 7) hx hb ht zi_Operands hown hK hP 0 rfl rfl 5 (by decide) (ht _ zw_138) (fun _ h9 => h9) rfl zd_Operands_addConstant_5 ?_
  refine lv_lload_n hx hb zd_Operands_addConstant_8 rfl (lv_at hl 1 rfl) ?_
  obtain ⟨hi_1, h⟩ := h
  refine zq_a_last (D := D) hx hb hK hP hD hS 1 1 rfl rfl hi_1 rfl zd_Operands_addConstant_9 (fun H locs hP hD hS => ?_)
  have hP : va_P D vwCl (W_Operands_addConstant kT ad ocn ofn (vp_updL oc ocn.toNatClampNeg p0)) H := hP
  have hD : va_D A (W_Operands_addConstant kT ad ocn ofn (vp_updL oc ocn.toNatClampNeg p0)) := hD
  refine lv_aload_n hx hb zd_Operands_addConstant_10 rfl (lv_at hl 0 rfl) ?_
  refine lv_dup hx hb zd_Operands_addConstant_11 rfl ?_
  refine va_get (D := D) (ci := 2) (v := .int ocn) (C := zR_Operands) (T := zF_Operands) (N := 7) hx hb ht zi_Operands hown hK hP 0 rfl rfl 5 (by decide) (ht _ zw_138) (fun _ h9 => h9) rfl zd_Operands_addConstant_12 ?_
  refine lv_iconst (v := 1) hx hb zd_Operands_addConstant_15 (by decide) ?_
  refine lv_iadd hx hb zd_Operands_addConstant_16 ?_
  refine va_put (D := D) (ci := 2) (v := .int (ocn + 1)) (ty := .int) (C := zR_Operands) (T := zF_Operands) (N := 7) hx hb ht zi_Operands zt_Operands zt_Operands_ok zn_Operands hown hK hP hD hS 0 rfl rfl 5 (by decide) (ht _ zw_138) (fun _ h9 => h9) rfl (by decide +kernel) rfl rfl (Nat.le_of_ble_eq_true rfl) zd_Operands_addConstant_17 (fun H locs hP hD hS => ?_)
  have hP : va_P D vwCl (W_Operands_addConstant kT ad (ocn + 1) ofn (vp_updL oc ocn.toNatClampNeg p0)) H := hP
  have hD : va_D A (W_Operands_addConstant kT ad (ocn + 1) ofn (vp_updL oc ocn.toNatClampNeg p0)) := hD
  refine lv_bipush (v := 32) hx hb zd_Operands_addConstant_20 (by decide) ?_
  refine lv_aload_n hx hb zd_Operands_addConstant_22 rfl (lv_at hl 0 rfl) ?_
  refine va_get (D := D) (ci := 2) (v := .int (ocn + 1)) (C := zR_Operands) (T := zF_Operands) (N := 7) hx hb ht zi_Operands hown hK hP 0 rfl rfl 5 (by decide) (ht _ zw_138) (fun _ h9 => h9) rfl zd_Operands_addConstant_23 ?_
  refine lv_iadd hx hb zd_Operands_addConstant_26 ?_
  refine lv_iconst (v := 1) hx hb zd_Operands_addConstant_27 (by decide) ?_
  refine lv_isub hx hb zd_Operands_addConstant_28 ?_
  exact hret ((32 + (ocn + 1)) - 1)  _ H locs 29 ls ⟨(ocn + 1), (vp_updL oc ocn.toNatClampNeg p0), rfl, h⟩ hP rfl hS zd_Operands_addConstant_29
abbrev W_Operands_addField (kT : Nat → ClassId) (ad : Nat → Nat) (ocn : Int32) (ofn : Int32) (ofr : Nat → Int32) (oto : Nat → Int32) (osg : Nat → Int32) : va_W := [(ad 7, .inr (2, [.ref (ad 1), .ref (ad 8), .ref (ad 9), .ref (ad 10), .ref (ad 11), .int ocn, .int ofn])), (ad 9, .inl (kT 0, 16, .inl ofr)), (ad 10, .inl (kT 0, 16, .inl oto)), (ad 11, .inl (kT 2, 16, .inl osg))]
abbrev A_Operands_addField (ad : Nat → Nat) : List Nat := [ad 7, ad 9, ad 10, ad 11]
def wp_Operands_addField (ocn : Int32) (ofn : Int32) (ofr : Nat → Int32) (oto : Nat → Int32) (osg : Nat → Int32) (p0 : Int32) (p1 : Int32) (p2 : Int32) (post : Int32 → Int32 → (Nat → Int32) → (Nat → Int32) → (Nat → Int32) → Prop) : Prop := vp_in ofn 16 ∧ vp_in ofn 16 ∧ vp_in ofn 16 ∧ post ((64 + (ofn + 1)) - 1) (ofn + 1) (upd ofr ofn.toNatClampNeg p0) (upd oto ofn.toNatClampNeg p1) (upd osg ofn.toNatClampNeg (vp_nar .boolean p2))
set_option maxHeartbeats 4000000 in
set_option maxRecDepth 100000 in
theorem c_Operands_addField (l : Launch) (D : va_G) (kT : Nat → ClassId) (ad : Nat → Nat) (ocn : Int32) (ofn : Int32) (ofr : Nat → Int32) (oto : Nat → Int32) (osg : Nat → Int32) (p0 : Int32) (p1 : Int32) (p2 : Int32) (post : Int32 → Int32 → (Nat → Int32) → (Nat → Int32) → (Nat → Int32) → Prop) (h : wp_Operands_addField ocn ofn ofr oto osg p0 p1 p2 post) : zq_Mi l zy_Operands_addField zs_Operands_addField ({ frames := 0, cells := 0, slots := 0, locals := 0 }) D kT [.ref (ad 7), .int p0, .int p1, .int p2] (W_Operands_addField kT ad ocn ofn ofr oto osg) (fun r w' => ∃ (ofn' : Int32) (ofr' : Nat → Int32) (oto' : Nat → Int32) (osg' : Nat → Int32), w' = (W_Operands_addField kT ad ocn ofn' ofr' oto' osg') ∧ post r ofn' ofr' oto' osg') := by
  refine zq_Mi_of (adl := (A_Operands_addField ad)) (cc := zb_Operands_addField) (maxL := 4) (own := zR_Operands) rfl (by decide) rfl rfl (Nat.le_of_ble_eq_true rfl) ?_
  intro p e s m AV below meth c A QQ H locs ls hx hb hml hown ht hE hA hret hP hD hS hl
  have hK := hE.1
  have hl : lv_has ls 4 [(0, .ref (ad 7)), (1, .int p0), (2, .int p1), (3, .int p2)] := hl
  refine lv_aload_n hx hb zd_Operands_addField_0 rfl (lv_at hl 0 rfl) ?_
  refine va_get (D := D) (ci := 2) (v := .ref (ad 9)) (C := zR_Operands) (T := zF_Operands) (N := 7) hx hb ht zi_Operands hown hK hP 0 rfl rfl 2 (by decide) (ht _ zw_139) (fun _ h9 => h9) rfl zd_Operands_addField_1 ?_
  refine lv_aload_n hx hb zd_Operands_addField_4 rfl (lv_at hl 0 rfl) ?_
  refine va_get (D := D) (ci := 2) (v := .int ofn) (C := zR_Operands) (T := zF_Operands) (N := 7) hx hb ht zi_Operands hown hK hP 0 rfl rfl 6 (by decide) (ht _ zw_140) (fun _ h9 => h9) rfl zd_Operands_addField_5 ?_
  refine lv_iload_n hx hb zd_Operands_addField_8 rfl (lv_at hl 1 rfl) ?_
  obtain ⟨hi_1, h⟩ := h
  refine zq_a_iast (D := D) hx hb hK hP hD hS 1 0 rfl rfl hi_1 rfl zd_Operands_addField_9 (fun H locs hP hD hS => ?_)
  have hP : va_P D vwCl (W_Operands_addField kT ad ocn ofn (upd ofr ofn.toNatClampNeg p0) oto osg) H := hP
  have hD : va_D A (W_Operands_addField kT ad ocn ofn (upd ofr ofn.toNatClampNeg p0) oto osg) := hD
  refine lv_aload_n hx hb zd_Operands_addField_10 rfl (lv_at hl 0 rfl) ?_
  refine va_get (D := D) (ci := 2) (v := .ref (ad 10)) (C := zR_Operands) (T := zF_Operands) (N := 7) hx hb ht zi_Operands hown hK hP 0 rfl rfl 3 (by decide) (ht _ zw_141) (fun _ h9 => h9) rfl zd_Operands_addField_11 ?_
  refine lv_aload_n hx hb zd_Operands_addField_14 rfl (lv_at hl 0 rfl) ?_
  refine va_get (D := D) (ci := 2) (v := .int ofn) (C := zR_Operands) (T := zF_Operands) (N := 7) hx hb ht zi_Operands hown hK hP 0 rfl rfl 6 (by decide) (ht _ zw_140) (fun _ h9 => h9) rfl zd_Operands_addField_15 ?_
  refine lv_iload_n hx hb zd_Operands_addField_18 rfl (lv_at hl 2 rfl) ?_
  obtain ⟨hi_2, h⟩ := h
  refine zq_a_iast (D := D) hx hb hK hP hD hS 2 0 rfl rfl hi_2 rfl zd_Operands_addField_19 (fun H locs hP hD hS => ?_)
  have hP : va_P D vwCl (W_Operands_addField kT ad ocn ofn (upd ofr ofn.toNatClampNeg p0) (upd oto ofn.toNatClampNeg p1) osg) H := hP
  have hD : va_D A (W_Operands_addField kT ad ocn ofn (upd ofr ofn.toNatClampNeg p0) (upd oto ofn.toNatClampNeg p1) osg) := hD
  refine lv_aload_n hx hb zd_Operands_addField_20 rfl (lv_at hl 0 rfl) ?_
  refine va_get (D := D) (ci := 2) (v := .ref (ad 11)) (C := zR_Operands) (T := zF_Operands) (N := 7) hx hb ht zi_Operands hown hK hP 0 rfl rfl 4 (by decide) (ht _ zw_142) (fun _ h9 => h9) rfl zd_Operands_addField_21 ?_
  refine lv_aload_n hx hb zd_Operands_addField_24 rfl (lv_at hl 0 rfl) ?_
  refine va_get (D := D) (ci := 2) (v := .int ofn) (C := zR_Operands) (T := zF_Operands) (N := 7) hx hb ht zi_Operands hown hK hP 0 rfl rfl 6 (by decide) (ht _ zw_140) (fun _ h9 => h9) rfl zd_Operands_addField_25 ?_
  refine lv_iload_n hx hb zd_Operands_addField_28 rfl (lv_at hl 3 rfl) ?_
  obtain ⟨hi_3, h⟩ := h
  refine zq_a_zast (D := D) hx hb hK hP hD hS 3 2 rfl rfl hi_3 rfl zd_Operands_addField_29 (fun H locs hP hD hS => ?_)
  have hP : va_P D vwCl (W_Operands_addField kT ad ocn ofn (upd ofr ofn.toNatClampNeg p0) (upd oto ofn.toNatClampNeg p1) (upd osg ofn.toNatClampNeg (vp_nar .boolean p2))) H := hP
  have hD : va_D A (W_Operands_addField kT ad ocn ofn (upd ofr ofn.toNatClampNeg p0) (upd oto ofn.toNatClampNeg p1) (upd osg ofn.toNatClampNeg (vp_nar .boolean p2))) := hD
  refine lv_aload_n hx hb zd_Operands_addField_30 rfl (lv_at hl 0 rfl) ?_
  refine lv_dup hx hb zd_Operands_addField_31 rfl ?_
  refine va_get (D := D) (ci := 2) (v := .int ofn) (C := zR_Operands) (T := zF_Operands) (N := 7) hx hb ht zi_Operands hown hK hP 0 rfl rfl 6 (by decide) (ht _ zw_140) (fun _ h9 => h9) rfl zd_Operands_addField_32 ?_
  refine lv_iconst (v := 1) hx hb zd_Operands_addField_35 (by decide) ?_
  refine lv_iadd hx hb zd_Operands_addField_36 ?_
  refine va_put (D := D) (ci := 2) (v := .int (ofn + 1)) (ty := .int) (C := zR_Operands) (T := zF_Operands) (N := 7) hx hb ht zi_Operands zt_Operands zt_Operands_ok zn_Operands hown hK hP hD hS 0 rfl rfl 6 (by decide) (ht _ zw_140) (fun _ h9 => h9) rfl (by decide +kernel) rfl rfl (Nat.le_of_ble_eq_true rfl) zd_Operands_addField_37 (fun H locs hP hD hS => ?_)
  have hP : va_P D vwCl (W_Operands_addField kT ad ocn (ofn + 1) (upd ofr ofn.toNatClampNeg p0) (upd oto ofn.toNatClampNeg p1) (upd osg ofn.toNatClampNeg (vp_nar .boolean p2))) H := hP
  have hD : va_D A (W_Operands_addField kT ad ocn (ofn + 1) (upd ofr ofn.toNatClampNeg p0) (upd oto ofn.toNatClampNeg p1) (upd osg ofn.toNatClampNeg (vp_nar .boolean p2))) := hD
  refine lv_bipush (v := 64) hx hb zd_Operands_addField_40 (by decide) ?_
  refine lv_aload_n hx hb zd_Operands_addField_42 rfl (lv_at hl 0 rfl) ?_
  refine va_get (D := D) (ci := 2) (v := .int (ofn + 1)) (C := zR_Operands) (T := zF_Operands) (N := 7) hx hb ht zi_Operands hown hK hP 0 rfl rfl 6 (by decide) (ht _ zw_140) (fun _ h9 => h9) rfl zd_Operands_addField_43 ?_
  refine lv_iadd hx hb zd_Operands_addField_46 ?_
  refine lv_iconst (v := 1) hx hb zd_Operands_addField_47 (by decide) ?_
  refine lv_isub hx hb zd_Operands_addField_48 ?_
  exact hret ((64 + (ofn + 1)) - 1)  _ H locs 49 ls ⟨(ofn + 1), (upd ofr ofn.toNatClampNeg p0), (upd oto ofn.toNatClampNeg p1), (upd osg ofn.toNatClampNeg (vp_nar .boolean p2)), rfl, h⟩ hP rfl hS zd_Operands_addField_49
abbrev W_Operands_has (kT : Nat → ClassId) (ad : Nat → Nat) (rn : Int32) (ocn : Int32) (ofn : Int32) : va_W := [(ad 1, .inr (0, [.ref (ad 2), .ref (ad 3), .ref (ad 4), .int rn])), (ad 7, .inr (2, [.ref (ad 1), .ref (ad 8), .ref (ad 9), .ref (ad 10), .ref (ad 11), .int ocn, .int ofn]))]
abbrev A_Operands_has (ad : Nat → Nat) : List Nat := [ad 1, ad 7]
def wp_Operands_has (rn : Int32) (ocn : Int32) (ofn : Int32) (p0 : Int32) (post : Int32 → Prop) : Prop := (if p0 < 64 then (if p0 < 32 then wp_Registers_has rn p0 (fun r_3 => zq_bz r_3 ∧ post r_3 ) else (if ocn ≤ (p0 - 32) then post 0  else post 1 )) else (if ofn ≤ (p0 - 64) then post 0  else post 1 ))
set_option maxHeartbeats 4000000 in
set_option maxRecDepth 100000 in
theorem c_Operands_has (l : Launch) (D : va_G) (kT : Nat → ClassId) (ad : Nat → Nat) (rn : Int32) (ocn : Int32) (ofn : Int32) (p0 : Int32) (post : Int32 → Prop) (h : wp_Operands_has rn ocn ofn p0 post) : zq_Mi l zy_Operands_has zs_Operands_has ({ frames := 1, cells := 0, slots := 0, locals := 21 }) D kT [.ref (ad 7), .int p0] (W_Operands_has kT ad rn ocn ofn) (fun r w' => w' = (W_Operands_has kT ad rn ocn ofn) ∧ post r ) := by
  refine zq_Mz_of (adl := (A_Operands_has ad)) (cc := zb_Operands_has) (maxL := 2) (own := zR_Operands) rfl (by decide) rfl rfl (Nat.le_of_ble_eq_true rfl) ?_
  intro p e s m AV below meth c A QQ H locs ls hx hb hml hown ht hE hA hret hP hD hS hl
  have hK := hE.1
  have hl : lv_has ls 2 [(0, .ref (ad 7)), (1, .int p0)] := hl
  unfold wp_Operands_has at h
  refine lv_iload_n hx hb zd_Operands_has_0 rfl (lv_at hl 1 rfl) ?_
  refine lv_bipush (v := 64) hx hb zd_Operands_has_1 (by decide) ?_
  refine lv_icmp_lt (tgt := 23) hx hb zd_Operands_has_3 (by decide) (fun c_1 => ?_) (fun c_1 => ?_)
  · have h := zq_it c_1 h
    refine lv_iload_n hx hb zd_Operands_has_23 rfl (lv_at hl 1 rfl) ?_
    refine lv_bipush (v := 32) hx hb zd_Operands_has_24 (by decide) ?_
    refine lv_icmp_lt (tgt := 46) hx hb zd_Operands_has_26 (by decide) (fun c_2 => ?_) (fun c_2 => ?_)
    · have h := zq_it c_2 h
      refine lv_aload_n hx hb zd_Operands_has_46 rfl (lv_at hl 0 rfl) ?_
      refine va_get (D := D) (ci := 2) (v := .ref (ad 1)) (C := zR_Operands) (T := zF_Operands) (N := 7) hx hb ht zi_Operands hown hK hP 1 rfl rfl 0 (by decide) (ht _ zw_143) (fun _ h9 => h9) rfl zd_Operands_has_47 ?_
      refine lv_iload_n hx hb zd_Operands_has_50 rfl (lv_at hl 1 rfl) ?_
      refine zq_c_Vi (rest := []) (adl := (A_Operands_has ad)) (wr := [(ad 7, .inr (2, [.ref (ad 1), .ref (ad 8), .ref (ad 9), .ref (ad 10), .ref (ad 11), .int ocn, .int ofn]))]) ⟨hx, hb, hml, hown, ht⟩ (c_Registers_has l D kT ad rn p0 _ h) (cwV 1 ht (zq_gV zw_144 zw_145 zw_146 zw_128 zw_147) rfl rfl rfl zh_Registers_has ⟨Nat.le_of_ble_eq_true rfl, Nat.le_of_ble_eq_true rfl⟩) hE hP hD hS hA [0] [1] 2 rfl (by decide +kernel) rfl (by decide +kernel) rfl rfl 0 rfl rfl rfl rfl hl.1 (Nat.le_of_ble_eq_true rfl) rfl zd_Operands_has_51 ⟨Nat.zero_le _, Nat.zero_le _⟩ (fun r_3 w1 H locs hw hJ hS => ?_)
      obtain ⟨rfl, h⟩ := hw
      obtain ⟨hP, hD⟩ := hJ (W_Operands_has kT ad rn ocn ofn) rfl rfl rfl
      obtain ⟨hb_4, h⟩ := h
      exact hret r_3 (zq_bzn hb_4) _ H locs 54 ls ⟨rfl, h⟩ hP rfl hS zd_Operands_has_54
    · have h := zq_if c_2 h
      refine lv_iload_n hx hb zd_Operands_has_29 rfl (lv_at hl 1 rfl) ?_
      refine lv_bipush (v := 32) hx hb zd_Operands_has_30 (by decide) ?_
      refine lv_isub hx hb zd_Operands_has_32 ?_
      refine lv_aload_n hx hb zd_Operands_has_33 rfl (lv_at hl 0 rfl) ?_
      refine va_get (D := D) (ci := 2) (v := .int ocn) (C := zR_Operands) (T := zF_Operands) (N := 7) hx hb ht zi_Operands hown hK hP 1 rfl rfl 5 (by decide) (ht _ zw_138) (fun _ h9 => h9) rfl zd_Operands_has_34 ?_
      refine lv_icmp_ge (tgt := 44) hx hb zd_Operands_has_37 (by decide) (fun c_5 => ?_) (fun c_5 => ?_)
      · have h := zq_it c_5 h
        refine lv_iconst (v := 0) hx hb zd_Operands_has_44 (by decide) ?_
        exact hret 0 rfl _ H locs 45 ls ⟨rfl, h⟩ hP rfl hS zd_Operands_has_45
      · have h := zq_if c_5 h
        refine lv_iconst (v := 1) hx hb zd_Operands_has_40 (by decide) ?_
        refine lv_goto (tgt := 45) hx hb zd_Operands_has_41 (by decide) ?_
        exact hret 1 rfl _ H locs 45 ls ⟨rfl, h⟩ hP rfl hS zd_Operands_has_45
  · have h := zq_if c_1 h
    refine lv_iload_n hx hb zd_Operands_has_6 rfl (lv_at hl 1 rfl) ?_
    refine lv_bipush (v := 64) hx hb zd_Operands_has_7 (by decide) ?_
    refine lv_isub hx hb zd_Operands_has_9 ?_
    refine lv_aload_n hx hb zd_Operands_has_10 rfl (lv_at hl 0 rfl) ?_
    refine va_get (D := D) (ci := 2) (v := .int ofn) (C := zR_Operands) (T := zF_Operands) (N := 7) hx hb ht zi_Operands hown hK hP 1 rfl rfl 6 (by decide) (ht _ zw_140) (fun _ h9 => h9) rfl zd_Operands_has_11 ?_
    refine lv_icmp_ge (tgt := 21) hx hb zd_Operands_has_14 (by decide) (fun c_6 => ?_) (fun c_6 => ?_)
    · have h := zq_it c_6 h
      refine lv_iconst (v := 0) hx hb zd_Operands_has_21 (by decide) ?_
      exact hret 0 rfl _ H locs 22 ls ⟨rfl, h⟩ hP rfl hS zd_Operands_has_22
    · have h := zq_if c_6 h
      refine lv_iconst (v := 1) hx hb zd_Operands_has_17 (by decide) ?_
      refine lv_goto (tgt := 22) hx hb zd_Operands_has_18 (by decide) ?_
      exact hret 1 rfl _ H locs 22 ls ⟨rfl, h⟩ hP rfl hS zd_Operands_has_22
abbrev W_Operands_readField (kT : Nat → ClassId) (ad : Nat → Nat) (ocn : Int32) (ofn : Int32) (ofr : Nat → Int32) (oto : Nat → Int32) (osg : Nat → Int32) : va_W := [(ad 7, .inr (2, [.ref (ad 1), .ref (ad 8), .ref (ad 9), .ref (ad 10), .ref (ad 11), .int ocn, .int ofn])), (ad 9, .inl (kT 0, 16, .inl ofr)), (ad 10, .inl (kT 0, 16, .inl oto)), (ad 11, .inl (kT 2, 16, .inl osg))]
abbrev A_Operands_readField (ad : Nat → Nat) : List Nat := [ad 7, ad 9, ad 10, ad 11]
def wp_Operands_readField (ocn : Int32) (ofn : Int32) (ofr : Nat → Int32) (oto : Nat → Int32) (osg : Nat → Int32) (p0 : Int32) (p1 : Int32) (post : Int64 → Prop) : Prop := vp_in p0 16 ∧ vp_in p0 16 ∧ vp_in p0 16 ∧ (if (osg p0.toNatClampNeg) = 0 then post (zq_j_lushr (zq_j_lshl (zq_j_i2l p1) (63 - (oto p0.toNatClampNeg))) ((63 - (oto p0.toNatClampNeg)) + (ofr p0.toNatClampNeg)))  else post (zq_j_lshr (zq_j_lshl (zq_j_i2l p1) (63 - (oto p0.toNatClampNeg))) ((63 - (oto p0.toNatClampNeg)) + (ofr p0.toNatClampNeg))) )
set_option maxHeartbeats 4000000 in
set_option maxRecDepth 100000 in
theorem c_Operands_readField (l : Launch) (D : va_G) (kT : Nat → ClassId) (ad : Nat → Nat) (ocn : Int32) (ofn : Int32) (ofr : Nat → Int32) (oto : Nat → Int32) (osg : Nat → Int32) (p0 : Int32) (p1 : Int32) (post : Int64 → Prop) (h : wp_Operands_readField ocn ofn ofr oto osg p0 p1 post) : zq_Ml l zy_Operands_readField zs_Operands_readField ({ frames := 0, cells := 0, slots := 0, locals := 0 }) D kT [.ref (ad 7), .int p0, .int p1] (W_Operands_readField kT ad ocn ofn ofr oto osg) (fun r w' => w' = (W_Operands_readField kT ad ocn ofn ofr oto osg) ∧ post r ) := by
  refine zq_Ml_of (adl := (A_Operands_readField ad)) (cc := zb_Operands_readField) (maxL := 7) (own := zR_Operands) rfl (by decide) rfl rfl (Nat.le_of_ble_eq_true rfl) ?_
  intro p e s m AV below meth c A QQ H locs ls hx hb hml hown ht hE hA hret hP hD hS hl
  have hK := hE.1
  have hl : lv_has ls 7 [(0, .ref (ad 7)), (1, .int p0), (2, .int p1)] := hl
  refine lv_bipush (v := 63) hx hb zd_Operands_readField_0 (by decide) ?_
  refine lv_aload_n hx hb zd_Operands_readField_2 rfl (lv_at hl 0 rfl) ?_
  refine va_get (D := D) (ci := 2) (v := .ref (ad 10)) (C := zR_Operands) (T := zF_Operands) (N := 7) hx hb ht zi_Operands hown hK hP 0 rfl rfl 3 (by decide) (ht _ zw_141) (fun _ h9 => h9) rfl zd_Operands_readField_3 ?_
  refine lv_iload_n hx hb zd_Operands_readField_6 rfl (lv_at hl 1 rfl) ?_
  obtain ⟨hi_1, h⟩ := h
  refine zq_a_iald (D := D) hx hb hK hP 2 0 rfl rfl hi_1 rfl zd_Operands_readField_7 ?_
  refine lv_isub hx hb zd_Operands_readField_8 ?_
  refine lv_istore_n (lv' := [(3, .int (63 - (oto p0.toNatClampNeg))), (0, .ref (ad 7)), (1, .int p0), (2, .int p1)]) hx hb zd_Operands_readField_9 rfl hl (by decide) rfl (fun ls hl => ?_)
  refine lv_iload_n hx hb zd_Operands_readField_10 rfl (lv_at hl 0 rfl) ?_
  refine lv_aload_n hx hb zd_Operands_readField_11 rfl (lv_at hl 1 rfl) ?_
  refine va_get (D := D) (ci := 2) (v := .ref (ad 9)) (C := zR_Operands) (T := zF_Operands) (N := 7) hx hb ht zi_Operands hown hK hP 0 rfl rfl 2 (by decide) (ht _ zw_139) (fun _ h9 => h9) rfl zd_Operands_readField_12 ?_
  refine lv_iload_n hx hb zd_Operands_readField_15 rfl (lv_at hl 2 rfl) ?_
  obtain ⟨hi_2, h⟩ := h
  refine zq_a_iald (D := D) hx hb hK hP 1 0 rfl rfl hi_2 rfl zd_Operands_readField_16 ?_
  refine lv_iadd hx hb zd_Operands_readField_17 ?_
  refine lv_istore (lv' := [(4, .int ((63 - (oto p0.toNatClampNeg)) + (ofr p0.toNatClampNeg))), (3, .int (63 - (oto p0.toNatClampNeg))), (0, .ref (ad 7)), (1, .int p0), (2, .int p1)]) hx hb zd_Operands_readField_18 hl (by decide) rfl (fun ls hl => ?_)
  refine lv_iload_n hx hb zd_Operands_readField_20 rfl (lv_at hl 4 rfl) ?_
  refine lv_i2l (v := (zq_j_i2l p1)) hx hb zd_Operands_readField_21 rfl ?_
  refine lv_iload_n hx hb zd_Operands_readField_22 rfl (lv_at hl 1 rfl) ?_
  refine lv_lshl (v := (zq_j_lshl (zq_j_i2l p1) (63 - (oto p0.toNatClampNeg)))) hx hb zd_Operands_readField_23 rfl ?_
  refine lv_lstore (lv' := [(5, .long (zq_j_lshl (zq_j_i2l p1) (63 - (oto p0.toNatClampNeg)))), (4, .int ((63 - (oto p0.toNatClampNeg)) + (ofr p0.toNatClampNeg))), (3, .int (63 - (oto p0.toNatClampNeg))), (0, .ref (ad 7)), (1, .int p0), (2, .int p1)]) hx hb zd_Operands_readField_24 hl (by decide) rfl (fun ls hl => ?_)
  refine lv_aload_n hx hb zd_Operands_readField_26 rfl (lv_at hl 3 rfl) ?_
  refine va_get (D := D) (ci := 2) (v := .ref (ad 11)) (C := zR_Operands) (T := zF_Operands) (N := 7) hx hb ht zi_Operands hown hK hP 0 rfl rfl 4 (by decide) (ht _ zw_142) (fun _ h9 => h9) rfl zd_Operands_readField_27 ?_
  refine lv_iload_n hx hb zd_Operands_readField_30 rfl (lv_at hl 4 rfl) ?_
  obtain ⟨hi_3, h⟩ := h
  refine zq_a_zald (D := D) hx hb hK hP 3 2 rfl rfl hi_3 rfl zd_Operands_readField_31 ?_
  refine lv_if_eq (tgt := 43) hx hb zd_Operands_readField_32 (by decide) (fun c_4 => ?_) (fun c_4 => ?_)
  · have h := zq_it c_4 h
    refine lv_lload hx hb zd_Operands_readField_43 (lv_at hl 0 rfl) ?_
    refine lv_iload hx hb zd_Operands_readField_45 (lv_at hl 1 rfl) ?_
    refine lv_lushr (v := (zq_j_lushr (zq_j_lshl (zq_j_i2l p1) (63 - (oto p0.toNatClampNeg))) ((63 - (oto p0.toNatClampNeg)) + (ofr p0.toNatClampNeg)))) hx hb zd_Operands_readField_47 rfl ?_
    exact hret (zq_j_lushr (zq_j_lshl (zq_j_i2l p1) (63 - (oto p0.toNatClampNeg))) ((63 - (oto p0.toNatClampNeg)) + (ofr p0.toNatClampNeg)))  _ H locs 48 ls ⟨rfl, h⟩ hP rfl hS zd_Operands_readField_48
  · have h := zq_if c_4 h
    refine lv_lload hx hb zd_Operands_readField_35 (lv_at hl 0 rfl) ?_
    refine lv_iload hx hb zd_Operands_readField_37 (lv_at hl 1 rfl) ?_
    refine lv_lshr (v := (zq_j_lshr (zq_j_lshl (zq_j_i2l p1) (63 - (oto p0.toNatClampNeg))) ((63 - (oto p0.toNatClampNeg)) + (ofr p0.toNatClampNeg)))) hx hb zd_Operands_readField_39 rfl ?_
    refine lv_goto (tgt := 48) hx hb zd_Operands_readField_40 (by decide) ?_
    exact hret (zq_j_lshr (zq_j_lshl (zq_j_i2l p1) (63 - (oto p0.toNatClampNeg))) ((63 - (oto p0.toNatClampNeg)) + (ofr p0.toNatClampNeg)))  _ H locs 48 ls ⟨rfl, h⟩ hP rfl hS zd_Operands_readField_48
abbrev W_Operands_read (kT : Nat → ClassId) (ad : Nat → Nat) (rn : Int32) (rv : Nat → Int64) (ocn : Int32) (ofn : Int32) (oc : Nat → Int64) (ofr : Nat → Int32) (oto : Nat → Int32) (osg : Nat → Int32) : va_W := [(ad 1, .inr (0, [.ref (ad 2), .ref (ad 3), .ref (ad 4), .int rn])), (ad 3, .inl (kT 1, 24, .inr (.inl rv))), (ad 7, .inr (2, [.ref (ad 1), .ref (ad 8), .ref (ad 9), .ref (ad 10), .ref (ad 11), .int ocn, .int ofn])), (ad 8, .inl (kT 1, 16, .inr (.inl oc))), (ad 9, .inl (kT 0, 16, .inl ofr)), (ad 10, .inl (kT 0, 16, .inl oto)), (ad 11, .inl (kT 2, 16, .inl osg))]
abbrev A_Operands_read (ad : Nat → Nat) : List Nat := [ad 1, ad 3, ad 7, ad 8, ad 9, ad 10, ad 11]
def wp_Operands_read (rn : Int32) (rv : Nat → Int64) (ocn : Int32) (ofn : Int32) (oc : Nat → Int64) (ofr : Nat → Int32) (oto : Nat → Int32) (osg : Nat → Int32) (p0 : Int32) (p1 : Int32) (post : Int64 → Prop) : Prop := (if p0 < 64 then (if p0 < 32 then wp_Registers_valueOf rn rv p0 (fun r_3 => post r_3 ) else vp_in (p0 - 32) 16 ∧ post (oc ((p0 - 32)).toNatClampNeg) ) else wp_Operands_readField ocn ofn ofr oto osg (p0 - 64) p1 (fun r_5 => post r_5 ))
set_option maxHeartbeats 4000000 in
set_option maxRecDepth 100000 in
theorem c_Operands_read (l : Launch) (D : va_G) (kT : Nat → ClassId) (ad : Nat → Nat) (rn : Int32) (rv : Nat → Int64) (ocn : Int32) (ofn : Int32) (oc : Nat → Int64) (ofr : Nat → Int32) (oto : Nat → Int32) (osg : Nat → Int32) (p0 : Int32) (p1 : Int32) (post : Int64 → Prop) (h : wp_Operands_read rn rv ocn ofn oc ofr oto osg p0 p1 post) : zq_Ml l zy_Operands_read zs_Operands_read ({ frames := 1, cells := 0, slots := 0, locals := 26 }) D kT [.ref (ad 7), .int p0, .int p1] (W_Operands_read kT ad rn rv ocn ofn oc ofr oto osg) (fun r w' => w' = (W_Operands_read kT ad rn rv ocn ofn oc ofr oto osg) ∧ post r ) := by
  refine zq_Ml_of (adl := (A_Operands_read ad)) (cc := zb_Operands_read) (maxL := 3) (own := zR_Operands) rfl (by decide) rfl rfl (Nat.le_of_ble_eq_true rfl) ?_
  intro p e s m AV below meth c A QQ H locs ls hx hb hml hown ht hE hA hret hP hD hS hl
  have hK := hE.1
  have hl : lv_has ls 3 [(0, .ref (ad 7)), (1, .int p0), (2, .int p1)] := hl
  unfold wp_Operands_read at h
  refine lv_iload_n hx hb zd_Operands_read_0 rfl (lv_at hl 1 rfl) ?_
  refine lv_bipush (v := 64) hx hb zd_Operands_read_1 (by decide) ?_
  refine lv_icmp_lt (tgt := 16) hx hb zd_Operands_read_3 (by decide) (fun c_1 => ?_) (fun c_1 => ?_)
  · have h := zq_it c_1 h
    refine lv_iload_n hx hb zd_Operands_read_16 rfl (lv_at hl 1 rfl) ?_
    refine lv_bipush (v := 32) hx hb zd_Operands_read_17 (by decide) ?_
    refine lv_icmp_lt (tgt := 32) hx hb zd_Operands_read_19 (by decide) (fun c_2 => ?_) (fun c_2 => ?_)
    · have h := zq_it c_2 h
      refine lv_aload_n hx hb zd_Operands_read_32 rfl (lv_at hl 0 rfl) ?_
      refine va_get (D := D) (ci := 2) (v := .ref (ad 1)) (C := zR_Operands) (T := zF_Operands) (N := 7) hx hb ht zi_Operands hown hK hP 2 rfl rfl 0 (by decide) (ht _ zw_143) (fun _ h9 => h9) rfl zd_Operands_read_33 ?_
      refine lv_iload_n hx hb zd_Operands_read_36 rfl (lv_at hl 1 rfl) ?_
      refine zq_c_Vl (rest := []) (adl := (A_Operands_read ad)) (wr := [(ad 7, .inr (2, [.ref (ad 1), .ref (ad 8), .ref (ad 9), .ref (ad 10), .ref (ad 11), .int ocn, .int ofn])), (ad 8, .inl (kT 1, 16, .inr (.inl oc))), (ad 9, .inl (kT 0, 16, .inl ofr)), (ad 10, .inl (kT 0, 16, .inl oto)), (ad 11, .inl (kT 2, 16, .inl osg))]) ⟨hx, hb, hml, hown, ht⟩ (c_Registers_valueOf l D kT ad rn rv p0 _ h) (cwV 1 ht (zq_gV zw_148 zw_149 zw_150 zw_128 zw_151) rfl rfl rfl zh_Registers_valueOf ⟨Nat.le_of_ble_eq_true rfl, Nat.le_of_ble_eq_true rfl⟩) hE hP hD hS hA [0, 1] [2, 3, 4, 5, 6] 7 rfl (by decide +kernel) rfl (by decide +kernel) rfl rfl 0 rfl rfl rfl rfl hl.1 (Nat.le_of_ble_eq_true rfl) rfl zd_Operands_read_37 ⟨Nat.zero_le _, Nat.zero_le _⟩ (fun r_3 w1 H locs hw hJ hS => ?_)
      obtain ⟨rfl, h⟩ := hw
      obtain ⟨hP, hD⟩ := hJ (W_Operands_read kT ad rn rv ocn ofn oc ofr oto osg) rfl rfl rfl
      exact hret r_3  _ H locs 40 ls ⟨rfl, h⟩ hP rfl hS zd_Operands_read_40
    · have h := zq_if c_2 h
      refine lv_aload_n hx hb zd_Operands_read_22 rfl (lv_at hl 0 rfl) ?_
      refine va_get (D := D) (ci := 2) (v := .ref (ad 8)) (C := zR_Operands) (T := zF_Operands) (N := 7) hx hb ht zi_Operands hown hK hP 2 rfl rfl 1 (by decide) (ht _ zw_137) (fun _ h9 => h9) rfl zd_Operands_read_23 ?_
      refine lv_iload_n hx hb zd_Operands_read_26 rfl (lv_at hl 1 rfl) ?_
      refine lv_bipush (v := 32) hx hb zd_Operands_read_27 (by decide) ?_
      refine lv_isub hx hb zd_Operands_read_29 ?_
      obtain ⟨hi_4, h⟩ := h
      refine zq_a_lald (D := D) hx hb hK hP 3 1 rfl rfl hi_4 rfl zd_Operands_read_30 ?_
      exact hret (oc ((p0 - 32)).toNatClampNeg)  _ H locs 31 ls ⟨rfl, h⟩ hP rfl hS zd_Operands_read_31
  · have h := zq_if c_1 h
    refine lv_aload_n hx hb zd_Operands_read_6 rfl (lv_at hl 0 rfl) ?_
    refine lv_iload_n hx hb zd_Operands_read_7 rfl (lv_at hl 1 rfl) ?_
    refine lv_bipush (v := 64) hx hb zd_Operands_read_8 (by decide) ?_
    refine lv_isub hx hb zd_Operands_read_10 ?_
    refine lv_iload_n hx hb zd_Operands_read_11 rfl (lv_at hl 2 rfl) ?_
    refine zq_c_Vl (rest := []) (adl := (A_Operands_read ad)) (wr := [(ad 1, .inr (0, [.ref (ad 2), .ref (ad 3), .ref (ad 4), .int rn])), (ad 3, .inl (kT 1, 24, .inr (.inl rv))), (ad 8, .inl (kT 1, 16, .inr (.inl oc)))]) ⟨hx, hb, hml, hown, ht⟩ (c_Operands_readField l D kT ad ocn ofn ofr oto osg (p0 - 64) p1 _ h) (cwV 2 ht (zq_gV zw_152 zw_153 zw_154 zw_155 zw_156) rfl rfl rfl zh_Operands_readField ⟨Nat.le_of_ble_eq_true rfl, Nat.le_of_ble_eq_true rfl⟩) hE hP hD hS hA [2, 4, 5, 6] [0, 1, 3] 7 rfl (by decide +kernel) rfl (by decide +kernel) rfl rfl 0 rfl rfl rfl rfl hl.1 (Nat.le_of_ble_eq_true rfl) rfl zd_Operands_read_12 ⟨Nat.zero_le _, Nat.zero_le _⟩ (fun r_5 w1 H locs hw hJ hS => ?_)
    obtain ⟨rfl, h⟩ := hw
    obtain ⟨hP, hD⟩ := hJ (W_Operands_read kT ad rn rv ocn ofn oc ofr oto osg) rfl rfl rfl
    exact hret r_5  _ H locs 15 ls ⟨rfl, h⟩ hP rfl hS zd_Operands_read_15
abbrev W_Operands_isMarked (kT : Nat → ClassId) (ad : Nat → Nat) (rn : Int32) (rm : Nat → Int32) (ocn : Int32) (ofn : Int32) : va_W := [(ad 1, .inr (0, [.ref (ad 2), .ref (ad 3), .ref (ad 4), .int rn])), (ad 4, .inl (kT 2, 24, .inl rm)), (ad 7, .inr (2, [.ref (ad 1), .ref (ad 8), .ref (ad 9), .ref (ad 10), .ref (ad 11), .int ocn, .int ofn]))]
abbrev A_Operands_isMarked (ad : Nat → Nat) : List Nat := [ad 1, ad 4, ad 7]
def wp_Operands_isMarked (rn : Int32) (rm : Nat → Int32) (ocn : Int32) (ofn : Int32) (p0 : Int32) (post : Int32 → Prop) : Prop := (if 32 ≤ p0 then post 0  else wp_Registers_isMarked rn rm p0 (fun r_2 => (if r_2 = 0 then post 0  else post 1 )))
set_option maxHeartbeats 4000000 in
set_option maxRecDepth 100000 in
theorem c_Operands_isMarked (l : Launch) (D : va_G) (kT : Nat → ClassId) (ad : Nat → Nat) (rn : Int32) (rm : Nat → Int32) (ocn : Int32) (ofn : Int32) (p0 : Int32) (post : Int32 → Prop) (h : wp_Operands_isMarked rn rm ocn ofn p0 post) : zq_Mi l zy_Operands_isMarked zs_Operands_isMarked ({ frames := 1, cells := 0, slots := 0, locals := 21 }) D kT [.ref (ad 7), .int p0] (W_Operands_isMarked kT ad rn rm ocn ofn) (fun r w' => w' = (W_Operands_isMarked kT ad rn rm ocn ofn) ∧ post r ) := by
  refine zq_Mz_of (adl := (A_Operands_isMarked ad)) (cc := zb_Operands_isMarked) (maxL := 2) (own := zR_Operands) rfl (by decide) rfl rfl (Nat.le_of_ble_eq_true rfl) ?_
  intro p e s m AV below meth c A QQ H locs ls hx hb hml hown ht hE hA hret hP hD hS hl
  have hK := hE.1
  have hl : lv_has ls 2 [(0, .ref (ad 7)), (1, .int p0)] := hl
  unfold wp_Operands_isMarked at h
  refine lv_iload_n hx hb zd_Operands_isMarked_0 rfl (lv_at hl 1 rfl) ?_
  refine lv_bipush (v := 32) hx hb zd_Operands_isMarked_1 (by decide) ?_
  refine lv_icmp_ge (tgt := 21) hx hb zd_Operands_isMarked_3 (by decide) (fun c_1 => ?_) (fun c_1 => ?_)
  · have h := zq_it c_1 h
    refine lv_iconst (v := 0) hx hb zd_Operands_isMarked_21 (by decide) ?_
    exact hret 0 rfl _ H locs 22 ls ⟨rfl, h⟩ hP rfl hS zd_Operands_isMarked_22
  · have h := zq_if c_1 h
    refine lv_aload_n hx hb zd_Operands_isMarked_6 rfl (lv_at hl 0 rfl) ?_
    refine va_get (D := D) (ci := 2) (v := .ref (ad 1)) (C := zR_Operands) (T := zF_Operands) (N := 7) hx hb ht zi_Operands hown hK hP 2 rfl rfl 0 (by decide) (ht _ zw_143) (fun _ h9 => h9) rfl zd_Operands_isMarked_7 ?_
    refine lv_iload_n hx hb zd_Operands_isMarked_10 rfl (lv_at hl 1 rfl) ?_
    refine zq_c_Vi (rest := []) (adl := (A_Operands_isMarked ad)) (wr := [(ad 7, .inr (2, [.ref (ad 1), .ref (ad 8), .ref (ad 9), .ref (ad 10), .ref (ad 11), .int ocn, .int ofn]))]) ⟨hx, hb, hml, hown, ht⟩ (c_Registers_isMarked l D kT ad rn rm p0 _ h) (cwV 1 ht (zq_gV zw_157 zw_158 zw_159 zw_128 zw_160) rfl rfl rfl zh_Registers_isMarked ⟨Nat.le_of_ble_eq_true rfl, Nat.le_of_ble_eq_true rfl⟩) hE hP hD hS hA [0, 1] [2] 3 rfl (by decide +kernel) rfl (by decide +kernel) rfl rfl 0 rfl rfl rfl rfl hl.1 (Nat.le_of_ble_eq_true rfl) rfl zd_Operands_isMarked_11 ⟨Nat.zero_le _, Nat.zero_le _⟩ (fun r_2 w1 H locs hw hJ hS => ?_)
    obtain ⟨rfl, h⟩ := hw
    obtain ⟨hP, hD⟩ := hJ (W_Operands_isMarked kT ad rn rm ocn ofn) rfl rfl rfl
    refine lv_if_eq (tgt := 21) hx hb zd_Operands_isMarked_14 (by decide) (fun c_3 => ?_) (fun c_3 => ?_)
    · have h := zq_it c_3 h
      refine lv_iconst (v := 0) hx hb zd_Operands_isMarked_21 (by decide) ?_
      exact hret 0 rfl _ H locs 22 ls ⟨rfl, h⟩ hP rfl hS zd_Operands_isMarked_22
    · have h := zq_if c_3 h
      refine lv_iconst (v := 1) hx hb zd_Operands_isMarked_17 (by decide) ?_
      refine lv_goto (tgt := 22) hx hb zd_Operands_isMarked_18 (by decide) ?_
      exact hret 1 rfl _ H locs 22 ls ⟨rfl, h⟩ hP rfl hS zd_Operands_isMarked_22
