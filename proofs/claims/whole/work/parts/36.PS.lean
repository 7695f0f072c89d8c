abbrev W_PS_register (kT : Nat → ClassId) (ad : Nat → Nat) (rn : Int32) (rc : Nat → Int64) (rm : Nat → Int32) : va_W := [(ad 0, .inr (9, [.ref (ad 1), .ref (ad 5), .ref (ad 7), .ref (ad 12), .ref (ad 22), .ref (ad 25), .ref (ad 33), .ref (ad 34)])), (ad 1, .inr (0, [.ref (ad 2), .ref (ad 3), .ref (ad 4), .int rn])), (ad 2, .inl (kT 1, 24, .inr (.inl rc))), (ad 4, .inl (kT 2, 24, .inl rm))]
abbrev A_PS_register (ad : Nat → Nat) : List Nat := [ad 0, ad 1, ad 2, ad 4]
def wp_PS_register (rn : Int32) (rc : Nat → Int64) (rm : Nat → Int32) (p0 : Int32) (post : Int32 → Int32 → (Nat → Int64) → (Nat → Int32) → Prop) (px : String → Prop) : Prop := (if p0 < 1 then px "java/lang/IllegalArgumentException" else (if p0 ≤ 64 then (if rn < 24 then wp_Registers_add rn rc rm p0 (fun r_7 rn_4 rc_5 rm_6 => post r_7 rn_4 rc_5 rm_6) else px "java/lang/UnsupportedOperationException") else px "java/lang/IllegalArgumentException"))
set_option maxHeartbeats 4000000 in
set_option maxRecDepth 100000 in
theorem c_PS_register (l : Launch) (hst : l.stackTraces = false) (D : va_G) (kT : Nat → ClassId) (ad : Nat → Nat) (rn : Int32) (rc : Nat → Int64) (rm : Nat → Int32) (p0 : Int32) (post : Int32 → Int32 → (Nat → Int64) → (Nat → Int32) → Prop) (px : String → Prop) (h : wp_PS_register rn rc rm p0 post px) : zq_MXi l zy_PS_register zs_PS_register ({ frames := 7, cells := 1, slots := 6, locals := 100 }) D kT [.ref (ad 0), .int p0] (W_PS_register kT ad rn rc rm) (fun r w' => ∃ (rn' : Int32) (rc' : Nat → Int64) (rm' : Nat → Int32), w' = (W_PS_register kT ad rn' rc' rm') ∧ post r rn' rc' rm') px := by
  refine zq_MXi_of (adl := (A_PS_register ad)) (cc := zb_PS_register) (maxL := 2) (own := zR_PS) hst rfl (by decide) rfl rfl (Nat.le_of_ble_eq_true rfl) (Nat.le_refl _) (Nat.le_refl _) ?_
  intro p e s m AV below meth c A QQ H locs ls hx hb hml hown ht hE hA hthr hret hP hD hS hl
  have hK := hE.1
  have hl : lv_has ls 2 [(0, .ref (ad 0)), (1, .int p0)] := hl
  unfold wp_PS_register at h
  refine lv_iload_n hx hb zd_PS_register_0 rfl (lv_at hl 1 rfl) ?_
  refine lv_iconst (v := 1) hx hb zd_PS_register_1 (by decide) ?_
  refine lv_icmp_lt (tgt := 11) hx hb zd_PS_register_2 (by decide) (fun c_1 => ?_) (fun c_1 => ?_)
  · have h := zq_it c_1 h
    exact hthr "java/lang/IllegalArgumentException" "a register has 1 to 64 bits" ["java/lang/RuntimeException", "java/lang/Exception"] 71 73 75 H locs 11 ls [] h (by decide +kernel) (by decide +kernel) zw_648 zw_649 (List.mem_of_getElem? (i := 0) rfl) zt_IllegalArgumentException_a zt_IllegalArgumentException_b hl.1 zd_PS_register_11 zd_PS_register_14 zd_PS_register_15 zd_PS_register_17 zd_PS_register_20 (by decide) (Nat.le_of_ble_eq_true rfl) hP hS
  · have h := zq_if c_1 h
    refine lv_iload_n hx hb zd_PS_register_5 rfl (lv_at hl 1 rfl) ?_
    refine lv_bipush (v := 64) hx hb zd_PS_register_6 (by decide) ?_
    refine lv_icmp_le (tgt := 21) hx hb zd_PS_register_8 (by decide) (fun c_2 => ?_) (fun c_2 => ?_)
    · have h := zq_it c_2 h
      refine lv_aload_n hx hb zd_PS_register_21 rfl (lv_at hl 0 rfl) ?_
      refine va_get (D := D) (ci := 9) (v := .ref (ad 1)) (C := zR_PS) (T := zF_PS) (N := 8) hx hb ht zi_PS hown hK hP 0 rfl rfl 0 (by decide) (ht _ zw_607) (fun _ h9 => h9) rfl zd_PS_register_22 ?_
      refine va_getN (D := D) (ci := 0) (v := .int rn) (C := zR_Registers) (T := zF_Registers) (N := 4) hx hb ht zi_Registers hown hK hP 1 rfl rfl 3 (by decide) (hE.nw zx_0) (fun _ h9 => h9) rfl zd_PS_register_25 ?_
      refine lv_bipush (v := 24) hx hb zd_PS_register_28 (by decide) ?_
      refine lv_icmp_lt (tgt := 43) hx hb zd_PS_register_30 (by decide) (fun c_3 => ?_) (fun c_3 => ?_)
      · have h := zq_it c_3 h
        refine lv_aload_n hx hb zd_PS_register_43 rfl (lv_at hl 0 rfl) ?_
        refine va_get (D := D) (ci := 9) (v := .ref (ad 1)) (C := zR_PS) (T := zF_PS) (N := 8) hx hb ht zi_PS hown hK hP 0 rfl rfl 0 (by decide) (ht _ zw_607) (fun _ h9 => h9) rfl zd_PS_register_44 ?_
        refine lv_iload_n hx hb zd_PS_register_47 rfl (lv_at hl 1 rfl) ?_
        refine zq_c_Vi (rest := []) (adl := (A_PS_register ad)) (wr := [(ad 0, .inr (9, [.ref (ad 1), .ref (ad 5), .ref (ad 7), .ref (ad 12), .ref (ad 22), .ref (ad 25), .ref (ad 33), .ref (ad 34)]))]) ⟨hx, hb, hml, hown, ht⟩ (c_Registers_add l D kT ad rn rc rm p0 _ h) (cwV 1 ht (zq_gV zw_650 zw_651 zw_652 zw_128 zw_653) rfl rfl rfl zh_Registers_add ⟨Nat.le_of_ble_eq_true rfl, Nat.le_of_ble_eq_true rfl⟩) hE hP hD hS hA [1, 2, 3] [0] 4 rfl (by decide +kernel) rfl (by decide +kernel) rfl rfl 0 rfl rfl rfl rfl hl.1 (Nat.le_of_ble_eq_true rfl) rfl zd_PS_register_48 ⟨Nat.zero_le _, Nat.zero_le _⟩ (fun r_7 w1 H locs hw hJ hS => ?_)
        obtain ⟨rn_4, rc_5, rm_6, rfl, h⟩ := hw
        obtain ⟨hP, hD⟩ := hJ (W_PS_register kT ad rn_4 rc_5 rm_6) rfl rfl rfl
        exact hret r_7  _ H locs 51 ls ⟨rn_4, rc_5, rm_6, rfl, h⟩ hP rfl hS zd_PS_register_51
      · have h := zq_if c_3 h
        exact hthr "java/lang/UnsupportedOperationException" "there are 24 registers" ["java/lang/RuntimeException", "java/lang/Exception"] 82 84 86 H locs 33 ls [] h (by decide +kernel) (by decide +kernel) zw_654 zw_655 (List.mem_of_getElem? (i := 1) rfl) zt_UnsupportedOperationException_a zt_UnsupportedOperationException_b hl.1 zd_PS_register_33 zd_PS_register_36 zd_PS_register_37 zd_PS_register_39 zd_PS_register_42 (by decide) (Nat.le_of_ble_eq_true rfl) hP hS
    · have h := zq_if c_2 h
      exact hthr "java/lang/IllegalArgumentException" "a register has 1 to 64 bits" ["java/lang/RuntimeException", "java/lang/Exception"] 71 73 75 H locs 11 ls [] h (by decide +kernel) (by decide +kernel) zw_648 zw_649 (List.mem_of_getElem? (i := 0) rfl) zt_IllegalArgumentException_a zt_IllegalArgumentException_b hl.1 zd_PS_register_11 zd_PS_register_14 zd_PS_register_15 zd_PS_register_17 zd_PS_register_20 (by decide) (Nat.le_of_ble_eq_true rfl) hP hS
abbrev W_PS_constant (kT : Nat → ClassId) (ad : Nat → Nat) (ocn : Int32) (ofn : Int32) (oc : Nat → Int64) : va_W := [(ad 0, .inr (9, [.ref (ad 1), .ref (ad 5), .ref (ad 7), .ref (ad 12), .ref (ad 22), .ref (ad 25), .ref (ad 33), .ref (ad 34)])), (ad 7, .inr (2, [.ref (ad 1), .ref (ad 8), .ref (ad 9), .ref (ad 10), .ref (ad 11), .int ocn, .int ofn])), (ad 8, .inl (kT 1, 16, .inr (.inl oc)))]
abbrev A_PS_constant (ad : Nat → Nat) : List Nat := [ad 0, ad 7, ad 8]
def wp_PS_constant (ocn : Int32) (ofn : Int32) (oc : Nat → Int64) (p0 : Int64) (post : Int32 → Int32 → (Nat → Int64) → Prop) (px : String → Prop) : Prop := (if ocn < 16 then wp_Operands_addConstant ocn ofn oc p0 (fun r_4 ocn_2 oc_3 => post r_4 ocn_2 oc_3) else px "java/lang/UnsupportedOperationException")
set_option maxHeartbeats 4000000 in
set_option maxRecDepth 100000 in
theorem c_PS_constant (l : Launch) (hst : l.stackTraces = false) (D : va_G) (kT : Nat → ClassId) (ad : Nat → Nat) (ocn : Int32) (ofn : Int32) (oc : Nat → Int64) (p0 : Int64) (post : Int32 → Int32 → (Nat → Int64) → Prop) (px : String → Prop) (h : wp_PS_constant ocn ofn oc p0 post px) : zq_MXi l zy_PS_constant zs_PS_constant ({ frames := 7, cells := 1, slots := 6, locals := 100 }) D kT [.ref (ad 0), .long p0] (W_PS_constant kT ad ocn ofn oc) (fun r w' => ∃ (ocn' : Int32) (oc' : Nat → Int64), w' = (W_PS_constant kT ad ocn' ofn oc') ∧ post r ocn' oc') px := by
  refine zq_MXi_of (adl := (A_PS_constant ad)) (cc := zb_PS_constant) (maxL := 3) (own := zR_PS) hst rfl (by decide) rfl rfl (Nat.le_of_ble_eq_true rfl) (Nat.le_refl _) (Nat.le_refl _) ?_
  intro p e s m AV below meth c A QQ H locs ls hx hb hml hown ht hE hA hthr hret hP hD hS hl
  have hK := hE.1
  have hl : lv_has ls 3 [(0, .ref (ad 0)), (1, .long p0)] := hl
  unfold wp_PS_constant at h
  refine lv_aload_n hx hb zd_PS_constant_0 rfl (lv_at hl 0 rfl) ?_
  refine va_get (D := D) (ci := 9) (v := .ref (ad 7)) (C := zR_PS) (T := zF_PS) (N := 8) hx hb ht zi_PS hown hK hP 0 rfl rfl 2 (by decide) (ht _ zw_618) (fun _ h9 => h9) rfl zd_PS_constant_1 ?_
  refine va_getN (D := D) (ci := 2) (v := .int ocn) (C := zR_Operands) (T := zF_Operands) (N := 7) hx hb ht zi_Operands hown hK hP 1 rfl rfl 5 (by decide) (hE.nw zx_2) (fun _ h9 => h9) rfl zd_PS_constant_4 ?_
  refine lv_bipush (v := 16) hx hb zd_PS_constant_7 (by decide) ?_
  refine lv_icmp_lt (tgt := 22) hx hb zd_PS_constant_9 (by decide) (fun c_1 => ?_) (fun c_1 => ?_)
  · have h := zq_it c_1 h
    refine lv_aload_n hx hb zd_PS_constant_22 rfl (lv_at hl 0 rfl) ?_
    refine va_get (D := D) (ci := 9) (v := .ref (ad 7)) (C := zR_PS) (T := zF_PS) (N := 8) hx hb ht zi_PS hown hK hP 0 rfl rfl 2 (by decide) (ht _ zw_618) (fun _ h9 => h9) rfl zd_PS_constant_23 ?_
    refine lv_lload_n hx hb zd_PS_constant_26 rfl (lv_at hl 1 rfl) ?_
    refine zq_c_Vi (rest := []) (adl := (A_PS_constant ad)) (wr := [(ad 0, .inr (9, [.ref (ad 1), .ref (ad 5), .ref (ad 7), .ref (ad 12), .ref (ad 22), .ref (ad 25), .ref (ad 33), .ref (ad 34)]))]) ⟨hx, hb, hml, hown, ht⟩ (c_Operands_addConstant l D kT ad ocn ofn oc p0 _ h) (cwV 1 ht (zq_gV zw_656 zw_657 zw_658 zw_155 zw_659) rfl rfl rfl zh_Operands_addConstant ⟨Nat.le_of_ble_eq_true rfl, Nat.le_of_ble_eq_true rfl⟩) hE hP hD hS hA [1, 2] [0] 3 rfl (by decide +kernel) rfl (by decide +kernel) rfl rfl 0 rfl rfl rfl rfl hl.1 (Nat.le_of_ble_eq_true rfl) rfl zd_PS_constant_27 ⟨Nat.zero_le _, Nat.zero_le _⟩ (fun r_4 w1 H locs hw hJ hS => ?_)
    obtain ⟨ocn_2, oc_3, rfl, h⟩ := hw
    obtain ⟨hP, hD⟩ := hJ (W_PS_constant kT ad ocn_2 ofn oc_3) rfl rfl rfl
    exact hret r_4  _ H locs 30 ls ⟨ocn_2, oc_3, rfl, h⟩ hP rfl hS zd_PS_constant_30
  · have h := zq_if c_1 h
    exact hthr "java/lang/UnsupportedOperationException" "there are 16 constants" ["java/lang/RuntimeException", "java/lang/Exception"] 82 94 86 H locs 12 ls [] h (by decide +kernel) (by decide +kernel) zw_654 zw_655 (List.mem_of_getElem? (i := 2) rfl) zt_UnsupportedOperationException_a zt_UnsupportedOperationException_b hl.1 zd_PS_constant_12 zd_PS_constant_15 zd_PS_constant_16 zd_PS_constant_18 zd_PS_constant_21 (by decide) (Nat.le_of_ble_eq_true rfl) hP hS
abbrev W_PS_field (kT : Nat → ClassId) (ad : Nat → Nat) (ocn : Int32) (ofn : Int32) (ofr : Nat → Int32) (oto : Nat → Int32) (osg : Nat → Int32) : va_W := [(ad 0, .inr (9, [.ref (ad 1), .ref (ad 5), .ref (ad 7), .ref (ad 12), .ref (ad 22), .ref (ad 25), .ref (ad 33), .ref (ad 34)])), (ad 7, .inr (2, [.ref (ad 1), .ref (ad 8), .ref (ad 9), .ref (ad 10), .ref (ad 11), .int ocn, .int ofn])), (ad 9, .inl (kT 0, 16, .inl ofr)), (ad 10, .inl (kT 0, 16, .inl oto)), (ad 11, .inl (kT 2, 16, .inl osg))]
abbrev A_PS_field (ad : Nat → Nat) : List Nat := [ad 0, ad 7, ad 9, ad 10, ad 11]
def wp_PS_field (ocn : Int32) (ofn : Int32) (ofr : Nat → Int32) (oto : Nat → Int32) (osg : Nat → Int32) (p0 : Int32) (p1 : Int32) (p2 : Int32) (post : Int32 → Int32 → (Nat → Int32) → (Nat → Int32) → (Nat → Int32) → Prop) (px : String → Prop) : Prop := (if p0 < 0 then px "java/lang/IllegalArgumentException" else (if 16 ≤ p1 then px "java/lang/IllegalArgumentException" else (if p0 ≤ p1 then (if ofn < 16 then wp_Operands_addField ocn ofn ofr oto osg p0 p1 p2 (fun r_9 ofn_5 ofr_6 oto_7 osg_8 => post r_9 ofn_5 ofr_6 oto_7 osg_8) else px "java/lang/UnsupportedOperationException") else px "java/lang/IllegalArgumentException")))
set_option maxHeartbeats 4000000 in
set_option maxRecDepth 100000 in
theorem c_PS_field (l : Launch) (hst : l.stackTraces = false) (D : va_G) (kT : Nat → ClassId) (ad : Nat → Nat) (ocn : Int32) (ofn : Int32) (ofr : Nat → Int32) (oto : Nat → Int32) (osg : Nat → Int32) (p0 : Int32) (p1 : Int32) (p2 : Int32) (post : Int32 → Int32 → (Nat → Int32) → (Nat → Int32) → (Nat → Int32) → Prop) (px : String → Prop) (h : wp_PS_field ocn ofn ofr oto osg p0 p1 p2 post px) : zq_MXi l zy_PS_field zs_PS_field ({ frames := 7, cells := 1, slots := 6, locals := 100 }) D kT [.ref (ad 0), .int p0, .int p1, .int p2] (W_PS_field kT ad ocn ofn ofr oto osg) (fun r w' => ∃ (ofn' : Int32) (ofr' : Nat → Int32) (oto' : Nat → Int32) (osg' : Nat → Int32), w' = (W_PS_field kT ad ocn ofn' ofr' oto' osg') ∧ post r ofn' ofr' oto' osg') px := by
  refine zq_MXi_of (adl := (A_PS_field ad)) (cc := zb_PS_field) (maxL := 4) (own := zR_PS) hst rfl (by decide) rfl rfl (Nat.le_of_ble_eq_true rfl) (Nat.le_refl _) (Nat.le_refl _) ?_
  intro p e s m AV below meth c A QQ H locs ls hx hb hml hown ht hE hA hthr hret hP hD hS hl
  have hK := hE.1
  have hl : lv_has ls 4 [(0, .ref (ad 0)), (1, .int p0), (2, .int p1), (3, .int p2)] := hl
  unfold wp_PS_field at h
  refine lv_iload_n hx hb zd_PS_field_0 rfl (lv_at hl 1 rfl) ?_
  refine lv_if_lt (tgt := 15) hx hb zd_PS_field_1 (by decide) (fun c_1 => ?_) (fun c_1 => ?_)
  · have h := zq_it c_1 h
    exact hthr "java/lang/IllegalArgumentException" "a field has bits of 0 to 15" ["java/lang/RuntimeException", "java/lang/Exception"] 71 100 75 H locs 15 ls [] h (by decide +kernel) (by decide +kernel) zw_648 zw_649 (List.mem_of_getElem? (i := 3) rfl) zt_IllegalArgumentException_a zt_IllegalArgumentException_b hl.1 zd_PS_field_15 zd_PS_field_18 zd_PS_field_19 zd_PS_field_21 zd_PS_field_24 (by decide) (Nat.le_of_ble_eq_true rfl) hP hS
  · have h := zq_if c_1 h
    refine lv_iload_n hx hb zd_PS_field_4 rfl (lv_at hl 2 rfl) ?_
    refine lv_bipush (v := 16) hx hb zd_PS_field_5 (by decide) ?_
    refine lv_icmp_ge (tgt := 15) hx hb zd_PS_field_7 (by decide) (fun c_2 => ?_) (fun c_2 => ?_)
    · have h := zq_it c_2 h
      exact hthr "java/lang/IllegalArgumentException" "a field has bits of 0 to 15" ["java/lang/RuntimeException", "java/lang/Exception"] 71 100 75 H locs 15 ls [] h (by decide +kernel) (by decide +kernel) zw_648 zw_649 (List.mem_of_getElem? (i := 3) rfl) zt_IllegalArgumentException_a zt_IllegalArgumentException_b hl.1 zd_PS_field_15 zd_PS_field_18 zd_PS_field_19 zd_PS_field_21 zd_PS_field_24 (by decide) (Nat.le_of_ble_eq_true rfl) hP hS
    · have h := zq_if c_2 h
      refine lv_iload_n hx hb zd_PS_field_10 rfl (lv_at hl 1 rfl) ?_
      refine lv_iload_n hx hb zd_PS_field_11 rfl (lv_at hl 2 rfl) ?_
      refine lv_icmp_le (tgt := 25) hx hb zd_PS_field_12 (by decide) (fun c_3 => ?_) (fun c_3 => ?_)
      · have h := zq_it c_3 h
        refine lv_aload_n hx hb zd_PS_field_25 rfl (lv_at hl 0 rfl) ?_
        refine va_get (D := D) (ci := 9) (v := .ref (ad 7)) (C := zR_PS) (T := zF_PS) (N := 8) hx hb ht zi_PS hown hK hP 0 rfl rfl 2 (by decide) (ht _ zw_618) (fun _ h9 => h9) rfl zd_PS_field_26 ?_
        refine va_getN (D := D) (ci := 2) (v := .int ofn) (C := zR_Operands) (T := zF_Operands) (N := 7) hx hb ht zi_Operands hown hK hP 1 rfl rfl 6 (by decide) (hE.nw zx_3) (fun _ h9 => h9) rfl zd_PS_field_29 ?_
        refine lv_bipush (v := 16) hx hb zd_PS_field_32 (by decide) ?_
        refine lv_icmp_lt (tgt := 47) hx hb zd_PS_field_34 (by decide) (fun c_4 => ?_) (fun c_4 => ?_)
        · have h := zq_it c_4 h
          refine lv_aload_n hx hb zd_PS_field_47 rfl (lv_at hl 0 rfl) ?_
          refine va_get (D := D) (ci := 9) (v := .ref (ad 7)) (C := zR_PS) (T := zF_PS) (N := 8) hx hb ht zi_PS hown hK hP 0 rfl rfl 2 (by decide) (ht _ zw_618) (fun _ h9 => h9) rfl zd_PS_field_48 ?_
          refine lv_iload_n hx hb zd_PS_field_51 rfl (lv_at hl 1 rfl) ?_
          refine lv_iload_n hx hb zd_PS_field_52 rfl (lv_at hl 2 rfl) ?_
          refine lv_iload_n hx hb zd_PS_field_53 rfl (lv_at hl 3 rfl) ?_
          refine zq_c_Vi (rest := []) (adl := (A_PS_field ad)) (wr := [(ad 0, .inr (9, [.ref (ad 1), .ref (ad 5), .ref (ad 7), .ref (ad 12), .ref (ad 22), .ref (ad 25), .ref (ad 33), .ref (ad 34)]))]) ⟨hx, hb, hml, hown, ht⟩ (c_Operands_addField l D kT ad ocn ofn ofr oto osg p0 p1 p2 _ h) (cwV 3 ht (zq_gV zw_660 zw_661 zw_662 zw_155 zw_663) rfl rfl rfl zh_Operands_addField ⟨Nat.le_of_ble_eq_true rfl, Nat.le_of_ble_eq_true rfl⟩) hE hP hD hS hA [1, 2, 3, 4] [0] 5 rfl (by decide +kernel) rfl (by decide +kernel) rfl rfl 0 rfl rfl rfl rfl hl.1 (Nat.le_of_ble_eq_true rfl) rfl zd_PS_field_54 ⟨Nat.zero_le _, Nat.zero_le _⟩ (fun r_9 w1 H locs hw hJ hS => ?_)
          obtain ⟨ofn_5, ofr_6, oto_7, osg_8, rfl, h⟩ := hw
          obtain ⟨hP, hD⟩ := hJ (W_PS_field kT ad ocn ofn_5 ofr_6 oto_7 osg_8) rfl rfl rfl
          exact hret r_9  _ H locs 57 ls ⟨ofn_5, ofr_6, oto_7, osg_8, rfl, h⟩ hP rfl hS zd_PS_field_57
        · have h := zq_if c_4 h
          exact hthr "java/lang/UnsupportedOperationException" "there are 16 fields" ["java/lang/RuntimeException", "java/lang/Exception"] 82 105 86 H locs 37 ls [] h (by decide +kernel) (by decide +kernel) zw_654 zw_655 (List.mem_of_getElem? (i := 4) rfl) zt_UnsupportedOperationException_a zt_UnsupportedOperationException_b hl.1 zd_PS_field_37 zd_PS_field_40 zd_PS_field_41 zd_PS_field_43 zd_PS_field_46 (by decide) (Nat.le_of_ble_eq_true rfl) hP hS
      · have h := zq_if c_3 h
        exact hthr "java/lang/IllegalArgumentException" "a field has bits of 0 to 15" ["java/lang/RuntimeException", "java/lang/Exception"] 71 100 75 H locs 15 ls [] h (by decide +kernel) (by decide +kernel) zw_648 zw_649 (List.mem_of_getElem? (i := 3) rfl) zt_IllegalArgumentException_a zt_IllegalArgumentException_b hl.1 zd_PS_field_15 zd_PS_field_18 zd_PS_field_19 zd_PS_field_21 zd_PS_field_24 (by decide) (Nat.le_of_ble_eq_true rfl) hP hS
abbrev W_PS_transfer (kT : Nat → ClassId) (ad : Nat → Nat) (rn : Int32) (ocn : Int32) (ofn : Int32) (ptn : Int32) (pin : Int32) (po : Nat → Int32) (pa : Nat → Int32) (pb : Nat → Int32) (pt : Nat → Int32) : va_W := [(ad 0, .inr (9, [.ref (ad 1), .ref (ad 5), .ref (ad 7), .ref (ad 12), .ref (ad 22), .ref (ad 25), .ref (ad 33), .ref (ad 34)])), (ad 1, .inr (0, [.ref (ad 2), .ref (ad 3), .ref (ad 4), .int rn])), (ad 7, .inr (2, [.ref (ad 1), .ref (ad 8), .ref (ad 9), .ref (ad 10), .ref (ad 11), .int ocn, .int ofn])), (ad 12, .inr (3, [.ref (ad 13), .ref (ad 14), .ref (ad 15), .ref (ad 16), .int ptn, .ref (ad 17), .ref (ad 18), .ref (ad 19), .ref (ad 20), .ref (ad 21), .int pin])), (ad 13, .inl (kT 0, 200, .inl po)), (ad 14, .inl (kT 0, 200, .inl pa)), (ad 15, .inl (kT 0, 200, .inl pb)), (ad 16, .inl (kT 0, 200, .inl pt))]
abbrev A_PS_transfer (ad : Nat → Nat) : List Nat := [ad 0, ad 1, ad 7, ad 12, ad 13, ad 14, ad 15, ad 16]
def wp_PS_transfer (rn : Int32) (ocn : Int32) (ofn : Int32) (ptn : Int32) (pin : Int32) (po : Nat → Int32) (pa : Nat → Int32) (pb : Nat → Int32) (pt : Nat → Int32) (p0 : Int32) (p1 : Int32) (p2 : Int32) (p3 : Int32) (post : Int32 → Int32 → (Nat → Int32) → (Nat → Int32) → (Nat → Int32) → (Nat → Int32) → Prop) (px : String → Prop) : Prop := (if p0 < 0 then px "java/lang/IllegalArgumentException" else (if p0 ≤ 22 then wp_Operands_has rn ocn ofn p1 (fun r_3 => (if r_3 = 0 then px "java/lang/IllegalArgumentException" else wp_Operands_has rn ocn ofn p2 (fun r_5 => (if r_5 = 0 then px "java/lang/IllegalArgumentException" else wp_Registers_has rn p3 (fun r_7 => (if r_7 = 0 then px "java/lang/IllegalArgumentException" else (if ptn < 200 then wp_Program_addTransfer ptn pin po pa pb pt p0 p1 p2 p3 (fun r_15 ptn_10 po_11 pa_12 pb_13 pt_14 => post r_15 ptn_10 po_11 pa_12 pb_13 pt_14) else px "java/lang/UnsupportedOperationException"))))))) else px "java/lang/IllegalArgumentException"))
set_option maxHeartbeats 4000000 in
set_option maxRecDepth 100000 in
theorem c_PS_transfer (l : Launch) (hst : l.stackTraces = false) (D : va_G) (kT : Nat → ClassId) (ad : Nat → Nat) (rn : Int32) (ocn : Int32) (ofn : Int32) (ptn : Int32) (pin : Int32) (po : Nat → Int32) (pa : Nat → Int32) (pb : Nat → Int32) (pt : Nat → Int32) (p0 : Int32) (p1 : Int32) (p2 : Int32) (p3 : Int32) (post : Int32 → Int32 → (Nat → Int32) → (Nat → Int32) → (Nat → Int32) → (Nat → Int32) → Prop) (px : String → Prop) (h : wp_PS_transfer rn ocn ofn ptn pin po pa pb pt p0 p1 p2 p3 post px) : zq_MXi l zy_PS_transfer zs_PS_transfer ({ frames := 7, cells := 1, slots := 6, locals := 100 }) D kT [.ref (ad 0), .int p0, .int p1, .int p2, .int p3] (W_PS_transfer kT ad rn ocn ofn ptn pin po pa pb pt) (fun r w' => ∃ (ptn' : Int32) (po' : Nat → Int32) (pa' : Nat → Int32) (pb' : Nat → Int32) (pt' : Nat → Int32), w' = (W_PS_transfer kT ad rn ocn ofn ptn' pin po' pa' pb' pt') ∧ post r ptn' po' pa' pb' pt') px := by
  refine zq_MXi_of (adl := (A_PS_transfer ad)) (cc := zb_PS_transfer) (maxL := 5) (own := zR_PS) hst rfl (by decide) rfl rfl (Nat.le_of_ble_eq_true rfl) (Nat.le_refl _) (Nat.le_refl _) ?_
  intro p e s m AV below meth c A QQ H locs ls hx hb hml hown ht hE hA hthr hret hP hD hS hl
  have hK := hE.1
  have hl : lv_has ls 5 [(0, .ref (ad 0)), (1, .int p0), (2, .int p1), (3, .int p2), (4, .int p3)] := hl
  unfold wp_PS_transfer at h
  refine lv_iload_n hx hb zd_PS_transfer_0 rfl (lv_at hl 1 rfl) ?_
  refine lv_if_lt (tgt := 10) hx hb zd_PS_transfer_1 (by decide) (fun c_1 => ?_) (fun c_1 => ?_)
  · have h := zq_it c_1 h
    exact hthr "java/lang/IllegalArgumentException" "no such op" ["java/lang/RuntimeException", "java/lang/Exception"] 71 111 75 H locs 10 ls [] h (by decide +kernel) (by decide +kernel) zw_648 zw_649 (List.mem_of_getElem? (i := 5) rfl) zt_IllegalArgumentException_a zt_IllegalArgumentException_b hl.1 zd_PS_transfer_10 zd_PS_transfer_13 zd_PS_transfer_14 zd_PS_transfer_16 zd_PS_transfer_19 (by decide) (Nat.le_of_ble_eq_true rfl) hP hS
  · have h := zq_if c_1 h
    refine lv_iload_n hx hb zd_PS_transfer_4 rfl (lv_at hl 1 rfl) ?_
    refine lv_bipush (v := 22) hx hb zd_PS_transfer_5 (by decide) ?_
    refine lv_icmp_le (tgt := 20) hx hb zd_PS_transfer_7 (by decide) (fun c_2 => ?_) (fun c_2 => ?_)
    · have h := zq_it c_2 h
      refine lv_aload_n hx hb zd_PS_transfer_20 rfl (lv_at hl 0 rfl) ?_
      refine va_get (D := D) (ci := 9) (v := .ref (ad 7)) (C := zR_PS) (T := zF_PS) (N := 8) hx hb ht zi_PS hown hK hP 0 rfl rfl 2 (by decide) (ht _ zw_618) (fun _ h9 => h9) rfl zd_PS_transfer_21 ?_
      refine lv_iload_n hx hb zd_PS_transfer_24 rfl (lv_at hl 2 rfl) ?_
      refine zq_c_Vi (rest := []) (adl := (A_PS_transfer ad)) (wr := [(ad 0, .inr (9, [.ref (ad 1), .ref (ad 5), .ref (ad 7), .ref (ad 12), .ref (ad 22), .ref (ad 25), .ref (ad 33), .ref (ad 34)])), (ad 12, .inr (3, [.ref (ad 13), .ref (ad 14), .ref (ad 15), .ref (ad 16), .int ptn, .ref (ad 17), .ref (ad 18), .ref (ad 19), .ref (ad 20), .ref (ad 21), .int pin])), (ad 13, .inl (kT 0, 200, .inl po)), (ad 14, .inl (kT 0, 200, .inl pa)), (ad 15, .inl (kT 0, 200, .inl pb)), (ad 16, .inl (kT 0, 200, .inl pt))]) ⟨hx, hb, hml, hown, ht⟩ (c_Operands_has l D kT ad rn ocn ofn p1 _ h) (cwV 1 ht (zq_gV zw_664 zw_665 zw_666 zw_155 zw_667) rfl rfl rfl zh_Operands_has ⟨Nat.le_of_ble_eq_true rfl, Nat.le_of_ble_eq_true rfl⟩) hE hP hD hS hA [1, 2] [0, 3, 4, 5, 6, 7] 8 rfl (by decide +kernel) rfl (by decide +kernel) rfl rfl 1 rfl rfl rfl rfl hl.1 (Nat.le_of_ble_eq_true rfl) rfl zd_PS_transfer_25 ⟨Nat.zero_le _, Nat.zero_le _⟩ (fun r_3 w1 H locs hw hJ hS => ?_)
      obtain ⟨rfl, h⟩ := hw
      obtain ⟨hP, hD⟩ := hJ (W_PS_transfer kT ad rn ocn ofn ptn pin po pa pb pt) rfl rfl rfl
      refine lv_if_eq (tgt := 42) hx hb zd_PS_transfer_28 (by decide) (fun c_4 => ?_) (fun c_4 => ?_)
      · have h := zq_it c_4 h
        exact hthr "java/lang/IllegalArgumentException" "no such operand" ["java/lang/RuntimeException", "java/lang/Exception"] 71 117 75 H locs 42 ls [] h (by decide +kernel) (by decide +kernel) zw_648 zw_649 (List.mem_of_getElem? (i := 6) rfl) zt_IllegalArgumentException_a zt_IllegalArgumentException_b hl.1 zd_PS_transfer_42 zd_PS_transfer_45 zd_PS_transfer_46 zd_PS_transfer_48 zd_PS_transfer_51 (by decide) (Nat.le_of_ble_eq_true rfl) hP hS
      · have h := zq_if c_4 h
        refine lv_aload_n hx hb zd_PS_transfer_31 rfl (lv_at hl 0 rfl) ?_
        refine va_get (D := D) (ci := 9) (v := .ref (ad 7)) (C := zR_PS) (T := zF_PS) (N := 8) hx hb ht zi_PS hown hK hP 0 rfl rfl 2 (by decide) (ht _ zw_618) (fun _ h9 => h9) rfl zd_PS_transfer_32 ?_
        refine lv_iload_n hx hb zd_PS_transfer_35 rfl (lv_at hl 3 rfl) ?_
        refine zq_c_Vi (rest := []) (adl := (A_PS_transfer ad)) (wr := [(ad 0, .inr (9, [.ref (ad 1), .ref (ad 5), .ref (ad 7), .ref (ad 12), .ref (ad 22), .ref (ad 25), .ref (ad 33), .ref (ad 34)])), (ad 12, .inr (3, [.ref (ad 13), .ref (ad 14), .ref (ad 15), .ref (ad 16), .int ptn, .ref (ad 17), .ref (ad 18), .ref (ad 19), .ref (ad 20), .ref (ad 21), .int pin])), (ad 13, .inl (kT 0, 200, .inl po)), (ad 14, .inl (kT 0, 200, .inl pa)), (ad 15, .inl (kT 0, 200, .inl pb)), (ad 16, .inl (kT 0, 200, .inl pt))]) ⟨hx, hb, hml, hown, ht⟩ (c_Operands_has l D kT ad rn ocn ofn p2 _ h) (cwV 1 ht (zq_gV zw_664 zw_665 zw_666 zw_155 zw_667) rfl rfl rfl zh_Operands_has ⟨Nat.le_of_ble_eq_true rfl, Nat.le_of_ble_eq_true rfl⟩) hE hP hD hS hA [1, 2] [0, 3, 4, 5, 6, 7] 8 rfl (by decide +kernel) rfl (by decide +kernel) rfl rfl 1 rfl rfl rfl rfl hl.1 (Nat.le_of_ble_eq_true rfl) rfl zd_PS_transfer_36 ⟨Nat.zero_le _, Nat.zero_le _⟩ (fun r_5 w1 H locs hw hJ hS => ?_)
        obtain ⟨rfl, h⟩ := hw
        obtain ⟨hP, hD⟩ := hJ (W_PS_transfer kT ad rn ocn ofn ptn pin po pa pb pt) rfl rfl rfl
        refine lv_if_ne (tgt := 52) hx hb zd_PS_transfer_39 (by decide) (fun c_6 => ?_) (fun c_6 => ?_)
        · have h := zq_if c_6 h
          refine lv_aload_n hx hb zd_PS_transfer_52 rfl (lv_at hl 0 rfl) ?_
          refine va_get (D := D) (ci := 9) (v := .ref (ad 1)) (C := zR_PS) (T := zF_PS) (N := 8) hx hb ht zi_PS hown hK hP 0 rfl rfl 0 (by decide) (ht _ zw_607) (fun _ h9 => h9) rfl zd_PS_transfer_53 ?_
          refine lv_iload hx hb zd_PS_transfer_56 (lv_at hl 4 rfl) ?_
          refine zq_c_Vi (rest := []) (adl := (A_PS_transfer ad)) (wr := [(ad 0, .inr (9, [.ref (ad 1), .ref (ad 5), .ref (ad 7), .ref (ad 12), .ref (ad 22), .ref (ad 25), .ref (ad 33), .ref (ad 34)])), (ad 7, .inr (2, [.ref (ad 1), .ref (ad 8), .ref (ad 9), .ref (ad 10), .ref (ad 11), .int ocn, .int ofn])), (ad 12, .inr (3, [.ref (ad 13), .ref (ad 14), .ref (ad 15), .ref (ad 16), .int ptn, .ref (ad 17), .ref (ad 18), .ref (ad 19), .ref (ad 20), .ref (ad 21), .int pin])), (ad 13, .inl (kT 0, 200, .inl po)), (ad 14, .inl (kT 0, 200, .inl pa)), (ad 15, .inl (kT 0, 200, .inl pb)), (ad 16, .inl (kT 0, 200, .inl pt))]) ⟨hx, hb, hml, hown, ht⟩ (c_Registers_has l D kT ad rn p3 _ h) (cwV 1 ht (zq_gV zw_668 zw_145 zw_146 zw_128 zw_147) rfl rfl rfl zh_Registers_has ⟨Nat.le_of_ble_eq_true rfl, Nat.le_of_ble_eq_true rfl⟩) hE hP hD hS hA [1] [0, 2, 3, 4, 5, 6, 7] 8 rfl (by decide +kernel) rfl (by decide +kernel) rfl rfl 0 rfl rfl rfl rfl hl.1 (Nat.le_of_ble_eq_true rfl) rfl zd_PS_transfer_58 ⟨Nat.zero_le _, Nat.zero_le _⟩ (fun r_7 w1 H locs hw hJ hS => ?_)
          obtain ⟨rfl, h⟩ := hw
          obtain ⟨hP, hD⟩ := hJ (W_PS_transfer kT ad rn ocn ofn ptn pin po pa pb pt) rfl rfl rfl
          refine lv_if_ne (tgt := 74) hx hb zd_PS_transfer_61 (by decide) (fun c_8 => ?_) (fun c_8 => ?_)
          · have h := zq_if c_8 h
            refine lv_aload_n hx hb zd_PS_transfer_74 rfl (lv_at hl 0 rfl) ?_
            refine va_get (D := D) (ci := 9) (v := .ref (ad 12)) (C := zR_PS) (T := zF_PS) (N := 8) hx hb ht zi_PS hown hK hP 0 rfl rfl 3 (by decide) (ht _ zw_623) (fun _ h9 => h9) rfl zd_PS_transfer_75 ?_
            refine va_getN (D := D) (ci := 3) (v := .int ptn) (C := zR_Program) (T := zF_Program) (N := 11) hx hb ht zi_Program hown hK hP 3 rfl rfl 4 (by decide) (hE.nw zx_9) (fun _ h9 => h9) rfl zd_PS_transfer_78 ?_
            refine lv_sipush (v := 200) hx hb zd_PS_transfer_81 (by decide) ?_
            refine lv_icmp_lt (tgt := 97) hx hb zd_PS_transfer_84 (by decide) (fun c_9 => ?_) (fun c_9 => ?_)
            · have h := zq_it c_9 h
              refine lv_aload_n hx hb zd_PS_transfer_97 rfl (lv_at hl 0 rfl) ?_
              refine va_get (D := D) (ci := 9) (v := .ref (ad 12)) (C := zR_PS) (T := zF_PS) (N := 8) hx hb ht zi_PS hown hK hP 0 rfl rfl 3 (by decide) (ht _ zw_623) (fun _ h9 => h9) rfl zd_PS_transfer_98 ?_
              refine lv_iload_n hx hb zd_PS_transfer_101 rfl (lv_at hl 1 rfl) ?_
              refine lv_iload_n hx hb zd_PS_transfer_102 rfl (lv_at hl 2 rfl) ?_
              refine lv_iload_n hx hb zd_PS_transfer_103 rfl (lv_at hl 3 rfl) ?_
              refine lv_iload hx hb zd_PS_transfer_104 (lv_at hl 4 rfl) ?_
              refine zq_c_Vi (rest := []) (adl := (A_PS_transfer ad)) (wr := [(ad 0, .inr (9, [.ref (ad 1), .ref (ad 5), .ref (ad 7), .ref (ad 12), .ref (ad 22), .ref (ad 25), .ref (ad 33), .ref (ad 34)])), (ad 1, .inr (0, [.ref (ad 2), .ref (ad 3), .ref (ad 4), .int rn])), (ad 7, .inr (2, [.ref (ad 1), .ref (ad 8), .ref (ad 9), .ref (ad 10), .ref (ad 11), .int ocn, .int ofn]))]) ⟨hx, hb, hml, hown, ht⟩ (c_Program_addTransfer l D kT ad ptn pin po pa pb pt p0 p1 p2 p3 _ h) (cwV 4 ht (zq_gV zw_669 zw_670 zw_671 zw_217 zw_672) rfl rfl rfl zh_Program_addTransfer ⟨Nat.le_of_ble_eq_true rfl, Nat.le_of_ble_eq_true rfl⟩) hE hP hD hS hA [3, 4, 5, 6, 7] [0, 1, 2] 8 rfl (by decide +kernel) rfl (by decide +kernel) rfl rfl 0 rfl rfl rfl rfl hl.1 (Nat.le_of_ble_eq_true rfl) rfl zd_PS_transfer_106 ⟨Nat.zero_le _, Nat.zero_le _⟩ (fun r_15 w1 H locs hw hJ hS => ?_)
              obtain ⟨ptn_10, po_11, pa_12, pb_13, pt_14, rfl, h⟩ := hw
              obtain ⟨hP, hD⟩ := hJ (W_PS_transfer kT ad rn ocn ofn ptn_10 pin po_11 pa_12 pb_13 pt_14) rfl rfl rfl
              exact hret r_15  _ H locs 109 ls ⟨ptn_10, po_11, pa_12, pb_13, pt_14, rfl, h⟩ hP rfl hS zd_PS_transfer_109
            · have h := zq_if c_9 h
              exact hthr "java/lang/UnsupportedOperationException" "there are 200 transfers" ["java/lang/RuntimeException", "java/lang/Exception"] 82 125 86 H locs 87 ls [] h (by decide +kernel) (by decide +kernel) zw_654 zw_655 (List.mem_of_getElem? (i := 8) rfl) zt_UnsupportedOperationException_a zt_UnsupportedOperationException_b hl.1 zd_PS_transfer_87 zd_PS_transfer_90 zd_PS_transfer_91 zd_PS_transfer_93 zd_PS_transfer_96 (by decide) (Nat.le_of_ble_eq_true rfl) hP hS
          · have h := zq_it c_8 h
            exact hthr "java/lang/IllegalArgumentException" "no such register" ["java/lang/RuntimeException", "java/lang/Exception"] 71 120 75 H locs 64 ls [] h (by decide +kernel) (by decide +kernel) zw_648 zw_649 (List.mem_of_getElem? (i := 7) rfl) zt_IllegalArgumentException_a zt_IllegalArgumentException_b hl.1 zd_PS_transfer_64 zd_PS_transfer_67 zd_PS_transfer_68 zd_PS_transfer_70 zd_PS_transfer_73 (by decide) (Nat.le_of_ble_eq_true rfl) hP hS
        · have h := zq_it c_6 h
          exact hthr "java/lang/IllegalArgumentException" "no such operand" ["java/lang/RuntimeException", "java/lang/Exception"] 71 117 75 H locs 42 ls [] h (by decide +kernel) (by decide +kernel) zw_648 zw_649 (List.mem_of_getElem? (i := 6) rfl) zt_IllegalArgumentException_a zt_IllegalArgumentException_b hl.1 zd_PS_transfer_42 zd_PS_transfer_45 zd_PS_transfer_46 zd_PS_transfer_48 zd_PS_transfer_51 (by decide) (Nat.le_of_ble_eq_true rfl) hP hS
    · have h := zq_if c_2 h
      exact hthr "java/lang/IllegalArgumentException" "no such op" ["java/lang/RuntimeException", "java/lang/Exception"] 71 111 75 H locs 10 ls [] h (by decide +kernel) (by decide +kernel) zw_648 zw_649 (List.mem_of_getElem? (i := 5) rfl) zt_IllegalArgumentException_a zt_IllegalArgumentException_b hl.1 zd_PS_transfer_10 zd_PS_transfer_13 zd_PS_transfer_14 zd_PS_transfer_16 zd_PS_transfer_19 (by decide) (Nat.le_of_ble_eq_true rfl) hP hS
abbrev W_PS_instruction (kT : Nat → ClassId) (ad : Nat → Nat) (ptn : Int32) (pin : Int32) (pm : Nat → Int32) (pv : Nat → Int32) (pw : Nat → Int32) (pst : Nat → Int32) (pe : Nat → Int32) : va_W := [(ad 0, .inr (9, [.ref (ad 1), .ref (ad 5), .ref (ad 7), .ref (ad 12), .ref (ad 22), .ref (ad 25), .ref (ad 33), .ref (ad 34)])), (ad 12, .inr (3, [.ref (ad 13), .ref (ad 14), .ref (ad 15), .ref (ad 16), .int ptn, .ref (ad 17), .ref (ad 18), .ref (ad 19), .ref (ad 20), .ref (ad 21), .int pin])), (ad 17, .inl (kT 0, 40, .inl pm)), (ad 18, .inl (kT 0, 40, .inl pv)), (ad 19, .inl (kT 0, 40, .inl pw)), (ad 20, .inl (kT 0, 40, .inl pst)), (ad 21, .inl (kT 0, 40, .inl pe))]
abbrev A_PS_instruction (ad : Nat → Nat) : List Nat := [ad 0, ad 12, ad 17, ad 18, ad 19, ad 20, ad 21]
def wp_PS_instruction (ptn : Int32) (pin : Int32) (pm : Nat → Int32) (pv : Nat → Int32) (pw : Nat → Int32) (pst : Nat → Int32) (pe : Nat → Int32) (p0 : Int32) (p1 : Int32) (p2 : Int32) (post : Int32 → Int32 → (Nat → Int32) → (Nat → Int32) → (Nat → Int32) → (Nat → Int32) → (Nat → Int32) → Prop) (px : String → Prop) : Prop := (if p0 < 0 then px "java/lang/IllegalArgumentException" else (if 65535 < p0 then px "java/lang/IllegalArgumentException" else (if p1 < 0 then px "java/lang/IllegalArgumentException" else (if p1 ≤ 65535 then (if (p1 &&& (p0 ^^^ (-1))) = 0 then (if p2 < 0 then px "java/lang/IllegalArgumentException" else (if p2 ≤ 7 then (if pin < 40 then wp_Program_addInstruction ptn pin pm pv pw pst pe p0 p1 p2 (fun r_15 pin_9 pm_10 pv_11 pw_12 pst_13 pe_14 => post r_15 pin_9 pm_10 pv_11 pw_12 pst_13 pe_14) else px "java/lang/UnsupportedOperationException") else px "java/lang/IllegalArgumentException")) else px "java/lang/IllegalArgumentException") else px "java/lang/IllegalArgumentException"))))
set_option maxHeartbeats 4000000 in
set_option maxRecDepth 100000 in
theorem c_PS_instruction (l : Launch) (hst : l.stackTraces = false) (D : va_G) (kT : Nat → ClassId) (ad : Nat → Nat) (ptn : Int32) (pin : Int32) (pm : Nat → Int32) (pv : Nat → Int32) (pw : Nat → Int32) (pst : Nat → Int32) (pe : Nat → Int32) (p0 : Int32) (p1 : Int32) (p2 : Int32) (post : Int32 → Int32 → (Nat → Int32) → (Nat → Int32) → (Nat → Int32) → (Nat → Int32) → (Nat → Int32) → Prop) (px : String → Prop) (h : wp_PS_instruction ptn pin pm pv pw pst pe p0 p1 p2 post px) : zq_MXi l zy_PS_instruction zs_PS_instruction ({ frames := 7, cells := 1, slots := 6, locals := 100 }) D kT [.ref (ad 0), .int p0, .int p1, .int p2] (W_PS_instruction kT ad ptn pin pm pv pw pst pe) (fun r w' => ∃ (pin' : Int32) (pm' : Nat → Int32) (pv' : Nat → Int32) (pw' : Nat → Int32) (pst' : Nat → Int32) (pe' : Nat → Int32), w' = (W_PS_instruction kT ad ptn pin' pm' pv' pw' pst' pe') ∧ post r pin' pm' pv' pw' pst' pe') px := by
  refine zq_MXi_of (adl := (A_PS_instruction ad)) (cc := zb_PS_instruction) (maxL := 4) (own := zR_PS) hst rfl (by decide) rfl rfl (Nat.le_of_ble_eq_true rfl) (Nat.le_refl _) (Nat.le_refl _) ?_
  intro p e s m AV below meth c A QQ H locs ls hx hb hml hown ht hE hA hthr hret hP hD hS hl
  have hK := hE.1
  have hl : lv_has ls 4 [(0, .ref (ad 0)), (1, .int p0), (2, .int p1), (3, .int p2)] := hl
  unfold wp_PS_instruction at h
  refine lv_iload_n hx hb zd_PS_instruction_0 rfl (lv_at hl 1 rfl) ?_
  refine lv_if_lt (tgt := 20) hx hb zd_PS_instruction_1 (by decide) (fun c_1 => ?_) (fun c_1 => ?_)
  · have h := zq_it c_1 h
    exact hthr "java/lang/IllegalArgumentException" "mask and value have 16 bits" ["java/lang/RuntimeException", "java/lang/Exception"] 71 132 75 H locs 20 ls [] h (by decide +kernel) (by decide +kernel) zw_648 zw_649 (List.mem_of_getElem? (i := 9) rfl) zt_IllegalArgumentException_a zt_IllegalArgumentException_b hl.1 zd_PS_instruction_20 zd_PS_instruction_23 zd_PS_instruction_24 zd_PS_instruction_26 zd_PS_instruction_29 (by decide) (Nat.le_of_ble_eq_true rfl) hP hS
  · have h := zq_if c_1 h
    refine lv_iload_n hx hb zd_PS_instruction_4 rfl (lv_at hl 1 rfl) ?_
    refine W.ldc (v := 65535) hx hb hown (ht _ zw_673) rfl zd_PS_instruction_5 ?_
    refine W.eq (g2 := F0 m 7 ls [.int 65535, .int p0]) rfl ?_
    refine lv_icmp_gt (tgt := 20) hx hb zd_PS_instruction_7 (by decide) (fun c_2 => ?_) (fun c_2 => ?_)
    · have h := zq_it c_2 h
      exact hthr "java/lang/IllegalArgumentException" "mask and value have 16 bits" ["java/lang/RuntimeException", "java/lang/Exception"] 71 132 75 H locs 20 ls [] h (by decide +kernel) (by decide +kernel) zw_648 zw_649 (List.mem_of_getElem? (i := 9) rfl) zt_IllegalArgumentException_a zt_IllegalArgumentException_b hl.1 zd_PS_instruction_20 zd_PS_instruction_23 zd_PS_instruction_24 zd_PS_instruction_26 zd_PS_instruction_29 (by decide) (Nat.le_of_ble_eq_true rfl) hP hS
    · have h := zq_if c_2 h
      refine lv_iload_n hx hb zd_PS_instruction_10 rfl (lv_at hl 2 rfl) ?_
      refine lv_if_lt (tgt := 20) hx hb zd_PS_instruction_11 (by decide) (fun c_3 => ?_) (fun c_3 => ?_)
      · have h := zq_it c_3 h
        exact hthr "java/lang/IllegalArgumentException" "mask and value have 16 bits" ["java/lang/RuntimeException", "java/lang/Exception"] 71 132 75 H locs 20 ls [] h (by decide +kernel) (by decide +kernel) zw_648 zw_649 (List.mem_of_getElem? (i := 9) rfl) zt_IllegalArgumentException_a zt_IllegalArgumentException_b hl.1 zd_PS_instruction_20 zd_PS_instruction_23 zd_PS_instruction_24 zd_PS_instruction_26 zd_PS_instruction_29 (by decide) (Nat.le_of_ble_eq_true rfl) hP hS
      · have h := zq_if c_3 h
        refine lv_iload_n hx hb zd_PS_instruction_14 rfl (lv_at hl 2 rfl) ?_
        refine W.ldc (v := 65535) hx hb hown (ht _ zw_673) rfl zd_PS_instruction_15 ?_
        refine W.eq (g2 := F0 m 17 ls [.int 65535, .int p1]) rfl ?_
        refine lv_icmp_le (tgt := 30) hx hb zd_PS_instruction_17 (by decide) (fun c_4 => ?_) (fun c_4 => ?_)
        · have h := zq_it c_4 h
          refine lv_iload_n hx hb zd_PS_instruction_30 rfl (lv_at hl 2 rfl) ?_
          refine lv_iload_n hx hb zd_PS_instruction_31 rfl (lv_at hl 1 rfl) ?_
          refine lv_iconst (v := (-1)) hx hb zd_PS_instruction_32 (by decide) ?_
          refine lv_ixor hx hb zd_PS_instruction_33 ?_
          refine lv_iand hx hb zd_PS_instruction_34 ?_
          refine lv_if_eq (tgt := 48) hx hb zd_PS_instruction_35 (by decide) (fun c_5 => ?_) (fun c_5 => ?_)
          · have h := zq_it c_5 h
            refine lv_iload_n hx hb zd_PS_instruction_48 rfl (lv_at hl 3 rfl) ?_
            refine lv_if_lt (tgt := 58) hx hb zd_PS_instruction_49 (by decide) (fun c_6 => ?_) (fun c_6 => ?_)
            · have h := zq_it c_6 h
              exact hthr "java/lang/IllegalArgumentException" "no such way" ["java/lang/RuntimeException", "java/lang/Exception"] 71 136 75 H locs 58 ls [] h (by decide +kernel) (by decide +kernel) zw_648 zw_649 (List.mem_of_getElem? (i := 11) rfl) zt_IllegalArgumentException_a zt_IllegalArgumentException_b hl.1 zd_PS_instruction_58 zd_PS_instruction_61 zd_PS_instruction_62 zd_PS_instruction_64 zd_PS_instruction_67 (by decide) (Nat.le_of_ble_eq_true rfl) hP hS
            · have h := zq_if c_6 h
              refine lv_iload_n hx hb zd_PS_instruction_52 rfl (lv_at hl 3 rfl) ?_
              refine lv_bipush (v := 7) hx hb zd_PS_instruction_53 (by decide) ?_
              refine lv_icmp_le (tgt := 68) hx hb zd_PS_instruction_55 (by decide) (fun c_7 => ?_) (fun c_7 => ?_)
              · have h := zq_it c_7 h
                refine lv_aload_n hx hb zd_PS_instruction_68 rfl (lv_at hl 0 rfl) ?_
                refine va_get (D := D) (ci := 9) (v := .ref (ad 12)) (C := zR_PS) (T := zF_PS) (N := 8) hx hb ht zi_PS hown hK hP 0 rfl rfl 3 (by decide) (ht _ zw_623) (fun _ h9 => h9) rfl zd_PS_instruction_69 ?_
                refine va_getN (D := D) (ci := 3) (v := .int pin) (C := zR_Program) (T := zF_Program) (N := 11) hx hb ht zi_Program hown hK hP 1 rfl rfl 10 (by decide) (hE.nw zx_12) (fun _ h9 => h9) rfl zd_PS_instruction_72 ?_
                refine lv_bipush (v := 40) hx hb zd_PS_instruction_75 (by decide) ?_
                refine lv_icmp_lt (tgt := 90) hx hb zd_PS_instruction_77 (by decide) (fun c_8 => ?_) (fun c_8 => ?_)
                · have h := zq_it c_8 h
                  refine lv_aload_n hx hb zd_PS_instruction_90 rfl (lv_at hl 0 rfl) ?_
                  refine va_get (D := D) (ci := 9) (v := .ref (ad 12)) (C := zR_PS) (T := zF_PS) (N := 8) hx hb ht zi_PS hown hK hP 0 rfl rfl 3 (by decide) (ht _ zw_623) (fun _ h9 => h9) rfl zd_PS_instruction_91 ?_
                  refine lv_iload_n hx hb zd_PS_instruction_94 rfl (lv_at hl 1 rfl) ?_
                  refine lv_iload_n hx hb zd_PS_instruction_95 rfl (lv_at hl 2 rfl) ?_
                  refine lv_iload_n hx hb zd_PS_instruction_96 rfl (lv_at hl 3 rfl) ?_
                  refine zq_c_Vi (rest := []) (adl := (A_PS_instruction ad)) (wr := [(ad 0, .inr (9, [.ref (ad 1), .ref (ad 5), .ref (ad 7), .ref (ad 12), .ref (ad 22), .ref (ad 25), .ref (ad 33), .ref (ad 34)]))]) ⟨hx, hb, hml, hown, ht⟩ (c_Program_addInstruction l D kT ad ptn pin pm pv pw pst pe p0 p1 p2 _ h) (cwV 3 ht (zq_gV zw_674 zw_675 zw_676 zw_217 zw_677) rfl rfl rfl zh_Program_addInstruction ⟨Nat.le_of_ble_eq_true rfl, Nat.le_of_ble_eq_true rfl⟩) hE hP hD hS hA [1, 2, 3, 4, 5, 6] [0] 7 rfl (by decide +kernel) rfl (by decide +kernel) rfl rfl 0 rfl rfl rfl rfl hl.1 (Nat.le_of_ble_eq_true rfl) rfl zd_PS_instruction_97 ⟨Nat.zero_le _, Nat.zero_le _⟩ (fun r_15 w1 H locs hw hJ hS => ?_)
                  obtain ⟨pin_9, pm_10, pv_11, pw_12, pst_13, pe_14, rfl, h⟩ := hw
                  obtain ⟨hP, hD⟩ := hJ (W_PS_instruction kT ad ptn pin_9 pm_10 pv_11 pw_12 pst_13 pe_14) rfl rfl rfl
                  exact hret r_15  _ H locs 100 ls ⟨pin_9, pm_10, pv_11, pw_12, pst_13, pe_14, rfl, h⟩ hP rfl hS zd_PS_instruction_100
                · have h := zq_if c_8 h
                  exact hthr "java/lang/UnsupportedOperationException" "there are 40 instructions" ["java/lang/RuntimeException", "java/lang/Exception"] 82 141 86 H locs 80 ls [] h (by decide +kernel) (by decide +kernel) zw_654 zw_655 (List.mem_of_getElem? (i := 12) rfl) zt_UnsupportedOperationException_a zt_UnsupportedOperationException_b hl.1 zd_PS_instruction_80 zd_PS_instruction_83 zd_PS_instruction_84 zd_PS_instruction_86 zd_PS_instruction_89 (by decide) (Nat.le_of_ble_eq_true rfl) hP hS
              · have h := zq_if c_7 h
                exact hthr "java/lang/IllegalArgumentException" "no such way" ["java/lang/RuntimeException", "java/lang/Exception"] 71 136 75 H locs 58 ls [] h (by decide +kernel) (by decide +kernel) zw_648 zw_649 (List.mem_of_getElem? (i := 11) rfl) zt_IllegalArgumentException_a zt_IllegalArgumentException_b hl.1 zd_PS_instruction_58 zd_PS_instruction_61 zd_PS_instruction_62 zd_PS_instruction_64 zd_PS_instruction_67 (by decide) (Nat.le_of_ble_eq_true rfl) hP hS
          · have h := zq_if c_5 h
            exact hthr "java/lang/IllegalArgumentException" "the value has bits that the mask has not" ["java/lang/RuntimeException", "java/lang/Exception"] 71 134 75 H locs 38 ls [] h (by decide +kernel) (by decide +kernel) zw_648 zw_649 (List.mem_of_getElem? (i := 10) rfl) zt_IllegalArgumentException_a zt_IllegalArgumentException_b hl.1 zd_PS_instruction_38 zd_PS_instruction_41 zd_PS_instruction_42 zd_PS_instruction_44 zd_PS_instruction_47 (by decide) (Nat.le_of_ble_eq_true rfl) hP hS
        · have h := zq_if c_4 h
          exact hthr "java/lang/IllegalArgumentException" "mask and value have 16 bits" ["java/lang/RuntimeException", "java/lang/Exception"] 71 132 75 H locs 20 ls [] h (by decide +kernel) (by decide +kernel) zw_648 zw_649 (List.mem_of_getElem? (i := 9) rfl) zt_IllegalArgumentException_a zt_IllegalArgumentException_b hl.1 zd_PS_instruction_20 zd_PS_instruction_23 zd_PS_instruction_24 zd_PS_instruction_26 zd_PS_instruction_29 (by decide) (Nat.le_of_ble_eq_true rfl) hP hS
abbrev W_PS_memory (kT : Nat → ClassId) (ad : Nat → Nat) (bc : Nat → Int32) : va_W := [(ad 0, .inr (9, [.ref (ad 1), .ref (ad 5), .ref (ad 7), .ref (ad 12), .ref (ad 22), .ref (ad 25), .ref (ad 33), .ref (ad 34)])), (ad 5, .inr (1, [.ref (ad 6)])), (ad 6, .inl (kT 3, 4096, .inl bc))]
abbrev A_PS_memory (ad : Nat → Nat) : List Nat := [ad 0, ad 5, ad 6]
def wp_PS_memory (bc : Nat → Int32) (p0 : Int32) (p1 : Int32) (post : Int32 → (Nat → Int32) → Prop) (px : String → Prop) : Prop := wp_Bytes_hasByte (zq_j_i2l p0) (fun r_1 => (if r_1 = 0 then px "java/lang/IndexOutOfBoundsException" else (if p1 < 0 then px "java/lang/IllegalArgumentException" else (if p1 ≤ 255 then wp_Bytes_byteOf bc p0 (fun r_5 => wp_Bytes_putByte bc p0 (zq_j_i2l p1) (fun bc_6 => post r_5 bc_6)) else px "java/lang/IllegalArgumentException"))))
set_option maxHeartbeats 4000000 in
set_option maxRecDepth 100000 in
theorem c_PS_memory (l : Launch) (hst : l.stackTraces = false) (D : va_G) (kT : Nat → ClassId) (ad : Nat → Nat) (bc : Nat → Int32) (p0 : Int32) (p1 : Int32) (post : Int32 → (Nat → Int32) → Prop) (px : String → Prop) (h : wp_PS_memory bc p0 p1 post px) : zq_MXi l zy_PS_memory zs_PS_memory ({ frames := 7, cells := 1, slots := 6, locals := 100 }) D kT [.ref (ad 0), .int p0, .int p1] (W_PS_memory kT ad bc) (fun r w' => ∃ (bc' : Nat → Int32), w' = (W_PS_memory kT ad bc') ∧ post r bc') px := by
  refine zq_MXi_of (adl := (A_PS_memory ad)) (cc := zb_PS_memory) (maxL := 4) (own := zR_PS) hst rfl (by decide) rfl rfl (Nat.le_of_ble_eq_true rfl) (Nat.le_refl _) (Nat.le_refl _) ?_
  intro p e s m AV below meth c A QQ H locs ls hx hb hml hown ht hE hA hthr hret hP hD hS hl
  have hK := hE.1
  have hl : lv_has ls 4 [(0, .ref (ad 0)), (1, .int p0), (2, .int p1)] := hl
  refine lv_aload_n hx hb zd_PS_memory_0 rfl (lv_at hl 0 rfl) ?_
  refine va_get (D := D) (ci := 9) (v := .ref (ad 5)) (C := zR_PS) (T := zF_PS) (N := 8) hx hb ht zi_PS hown hK hP 0 rfl rfl 1 (by decide) (ht _ zw_612) (fun _ h9 => h9) rfl zd_PS_memory_1 ?_
  refine lv_iload_n hx hb zd_PS_memory_4 rfl (lv_at hl 1 rfl) ?_
  refine lv_i2l (v := (zq_j_i2l p0)) hx hb zd_PS_memory_5 rfl ?_
  refine zq_c_Vi (rest := []) (adl := (A_PS_memory ad)) (wr := [(ad 0, .inr (9, [.ref (ad 1), .ref (ad 5), .ref (ad 7), .ref (ad 12), .ref (ad 22), .ref (ad 25), .ref (ad 33), .ref (ad 34)])), (ad 6, .inl (kT 3, 4096, .inl bc))]) ⟨hx, hb, hml, hown, ht⟩ (c_Bytes_hasByte l D kT ad (zq_j_i2l p0) _ h) (cwV 1 ht (zq_gV zw_678 zw_132 zw_133 zw_134 zw_135) rfl rfl rfl zh_Bytes_hasByte ⟨Nat.le_of_ble_eq_true rfl, Nat.le_of_ble_eq_true rfl⟩) hE hP hD hS hA [1] [0, 2] 3 rfl (by decide +kernel) rfl (by decide +kernel) rfl rfl 0 rfl rfl rfl rfl hl.1 (Nat.le_of_ble_eq_true rfl) rfl zd_PS_memory_6 ⟨Nat.zero_le _, Nat.zero_le _⟩ (fun r_1 w1 H locs hw hJ hS => ?_)
  obtain ⟨rfl, h⟩ := hw
  obtain ⟨hP, hD⟩ := hJ (W_PS_memory kT ad bc) rfl rfl rfl
  refine lv_if_ne (tgt := 22) hx hb zd_PS_memory_9 (by decide) (fun c_2 => ?_) (fun c_2 => ?_)
  · have h := zq_if c_2 h
    refine lv_iload_n hx hb zd_PS_memory_22 rfl (lv_at hl 2 rfl) ?_
    refine lv_if_lt (tgt := 33) hx hb zd_PS_memory_23 (by decide) (fun c_3 => ?_) (fun c_3 => ?_)
    · have h := zq_it c_3 h
      exact hthr "java/lang/IllegalArgumentException" "a byte is 0 to 255" ["java/lang/RuntimeException", "java/lang/Exception"] 71 156 75 H locs 33 ls [] h (by decide +kernel) (by decide +kernel) zw_648 zw_649 (List.mem_of_getElem? (i := 14) rfl) zt_IllegalArgumentException_a zt_IllegalArgumentException_b hl.1 zd_PS_memory_33 zd_PS_memory_36 zd_PS_memory_37 zd_PS_memory_39 zd_PS_memory_42 (by decide) (Nat.le_of_ble_eq_true rfl) hP hS
    · have h := zq_if c_3 h
      refine lv_iload_n hx hb zd_PS_memory_26 rfl (lv_at hl 2 rfl) ?_
      refine lv_sipush (v := 255) hx hb zd_PS_memory_27 (by decide) ?_
      refine lv_icmp_le (tgt := 43) hx hb zd_PS_memory_30 (by decide) (fun c_4 => ?_) (fun c_4 => ?_)
      · have h := zq_it c_4 h
        refine lv_aload_n hx hb zd_PS_memory_43 rfl (lv_at hl 0 rfl) ?_
        refine va_get (D := D) (ci := 9) (v := .ref (ad 5)) (C := zR_PS) (T := zF_PS) (N := 8) hx hb ht zi_PS hown hK hP 0 rfl rfl 1 (by decide) (ht _ zw_612) (fun _ h9 => h9) rfl zd_PS_memory_44 ?_
        refine lv_iload_n hx hb zd_PS_memory_47 rfl (lv_at hl 1 rfl) ?_
        refine zq_c_Vi (rest := []) (adl := (A_PS_memory ad)) (wr := [(ad 0, .inr (9, [.ref (ad 1), .ref (ad 5), .ref (ad 7), .ref (ad 12), .ref (ad 22), .ref (ad 25), .ref (ad 33), .ref (ad 34)]))]) ⟨hx, hb, hml, hown, ht⟩ (c_Bytes_byteOf l D kT ad bc p0 _ h) (cwV 1 ht (zq_gV zw_679 zw_195 zw_196 zw_134 zw_197) rfl rfl rfl zh_Bytes_byteOf ⟨Nat.le_of_ble_eq_true rfl, Nat.le_of_ble_eq_true rfl⟩) hE hP hD hS hA [1, 2] [0] 3 rfl (by decide +kernel) rfl (by decide +kernel) rfl rfl 0 rfl rfl rfl rfl hl.1 (Nat.le_of_ble_eq_true rfl) rfl zd_PS_memory_48 ⟨Nat.zero_le _, Nat.zero_le _⟩ (fun r_5 w1 H locs hw hJ hS => ?_)
        obtain ⟨rfl, h⟩ := hw
        obtain ⟨hP, hD⟩ := hJ (W_PS_memory kT ad bc) rfl rfl rfl
        refine lv_istore_n (lv' := [(3, .int r_5), (0, .ref (ad 0)), (1, .int p0), (2, .int p1)]) hx hb zd_PS_memory_51 rfl hl (by decide) rfl (fun ls hl => ?_)
        refine lv_aload_n hx hb zd_PS_memory_52 rfl (lv_at hl 1 rfl) ?_
        refine va_get (D := D) (ci := 9) (v := .ref (ad 5)) (C := zR_PS) (T := zF_PS) (N := 8) hx hb ht zi_PS hown hK hP 0 rfl rfl 1 (by decide) (ht _ zw_612) (fun _ h9 => h9) rfl zd_PS_memory_53 ?_
        refine lv_iload_n hx hb zd_PS_memory_56 rfl (lv_at hl 2 rfl) ?_
        refine lv_iload_n hx hb zd_PS_memory_57 rfl (lv_at hl 3 rfl) ?_
        refine lv_i2l (v := (zq_j_i2l p1)) hx hb zd_PS_memory_58 rfl ?_
        refine zq_c_Vv (rest := []) (adl := (A_PS_memory ad)) (wr := [(ad 0, .inr (9, [.ref (ad 1), .ref (ad 5), .ref (ad 7), .ref (ad 12), .ref (ad 22), .ref (ad 25), .ref (ad 33), .ref (ad 34)]))]) ⟨hx, hb, hml, hown, ht⟩ (c_Bytes_putByte l D kT ad bc p0 (zq_j_i2l p1) _ h) (cwV 2 ht (zq_gV zw_680 zw_201 zw_202 zw_134 zw_203) rfl rfl rfl zh_Bytes_putByte ⟨Nat.le_of_ble_eq_true rfl, Nat.le_of_ble_eq_true rfl⟩) hE hP hD hS hA [1, 2] [0] 3 rfl (by decide +kernel) rfl (by decide +kernel) rfl rfl 0 rfl rfl rfl rfl hl.1 (Nat.le_of_ble_eq_true rfl) rfl zd_PS_memory_59 ⟨Nat.zero_le _, Nat.zero_le _⟩ (fun w1 H locs hw hJ hS => ?_)
        obtain ⟨bc_6, rfl, h⟩ := hw
        obtain ⟨hP, hD⟩ := hJ (W_PS_memory kT ad bc_6) rfl rfl rfl
        refine lv_iload_n hx hb zd_PS_memory_62 rfl (lv_at hl 0 rfl) ?_
        exact hret r_5  _ H locs 63 ls ⟨bc_6, rfl, h⟩ hP rfl hS zd_PS_memory_63
      · have h := zq_if c_4 h
        exact hthr "java/lang/IllegalArgumentException" "a byte is 0 to 255" ["java/lang/RuntimeException", "java/lang/Exception"] 71 156 75 H locs 33 ls [] h (by decide +kernel) (by decide +kernel) zw_648 zw_649 (List.mem_of_getElem? (i := 14) rfl) zt_IllegalArgumentException_a zt_IllegalArgumentException_b hl.1 zd_PS_memory_33 zd_PS_memory_36 zd_PS_memory_37 zd_PS_memory_39 zd_PS_memory_42 (by decide) (Nat.le_of_ble_eq_true rfl) hP hS
  · have h := zq_it c_2 h
    exact hthr "java/lang/IndexOutOfBoundsException" "no such byte" ["java/lang/RuntimeException", "java/lang/Exception"] 151 153 155 H locs 12 ls [] h (by decide +kernel) (by decide +kernel) zw_681 zw_682 (List.mem_of_getElem? (i := 13) rfl) zt_IndexOutOfBoundsException_a zt_IndexOutOfBoundsException_b hl.1 zd_PS_memory_12 zd_PS_memory_15 zd_PS_memory_16 zd_PS_memory_18 zd_PS_memory_21 (by decide) (Nat.le_of_ble_eq_true rfl) hP hS
abbrev W_PS_byteAt (kT : Nat → ClassId) (ad : Nat → Nat) (bc : Nat → Int32) : va_W := [(ad 0, .inr (9, [.ref (ad 1), .ref (ad 5), .ref (ad 7), .ref (ad 12), .ref (ad 22), .ref (ad 25), .ref (ad 33), .ref (ad 34)])), (ad 5, .inr (1, [.ref (ad 6)])), (ad 6, .inl (kT 3, 4096, .inl bc))]
abbrev A_PS_byteAt (ad : Nat → Nat) : List Nat := [ad 0, ad 5, ad 6]
def wp_PS_byteAt (bc : Nat → Int32) (p0 : Int32) (post : Int32 → Prop) (px : String → Prop) : Prop := wp_Bytes_hasByte (zq_j_i2l p0) (fun r_1 => (if r_1 = 0 then px "java/lang/IndexOutOfBoundsException" else wp_Bytes_byteOf bc p0 (fun r_3 => post r_3 )))
set_option maxHeartbeats 4000000 in
set_option maxRecDepth 100000 in
theorem c_PS_byteAt (l : Launch) (hst : l.stackTraces = false) (D : va_G) (kT : Nat → ClassId) (ad : Nat → Nat) (bc : Nat → Int32) (p0 : Int32) (post : Int32 → Prop) (px : String → Prop) (h : wp_PS_byteAt bc p0 post px) : zq_MXi l zy_PS_byteAt zs_PS_byteAt ({ frames := 7, cells := 1, slots := 6, locals := 100 }) D kT [.ref (ad 0), .int p0] (W_PS_byteAt kT ad bc) (fun r w' => w' = (W_PS_byteAt kT ad bc) ∧ post r ) px := by
  refine zq_MXi_of (adl := (A_PS_byteAt ad)) (cc := zb_PS_byteAt) (maxL := 2) (own := zR_PS) hst rfl (by decide) rfl rfl (Nat.le_of_ble_eq_true rfl) (Nat.le_refl _) (Nat.le_refl _) ?_
  intro p e s m AV below meth c A QQ H locs ls hx hb hml hown ht hE hA hthr hret hP hD hS hl
  have hK := hE.1
  have hl : lv_has ls 2 [(0, .ref (ad 0)), (1, .int p0)] := hl
  refine lv_aload_n hx hb zd_PS_byteAt_0 rfl (lv_at hl 0 rfl) ?_
  refine va_get (D := D) (ci := 9) (v := .ref (ad 5)) (C := zR_PS) (T := zF_PS) (N := 8) hx hb ht zi_PS hown hK hP 0 rfl rfl 1 (by decide) (ht _ zw_612) (fun _ h9 => h9) rfl zd_PS_byteAt_1 ?_
  refine lv_iload_n hx hb zd_PS_byteAt_4 rfl (lv_at hl 1 rfl) ?_
  refine lv_i2l (v := (zq_j_i2l p0)) hx hb zd_PS_byteAt_5 rfl ?_
  refine zq_c_Vi (rest := []) (adl := (A_PS_byteAt ad)) (wr := [(ad 0, .inr (9, [.ref (ad 1), .ref (ad 5), .ref (ad 7), .ref (ad 12), .ref (ad 22), .ref (ad 25), .ref (ad 33), .ref (ad 34)])), (ad 6, .inl (kT 3, 4096, .inl bc))]) ⟨hx, hb, hml, hown, ht⟩ (c_Bytes_hasByte l D kT ad (zq_j_i2l p0) _ h) (cwV 1 ht (zq_gV zw_678 zw_132 zw_133 zw_134 zw_135) rfl rfl rfl zh_Bytes_hasByte ⟨Nat.le_of_ble_eq_true rfl, Nat.le_of_ble_eq_true rfl⟩) hE hP hD hS hA [1] [0, 2] 3 rfl (by decide +kernel) rfl (by decide +kernel) rfl rfl 0 rfl rfl rfl rfl hl.1 (Nat.le_of_ble_eq_true rfl) rfl zd_PS_byteAt_6 ⟨Nat.zero_le _, Nat.zero_le _⟩ (fun r_1 w1 H locs hw hJ hS => ?_)
  obtain ⟨rfl, h⟩ := hw
  obtain ⟨hP, hD⟩ := hJ (W_PS_byteAt kT ad bc) rfl rfl rfl
  refine lv_if_ne (tgt := 22) hx hb zd_PS_byteAt_9 (by decide) (fun c_2 => ?_) (fun c_2 => ?_)
  · have h := zq_if c_2 h
    refine lv_aload_n hx hb zd_PS_byteAt_22 rfl (lv_at hl 0 rfl) ?_
    refine va_get (D := D) (ci := 9) (v := .ref (ad 5)) (C := zR_PS) (T := zF_PS) (N := 8) hx hb ht zi_PS hown hK hP 0 rfl rfl 1 (by decide) (ht _ zw_612) (fun _ h9 => h9) rfl zd_PS_byteAt_23 ?_
    refine lv_iload_n hx hb zd_PS_byteAt_26 rfl (lv_at hl 1 rfl) ?_
    refine zq_c_Vi (rest := []) (adl := (A_PS_byteAt ad)) (wr := [(ad 0, .inr (9, [.ref (ad 1), .ref (ad 5), .ref (ad 7), .ref (ad 12), .ref (ad 22), .ref (ad 25), .ref (ad 33), .ref (ad 34)]))]) ⟨hx, hb, hml, hown, ht⟩ (c_Bytes_byteOf l D kT ad bc p0 _ h) (cwV 1 ht (zq_gV zw_679 zw_195 zw_196 zw_134 zw_197) rfl rfl rfl zh_Bytes_byteOf ⟨Nat.le_of_ble_eq_true rfl, Nat.le_of_ble_eq_true rfl⟩) hE hP hD hS hA [1, 2] [0] 3 rfl (by decide +kernel) rfl (by decide +kernel) rfl rfl 0 rfl rfl rfl rfl hl.1 (Nat.le_of_ble_eq_true rfl) rfl zd_PS_byteAt_27 ⟨Nat.zero_le _, Nat.zero_le _⟩ (fun r_3 w1 H locs hw hJ hS => ?_)
    obtain ⟨rfl, h⟩ := hw
    obtain ⟨hP, hD⟩ := hJ (W_PS_byteAt kT ad bc) rfl rfl rfl
    exact hret r_3  _ H locs 30 ls ⟨rfl, h⟩ hP rfl hS zd_PS_byteAt_30
  · have h := zq_it c_2 h
    exact hthr "java/lang/IndexOutOfBoundsException" "no such byte" ["java/lang/RuntimeException", "java/lang/Exception"] 151 153 155 H locs 12 ls [] h (by decide +kernel) (by decide +kernel) zw_681 zw_682 (List.mem_of_getElem? (i := 13) rfl) zt_IndexOutOfBoundsException_a zt_IndexOutOfBoundsException_b hl.1 zd_PS_byteAt_12 zd_PS_byteAt_15 zd_PS_byteAt_16 zd_PS_byteAt_18 zd_PS_byteAt_21 (by decide) (Nat.le_of_ble_eq_true rfl) hP hS
abbrev W_PS_step (kT : Nat → ClassId) (ad : Nat → Nat) (rn : Int32) (rc : Nat → Int64) (rv : Nat → Int64) (rm : Nat → Int32) (bc : Nat → Int32) (ocn : Int32) (ofn : Int32) (oc : Nat → Int64) (ofr : Nat → Int32) (oto : Nat → Int32) (osg : Nat → Int32) (ptn : Int32) (pin : Int32) (po : Nat → Int32) (pa : Nat → Int32) (pb : Nat → Int32) (pt : Nat → Int32) (pm : Nat → Int32) (pv : Nat → Int32) (pw : Nat → Int32) (pst : Nat → Int32) (pe : Nat → Int32) (kn : Int32) (kv : Int32) (kp : Nat → Int32) (kl : Nat → Int32) (lo : Nat → Int32) (lr : Nat → Int32) (wn : Int32) (wf : Nat → Int32) (wt : Nat → Int32) (wv : Nat → Int64) (xw : Int32) (xp : Int32) (xr : Int32) (xq : Int32) (xe : Int32) (xh : Int32) (xb : Int32) (mw : Int32) (mh : Int32) (mk : Int32) (mp : Int32) (cn : Nat → Int32) : va_W := [(ad 0, .inr (9, [.ref (ad 1), .ref (ad 5), .ref (ad 7), .ref (ad 12), .ref (ad 22), .ref (ad 25), .ref (ad 33), .ref (ad 34)])), (ad 1, .inr (0, [.ref (ad 2), .ref (ad 3), .ref (ad 4), .int rn])), (ad 2, .inl (kT 1, 24, .inr (.inl rc))), (ad 3, .inl (kT 1, 24, .inr (.inl rv))), (ad 4, .inl (kT 2, 24, .inl rm)), (ad 5, .inr (1, [.ref (ad 6)])), (ad 6, .inl (kT 3, 4096, .inl bc)), (ad 7, .inr (2, [.ref (ad 1), .ref (ad 8), .ref (ad 9), .ref (ad 10), .ref (ad 11), .int ocn, .int ofn])), (ad 8, .inl (kT 1, 16, .inr (.inl oc))), (ad 9, .inl (kT 0, 16, .inl ofr)), (ad 10, .inl (kT 0, 16, .inl oto)), (ad 11, .inl (kT 2, 16, .inl osg)), (ad 12, .inr (3, [.ref (ad 13), .ref (ad 14), .ref (ad 15), .ref (ad 16), .int ptn, .ref (ad 17), .ref (ad 18), .ref (ad 19), .ref (ad 20), .ref (ad 21), .int pin])), (ad 13, .inl (kT 0, 200, .inl po)), (ad 14, .inl (kT 0, 200, .inl pa)), (ad 15, .inl (kT 0, 200, .inl pb)), (ad 16, .inl (kT 0, 200, .inl pt)), (ad 17, .inl (kT 0, 40, .inl pm)), (ad 18, .inl (kT 0, 40, .inl pv)), (ad 19, .inl (kT 0, 40, .inl pw)), (ad 20, .inl (kT 0, 40, .inl pst)), (ad 21, .inl (kT 0, 40, .inl pe)), (ad 22, .inr (4, [.ref (ad 23), .ref (ad 24), .int kn, .int kv])), (ad 23, .inl (kT 0, 8, .inl kp)), (ad 24, .inl (kT 0, 8, .inl kl)), (ad 25, .inr (5, [.ref (ad 26), .ref (ad 27)])), (ad 26, .inl (kT 2, 8, .inl lo)), (ad 27, .inl (kT 0, 8, .inl lr)), (ad 28, .inr (6, [.ref (ad 1), .ref (ad 5), .ref (ad 29), .ref (ad 30), .ref (ad 31), .int wn])), (ad 29, .inl (kT 0, 200, .inl wf)), (ad 30, .inl (kT 0, 200, .inl wt)), (ad 31, .inl (kT 1, 200, .inr (.inl wv))), (ad 32, .inr (7, [.ref (ad 1), .ref (ad 5), .ref (ad 7), .ref (ad 12), .ref (ad 22), .ref (ad 28), .ref (ad 34), .int xw, .int xp, .int xr, .int xq, .int xe, .int xh, .int xb])), (ad 33, .inr (8, [.ref (ad 1), .ref (ad 5), .ref (ad 12), .ref (ad 22), .ref (ad 25), .ref (ad 32), .ref (ad 34), .int mw, .int mh, .int mk, .int mp])), (ad 34, .inl (kT 0, 9, .inl cn))]
abbrev A_PS_step (ad : Nat → Nat) : List Nat := [ad 0, ad 1, ad 2, ad 3, ad 4, ad 5, ad 6, ad 7, ad 8, ad 9, ad 10, ad 11, ad 12, ad 13, ad 14, ad 15, ad 16, ad 17, ad 18, ad 19, ad 20, ad 21, ad 22, ad 23, ad 24, ad 25, ad 26, ad 27, ad 28, ad 29, ad 30, ad 31, ad 32, ad 33, ad 34]
def wp_PS_step_44 (rn : Int32) (rc : Nat → Int64) (ocn : Int32) (ofn : Int32) (oc : Nat → Int64) (ofr : Nat → Int32) (oto : Nat → Int32) (osg : Nat → Int32) (ptn : Int32) (pin : Int32) (po : Nat → Int32) (pa : Nat → Int32) (pb : Nat → Int32) (pt : Nat → Int32) (pm : Nat → Int32) (pv : Nat → Int32) (pw : Nat → Int32) (pst : Nat → Int32) (pe : Nat → Int32) (lo : Nat → Int32) (lr : Nat → Int32) (post : Int32 → (Nat → Int64) → (Nat → Int32) → (Nat → Int32) → Int32 → Int32 → (Nat → Int32) → (Nat → Int32) → Int32 → (Nat → Int32) → (Nat → Int32) → (Nat → Int64) → Int32 → Int32 → Int32 → Int32 → Int32 → Int32 → Int32 → Int32 → Int32 → Int32 → Int32 → (Nat → Int32) → Prop) (px : String → Prop) : Nat → (Nat → Int64) → (Nat → Int32) → (Nat → Int32) → (Int32) → (Int32) → (Nat → Int32) → (Nat → Int32) → (Int32) → (Nat → Int32) → (Nat → Int32) → (Nat → Int64) → (Int32) → (Int32) → (Int32) → (Int32) → (Int32) → (Int32) → (Int32) → (Int32) → (Int32) → (Int32) → (Int32) → (Nat → Int32) → Int32 → Int32 → Prop
  | 0 => fun _ _ _ _ _ _ _ _ _ _ _ _ _ _ _ _ _ _ _ _ _ _ _ _ _ => False
  | n + 1 => fun rv rm bc kn kv kp kl wn wf wt wv xw xp xr xq xe xh xb mw mh mk mp cn y1 y2 => (if y1 ≤ y2 then post y2 rv rm bc kn kv kp kl wn wf wt wv xw xp xr xq xe xh xb mw mh mk mp cn else (if mh = 0 then wp_Machine_takeStep rn rc rv rm bc ocn ofn oc ofr oto osg ptn pin po pa pb pt pm pv pw pst pe kn kv kp kl lo lr wn wf wt wv xw xp xr xq xe xh xb mw mh mk mp cn (fun rv_6 rm_7 bc_8 kn_9 kv_10 kp_11 kl_12 wn_13 wf_14 wt_15 wv_16 xw_17 xp_18 xr_19 xq_20 xe_21 xh_22 xb_23 mw_24 mh_25 mk_26 mp_27 cn_28 => wp_PS_step_44 rn rc ocn ofn oc ofr oto osg ptn pin po pa pb pt pm pv pw pst pe lo lr post px n rv_6 rm_7 bc_8 kn_9 kv_10 kp_11 kl_12 wn_13 wf_14 wt_15 wv_16 xw_17 xp_18 xr_19 xq_20 xe_21 xh_22 xb_23 mw_24 mh_25 mk_26 mp_27 cn_28 y1 (y2 + 1)) else post y2 rv rm bc kn kv kp kl wn wf wt wv xw xp xr xq xe xh xb mw mh mk mp cn))
def wp_PS_step (rn : Int32) (rc : Nat → Int64) (rv : Nat → Int64) (rm : Nat → Int32) (bc : Nat → Int32) (ocn : Int32) (ofn : Int32) (oc : Nat → Int64) (ofr : Nat → Int32) (oto : Nat → Int32) (osg : Nat → Int32) (ptn : Int32) (pin : Int32) (po : Nat → Int32) (pa : Nat → Int32) (pb : Nat → Int32) (pt : Nat → Int32) (pm : Nat → Int32) (pv : Nat → Int32) (pw : Nat → Int32) (pst : Nat → Int32) (pe : Nat → Int32) (kn : Int32) (kv : Int32) (kp : Nat → Int32) (kl : Nat → Int32) (lo : Nat → Int32) (lr : Nat → Int32) (wn : Int32) (wf : Nat → Int32) (wt : Nat → Int32) (wv : Nat → Int64) (xw : Int32) (xp : Int32) (xr : Int32) (xq : Int32) (xe : Int32) (xh : Int32) (xb : Int32) (mw : Int32) (mh : Int32) (mk : Int32) (mp : Int32) (cn : Nat → Int32) (p0 : Int32) (post : Int32 → (Nat → Int64) → (Nat → Int32) → (Nat → Int32) → Int32 → Int32 → (Nat → Int32) → (Nat → Int32) → Int32 → (Nat → Int32) → (Nat → Int32) → (Nat → Int64) → Int32 → Int32 → Int32 → Int32 → Int32 → Int32 → Int32 → Int32 → Int32 → Int32 → Int32 → (Nat → Int32) → Prop) (px : String → Prop) : Prop := (if p0 < 1 then px "java/lang/IllegalArgumentException" else (if p0 ≤ 5000 then (if mh = 0 then ∃ n, wp_PS_step_44 rn rc ocn ofn oc ofr oto osg ptn pin po pa pb pt pm pv pw pst pe lo lr post px n rv rm bc kn kv kp kl wn wf wt wv xw xp xr xq xe xh xb mw mh mk mp cn p0 0 else px "java/lang/IllegalStateException") else px "java/lang/IllegalArgumentException"))
set_option maxHeartbeats 4000000 in
set_option maxRecDepth 100000 in
theorem c_PS_step (l : Launch) (hst : l.stackTraces = false) (D : va_G) (kT : Nat → ClassId) (ad : Nat → Nat) (rn : Int32) (rc : Nat → Int64) (rv : Nat → Int64) (rm : Nat → Int32) (bc : Nat → Int32) (ocn : Int32) (ofn : Int32) (oc : Nat → Int64) (ofr : Nat → Int32) (oto : Nat → Int32) (osg : Nat → Int32) (ptn : Int32) (pin : Int32) (po : Nat → Int32) (pa : Nat → Int32) (pb : Nat → Int32) (pt : Nat → Int32) (pm : Nat → Int32) (pv : Nat → Int32) (pw : Nat → Int32) (pst : Nat → Int32) (pe : Nat → Int32) (kn : Int32) (kv : Int32) (kp : Nat → Int32) (kl : Nat → Int32) (lo : Nat → Int32) (lr : Nat → Int32) (wn : Int32) (wf : Nat → Int32) (wt : Nat → Int32) (wv : Nat → Int64) (xw : Int32) (xp : Int32) (xr : Int32) (xq : Int32) (xe : Int32) (xh : Int32) (xb : Int32) (mw : Int32) (mh : Int32) (mk : Int32) (mp : Int32) (cn : Nat → Int32) (p0 : Int32) (post : Int32 → (Nat → Int64) → (Nat → Int32) → (Nat → Int32) → Int32 → Int32 → (Nat → Int32) → (Nat → Int32) → Int32 → (Nat → Int32) → (Nat → Int32) → (Nat → Int64) → Int32 → Int32 → Int32 → Int32 → Int32 → Int32 → Int32 → Int32 → Int32 → Int32 → Int32 → (Nat → Int32) → Prop) (px : String → Prop) (h : wp_PS_step rn rc rv rm bc ocn ofn oc ofr oto osg ptn pin po pa pb pt pm pv pw pst pe kn kv kp kl lo lr wn wf wt wv xw xp xr xq xe xh xb mw mh mk mp cn p0 post px) : zq_MXi l zy_PS_step zs_PS_step ({ frames := 7, cells := 1, slots := 6, locals := 181 }) D kT [.ref (ad 0), .int p0] (W_PS_step kT ad rn rc rv rm bc ocn ofn oc ofr oto osg ptn pin po pa pb pt pm pv pw pst pe kn kv kp kl lo lr wn wf wt wv xw xp xr xq xe xh xb mw mh mk mp cn) (fun r w' => ∃ (rv' : Nat → Int64) (rm' : Nat → Int32) (bc' : Nat → Int32) (kn' : Int32) (kv' : Int32) (kp' : Nat → Int32) (kl' : Nat → Int32) (wn' : Int32) (wf' : Nat → Int32) (wt' : Nat → Int32) (wv' : Nat → Int64) (xw' : Int32) (xp' : Int32) (xr' : Int32) (xq' : Int32) (xe' : Int32) (xh' : Int32) (xb' : Int32) (mw' : Int32) (mh' : Int32) (mk' : Int32) (mp' : Int32) (cn' : Nat → Int32), w' = (W_PS_step kT ad rn rc rv' rm' bc' ocn ofn oc ofr oto osg ptn pin po pa pb pt pm pv pw pst pe kn' kv' kp' kl' lo lr wn' wf' wt' wv' xw' xp' xr' xq' xe' xh' xb' mw' mh' mk' mp' cn') ∧ post r rv' rm' bc' kn' kv' kp' kl' wn' wf' wt' wv' xw' xp' xr' xq' xe' xh' xb' mw' mh' mk' mp' cn') px := by
  refine zq_MXi_of (adl := (A_PS_step ad)) (cc := zb_PS_step) (maxL := 3) (own := zR_PS) hst rfl (by decide) rfl rfl (Nat.le_of_ble_eq_true rfl) (Nat.le_refl _) (Nat.le_refl _) ?_
  intro p e s m AV below meth c A QQ H locs ls hx hb hml hown ht hE hA hthr hret hP hD hS hl
  have hK := hE.1
  have hl : lv_has ls 3 [(0, .ref (ad 0)), (1, .int p0)] := hl
  unfold wp_PS_step at h
  have B44 : ∀ (n : Nat) (rv : Nat → Int64) (rm : Nat → Int32) (bc : Nat → Int32) (kn : Int32) (kv : Int32) (kp : Nat → Int32) (kl : Nat → Int32) (wn : Int32) (wf : Nat → Int32) (wt : Nat → Int32) (wv : Nat → Int64) (xw : Int32) (xp : Int32) (xr : Int32) (xq : Int32) (xe : Int32) (xh : Int32) (xb : Int32) (mw : Int32) (mh : Int32) (mk : Int32) (mp : Int32) (cn : Nat → Int32) (y1 : Int32) (y2 : Int32) (H : Heap) (locs : List Loc) (ls : Array Slot), wp_PS_step_44 rn rc ocn ofn oc ofr oto osg ptn pin po pa pb pt pm pv pw pst pe lo lr post px n rv rm bc kn kv kp kl wn wf wt wv xw xp xr xq xe xh xb mw mh mk mp cn y1 y2 → va_P D vwCl (W_PS_step kT ad rn rc rv rm bc ocn ofn oc ofr oto osg ptn pin po pa pb pt pm pv pw pst pe kn kv kp kl lo lr wn wf wt wv xw xp xr xq xe xh xb mw mh mk mp cn) H → va_D A (W_PS_step kT ad rn rc rv rm bc ocn ofn oc ofr oto osg ptn pin po pa pb pt pm pv pw pst pe kn kv kp kl lo lr wn wf wt wv xw xp xr xq xe xh xb mw mh mk mp cn) → va_S A s.heap H locs → lv_has ls 3 [(0, .ref (ad 0)), (1, .int y1), (2, .int y2)] → W p l e ({ frames := 7, cells := 1, slots := 6, locals := 181 }) s m AV below meth c H locs 0 0 QQ (F0 m 44 ls []) := by
    intro n
    induction n with
    | zero =>
      intro rv rm bc kn kv kp kl wn wf wt wv xw xp xr xq xe xh xb mw mh mk mp cn y1 y2 H locs ls h
      exact h.elim
    | succ n ih =>
      intro rv rm bc kn kv kp kl wn wf wt wv xw xp xr xq xe xh xb mw mh mk mp cn y1 y2 H locs ls h hP hD hS hl
      refine lv_iload_n hx hb zd_PS_step_44 rfl (lv_at hl 2 rfl) ?_
      refine lv_iload_n hx hb zd_PS_step_45 rfl (lv_at hl 1 rfl) ?_
      refine lv_icmp_ge (tgt := 72) hx hb zd_PS_step_46 (by decide) (fun c_4 => ?_) (fun c_4 => ?_)
      · have h := zq_it c_4 h
        refine lv_iload_n hx hb zd_PS_step_72 rfl (lv_at hl 2 rfl) ?_
        exact hret y2  _ H locs 73 ls ⟨rv, rm, bc, kn, kv, kp, kl, wn, wf, wt, wv, xw, xp, xr, xq, xe, xh, xb, mw, mh, mk, mp, cn, rfl, h⟩ hP rfl hS zd_PS_step_73
      · have h := zq_if c_4 h
        refine lv_aload_n hx hb zd_PS_step_49 rfl (lv_at hl 0 rfl) ?_
        refine va_get (D := D) (ci := 9) (v := .ref (ad 33)) (C := zR_PS) (T := zF_PS) (N := 8) hx hb ht zi_PS hown hK hP 0 rfl rfl 6 (by decide) (ht _ zw_646) (fun _ h9 => h9) rfl zd_PS_step_50 ?_
        refine va_getN (D := D) (ci := 8) (v := .int mh) (C := zR_Machine) (T := zF_Machine) (N := 11) hx hb ht zi_Machine hown hK hP 33 rfl rfl 8 (by decide) (hE.nw zx_21) (fun _ h9 => h9) rfl zd_PS_step_53 ?_
        refine lv_if_ne (tgt := 72) hx hb zd_PS_step_56 (by decide) (fun c_5 => ?_) (fun c_5 => ?_)
        · have h := zq_if c_5 h
          refine lv_iload_n hx hb zd_PS_step_72 rfl (lv_at hl 2 rfl) ?_
          exact hret y2  _ H locs 73 ls ⟨rv, rm, bc, kn, kv, kp, kl, wn, wf, wt, wv, xw, xp, xr, xq, xe, xh, xb, mw, mh, mk, mp, cn, rfl, h⟩ hP rfl hS zd_PS_step_73
        · have h := zq_it c_5 h
          refine lv_aload_n hx hb zd_PS_step_59 rfl (lv_at hl 0 rfl) ?_
          refine va_get (D := D) (ci := 9) (v := .ref (ad 33)) (C := zR_PS) (T := zF_PS) (N := 8) hx hb ht zi_PS hown hK hP 0 rfl rfl 6 (by decide) (ht _ zw_646) (fun _ h9 => h9) rfl zd_PS_step_60 ?_
          refine zq_c_Vv (rest := []) (adl := (A_PS_step ad)) (wr := [(ad 0, .inr (9, [.ref (ad 1), .ref (ad 5), .ref (ad 7), .ref (ad 12), .ref (ad 22), .ref (ad 25), .ref (ad 33), .ref (ad 34)]))]) ⟨hx, hb, hml, hown, ht⟩ (c_Machine_takeStep l D kT ad rn rc rv rm bc ocn ofn oc ofr oto osg ptn pin po pa pb pt pm pv pw pst pe kn kv kp kl lo lr wn wf wt wv xw xp xr xq xe xh xb mw mh mk mp cn _ h) (cwV 0 ht (zq_gV zw_685 zw_686 zw_687 zw_327 zw_688) rfl rfl rfl zh_Machine_takeStep ⟨Nat.le_of_ble_eq_true rfl, Nat.le_of_ble_eq_true rfl⟩) hE hP hD hS hA [1, 2, 3, 4, 5, 6, 7, 8, 9, 10, 11, 12, 13, 14, 15, 16, 17, 18, 19, 20, 21, 22, 23, 24, 25, 26, 27, 28, 29, 30, 31, 32, 33, 34] [0] 35 rfl (by decide +kernel) rfl (by decide +kernel) rfl rfl 32 rfl rfl rfl rfl hl.1 (Nat.le_of_ble_eq_true rfl) rfl zd_PS_step_63 ⟨Nat.zero_le _, Nat.zero_le _⟩ (fun w1 H locs hw hJ hS => ?_)
          obtain ⟨rv_6, rm_7, bc_8, kn_9, kv_10, kp_11, kl_12, wn_13, wf_14, wt_15, wv_16, xw_17, xp_18, xr_19, xq_20, xe_21, xh_22, xb_23, mw_24, mh_25, mk_26, mp_27, cn_28, rfl, h⟩ := hw
          obtain ⟨hP, hD⟩ := hJ (W_PS_step kT ad rn rc rv_6 rm_7 bc_8 ocn ofn oc ofr oto osg ptn pin po pa pb pt pm pv pw pst pe kn_9 kv_10 kp_11 kl_12 lo lr wn_13 wf_14 wt_15 wv_16 xw_17 xp_18 xr_19 xq_20 xe_21 xh_22 xb_23 mw_24 mh_25 mk_26 mp_27 cn_28) rfl rfl rfl
          refine lv_iinc (v := (y2 + 1)) (lv' := [(2, .int (y2 + 1)), (0, .ref (ad 0)), (1, .int y1)]) hx hb zd_PS_step_66 hl (k := 2) rfl rfl (by decide) rfl (fun ls hl => ?_)
          refine lv_goto (tgt := 44) hx hb zd_PS_step_69 (by decide) ?_
          exact ih rv_6 rm_7 bc_8 kn_9 kv_10 kp_11 kl_12 wn_13 wf_14 wt_15 wv_16 xw_17 xp_18 xr_19 xq_20 xe_21 xh_22 xb_23 mw_24 mh_25 mk_26 mp_27 cn_28 y1 (y2 + 1) H locs ls h hP hD hS (lv_sub hl [1, 2, 0] rfl)
  refine lv_iload_n hx hb zd_PS_step_0 rfl (lv_at hl 1 rfl) ?_
  refine lv_iconst (v := 1) hx hb zd_PS_step_1 (by decide) ?_
  refine lv_icmp_lt (tgt := 12) hx hb zd_PS_step_2 (by decide) (fun c_1 => ?_) (fun c_1 => ?_)
  · have h := zq_it c_1 h
    exact hthr "java/lang/IllegalArgumentException" "1 to 5000 steps" ["java/lang/RuntimeException", "java/lang/Exception"] 71 165 75 H locs 12 ls [] h (by decide +kernel) (by decide +kernel) zw_648 zw_649 (List.mem_of_getElem? (i := 15) rfl) zt_IllegalArgumentException_a zt_IllegalArgumentException_b hl.1 zd_PS_step_12 zd_PS_step_15 zd_PS_step_16 zd_PS_step_18 zd_PS_step_21 (by decide) (Nat.le_of_ble_eq_true rfl) hP hS
  · have h := zq_if c_1 h
    refine lv_iload_n hx hb zd_PS_step_5 rfl (lv_at hl 1 rfl) ?_
    refine lv_sipush (v := 5000) hx hb zd_PS_step_6 (by decide) ?_
    refine lv_icmp_le (tgt := 22) hx hb zd_PS_step_9 (by decide) (fun c_2 => ?_) (fun c_2 => ?_)
    · have h := zq_it c_2 h
      refine lv_aload_n hx hb zd_PS_step_22 rfl (lv_at hl 0 rfl) ?_
      refine va_get (D := D) (ci := 9) (v := .ref (ad 33)) (C := zR_PS) (T := zF_PS) (N := 8) hx hb ht zi_PS hown hK hP 0 rfl rfl 6 (by decide) (ht _ zw_646) (fun _ h9 => h9) rfl zd_PS_step_23 ?_
      refine va_getN (D := D) (ci := 8) (v := .int mh) (C := zR_Machine) (T := zF_Machine) (N := 11) hx hb ht zi_Machine hown hK hP 33 rfl rfl 8 (by decide) (hE.nw zx_21) (fun _ h9 => h9) rfl zd_PS_step_26 ?_
      refine lv_if_eq (tgt := 42) hx hb zd_PS_step_29 (by decide) (fun c_3 => ?_) (fun c_3 => ?_)
      · have h := zq_it c_3 h
        refine lv_iconst (v := 0) hx hb zd_PS_step_42 (by decide) ?_
        refine lv_istore_n (lv' := [(2, .int 0), (0, .ref (ad 0)), (1, .int p0)]) hx hb zd_PS_step_43 rfl hl (by decide) rfl (fun ls hl => ?_)
        obtain ⟨n, h⟩ := h
        exact B44 n rv rm bc kn kv kp kl wn wf wt wv xw xp xr xq xe xh xb mw mh mk mp cn p0 0 H locs ls h hP hD hS (lv_sub hl [1, 2, 0] rfl)
      · have h := zq_if c_3 h
        exact hthr "java/lang/IllegalStateException" "the machine has halted" ["java/lang/RuntimeException", "java/lang/Exception"] 170 172 174 H locs 32 ls [] h (by decide +kernel) (by decide +kernel) zw_683 zw_684 (List.mem_of_getElem? (i := 16) rfl) zt_IllegalStateException_a zt_IllegalStateException_b hl.1 zd_PS_step_32 zd_PS_step_35 zd_PS_step_36 zd_PS_step_38 zd_PS_step_41 (by decide) (Nat.le_of_ble_eq_true rfl) hP hS
    · have h := zq_if c_2 h
      exact hthr "java/lang/IllegalArgumentException" "1 to 5000 steps" ["java/lang/RuntimeException", "java/lang/Exception"] 71 165 75 H locs 12 ls [] h (by decide +kernel) (by decide +kernel) zw_648 zw_649 (List.mem_of_getElem? (i := 15) rfl) zt_IllegalArgumentException_a zt_IllegalArgumentException_b hl.1 zd_PS_step_12 zd_PS_step_15 zd_PS_step_16 zd_PS_step_18 zd_PS_step_21 (by decide) (Nat.le_of_ble_eq_true rfl) hP hS
abbrev W_PS_set (kT : Nat → ClassId) (ad : Nat → Nat) (rn : Int32) (rc : Nat → Int64) (rv : Nat → Int64) (rm : Nat → Int32) (mw : Int32) (mh : Int32) (mk : Int32) (mp : Int32) : va_W := [(ad 0, .inr (9, [.ref (ad 1), .ref (ad 5), .ref (ad 7), .ref (ad 12), .ref (ad 22), .ref (ad 25), .ref (ad 33), .ref (ad 34)])), (ad 1, .inr (0, [.ref (ad 2), .ref (ad 3), .ref (ad 4), .int rn])), (ad 2, .inl (kT 1, 24, .inr (.inl rc))), (ad 3, .inl (kT 1, 24, .inr (.inl rv))), (ad 4, .inl (kT 2, 24, .inl rm)), (ad 33, .inr (8, [.ref (ad 1), .ref (ad 5), .ref (ad 12), .ref (ad 22), .ref (ad 25), .ref (ad 32), .ref (ad 34), .int mw, .int mh, .int mk, .int mp]))]
abbrev A_PS_set (ad : Nat → Nat) : List Nat := [ad 0, ad 1, ad 2, ad 3, ad 4, ad 33]
def wp_PS_set (rn : Int32) (rc : Nat → Int64) (rv : Nat → Int64) (rm : Nat → Int32) (mw : Int32) (mh : Int32) (mk : Int32) (mp : Int32) (p0 : Int32) (p1 : Int64) (post : Int64 → (Nat → Int64) → (Nat → Int32) → Int32 → Prop) (px : String → Prop) : Prop := wp_Registers_has rn p0 (fun r_1 => (if r_1 = 0 then px "java/lang/IndexOutOfBoundsException" else wp_Registers_valueOf rn rv p0 (fun r_3 => wp_Registers_put rn rc rv rm p0 p1 0 (fun rv_4 rm_5 => (if p0 = 0 then wp_Machine_loseWaiting mw mh mk mp (fun mw_8 => post r_3 rv_4 rm_5 mw_8) else post r_3 rv_4 rm_5 mw)))))
set_option maxHeartbeats 4000000 in
set_option maxRecDepth 100000 in
theorem c_PS_set (l : Launch) (hst : l.stackTraces = false) (D : va_G) (kT : Nat → ClassId) (ad : Nat → Nat) (rn : Int32) (rc : Nat → Int64) (rv : Nat → Int64) (rm : Nat → Int32) (mw : Int32) (mh : Int32) (mk : Int32) (mp : Int32) (p0 : Int32) (p1 : Int64) (post : Int64 → (Nat → Int64) → (Nat → Int32) → Int32 → Prop) (px : String → Prop) (h : wp_PS_set rn rc rv rm mw mh mk mp p0 p1 post px) : zq_MXl l zy_PS_set zs_PS_set ({ frames := 7, cells := 1, slots := 6, locals := 100 }) D kT [.ref (ad 0), .int p0, .long p1] (W_PS_set kT ad rn rc rv rm mw mh mk mp) (fun r w' => ∃ (rv' : Nat → Int64) (rm' : Nat → Int32) (mw' : Int32), w' = (W_PS_set kT ad rn rc rv' rm' mw' mh mk mp) ∧ post r rv' rm' mw') px := by
  refine zq_MXl_of (adl := (A_PS_set ad)) (cc := zb_PS_set) (maxL := 6) (own := zR_PS) hst rfl (by decide) rfl rfl (Nat.le_of_ble_eq_true rfl) (Nat.le_refl _) (Nat.le_refl _) ?_
  intro p e s m AV below meth c A QQ H locs ls hx hb hml hown ht hE hA hthr hret hP hD hS hl
  have hK := hE.1
  have hl : lv_has ls 6 [(0, .ref (ad 0)), (1, .int p0), (2, .long p1)] := hl
  refine lv_aload_n hx hb zd_PS_set_0 rfl (lv_at hl 0 rfl) ?_
  refine va_get (D := D) (ci := 9) (v := .ref (ad 1)) (C := zR_PS) (T := zF_PS) (N := 8) hx hb ht zi_PS hown hK hP 0 rfl rfl 0 (by decide) (ht _ zw_607) (fun _ h9 => h9) rfl zd_PS_set_1 ?_
  refine lv_iload_n hx hb zd_PS_set_4 rfl (lv_at hl 1 rfl) ?_
  refine zq_c_Vi (rest := []) (adl := (A_PS_set ad)) (wr := [(ad 0, .inr (9, [.ref (ad 1), .ref (ad 5), .ref (ad 7), .ref (ad 12), .ref (ad 22), .ref (ad 25), .ref (ad 33), .ref (ad 34)])), (ad 2, .inl (kT 1, 24, .inr (.inl rc))), (ad 3, .inl (kT 1, 24, .inr (.inl rv))), (ad 4, .inl (kT 2, 24, .inl rm)), (ad 33, .inr (8, [.ref (ad 1), .ref (ad 5), .ref (ad 12), .ref (ad 22), .ref (ad 25), .ref (ad 32), .ref (ad 34), .int mw, .int mh, .int mk, .int mp]))]) ⟨hx, hb, hml, hown, ht⟩ (c_Registers_has l D kT ad rn p0 _ h) (cwV 1 ht (zq_gV zw_668 zw_145 zw_146 zw_128 zw_147) rfl rfl rfl zh_Registers_has ⟨Nat.le_of_ble_eq_true rfl, Nat.le_of_ble_eq_true rfl⟩) hE hP hD hS hA [1] [0, 2, 3, 4, 5] 6 rfl (by decide +kernel) rfl (by decide +kernel) rfl rfl 0 rfl rfl rfl rfl hl.1 (Nat.le_of_ble_eq_true rfl) rfl zd_PS_set_5 ⟨Nat.zero_le _, Nat.zero_le _⟩ (fun r_1 w1 H locs hw hJ hS => ?_)
  obtain ⟨rfl, h⟩ := hw
  obtain ⟨hP, hD⟩ := hJ (W_PS_set kT ad rn rc rv rm mw mh mk mp) rfl rfl rfl
  refine lv_if_ne (tgt := 21) hx hb zd_PS_set_8 (by decide) (fun c_2 => ?_) (fun c_2 => ?_)
  · have h := zq_if c_2 h
    refine lv_aload_n hx hb zd_PS_set_21 rfl (lv_at hl 0 rfl) ?_
    refine va_get (D := D) (ci := 9) (v := .ref (ad 1)) (C := zR_PS) (T := zF_PS) (N := 8) hx hb ht zi_PS hown hK hP 0 rfl rfl 0 (by decide) (ht _ zw_607) (fun _ h9 => h9) rfl zd_PS_set_22 ?_
    refine lv_iload_n hx hb zd_PS_set_25 rfl (lv_at hl 1 rfl) ?_
    refine zq_c_Vl (rest := []) (adl := (A_PS_set ad)) (wr := [(ad 0, .inr (9, [.ref (ad 1), .ref (ad 5), .ref (ad 7), .ref (ad 12), .ref (ad 22), .ref (ad 25), .ref (ad 33), .ref (ad 34)])), (ad 2, .inl (kT 1, 24, .inr (.inl rc))), (ad 4, .inl (kT 2, 24, .inl rm)), (ad 33, .inr (8, [.ref (ad 1), .ref (ad 5), .ref (ad 12), .ref (ad 22), .ref (ad 25), .ref (ad 32), .ref (ad 34), .int mw, .int mh, .int mk, .int mp]))]) ⟨hx, hb, hml, hown, ht⟩ (c_Registers_valueOf l D kT ad rn rv p0 _ h) (cwV 1 ht (zq_gV zw_689 zw_149 zw_150 zw_128 zw_151) rfl rfl rfl zh_Registers_valueOf ⟨Nat.le_of_ble_eq_true rfl, Nat.le_of_ble_eq_true rfl⟩) hE hP hD hS hA [1, 3] [0, 2, 4, 5] 6 rfl (by decide +kernel) rfl (by decide +kernel) rfl rfl 0 rfl rfl rfl rfl hl.1 (Nat.le_of_ble_eq_true rfl) rfl zd_PS_set_26 ⟨Nat.zero_le _, Nat.zero_le _⟩ (fun r_3 w1 H locs hw hJ hS => ?_)
    obtain ⟨rfl, h⟩ := hw
    obtain ⟨hP, hD⟩ := hJ (W_PS_set kT ad rn rc rv rm mw mh mk mp) rfl rfl rfl
    refine lv_lstore (lv' := [(4, .long r_3), (0, .ref (ad 0)), (1, .int p0), (2, .long p1)]) hx hb zd_PS_set_29 hl (by decide) rfl (fun ls hl => ?_)
    refine lv_aload_n hx hb zd_PS_set_31 rfl (lv_at hl 1 rfl) ?_
    refine va_get (D := D) (ci := 9) (v := .ref (ad 1)) (C := zR_PS) (T := zF_PS) (N := 8) hx hb ht zi_PS hown hK hP 0 rfl rfl 0 (by decide) (ht _ zw_607) (fun _ h9 => h9) rfl zd_PS_set_32 ?_
    refine lv_iload_n hx hb zd_PS_set_35 rfl (lv_at hl 2 rfl) ?_
    refine lv_lload_n hx hb zd_PS_set_36 rfl (lv_at hl 3 rfl) ?_
    refine lv_iconst (v := 0) hx hb zd_PS_set_37 (by decide) ?_
    refine zq_c_Vv (rest := []) (adl := (A_PS_set ad)) (wr := [(ad 0, .inr (9, [.ref (ad 1), .ref (ad 5), .ref (ad 7), .ref (ad 12), .ref (ad 22), .ref (ad 25), .ref (ad 33), .ref (ad 34)])), (ad 33, .inr (8, [.ref (ad 1), .ref (ad 5), .ref (ad 12), .ref (ad 22), .ref (ad 25), .ref (ad 32), .ref (ad 34), .int mw, .int mh, .int mk, .int mp]))]) ⟨hx, hb, hml, hown, ht⟩ (c_Registers_put l D kT ad rn rc rv rm p0 p1 0 _ h) (cwV 3 ht (zq_gV zw_690 zw_126 zw_127 zw_128 zw_129) rfl rfl rfl zh_Registers_put ⟨Nat.le_of_ble_eq_true rfl, Nat.le_of_ble_eq_true rfl⟩) hE hP hD hS hA [1, 2, 3, 4] [0, 5] 6 rfl (by decide +kernel) rfl (by decide +kernel) rfl rfl 0 rfl rfl rfl rfl hl.1 (Nat.le_of_ble_eq_true rfl) rfl zd_PS_set_38 ⟨Nat.zero_le _, Nat.zero_le _⟩ (fun w1 H locs hw hJ hS => ?_)
    obtain ⟨rv_4, rm_5, rfl, h⟩ := hw
    obtain ⟨hP, hD⟩ := hJ (W_PS_set kT ad rn rc rv_4 rm_5 mw mh mk mp) rfl rfl rfl
    refine lv_iload_n hx hb zd_PS_set_41 rfl (lv_at hl 2 rfl) ?_
    refine lv_if_ne (tgt := 52) hx hb zd_PS_set_42 (by decide) (fun c_7 => ?_) (fun c_7 => ?_)
    · have h := zq_if c_7 h
      refine lv_lload hx hb zd_PS_set_52 (lv_at hl 0 rfl) ?_
      exact hret r_3  _ H locs 54 ls ⟨rv_4, rm_5, mw, rfl, h⟩ hP rfl hS zd_PS_set_54
    · have h := zq_it c_7 h
      refine lv_aload_n hx hb zd_PS_set_45 rfl (lv_at hl 1 rfl) ?_
      refine va_get (D := D) (ci := 9) (v := .ref (ad 33)) (C := zR_PS) (T := zF_PS) (N := 8) hx hb ht zi_PS hown hK hP 0 rfl rfl 6 (by decide) (ht _ zw_646) (fun _ h9 => h9) rfl zd_PS_set_46 ?_
      refine zq_c_Vv (rest := []) (adl := (A_PS_set ad)) (wr := [(ad 0, .inr (9, [.ref (ad 1), .ref (ad 5), .ref (ad 7), .ref (ad 12), .ref (ad 22), .ref (ad 25), .ref (ad 33), .ref (ad 34)])), (ad 1, .inr (0, [.ref (ad 2), .ref (ad 3), .ref (ad 4), .int rn])), (ad 2, .inl (kT 1, 24, .inr (.inl rc))), (ad 3, .inl (kT 1, 24, .inr (.inl rv_4))), (ad 4, .inl (kT 2, 24, .inl rm_5))]) ⟨hx, hb, hml, hown, ht⟩ (c_Machine_loseWaiting l D kT ad mw mh mk mp _ h) (cwV 0 ht (zq_gV zw_691 zw_325 zw_326 zw_327 zw_328) rfl rfl rfl zh_Machine_loseWaiting ⟨Nat.le_of_ble_eq_true rfl, Nat.le_of_ble_eq_true rfl⟩) hE hP hD hS hA [5] [0, 1, 2, 3, 4] 6 rfl (by decide +kernel) rfl (by decide +kernel) rfl rfl 0 rfl rfl rfl rfl hl.1 (Nat.le_of_ble_eq_true rfl) rfl zd_PS_set_49 ⟨Nat.zero_le _, Nat.zero_le _⟩ (fun w1 H locs hw hJ hS => ?_)
      obtain ⟨mw_8, rfl, h⟩ := hw
      obtain ⟨hP, hD⟩ := hJ (W_PS_set kT ad rn rc rv_4 rm_5 mw_8 mh mk mp) rfl rfl rfl
      refine lv_lload hx hb zd_PS_set_52 (lv_at hl 0 rfl) ?_
      exact hret r_3  _ H locs 54 ls ⟨rv_4, rm_5, mw_8, rfl, h⟩ hP rfl hS zd_PS_set_54
  · have h := zq_it c_2 h
    exact hthr "java/lang/IndexOutOfBoundsException" "no such register" ["java/lang/RuntimeException", "java/lang/Exception"] 151 120 155 H locs 11 ls [] h (by decide +kernel) (by decide +kernel) zw_681 zw_682 (List.mem_of_getElem? (i := 7) rfl) zt_IndexOutOfBoundsException_a zt_IndexOutOfBoundsException_b hl.1 zd_PS_set_11 zd_PS_set_14 zd_PS_set_15 zd_PS_set_17 zd_PS_set_20 (by decide) (Nat.le_of_ble_eq_true rfl) hP hS
abbrev W_PS_get (kT : Nat → ClassId) (ad : Nat → Nat) (rn : Int32) (rv : Nat → Int64) : va_W := [(ad 0, .inr (9, [.ref (ad 1), .ref (ad 5), .ref (ad 7), .ref (ad 12), .ref (ad 22), .ref (ad 25), .ref (ad 33), .ref (ad 34)])), (ad 1, .inr (0, [.ref (ad 2), .ref (ad 3), .ref (ad 4), .int rn])), (ad 3, .inl (kT 1, 24, .inr (.inl rv)))]
abbrev A_PS_get (ad : Nat → Nat) : List Nat := [ad 0, ad 1, ad 3]
def wp_PS_get (rn : Int32) (rv : Nat → Int64) (p0 : Int32) (post : Int64 → Prop) (px : String → Prop) : Prop := wp_Registers_has rn p0 (fun r_1 => (if r_1 = 0 then px "java/lang/IndexOutOfBoundsException" else wp_Registers_valueOf rn rv p0 (fun r_3 => post r_3 )))
set_option maxHeartbeats 4000000 in
set_option maxRecDepth 100000 in
theorem c_PS_get (l : Launch) (hst : l.stackTraces = false) (D : va_G) (kT : Nat → ClassId) (ad : Nat → Nat) (rn : Int32) (rv : Nat → Int64) (p0 : Int32) (post : Int64 → Prop) (px : String → Prop) (h : wp_PS_get rn rv p0 post px) : zq_MXl l zy_PS_get zs_PS_get ({ frames := 7, cells := 1, slots := 6, locals := 100 }) D kT [.ref (ad 0), .int p0] (W_PS_get kT ad rn rv) (fun r w' => w' = (W_PS_get kT ad rn rv) ∧ post r ) px := by
  refine zq_MXl_of (adl := (A_PS_get ad)) (cc := zb_PS_get) (maxL := 2) (own := zR_PS) hst rfl (by decide) rfl rfl (Nat.le_of_ble_eq_true rfl) (Nat.le_refl _) (Nat.le_refl _) ?_
  intro p e s m AV below meth c A QQ H locs ls hx hb hml hown ht hE hA hthr hret hP hD hS hl
  have hK := hE.1
  have hl : lv_has ls 2 [(0, .ref (ad 0)), (1, .int p0)] := hl
  refine lv_aload_n hx hb zd_PS_get_0 rfl (lv_at hl 0 rfl) ?_
  refine va_get (D := D) (ci := 9) (v := .ref (ad 1)) (C := zR_PS) (T := zF_PS) (N := 8) hx hb ht zi_PS hown hK hP 0 rfl rfl 0 (by decide) (ht _ zw_607) (fun _ h9 => h9) rfl zd_PS_get_1 ?_
  refine lv_iload_n hx hb zd_PS_get_4 rfl (lv_at hl 1 rfl) ?_
  refine zq_c_Vi (rest := []) (adl := (A_PS_get ad)) (wr := [(ad 0, .inr (9, [.ref (ad 1), .ref (ad 5), .ref (ad 7), .ref (ad 12), .ref (ad 22), .ref (ad 25), .ref (ad 33), .ref (ad 34)])), (ad 3, .inl (kT 1, 24, .inr (.inl rv)))]) ⟨hx, hb, hml, hown, ht⟩ (c_Registers_has l D kT ad rn p0 _ h) (cwV 1 ht (zq_gV zw_668 zw_145 zw_146 zw_128 zw_147) rfl rfl rfl zh_Registers_has ⟨Nat.le_of_ble_eq_true rfl, Nat.le_of_ble_eq_true rfl⟩) hE hP hD hS hA [1] [0, 2] 3 rfl (by decide +kernel) rfl (by decide +kernel) rfl rfl 0 rfl rfl rfl rfl hl.1 (Nat.le_of_ble_eq_true rfl) rfl zd_PS_get_5 ⟨Nat.zero_le _, Nat.zero_le _⟩ (fun r_1 w1 H locs hw hJ hS => ?_)
  obtain ⟨rfl, h⟩ := hw
  obtain ⟨hP, hD⟩ := hJ (W_PS_get kT ad rn rv) rfl rfl rfl
  refine lv_if_ne (tgt := 21) hx hb zd_PS_get_8 (by decide) (fun c_2 => ?_) (fun c_2 => ?_)
  · have h := zq_if c_2 h
    refine lv_aload_n hx hb zd_PS_get_21 rfl (lv_at hl 0 rfl) ?_
    refine va_get (D := D) (ci := 9) (v := .ref (ad 1)) (C := zR_PS) (T := zF_PS) (N := 8) hx hb ht zi_PS hown hK hP 0 rfl rfl 0 (by decide) (ht _ zw_607) (fun _ h9 => h9) rfl zd_PS_get_22 ?_
    refine lv_iload_n hx hb zd_PS_get_25 rfl (lv_at hl 1 rfl) ?_
    refine zq_c_Vl (rest := []) (adl := (A_PS_get ad)) (wr := [(ad 0, .inr (9, [.ref (ad 1), .ref (ad 5), .ref (ad 7), .ref (ad 12), .ref (ad 22), .ref (ad 25), .ref (ad 33), .ref (ad 34)]))]) ⟨hx, hb, hml, hown, ht⟩ (c_Registers_valueOf l D kT ad rn rv p0 _ h) (cwV 1 ht (zq_gV zw_689 zw_149 zw_150 zw_128 zw_151) rfl rfl rfl zh_Registers_valueOf ⟨Nat.le_of_ble_eq_true rfl, Nat.le_of_ble_eq_true rfl⟩) hE hP hD hS hA [1, 2] [0] 3 rfl (by decide +kernel) rfl (by decide +kernel) rfl rfl 0 rfl rfl rfl rfl hl.1 (Nat.le_of_ble_eq_true rfl) rfl zd_PS_get_26 ⟨Nat.zero_le _, Nat.zero_le _⟩ (fun r_3 w1 H locs hw hJ hS => ?_)
    obtain ⟨rfl, h⟩ := hw
    obtain ⟨hP, hD⟩ := hJ (W_PS_get kT ad rn rv) rfl rfl rfl
    exact hret r_3  _ H locs 29 ls ⟨rfl, h⟩ hP rfl hS zd_PS_get_29
  · have h := zq_it c_2 h
    exact hthr "java/lang/IndexOutOfBoundsException" "no such register" ["java/lang/RuntimeException", "java/lang/Exception"] 151 120 155 H locs 11 ls [] h (by decide +kernel) (by decide +kernel) zw_681 zw_682 (List.mem_of_getElem? (i := 7) rfl) zt_IndexOutOfBoundsException_a zt_IndexOutOfBoundsException_b hl.1 zd_PS_get_11 zd_PS_get_14 zd_PS_get_15 zd_PS_get_17 zd_PS_get_20 (by decide) (Nat.le_of_ble_eq_true rfl) hP hS
abbrev W_PS_mark (kT : Nat → ClassId) (ad : Nat → Nat) (rn : Int32) (rm : Nat → Int32) : va_W := [(ad 0, .inr (9, [.ref (ad 1), .ref (ad 5), .ref (ad 7), .ref (ad 12), .ref (ad 22), .ref (ad 25), .ref (ad 33), .ref (ad 34)])), (ad 1, .inr (0, [.ref (ad 2), .ref (ad 3), .ref (ad 4), .int rn])), (ad 4, .inl (kT 2, 24, .inl rm))]
abbrev A_PS_mark (ad : Nat → Nat) : List Nat := [ad 0, ad 1, ad 4]
def wp_PS_mark (rn : Int32) (rm : Nat → Int32) (p0 : Int32) (post : Int32 → Prop) (px : String → Prop) : Prop := wp_Registers_has rn p0 (fun r_1 => (if r_1 = 0 then px "java/lang/IndexOutOfBoundsException" else wp_Registers_isMarked rn rm p0 (fun r_3 => zq_bz r_3 ∧ post r_3 )))
set_option maxHeartbeats 4000000 in
set_option maxRecDepth 100000 in
theorem c_PS_mark (l : Launch) (hst : l.stackTraces = false) (D : va_G) (kT : Nat → ClassId) (ad : Nat → Nat) (rn : Int32) (rm : Nat → Int32) (p0 : Int32) (post : Int32 → Prop) (px : String → Prop) (h : wp_PS_mark rn rm p0 post px) : zq_MXi l zy_PS_mark zs_PS_mark ({ frames := 7, cells := 1, slots := 6, locals := 100 }) D kT [.ref (ad 0), .int p0] (W_PS_mark kT ad rn rm) (fun r w' => w' = (W_PS_mark kT ad rn rm) ∧ post r ) px := by
  refine zq_MXz_of (adl := (A_PS_mark ad)) (cc := zb_PS_mark) (maxL := 2) (own := zR_PS) hst rfl (by decide) rfl rfl (Nat.le_of_ble_eq_true rfl) (Nat.le_refl _) (Nat.le_refl _) ?_
  intro p e s m AV below meth c A QQ H locs ls hx hb hml hown ht hE hA hthr hret hP hD hS hl
  have hK := hE.1
  have hl : lv_has ls 2 [(0, .ref (ad 0)), (1, .int p0)] := hl
  refine lv_aload_n hx hb zd_PS_mark_0 rfl (lv_at hl 0 rfl) ?_
  refine va_get (D := D) (ci := 9) (v := .ref (ad 1)) (C := zR_PS) (T := zF_PS) (N := 8) hx hb ht zi_PS hown hK hP 0 rfl rfl 0 (by decide) (ht _ zw_607) (fun _ h9 => h9) rfl zd_PS_mark_1 ?_
  refine lv_iload_n hx hb zd_PS_mark_4 rfl (lv_at hl 1 rfl) ?_
  refine zq_c_Vi (rest := []) (adl := (A_PS_mark ad)) (wr := [(ad 0, .inr (9, [.ref (ad 1), .ref (ad 5), .ref (ad 7), .ref (ad 12), .ref (ad 22), .ref (ad 25), .ref (ad 33), .ref (ad 34)])), (ad 4, .inl (kT 2, 24, .inl rm))]) ⟨hx, hb, hml, hown, ht⟩ (c_Registers_has l D kT ad rn p0 _ h) (cwV 1 ht (zq_gV zw_668 zw_145 zw_146 zw_128 zw_147) rfl rfl rfl zh_Registers_has ⟨Nat.le_of_ble_eq_true rfl, Nat.le_of_ble_eq_true rfl⟩) hE hP hD hS hA [1] [0, 2] 3 rfl (by decide +kernel) rfl (by decide +kernel) rfl rfl 0 rfl rfl rfl rfl hl.1 (Nat.le_of_ble_eq_true rfl) rfl zd_PS_mark_5 ⟨Nat.zero_le _, Nat.zero_le _⟩ (fun r_1 w1 H locs hw hJ hS => ?_)
  obtain ⟨rfl, h⟩ := hw
  obtain ⟨hP, hD⟩ := hJ (W_PS_mark kT ad rn rm) rfl rfl rfl
  refine lv_if_ne (tgt := 21) hx hb zd_PS_mark_8 (by decide) (fun c_2 => ?_) (fun c_2 => ?_)
  · have h := zq_if c_2 h
    refine lv_aload_n hx hb zd_PS_mark_21 rfl (lv_at hl 0 rfl) ?_
    refine va_get (D := D) (ci := 9) (v := .ref (ad 1)) (C := zR_PS) (T := zF_PS) (N := 8) hx hb ht zi_PS hown hK hP 0 rfl rfl 0 (by decide) (ht _ zw_607) (fun _ h9 => h9) rfl zd_PS_mark_22 ?_
    refine lv_iload_n hx hb zd_PS_mark_25 rfl (lv_at hl 1 rfl) ?_
    refine zq_c_Vi (rest := []) (adl := (A_PS_mark ad)) (wr := [(ad 0, .inr (9, [.ref (ad 1), .ref (ad 5), .ref (ad 7), .ref (ad 12), .ref (ad 22), .ref (ad 25), .ref (ad 33), .ref (ad 34)]))]) ⟨hx, hb, hml, hown, ht⟩ (c_Registers_isMarked l D kT ad rn rm p0 _ h) (cwV 1 ht (zq_gV zw_692 zw_158 zw_159 zw_128 zw_160) rfl rfl rfl zh_Registers_isMarked ⟨Nat.le_of_ble_eq_true rfl, Nat.le_of_ble_eq_true rfl⟩) hE hP hD hS hA [1, 2] [0] 3 rfl (by decide +kernel) rfl (by decide +kernel) rfl rfl 0 rfl rfl rfl rfl hl.1 (Nat.le_of_ble_eq_true rfl) rfl zd_PS_mark_26 ⟨Nat.zero_le _, Nat.zero_le _⟩ (fun r_3 w1 H locs hw hJ hS => ?_)
    obtain ⟨rfl, h⟩ := hw
    obtain ⟨hP, hD⟩ := hJ (W_PS_mark kT ad rn rm) rfl rfl rfl
    obtain ⟨hb_4, h⟩ := h
    exact hret r_3 (zq_bzn hb_4) _ H locs 29 ls ⟨rfl, h⟩ hP rfl hS zd_PS_mark_29
  · have h := zq_it c_2 h
    exact hthr "java/lang/IndexOutOfBoundsException" "no such register" ["java/lang/RuntimeException", "java/lang/Exception"] 151 120 155 H locs 11 ls [] h (by decide +kernel) (by decide +kernel) zw_681 zw_682 (List.mem_of_getElem? (i := 7) rfl) zt_IndexOutOfBoundsException_a zt_IndexOutOfBoundsException_b hl.1 zd_PS_mark_11 zd_PS_mark_14 zd_PS_mark_15 zd_PS_mark_17 zd_PS_mark_20 (by decide) (Nat.le_of_ble_eq_true rfl) hP hS
abbrev W_PS_line (kT : Nat → ClassId) (ad : Nat → Nat) (lo : Nat → Int32) : va_W := [(ad 0, .inr (9, [.ref (ad 1), .ref (ad 5), .ref (ad 7), .ref (ad 12), .ref (ad 22), .ref (ad 25), .ref (ad 33), .ref (ad 34)])), (ad 25, .inr (5, [.ref (ad 26), .ref (ad 27)])), (ad 26, .inl (kT 2, 8, .inl lo))]
abbrev A_PS_line (ad : Nat → Nat) : List Nat := [ad 0, ad 25, ad 26]
def wp_PS_line (lo : Nat → Int32) (p0 : Int32) (p1 : Int32) (post : Int32 → (Nat → Int32) → Prop) (px : String → Prop) : Prop := wp_Lines_has p0 (fun r_1 => (if r_1 = 0 then px "java/lang/IndexOutOfBoundsException" else wp_Lines_turn lo p0 p1 (fun r_4 lo_3 => zq_bz r_4 ∧ post r_4 lo_3)))
set_option maxHeartbeats 4000000 in
set_option maxRecDepth 100000 in
theorem c_PS_line (l : Launch) (hst : l.stackTraces = false) (D : va_G) (kT : Nat → ClassId) (ad : Nat → Nat) (lo : Nat → Int32) (p0 : Int32) (p1 : Int32) (post : Int32 → (Nat → Int32) → Prop) (px : String → Prop) (h : wp_PS_line lo p0 p1 post px) : zq_MXi l zy_PS_line zs_PS_line ({ frames := 7, cells := 1, slots := 6, locals := 100 }) D kT [.ref (ad 0), .int p0, .int p1] (W_PS_line kT ad lo) (fun r w' => ∃ (lo' : Nat → Int32), w' = (W_PS_line kT ad lo') ∧ post r lo') px := by
  refine zq_MXz_of (adl := (A_PS_line ad)) (cc := zb_PS_line) (maxL := 3) (own := zR_PS) hst rfl (by decide) rfl rfl (Nat.le_of_ble_eq_true rfl) (Nat.le_refl _) (Nat.le_refl _) ?_
  intro p e s m AV below meth c A QQ H locs ls hx hb hml hown ht hE hA hthr hret hP hD hS hl
  have hK := hE.1
  have hl : lv_has ls 3 [(0, .ref (ad 0)), (1, .int p0), (2, .int p1)] := hl
  refine lv_aload_n hx hb zd_PS_line_0 rfl (lv_at hl 0 rfl) ?_
  refine va_get (D := D) (ci := 9) (v := .ref (ad 25)) (C := zR_PS) (T := zF_PS) (N := 8) hx hb ht zi_PS hown hK hP 0 rfl rfl 5 (by decide) (ht _ zw_634) (fun _ h9 => h9) rfl zd_PS_line_1 ?_
  refine lv_iload_n hx hb zd_PS_line_4 rfl (lv_at hl 1 rfl) ?_
  refine zq_c_Vi (rest := []) (adl := (A_PS_line ad)) (wr := [(ad 0, .inr (9, [.ref (ad 1), .ref (ad 5), .ref (ad 7), .ref (ad 12), .ref (ad 22), .ref (ad 25), .ref (ad 33), .ref (ad 34)])), (ad 26, .inl (kT 2, 8, .inl lo))]) ⟨hx, hb, hml, hown, ht⟩ (c_Lines_has l D kT ad p0 _ h) (cwV 1 ht (zq_gV zw_693 zw_694 zw_695 zw_344 zw_696) rfl rfl rfl zh_Lines_has ⟨Nat.le_of_ble_eq_true rfl, Nat.le_of_ble_eq_true rfl⟩) hE hP hD hS hA [1] [0, 2] 3 rfl (by decide +kernel) rfl (by decide +kernel) rfl rfl 0 rfl rfl rfl rfl hl.1 (Nat.le_of_ble_eq_true rfl) rfl zd_PS_line_5 ⟨Nat.zero_le _, Nat.zero_le _⟩ (fun r_1 w1 H locs hw hJ hS => ?_)
  obtain ⟨rfl, h⟩ := hw
  obtain ⟨hP, hD⟩ := hJ (W_PS_line kT ad lo) rfl rfl rfl
  refine lv_if_ne (tgt := 21) hx hb zd_PS_line_8 (by decide) (fun c_2 => ?_) (fun c_2 => ?_)
  · have h := zq_if c_2 h
    refine lv_aload_n hx hb zd_PS_line_21 rfl (lv_at hl 0 rfl) ?_
    refine va_get (D := D) (ci := 9) (v := .ref (ad 25)) (C := zR_PS) (T := zF_PS) (N := 8) hx hb ht zi_PS hown hK hP 0 rfl rfl 5 (by decide) (ht _ zw_634) (fun _ h9 => h9) rfl zd_PS_line_22 ?_
    refine lv_iload_n hx hb zd_PS_line_25 rfl (lv_at hl 1 rfl) ?_
    refine lv_iload_n hx hb zd_PS_line_26 rfl (lv_at hl 2 rfl) ?_
    refine zq_c_Vi (rest := []) (adl := (A_PS_line ad)) (wr := [(ad 0, .inr (9, [.ref (ad 1), .ref (ad 5), .ref (ad 7), .ref (ad 12), .ref (ad 22), .ref (ad 25), .ref (ad 33), .ref (ad 34)]))]) ⟨hx, hb, hml, hown, ht⟩ (c_Lines_turn l D kT ad lo p0 p1 _ h) (cwV 2 ht (zq_gV zw_697 zw_698 zw_699 zw_344 zw_700) rfl rfl rfl zh_Lines_turn ⟨Nat.le_of_ble_eq_true rfl, Nat.le_of_ble_eq_true rfl⟩) hE hP hD hS hA [1, 2] [0] 3 rfl (by decide +kernel) rfl (by decide +kernel) rfl rfl 0 rfl rfl rfl rfl hl.1 (Nat.le_of_ble_eq_true rfl) rfl zd_PS_line_27 ⟨Nat.zero_le _, Nat.zero_le _⟩ (fun r_4 w1 H locs hw hJ hS => ?_)
    obtain ⟨lo_3, rfl, h⟩ := hw
    obtain ⟨hP, hD⟩ := hJ (W_PS_line kT ad lo_3) rfl rfl rfl
    obtain ⟨hb_5, h⟩ := h
    exact hret r_4 (zq_bzn hb_5) _ H locs 30 ls ⟨lo_3, rfl, h⟩ hP rfl hS zd_PS_line_30
  · have h := zq_it c_2 h
    exact hthr "java/lang/IndexOutOfBoundsException" "no such line" ["java/lang/RuntimeException", "java/lang/Exception"] 151 193 155 H locs 11 ls [] h (by decide +kernel) (by decide +kernel) zw_681 zw_682 (List.mem_of_getElem? (i := 17) rfl) zt_IndexOutOfBoundsException_a zt_IndexOutOfBoundsException_b hl.1 zd_PS_line_11 zd_PS_line_14 zd_PS_line_15 zd_PS_line_17 zd_PS_line_20 (by decide) (Nat.le_of_ble_eq_true rfl) hP hS
abbrev W_PS_enable (kT : Nat → ClassId) (ad : Nat → Nat) (lr : Nat → Int32) : va_W := [(ad 0, .inr (9, [.ref (ad 1), .ref (ad 5), .ref (ad 7), .ref (ad 12), .ref (ad 22), .ref (ad 25), .ref (ad 33), .ref (ad 34)])), (ad 25, .inr (5, [.ref (ad 26), .ref (ad 27)])), (ad 27, .inl (kT 0, 8, .inl lr))]
abbrev A_PS_enable (ad : Nat → Nat) : List Nat := [ad 0, ad 25, ad 27]
def wp_PS_enable (lr : Nat → Int32) (p0 : Int32) (p1 : Int32) (post : Int32 → (Nat → Int32) → Prop) (px : String → Prop) : Prop := wp_Lines_has p0 (fun r_1 => (if r_1 = 0 then px "java/lang/IndexOutOfBoundsException" else (if p1 < 0 then px "java/lang/IllegalArgumentException" else (if p1 ≤ 14 then wp_Lines_giveRank lr p0 p1 (fun r_6 lr_5 => post r_6 lr_5) else px "java/lang/IllegalArgumentException"))))
set_option maxHeartbeats 4000000 in
set_option maxRecDepth 100000 in
theorem c_PS_enable (l : Launch) (hst : l.stackTraces = false) (D : va_G) (kT : Nat → ClassId) (ad : Nat → Nat) (lr : Nat → Int32) (p0 : Int32) (p1 : Int32) (post : Int32 → (Nat → Int32) → Prop) (px : String → Prop) (h : wp_PS_enable lr p0 p1 post px) : zq_MXi l zy_PS_enable zs_PS_enable ({ frames := 7, cells := 1, slots := 6, locals := 100 }) D kT [.ref (ad 0), .int p0, .int p1] (W_PS_enable kT ad lr) (fun r w' => ∃ (lr' : Nat → Int32), w' = (W_PS_enable kT ad lr') ∧ post r lr') px := by
  refine zq_MXi_of (adl := (A_PS_enable ad)) (cc := zb_PS_enable) (maxL := 3) (own := zR_PS) hst rfl (by decide) rfl rfl (Nat.le_of_ble_eq_true rfl) (Nat.le_refl _) (Nat.le_refl _) ?_
  intro p e s m AV below meth c A QQ H locs ls hx hb hml hown ht hE hA hthr hret hP hD hS hl
  have hK := hE.1
  have hl : lv_has ls 3 [(0, .ref (ad 0)), (1, .int p0), (2, .int p1)] := hl
  refine lv_aload_n hx hb zd_PS_enable_0 rfl (lv_at hl 0 rfl) ?_
  refine va_get (D := D) (ci := 9) (v := .ref (ad 25)) (C := zR_PS) (T := zF_PS) (N := 8) hx hb ht zi_PS hown hK hP 0 rfl rfl 5 (by decide) (ht _ zw_634) (fun _ h9 => h9) rfl zd_PS_enable_1 ?_
  refine lv_iload_n hx hb zd_PS_enable_4 rfl (lv_at hl 1 rfl) ?_
  refine zq_c_Vi (rest := []) (adl := (A_PS_enable ad)) (wr := [(ad 0, .inr (9, [.ref (ad 1), .ref (ad 5), .ref (ad 7), .ref (ad 12), .ref (ad 22), .ref (ad 25), .ref (ad 33), .ref (ad 34)])), (ad 27, .inl (kT 0, 8, .inl lr))]) ⟨hx, hb, hml, hown, ht⟩ (c_Lines_has l D kT ad p0 _ h) (cwV 1 ht (zq_gV zw_693 zw_694 zw_695 zw_344 zw_696) rfl rfl rfl zh_Lines_has ⟨Nat.le_of_ble_eq_true rfl, Nat.le_of_ble_eq_true rfl⟩) hE hP hD hS hA [1] [0, 2] 3 rfl (by decide +kernel) rfl (by decide +kernel) rfl rfl 0 rfl rfl rfl rfl hl.1 (Nat.le_of_ble_eq_true rfl) rfl zd_PS_enable_5 ⟨Nat.zero_le _, Nat.zero_le _⟩ (fun r_1 w1 H locs hw hJ hS => ?_)
  obtain ⟨rfl, h⟩ := hw
  obtain ⟨hP, hD⟩ := hJ (W_PS_enable kT ad lr) rfl rfl rfl
  refine lv_if_ne (tgt := 21) hx hb zd_PS_enable_8 (by decide) (fun c_2 => ?_) (fun c_2 => ?_)
  · have h := zq_if c_2 h
    refine lv_iload_n hx hb zd_PS_enable_21 rfl (lv_at hl 2 rfl) ?_
    refine lv_if_lt (tgt := 31) hx hb zd_PS_enable_22 (by decide) (fun c_3 => ?_) (fun c_3 => ?_)
    · have h := zq_it c_3 h
      exact hthr "java/lang/IllegalArgumentException" "a rank is 0 to 14" ["java/lang/RuntimeException", "java/lang/Exception"] 71 199 75 H locs 31 ls [] h (by decide +kernel) (by decide +kernel) zw_648 zw_649 (List.mem_of_getElem? (i := 18) rfl) zt_IllegalArgumentException_a zt_IllegalArgumentException_b hl.1 zd_PS_enable_31 zd_PS_enable_34 zd_PS_enable_35 zd_PS_enable_37 zd_PS_enable_40 (by decide) (Nat.le_of_ble_eq_true rfl) hP hS
    · have h := zq_if c_3 h
      refine lv_iload_n hx hb zd_PS_enable_25 rfl (lv_at hl 2 rfl) ?_
      refine lv_bipush (v := 14) hx hb zd_PS_enable_26 (by decide) ?_
      refine lv_icmp_le (tgt := 41) hx hb zd_PS_enable_28 (by decide) (fun c_4 => ?_) (fun c_4 => ?_)
      · have h := zq_it c_4 h
        refine lv_aload_n hx hb zd_PS_enable_41 rfl (lv_at hl 0 rfl) ?_
        refine va_get (D := D) (ci := 9) (v := .ref (ad 25)) (C := zR_PS) (T := zF_PS) (N := 8) hx hb ht zi_PS hown hK hP 0 rfl rfl 5 (by decide) (ht _ zw_634) (fun _ h9 => h9) rfl zd_PS_enable_42 ?_
        refine lv_iload_n hx hb zd_PS_enable_45 rfl (lv_at hl 1 rfl) ?_
        refine lv_iload_n hx hb zd_PS_enable_46 rfl (lv_at hl 2 rfl) ?_
        refine zq_c_Vi (rest := []) (adl := (A_PS_enable ad)) (wr := [(ad 0, .inr (9, [.ref (ad 1), .ref (ad 5), .ref (ad 7), .ref (ad 12), .ref (ad 22), .ref (ad 25), .ref (ad 33), .ref (ad 34)]))]) ⟨hx, hb, hml, hown, ht⟩ (c_Lines_giveRank l D kT ad lr p0 p1 _ h) (cwV 2 ht (zq_gV zw_701 zw_702 zw_703 zw_344 zw_704) rfl rfl rfl zh_Lines_giveRank ⟨Nat.le_of_ble_eq_true rfl, Nat.le_of_ble_eq_true rfl⟩) hE hP hD hS hA [1, 2] [0] 3 rfl (by decide +kernel) rfl (by decide +kernel) rfl rfl 0 rfl rfl rfl rfl hl.1 (Nat.le_of_ble_eq_true rfl) rfl zd_PS_enable_47 ⟨Nat.zero_le _, Nat.zero_le _⟩ (fun r_6 w1 H locs hw hJ hS => ?_)
        obtain ⟨lr_5, rfl, h⟩ := hw
        obtain ⟨hP, hD⟩ := hJ (W_PS_enable kT ad lr_5) rfl rfl rfl
        exact hret r_6  _ H locs 50 ls ⟨lr_5, rfl, h⟩ hP rfl hS zd_PS_enable_50
      · have h := zq_if c_4 h
        exact hthr "java/lang/IllegalArgumentException" "a rank is 0 to 14" ["java/lang/RuntimeException", "java/lang/Exception"] 71 199 75 H locs 31 ls [] h (by decide +kernel) (by decide +kernel) zw_648 zw_649 (List.mem_of_getElem? (i := 18) rfl) zt_IllegalArgumentException_a zt_IllegalArgumentException_b hl.1 zd_PS_enable_31 zd_PS_enable_34 zd_PS_enable_35 zd_PS_enable_37 zd_PS_enable_40 (by decide) (Nat.le_of_ble_eq_true rfl) hP hS
  · have h := zq_it c_2 h
    exact hthr "java/lang/IndexOutOfBoundsException" "no such line" ["java/lang/RuntimeException", "java/lang/Exception"] 151 193 155 H locs 11 ls [] h (by decide +kernel) (by decide +kernel) zw_681 zw_682 (List.mem_of_getElem? (i := 17) rfl) zt_IndexOutOfBoundsException_a zt_IndexOutOfBoundsException_b hl.1 zd_PS_enable_11 zd_PS_enable_14 zd_PS_enable_15 zd_PS_enable_17 zd_PS_enable_20 (by decide) (Nat.le_of_ble_eq_true rfl) hP hS
abbrev W_PS_fault (kT : Nat → ClassId) (ad : Nat → Nat) (mw : Int32) (mh : Int32) (mk : Int32) (mp : Int32) : va_W := [(ad 0, .inr (9, [.ref (ad 1), .ref (ad 5), .ref (ad 7), .ref (ad 12), .ref (ad 22), .ref (ad 25), .ref (ad 33), .ref (ad 34)])), (ad 33, .inr (8, [.ref (ad 1), .ref (ad 5), .ref (ad 12), .ref (ad 22), .ref (ad 25), .ref (ad 32), .ref (ad 34), .int mw, .int mh, .int mk, .int mp]))]
abbrev A_PS_fault (ad : Nat → Nat) : List Nat := [ad 0, ad 33]
def wp_PS_fault (mw : Int32) (mh : Int32) (mk : Int32) (mp : Int32) (p0 : Int32) (post : Int32 → Prop) (px : String → Prop) : Prop := (if p0 < 0 then px "java/lang/IndexOutOfBoundsException" else (if p0 ≤ 1 then (if p0 = 0 then post mk  else post mp ) else px "java/lang/IndexOutOfBoundsException"))
set_option maxHeartbeats 4000000 in
set_option maxRecDepth 100000 in
theorem c_PS_fault (l : Launch) (hst : l.stackTraces = false) (D : va_G) (kT : Nat → ClassId) (ad : Nat → Nat) (mw : Int32) (mh : Int32) (mk : Int32) (mp : Int32) (p0 : Int32) (post : Int32 → Prop) (px : String → Prop) (h : wp_PS_fault mw mh mk mp p0 post px) : zq_MXi l zy_PS_fault zs_PS_fault ({ frames := 7, cells := 1, slots := 6, locals := 100 }) D kT [.ref (ad 0), .int p0] (W_PS_fault kT ad mw mh mk mp) (fun r w' => w' = (W_PS_fault kT ad mw mh mk mp) ∧ post r ) px := by
  refine zq_MXi_of (adl := (A_PS_fault ad)) (cc := zb_PS_fault) (maxL := 2) (own := zR_PS) hst rfl (by decide) rfl rfl (Nat.le_of_ble_eq_true rfl) (Nat.le_refl _) (Nat.le_refl _) ?_
  intro p e s m AV below meth c A QQ H locs ls hx hb hml hown ht hE hA hthr hret hP hD hS hl
  have hK := hE.1
  have hl : lv_has ls 2 [(0, .ref (ad 0)), (1, .int p0)] := hl
  unfold wp_PS_fault at h
  refine lv_iload_n hx hb zd_PS_fault_0 rfl (lv_at hl 1 rfl) ?_
  refine lv_if_lt (tgt := 9) hx hb zd_PS_fault_1 (by decide) (fun c_1 => ?_) (fun c_1 => ?_)
  · have h := zq_it c_1 h
    exact hthr "java/lang/IndexOutOfBoundsException" "0 for the kind, 1 for the place" ["java/lang/RuntimeException", "java/lang/Exception"] 151 205 155 H locs 9 ls [] h (by decide +kernel) (by decide +kernel) zw_681 zw_682 (List.mem_of_getElem? (i := 19) rfl) zt_IndexOutOfBoundsException_a zt_IndexOutOfBoundsException_b hl.1 zd_PS_fault_9 zd_PS_fault_12 zd_PS_fault_13 zd_PS_fault_15 zd_PS_fault_18 (by decide) (Nat.le_of_ble_eq_true rfl) hP hS
  · have h := zq_if c_1 h
    refine lv_iload_n hx hb zd_PS_fault_4 rfl (lv_at hl 1 rfl) ?_
    refine lv_iconst (v := 1) hx hb zd_PS_fault_5 (by decide) ?_
    refine lv_icmp_le (tgt := 19) hx hb zd_PS_fault_6 (by decide) (fun c_2 => ?_) (fun c_2 => ?_)
    · have h := zq_it c_2 h
      refine lv_iload_n hx hb zd_PS_fault_19 rfl (lv_at hl 1 rfl) ?_
      refine lv_if_ne (tgt := 33) hx hb zd_PS_fault_20 (by decide) (fun c_3 => ?_) (fun c_3 => ?_)
      · have h := zq_if c_3 h
        refine lv_aload_n hx hb zd_PS_fault_33 rfl (lv_at hl 0 rfl) ?_
        refine va_get (D := D) (ci := 9) (v := .ref (ad 33)) (C := zR_PS) (T := zF_PS) (N := 8) hx hb ht zi_PS hown hK hP 0 rfl rfl 6 (by decide) (ht _ zw_646) (fun _ h9 => h9) rfl zd_PS_fault_34 ?_
        refine va_getN (D := D) (ci := 8) (v := .int mp) (C := zR_Machine) (T := zF_Machine) (N := 11) hx hb ht zi_Machine hown hK hP 1 rfl rfl 10 (by decide) (hE.nw zx_23) (fun _ h9 => h9) rfl zd_PS_fault_37 ?_
        exact hret mp  _ H locs 40 ls ⟨rfl, h⟩ hP rfl hS zd_PS_fault_40
      · have h := zq_it c_3 h
        refine lv_aload_n hx hb zd_PS_fault_23 rfl (lv_at hl 0 rfl) ?_
        refine va_get (D := D) (ci := 9) (v := .ref (ad 33)) (C := zR_PS) (T := zF_PS) (N := 8) hx hb ht zi_PS hown hK hP 0 rfl rfl 6 (by decide) (ht _ zw_646) (fun _ h9 => h9) rfl zd_PS_fault_24 ?_
        refine va_getN (D := D) (ci := 8) (v := .int mk) (C := zR_Machine) (T := zF_Machine) (N := 11) hx hb ht zi_Machine hown hK hP 1 rfl rfl 9 (by decide) (hE.nw zx_22) (fun _ h9 => h9) rfl zd_PS_fault_27 ?_
        refine lv_goto (tgt := 40) hx hb zd_PS_fault_30 (by decide) ?_
        exact hret mk  _ H locs 40 ls ⟨rfl, h⟩ hP rfl hS zd_PS_fault_40
    · have h := zq_if c_2 h
      exact hthr "java/lang/IndexOutOfBoundsException" "0 for the kind, 1 for the place" ["java/lang/RuntimeException", "java/lang/Exception"] 151 205 155 H locs 9 ls [] h (by decide +kernel) (by decide +kernel) zw_681 zw_682 (List.mem_of_getElem? (i := 19) rfl) zt_IndexOutOfBoundsException_a zt_IndexOutOfBoundsException_b hl.1 zd_PS_fault_9 zd_PS_fault_12 zd_PS_fault_13 zd_PS_fault_15 zd_PS_fault_18 (by decide) (Nat.le_of_ble_eq_true rfl) hP hS
abbrev W_PS_halted (kT : Nat → ClassId) (ad : Nat → Nat) (mw : Int32) (mh : Int32) (mk : Int32) (mp : Int32) : va_W := [(ad 0, .inr (9, [.ref (ad 1), .ref (ad 5), .ref (ad 7), .ref (ad 12), .ref (ad 22), .ref (ad 25), .ref (ad 33), .ref (ad 34)])), (ad 33, .inr (8, [.ref (ad 1), .ref (ad 5), .ref (ad 12), .ref (ad 22), .ref (ad 25), .ref (ad 32), .ref (ad 34), .int mw, .int mh, .int mk, .int mp]))]
abbrev A_PS_halted (ad : Nat → Nat) : List Nat := [ad 0, ad 33]
def wp_PS_halted (mw : Int32) (mh : Int32) (mk : Int32) (mp : Int32)  (post : Int32 → Prop) : Prop := post mh 
set_option maxHeartbeats 4000000 in
set_option maxRecDepth 100000 in
theorem c_PS_halted (l : Launch) (D : va_G) (kT : Nat → ClassId) (ad : Nat → Nat) (mw : Int32) (mh : Int32) (mk : Int32) (mp : Int32)  (post : Int32 → Prop) (h : wp_PS_halted mw mh mk mp  post) : zq_Mi l zy_PS_halted zs_PS_halted ({ frames := 0, cells := 0, slots := 0, locals := 0 }) D kT [.ref (ad 0)] (W_PS_halted kT ad mw mh mk mp) (fun r w' => w' = (W_PS_halted kT ad mw mh mk mp) ∧ post r ) := by
  refine zq_Mi_of (adl := (A_PS_halted ad)) (cc := zb_PS_halted) (maxL := 1) (own := zR_PS) rfl (by decide) rfl rfl (Nat.le_of_ble_eq_true rfl) ?_
  intro p e s m AV below meth c A QQ H locs ls hx hb hml hown ht hE hA hret hP hD hS hl
  have hK := hE.1
  have hl : lv_has ls 1 [(0, .ref (ad 0))] := hl
  refine lv_aload_n hx hb zd_PS_halted_0 rfl (lv_at hl 0 rfl) ?_
  refine va_get (D := D) (ci := 9) (v := .ref (ad 33)) (C := zR_PS) (T := zF_PS) (N := 8) hx hb ht zi_PS hown hK hP 0 rfl rfl 6 (by decide) (ht _ zw_646) (fun _ h9 => h9) rfl zd_PS_halted_1 ?_
  refine va_getN (D := D) (ci := 8) (v := .int mh) (C := zR_Machine) (T := zF_Machine) (N := 11) hx hb ht zi_Machine hown hK hP 1 rfl rfl 8 (by decide) (hE.nw zx_21) (fun _ h9 => h9) rfl zd_PS_halted_4 ?_
  exact hret mh  _ H locs 7 ls ⟨rfl, h⟩ hP rfl hS zd_PS_halted_7
abbrev W_PS_counter (kT : Nat → ClassId) (ad : Nat → Nat) (kn : Int32) (kv : Int32) (cn : Nat → Int32) : va_W := [(ad 0, .inr (9, [.ref (ad 1), .ref (ad 5), .ref (ad 7), .ref (ad 12), .ref (ad 22), .ref (ad 25), .ref (ad 33), .ref (ad 34)])), (ad 22, .inr (4, [.ref (ad 23), .ref (ad 24), .int kn, .int kv])), (ad 34, .inl (kT 0, 9, .inl cn))]
abbrev A_PS_counter (ad : Nat → Nat) : List Nat := [ad 0, ad 22, ad 34]
def wp_PS_counter (kn : Int32) (kv : Int32) (cn : Nat → Int32) (p0 : Int32) (post : Int32 → Prop) (px : String → Prop) : Prop := (if p0 < 0 then px "java/lang/IndexOutOfBoundsException" else (if p0 < 9 then (if p0 = 6 then post kv  else (if p0 = 7 then post kn  else vp_in p0 9 ∧ post (cn p0.toNatClampNeg) )) else px "java/lang/IndexOutOfBoundsException"))
set_option maxHeartbeats 4000000 in
set_option maxRecDepth 100000 in
theorem c_PS_counter (l : Launch) (hst : l.stackTraces = false) (D : va_G) (kT : Nat → ClassId) (ad : Nat → Nat) (kn : Int32) (kv : Int32) (cn : Nat → Int32) (p0 : Int32) (post : Int32 → Prop) (px : String → Prop) (h : wp_PS_counter kn kv cn p0 post px) : zq_MXi l zy_PS_counter zs_PS_counter ({ frames := 7, cells := 1, slots := 6, locals := 100 }) D kT [.ref (ad 0), .int p0] (W_PS_counter kT ad kn kv cn) (fun r w' => w' = (W_PS_counter kT ad kn kv cn) ∧ post r ) px := by
  refine zq_MXi_of (adl := (A_PS_counter ad)) (cc := zb_PS_counter) (maxL := 2) (own := zR_PS) hst rfl (by decide) rfl rfl (Nat.le_of_ble_eq_true rfl) (Nat.le_refl _) (Nat.le_refl _) ?_
  intro p e s m AV below meth c A QQ H locs ls hx hb hml hown ht hE hA hthr hret hP hD hS hl
  have hK := hE.1
  have hl : lv_has ls 2 [(0, .ref (ad 0)), (1, .int p0)] := hl
  unfold wp_PS_counter at h
  refine lv_iload_n hx hb zd_PS_counter_0 rfl (lv_at hl 1 rfl) ?_
  refine lv_if_lt (tgt := 10) hx hb zd_PS_counter_1 (by decide) (fun c_1 => ?_) (fun c_1 => ?_)
  · have h := zq_it c_1 h
    exact hthr "java/lang/IndexOutOfBoundsException" "no such counter" ["java/lang/RuntimeException", "java/lang/Exception"] 151 213 155 H locs 10 ls [] h (by decide +kernel) (by decide +kernel) zw_681 zw_682 (List.mem_of_getElem? (i := 20) rfl) zt_IndexOutOfBoundsException_a zt_IndexOutOfBoundsException_b hl.1 zd_PS_counter_10 zd_PS_counter_13 zd_PS_counter_14 zd_PS_counter_16 zd_PS_counter_19 (by decide) (Nat.le_of_ble_eq_true rfl) hP hS
  · have h := zq_if c_1 h
    refine lv_iload_n hx hb zd_PS_counter_4 rfl (lv_at hl 1 rfl) ?_
    refine lv_bipush (v := 9) hx hb zd_PS_counter_5 (by decide) ?_
    refine lv_icmp_lt (tgt := 20) hx hb zd_PS_counter_7 (by decide) (fun c_2 => ?_) (fun c_2 => ?_)
    · have h := zq_it c_2 h
      refine lv_iload_n hx hb zd_PS_counter_20 rfl (lv_at hl 1 rfl) ?_
      refine lv_bipush (v := 6) hx hb zd_PS_counter_21 (by decide) ?_
      refine lv_icmp_ne (tgt := 34) hx hb zd_PS_counter_23 (by decide) (fun c_3 => ?_) (fun c_3 => ?_)
      · have h := zq_if c_3 h
        refine lv_iload_n hx hb zd_PS_counter_34 rfl (lv_at hl 1 rfl) ?_
        refine lv_bipush (v := 7) hx hb zd_PS_counter_35 (by decide) ?_
        refine lv_icmp_ne (tgt := 50) hx hb zd_PS_counter_37 (by decide) (fun c_4 => ?_) (fun c_4 => ?_)
        · have h := zq_if c_4 h
          refine lv_aload_n hx hb zd_PS_counter_50 rfl (lv_at hl 0 rfl) ?_
          refine va_get (D := D) (ci := 9) (v := .ref (ad 34)) (C := zR_PS) (T := zF_PS) (N := 8) hx hb ht zi_PS hown hK hP 0 rfl rfl 7 (by decide) (ht _ zw_635) (fun _ h9 => h9) rfl zd_PS_counter_51 ?_
          refine lv_iload_n hx hb zd_PS_counter_54 rfl (lv_at hl 1 rfl) ?_
          obtain ⟨hi_5, h⟩ := h
          refine zq_a_iald (D := D) hx hb hK hP 2 0 rfl rfl hi_5 rfl zd_PS_counter_55 ?_
          exact hret (cn p0.toNatClampNeg)  _ H locs 56 ls ⟨rfl, h⟩ hP rfl hS zd_PS_counter_56
        · have h := zq_it c_4 h
          refine lv_aload_n hx hb zd_PS_counter_40 rfl (lv_at hl 0 rfl) ?_
          refine va_get (D := D) (ci := 9) (v := .ref (ad 22)) (C := zR_PS) (T := zF_PS) (N := 8) hx hb ht zi_PS hown hK hP 0 rfl rfl 4 (by decide) (ht _ zw_628) (fun _ h9 => h9) rfl zd_PS_counter_41 ?_
          refine va_getN (D := D) (ci := 4) (v := .int kn) (C := zR_Kept) (T := zF_Kept) (N := 4) hx hb ht zi_Kept hown hK hP 1 rfl rfl 2 (by decide) (hE.nw zx_15) (fun _ h9 => h9) rfl zd_PS_counter_44 ?_
          refine lv_goto (tgt := 56) hx hb zd_PS_counter_47 (by decide) ?_
          exact hret kn  _ H locs 56 ls ⟨rfl, h⟩ hP rfl hS zd_PS_counter_56
      · have h := zq_it c_3 h
        refine lv_aload_n hx hb zd_PS_counter_26 rfl (lv_at hl 0 rfl) ?_
        refine va_get (D := D) (ci := 9) (v := .ref (ad 22)) (C := zR_PS) (T := zF_PS) (N := 8) hx hb ht zi_PS hown hK hP 0 rfl rfl 4 (by decide) (ht _ zw_628) (fun _ h9 => h9) rfl zd_PS_counter_27 ?_
        refine va_getN (D := D) (ci := 4) (v := .int kv) (C := zR_Kept) (T := zF_Kept) (N := 4) hx hb ht zi_Kept hown hK hP 1 rfl rfl 3 (by decide) (hE.nw zx_18) (fun _ h9 => h9) rfl zd_PS_counter_30 ?_
        exact hret kv  _ H locs 33 ls ⟨rfl, h⟩ hP rfl hS zd_PS_counter_33
    · have h := zq_if c_2 h
      exact hthr "java/lang/IndexOutOfBoundsException" "no such counter" ["java/lang/RuntimeException", "java/lang/Exception"] 151 213 155 H locs 10 ls [] h (by decide +kernel) (by decide +kernel) zw_681 zw_682 (List.mem_of_getElem? (i := 20) rfl) zt_IndexOutOfBoundsException_a zt_IndexOutOfBoundsException_b hl.1 zd_PS_counter_10 zd_PS_counter_13 zd_PS_counter_14 zd_PS_counter_16 zd_PS_counter_19 (by decide) (Nat.le_of_ble_eq_true rfl) hP hS
