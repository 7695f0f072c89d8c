abbrev W_L_register (kT : Nat → ClassId) (ad : Nat → Nat) (ao : Nat) (rn : Int32) (rc : Nat → Int64) (rm : Nat → Int32) (fo : Nat → Int64) : va_W := [(ad 0, .inr (9, [.ref (ad 1), .ref (ad 5), .ref (ad 7), .ref (ad 12), .ref (ad 22), .ref (ad 25), .ref (ad 33), .ref (ad 34)])), (ad 1, .inr (0, [.ref (ad 2), .ref (ad 3), .ref (ad 4), .int rn])), (ad 2, .inl (kT 1, 24, .inr (.inl rc))), (ad 4, .inl (kT 2, 24, .inl rm)), (ao, .inl (kT 1, 1, .inr (.inl fo)))]
abbrev A_L_register (ad : Nat → Nat) (ao : Nat) : List Nat := [ad 0, ad 1, ad 2, ad 4, ao]
def wp_L_register (rn : Int32) (rc : Nat → Int64) (rm : Nat → Int32) (fo : Nat → Int64) (p0 : Int32) (post : Int32 → (Nat → Int64) → Int32 → (Nat → Int64) → (Nat → Int32) → Prop) : Prop := wp_PS_register rn rc rm p0 (fun r rn_1 rc_1 rm_1 => post 0 (vp_updL fo 0 (zq_j_i2l r)) rn_1 rc_1 rm_1) (fun E => (E = "java/lang/IllegalArgumentException" ∧ post 1 fo rn rc rm) ∨ (E = "java/lang/UnsupportedOperationException" ∧ post 2 fo rn rc rm))
set_option maxHeartbeats 4000000 in
set_option maxRecDepth 100000 in
theorem c_L_register (l : Launch) (hst : l.stackTraces = false) (D : va_G) (kT : Nat → ClassId) (ad : Nat → Nat) (ao : Nat) (rn : Int32) (rc : Nat → Int64) (rm : Nat → Int32) (fo : Nat → Int64) (p0 : Int32) (post : Int32 → (Nat → Int64) → Int32 → (Nat → Int64) → (Nat → Int32) → Prop) (h : wp_L_register rn rc rm fo p0 post) : zq_MW l zy_L_register zs_L_register ({ frames := 8, cells := 1, slots := 6, locals := 121 }) D kT [.ref (ad 0), .int p0, .ref ao] (W_L_register kT ad ao rn rc rm fo) (fun r w' => ∃ (rn' : Int32) (rc' : Nat → Int64) (rm' : Nat → Int32) (fo' : Nat → Int64), w' = (W_L_register kT ad ao rn' rc' rm' fo') ∧ post r fo' rn' rc' rm') := by
  refine zq_MW_of (adl := (A_L_register ad ao)) (cc := zb_L_register) (maxL := 4) (own := "PlainStepsLaw") (hh := [(0, 9, 12, 13), (0, 9, 15, 15)]) rfl (by decide) rfl rfl (Nat.le_of_ble_eq_true rfl) ?_
  intro p e s m AV below meth c A QQ H locs ls hx hb hml hown ht hE hX hN htab hA hret hP hD hS hl
  have hK := hE.1
  have hl : lv_has ls 4 [(0, .ref (ad 0)), (1, .int p0), (2, .ref ao)] := hl
  unfold wp_L_register at h
  refine lv_aload_n hx hb zd_L_register_0 rfl (lv_at hl 2 rfl) ?_
  refine lv_iconst (v := 0) hx hb zd_L_register_1 (by decide) ?_
  refine lv_aload_n hx hb zd_L_register_2 rfl (lv_at hl 0 rfl) ?_
  refine lv_iload_n hx hb zd_L_register_3 rfl (lv_at hl 1 rfl) ?_
  refine zq_x_Vi (rest := [.int 0, .ref ao]) (adl := (A_L_register ad ao)) (wr := [(ao, .inl (kT 1, 1, .inr (.inl fo)))]) ⟨hx, hb, hml, hown, ht⟩ (c_PS_register l hst D kT ad rn rc rm p0 _ _ h) (cwV 1 ht (zq_gV zw_705 zw_706 zw_707 zw_708 zw_709) rfl rfl rfl zh_PS_register ⟨Nat.le_of_ble_eq_true rfl, Nat.le_of_ble_eq_true rfl⟩) hE hX hP hD hS hA [0, 1, 2, 3] [4] 5 rfl (by decide +kernel) rfl (by decide +kernel) rfl rfl 0 rfl rfl rfl rfl hl.1 (Nat.le_of_ble_eq_true rfl) rfl zd_L_register_4 ⟨Nat.le_refl _, Nat.le_refl _⟩ (fun E ce q9 H locs hpx hP hS hce hcv hcE => ?_) (fun r w1 H locs hw hJ hS => ?_)
  · rcases hpx with ⟨rfl, h⟩ | ⟨rfl, h⟩
    · refine zq_catch1 (x := ⟨0, 9, 12, 13⟩) (name := "java/lang/IllegalArgumentException") hown htab (by decide) (by decide) (ht _ zw_710) (va_Nw.use (zq_isD_on (zq_nw2_ok _ (List.mem_of_getElem? (i := 0) rfl))) (hX.2.2 _ (List.mem_of_getElem? (i := 0) rfl))) hce hcv hcE ?_
      refine lv_astore_n (lv' := [(3, .ref q9), (0, .ref (ad 0)), (1, .int p0), (2, .ref ao)]) hx hb zd_L_register_12 rfl hl (by decide) rfl (fun ls hl => ?_)
      refine lv_iconst (v := 1) hx hb zd_L_register_13 (by decide) ?_
      exact hret 1 _ H locs 14 ls ⟨rn, rc, rm, fo, rfl, h⟩ hP rfl hS zd_L_register_14
    · refine zq_catch2 (y := ⟨0, 9, 12, 13⟩) (x := ⟨0, 9, 15, 15⟩) (nm1 := "java/lang/IllegalArgumentException") (name := "java/lang/UnsupportedOperationException") hown htab (by decide) (by decide) (by decide) (by decide) (ht _ zw_710) (hN _ (List.mem_of_getElem? (i := 0) rfl)) (ht _ zw_711) (va_Nw.use (zq_isD_on (zq_nw2_ok _ (List.mem_of_getElem? (i := 7) rfl))) (hX.2.2 _ (List.mem_of_getElem? (i := 7) rfl))) hce hcv hcE ?_
      refine lv_astore_n (lv' := [(3, .ref q9), (0, .ref (ad 0)), (1, .int p0), (2, .ref ao)]) hx hb zd_L_register_15 rfl hl (by decide) rfl (fun ls hl => ?_)
      refine lv_iconst (v := 2) hx hb zd_L_register_16 (by decide) ?_
      exact hret 2 _ H locs 17 ls ⟨rn, rc, rm, fo, rfl, h⟩ hP rfl hS zd_L_register_17
  · obtain ⟨rn_1, rc_1, rm_1, rfl, h⟩ := hw
    obtain ⟨hP, hD⟩ := hJ (W_L_register kT ad ao rn_1 rc_1 rm_1 fo) rfl rfl rfl
    refine lv_i2l (v := (zq_j_i2l r)) hx hb zd_L_register_7 rfl ?_
    refine zq_a_last hx hb hK hP hD hS 4 1 rfl rfl (zq_in (by decide)) (j := 0) (by decide) zd_L_register_8 (fun H locs hP hD hS => ?_)
    refine lv_goto (tgt := 18) hx hb zd_L_register_9 (by decide) ?_
    refine lv_iconst (v := 0) hx hb zd_L_register_18 (by decide) ?_
    exact hret 0 _ H locs 19 ls ⟨rn_1, rc_1, rm_1, _, rfl, h⟩ hP rfl hS zd_L_register_19
abbrev W_L_constant (kT : Nat → ClassId) (ad : Nat → Nat) (ao : Nat) (ocn : Int32) (ofn : Int32) (oc : Nat → Int64) (fo : Nat → Int64) : va_W := [(ad 0, .inr (9, [.ref (ad 1), .ref (ad 5), .ref (ad 7), .ref (ad 12), .ref (ad 22), .ref (ad 25), .ref (ad 33), .ref (ad 34)])), (ad 7, .inr (2, [.ref (ad 1), .ref (ad 8), .ref (ad 9), .ref (ad 10), .ref (ad 11), .int ocn, .int ofn])), (ad 8, .inl (kT 1, 16, .inr (.inl oc))), (ao, .inl (kT 1, 1, .inr (.inl fo)))]
abbrev A_L_constant (ad : Nat → Nat) (ao : Nat) : List Nat := [ad 0, ad 7, ad 8, ao]
def wp_L_constant (ocn : Int32) (ofn : Int32) (oc : Nat → Int64) (fo : Nat → Int64) (p0 : Int64) (post : Int32 → (Nat → Int64) → Int32 → (Nat → Int64) → Prop) : Prop := wp_PS_constant ocn ofn oc p0 (fun r ocn_1 oc_1 => post 0 (vp_updL fo 0 (zq_j_i2l r)) ocn_1 oc_1) (fun E => (E = "java/lang/UnsupportedOperationException" ∧ post 1 fo ocn oc))
set_option maxHeartbeats 4000000 in
set_option maxRecDepth 100000 in
theorem c_L_constant (l : Launch) (hst : l.stackTraces = false) (D : va_G) (kT : Nat → ClassId) (ad : Nat → Nat) (ao : Nat) (ocn : Int32) (ofn : Int32) (oc : Nat → Int64) (fo : Nat → Int64) (p0 : Int64) (post : Int32 → (Nat → Int64) → Int32 → (Nat → Int64) → Prop) (h : wp_L_constant ocn ofn oc fo p0 post) : zq_MW l zy_L_constant zs_L_constant ({ frames := 8, cells := 1, slots := 6, locals := 122 }) D kT [.ref (ad 0), .long p0, .ref ao] (W_L_constant kT ad ao ocn ofn oc fo) (fun r w' => ∃ (ocn' : Int32) (oc' : Nat → Int64) (fo' : Nat → Int64), w' = (W_L_constant kT ad ao ocn' ofn oc' fo') ∧ post r fo' ocn' oc') := by
  refine zq_MW_of (adl := (A_L_constant ad ao)) (cc := zb_L_constant) (maxL := 5) (own := "PlainStepsLaw") (hh := [(0, 9, 12, 15)]) rfl (by decide) rfl rfl (Nat.le_of_ble_eq_true rfl) ?_
  intro p e s m AV below meth c A QQ H locs ls hx hb hml hown ht hE hX hN htab hA hret hP hD hS hl
  have hK := hE.1
  have hl : lv_has ls 5 [(0, .ref (ad 0)), (1, .long p0), (3, .ref ao)] := hl
  unfold wp_L_constant at h
  refine lv_aload_n hx hb zd_L_constant_0 rfl (lv_at hl 2 rfl) ?_
  refine lv_iconst (v := 0) hx hb zd_L_constant_1 (by decide) ?_
  refine lv_aload_n hx hb zd_L_constant_2 rfl (lv_at hl 0 rfl) ?_
  refine lv_lload_n hx hb zd_L_constant_3 rfl (lv_at hl 1 rfl) ?_
  refine zq_x_Vi (rest := [.int 0, .ref ao]) (adl := (A_L_constant ad ao)) (wr := [(ao, .inl (kT 1, 1, .inr (.inl fo)))]) ⟨hx, hb, hml, hown, ht⟩ (c_PS_constant l hst D kT ad ocn ofn oc p0 _ _ h) (cwV 1 ht (zq_gV zw_712 zw_713 zw_714 zw_708 zw_715) rfl rfl rfl zh_PS_constant ⟨Nat.le_of_ble_eq_true rfl, Nat.le_of_ble_eq_true rfl⟩) hE hX hP hD hS hA [0, 1, 2] [3] 4 rfl (by decide +kernel) rfl (by decide +kernel) rfl rfl 0 rfl rfl rfl rfl hl.1 (Nat.le_of_ble_eq_true rfl) rfl zd_L_constant_4 ⟨Nat.le_refl _, Nat.le_refl _⟩ (fun E ce q9 H locs hpx hP hS hce hcv hcE => ?_) (fun r w1 H locs hw hJ hS => ?_)
  · obtain ⟨rfl, h⟩ := hpx
    refine zq_catch1 (x := ⟨0, 9, 12, 15⟩) (name := "java/lang/UnsupportedOperationException") hown htab (by decide) (by decide) (ht _ zw_711) (va_Nw.use (zq_isD_on (zq_nw2_ok _ (List.mem_of_getElem? (i := 7) rfl))) (hX.2.2 _ (List.mem_of_getElem? (i := 7) rfl))) hce hcv hcE ?_
    refine lv_astore (lv' := [(4, .ref q9), (0, .ref (ad 0)), (1, .long p0), (3, .ref ao)]) hx hb zd_L_constant_12 hl (by decide) rfl (fun ls hl => ?_)
    refine lv_iconst (v := 1) hx hb zd_L_constant_14 (by decide) ?_
    exact hret 1 _ H locs 15 ls ⟨ocn, oc, fo, rfl, h⟩ hP rfl hS zd_L_constant_15
  · obtain ⟨ocn_1, oc_1, rfl, h⟩ := hw
    obtain ⟨hP, hD⟩ := hJ (W_L_constant kT ad ao ocn_1 ofn oc_1 fo) rfl rfl rfl
    refine lv_i2l (v := (zq_j_i2l r)) hx hb zd_L_constant_7 rfl ?_
    refine zq_a_last hx hb hK hP hD hS 3 1 rfl rfl (zq_in (by decide)) (j := 0) (by decide) zd_L_constant_8 (fun H locs hP hD hS => ?_)
    refine lv_goto (tgt := 16) hx hb zd_L_constant_9 (by decide) ?_
    refine lv_iconst (v := 0) hx hb zd_L_constant_16 (by decide) ?_
    exact hret 0 _ H locs 17 ls ⟨ocn_1, oc_1, _, rfl, h⟩ hP rfl hS zd_L_constant_17
abbrev W_L_field (kT : Nat → ClassId) (ad : Nat → Nat) (ao : Nat) (ocn : Int32) (ofn : Int32) (ofr : Nat → Int32) (oto : Nat → Int32) (osg : Nat → Int32) (fo : Nat → Int64) : va_W := [(ad 0, .inr (9, [.ref (ad 1), .ref (ad 5), .ref (ad 7), .ref (ad 12), .ref (ad 22), .ref (ad 25), .ref (ad 33), .ref (ad 34)])), (ad 7, .inr (2, [.ref (ad 1), .ref (ad 8), .ref (ad 9), .ref (ad 10), .ref (ad 11), .int ocn, .int ofn])), (ad 9, .inl (kT 0, 16, .inl ofr)), (ad 10, .inl (kT 0, 16, .inl oto)), (ad 11, .inl (kT 2, 16, .inl osg)), (ao, .inl (kT 1, 1, .inr (.inl fo)))]
abbrev A_L_field (ad : Nat → Nat) (ao : Nat) : List Nat := [ad 0, ad 7, ad 9, ad 10, ad 11, ao]
def wp_L_field (ocn : Int32) (ofn : Int32) (ofr : Nat → Int32) (oto : Nat → Int32) (osg : Nat → Int32) (fo : Nat → Int64) (p0 : Int32) (p1 : Int32) (p2 : Int32) (post : Int32 → (Nat → Int64) → Int32 → (Nat → Int32) → (Nat → Int32) → (Nat → Int32) → Prop) : Prop := wp_PS_field ocn ofn ofr oto osg p0 p1 p2 (fun r ofn_1 ofr_1 oto_1 osg_1 => post 0 (vp_updL fo 0 (zq_j_i2l r)) ofn_1 ofr_1 oto_1 osg_1) (fun E => (E = "java/lang/IllegalArgumentException" ∧ post 1 fo ofn ofr oto osg) ∨ (E = "java/lang/UnsupportedOperationException" ∧ post 2 fo ofn ofr oto osg))
set_option maxHeartbeats 4000000 in
set_option maxRecDepth 100000 in
theorem c_L_field (l : Launch) (hst : l.stackTraces = false) (D : va_G) (kT : Nat → ClassId) (ad : Nat → Nat) (ao : Nat) (ocn : Int32) (ofn : Int32) (ofr : Nat → Int32) (oto : Nat → Int32) (osg : Nat → Int32) (fo : Nat → Int64) (p0 : Int32) (p1 : Int32) (p2 : Int32) (post : Int32 → (Nat → Int64) → Int32 → (Nat → Int32) → (Nat → Int32) → (Nat → Int32) → Prop) (h : wp_L_field ocn ofn ofr oto osg fo p0 p1 p2 post) : zq_MW l zy_L_field zs_L_field ({ frames := 8, cells := 1, slots := 6, locals := 123 }) D kT [.ref (ad 0), .int p0, .int p1, .int p2, .ref ao] (W_L_field kT ad ao ocn ofn ofr oto osg fo) (fun r w' => ∃ (ofn' : Int32) (ofr' : Nat → Int32) (oto' : Nat → Int32) (osg' : Nat → Int32) (fo' : Nat → Int64), w' = (W_L_field kT ad ao ocn ofn' ofr' oto' osg' fo') ∧ post r fo' ofn' ofr' oto' osg') := by
  refine zq_MW_of (adl := (A_L_field ad ao)) (cc := zb_L_field) (maxL := 6) (own := "PlainStepsLaw") (hh := [(0, 12, 15, 13), (0, 12, 19, 15)]) rfl (by decide) rfl rfl (Nat.le_of_ble_eq_true rfl) ?_
  intro p e s m AV below meth c A QQ H locs ls hx hb hml hown ht hE hX hN htab hA hret hP hD hS hl
  have hK := hE.1
  have hl : lv_has ls 6 [(0, .ref (ad 0)), (1, .int p0), (2, .int p1), (3, .int p2), (4, .ref ao)] := hl
  unfold wp_L_field at h
  refine lv_aload hx hb zd_L_field_0 (lv_at hl 4 rfl) ?_
  refine lv_iconst (v := 0) hx hb zd_L_field_2 (by decide) ?_
  refine lv_aload_n hx hb zd_L_field_3 rfl (lv_at hl 0 rfl) ?_
  refine lv_iload_n hx hb zd_L_field_4 rfl (lv_at hl 1 rfl) ?_
  refine lv_iload_n hx hb zd_L_field_5 rfl (lv_at hl 2 rfl) ?_
  refine lv_iload_n hx hb zd_L_field_6 rfl (lv_at hl 3 rfl) ?_
  refine zq_x_Vi (rest := [.int 0, .ref ao]) (adl := (A_L_field ad ao)) (wr := [(ao, .inl (kT 1, 1, .inr (.inl fo)))]) ⟨hx, hb, hml, hown, ht⟩ (c_PS_field l hst D kT ad ocn ofn ofr oto osg p0 p1 p2 _ _ h) (cwV 3 ht (zq_gV zw_716 zw_717 zw_718 zw_708 zw_719) rfl rfl rfl zh_PS_field ⟨Nat.le_of_ble_eq_true rfl, Nat.le_of_ble_eq_true rfl⟩) hE hX hP hD hS hA [0, 1, 2, 3, 4] [5] 6 rfl (by decide +kernel) rfl (by decide +kernel) rfl rfl 0 rfl rfl rfl rfl hl.1 (Nat.le_of_ble_eq_true rfl) rfl zd_L_field_7 ⟨Nat.le_refl _, Nat.le_refl _⟩ (fun E ce q9 H locs hpx hP hS hce hcv hcE => ?_) (fun r w1 H locs hw hJ hS => ?_)
  · rcases hpx with ⟨rfl, h⟩ | ⟨rfl, h⟩
    · refine zq_catch1 (x := ⟨0, 12, 15, 13⟩) (name := "java/lang/IllegalArgumentException") hown htab (by decide) (by decide) (ht _ zw_710) (va_Nw.use (zq_isD_on (zq_nw2_ok _ (List.mem_of_getElem? (i := 0) rfl))) (hX.2.2 _ (List.mem_of_getElem? (i := 0) rfl))) hce hcv hcE ?_
      refine lv_astore (lv' := [(5, .ref q9), (0, .ref (ad 0)), (1, .int p0), (2, .int p1), (3, .int p2), (4, .ref ao)]) hx hb zd_L_field_15 hl (by decide) rfl (fun ls hl => ?_)
      refine lv_iconst (v := 1) hx hb zd_L_field_17 (by decide) ?_
      exact hret 1 _ H locs 18 ls ⟨ofn, ofr, oto, osg, fo, rfl, h⟩ hP rfl hS zd_L_field_18
    · refine zq_catch2 (y := ⟨0, 12, 15, 13⟩) (x := ⟨0, 12, 19, 15⟩) (nm1 := "java/lang/IllegalArgumentException") (name := "java/lang/UnsupportedOperationException") hown htab (by decide) (by decide) (by decide) (by decide) (ht _ zw_710) (hN _ (List.mem_of_getElem? (i := 0) rfl)) (ht _ zw_711) (va_Nw.use (zq_isD_on (zq_nw2_ok _ (List.mem_of_getElem? (i := 7) rfl))) (hX.2.2 _ (List.mem_of_getElem? (i := 7) rfl))) hce hcv hcE ?_
      refine lv_astore (lv' := [(5, .ref q9), (0, .ref (ad 0)), (1, .int p0), (2, .int p1), (3, .int p2), (4, .ref ao)]) hx hb zd_L_field_19 hl (by decide) rfl (fun ls hl => ?_)
      refine lv_iconst (v := 2) hx hb zd_L_field_21 (by decide) ?_
      exact hret 2 _ H locs 22 ls ⟨ofn, ofr, oto, osg, fo, rfl, h⟩ hP rfl hS zd_L_field_22
  · obtain ⟨ofn_1, ofr_1, oto_1, osg_1, rfl, h⟩ := hw
    obtain ⟨hP, hD⟩ := hJ (W_L_field kT ad ao ocn ofn_1 ofr_1 oto_1 osg_1 fo) rfl rfl rfl
    refine lv_i2l (v := (zq_j_i2l r)) hx hb zd_L_field_10 rfl ?_
    refine zq_a_last hx hb hK hP hD hS 5 1 rfl rfl (zq_in (by decide)) (j := 0) (by decide) zd_L_field_11 (fun H locs hP hD hS => ?_)
    refine lv_goto (tgt := 23) hx hb zd_L_field_12 (by decide) ?_
    refine lv_iconst (v := 0) hx hb zd_L_field_23 (by decide) ?_
    exact hret 0 _ H locs 24 ls ⟨ofn_1, ofr_1, oto_1, osg_1, _, rfl, h⟩ hP rfl hS zd_L_field_24
abbrev W_L_transfer (kT : Nat → ClassId) (ad : Nat → Nat) (ao : Nat) (rn : Int32) (ocn : Int32) (ofn : Int32) (ptn : Int32) (pin : Int32) (po : Nat → Int32) (pa : Nat → Int32) (pb : Nat → Int32) (pt : Nat → Int32) (fo : Nat → Int64) : va_W := [(ad 0, .inr (9, [.ref (ad 1), .ref (ad 5), .ref (ad 7), .ref (ad 12), .ref (ad 22), .ref (ad 25), .ref (ad 33), .ref (ad 34)])), (ad 1, .inr (0, [.ref (ad 2), .ref (ad 3), .ref (ad 4), .int rn])), (ad 7, .inr (2, [.ref (ad 1), .ref (ad 8), .ref (ad 9), .ref (ad 10), .ref (ad 11), .int ocn, .int ofn])), (ad 12, .inr (3, [.ref (ad 13), .ref (ad 14), .ref (ad 15), .ref (ad 16), .int ptn, .ref (ad 17), .ref (ad 18), .ref (ad 19), .ref (ad 20), .ref (ad 21), .int pin])), (ad 13, .inl (kT 0, 200, .inl po)), (ad 14, .inl (kT 0, 200, .inl pa)), (ad 15, .inl (kT 0, 200, .inl pb)), (ad 16, .inl (kT 0, 200, .inl pt)), (ao, .inl (kT 1, 1, .inr (.inl fo)))]
abbrev A_L_transfer (ad : Nat → Nat) (ao : Nat) : List Nat := [ad 0, ad 1, ad 7, ad 12, ad 13, ad 14, ad 15, ad 16, ao]
def wp_L_transfer (rn : Int32) (ocn : Int32) (ofn : Int32) (ptn : Int32) (pin : Int32) (po : Nat → Int32) (pa : Nat → Int32) (pb : Nat → Int32) (pt : Nat → Int32) (fo : Nat → Int64) (p0 : Int32) (p1 : Int32) (p2 : Int32) (p3 : Int32) (post : Int32 → (Nat → Int64) → Int32 → (Nat → Int32) → (Nat → Int32) → (Nat → Int32) → (Nat → Int32) → Prop) : Prop := wp_PS_transfer rn ocn ofn ptn pin po pa pb pt p0 p1 p2 p3 (fun r ptn_1 po_1 pa_1 pb_1 pt_1 => post 0 (vp_updL fo 0 (zq_j_i2l r)) ptn_1 po_1 pa_1 pb_1 pt_1) (fun E => (E = "java/lang/IllegalArgumentException" ∧ post 1 fo ptn po pa pb pt) ∨ (E = "java/lang/UnsupportedOperationException" ∧ post 2 fo ptn po pa pb pt))
set_option maxHeartbeats 4000000 in
set_option maxRecDepth 100000 in
theorem c_L_transfer (l : Launch) (hst : l.stackTraces = false) (D : va_G) (kT : Nat → ClassId) (ad : Nat → Nat) (ao : Nat) (rn : Int32) (ocn : Int32) (ofn : Int32) (ptn : Int32) (pin : Int32) (po : Nat → Int32) (pa : Nat → Int32) (pb : Nat → Int32) (pt : Nat → Int32) (fo : Nat → Int64) (p0 : Int32) (p1 : Int32) (p2 : Int32) (p3 : Int32) (post : Int32 → (Nat → Int64) → Int32 → (Nat → Int32) → (Nat → Int32) → (Nat → Int32) → (Nat → Int32) → Prop) (h : wp_L_transfer rn ocn ofn ptn pin po pa pb pt fo p0 p1 p2 p3 post) : zq_MW l zy_L_transfer zs_L_transfer ({ frames := 8, cells := 1, slots := 6, locals := 124 }) D kT [.ref (ad 0), .int p0, .int p1, .int p2, .int p3, .ref ao] (W_L_transfer kT ad ao rn ocn ofn ptn pin po pa pb pt fo) (fun r w' => ∃ (ptn' : Int32) (po' : Nat → Int32) (pa' : Nat → Int32) (pb' : Nat → Int32) (pt' : Nat → Int32) (fo' : Nat → Int64), w' = (W_L_transfer kT ad ao rn ocn ofn ptn' pin po' pa' pb' pt' fo') ∧ post r fo' ptn' po' pa' pb' pt') := by
  refine zq_MW_of (adl := (A_L_transfer ad ao)) (cc := zb_L_transfer) (maxL := 7) (own := "PlainStepsLaw") (hh := [(0, 14, 17, 13), (0, 14, 21, 15)]) rfl (by decide) rfl rfl (Nat.le_of_ble_eq_true rfl) ?_
  intro p e s m AV below meth c A QQ H locs ls hx hb hml hown ht hE hX hN htab hA hret hP hD hS hl
  have hK := hE.1
  have hl : lv_has ls 7 [(0, .ref (ad 0)), (1, .int p0), (2, .int p1), (3, .int p2), (4, .int p3), (5, .ref ao)] := hl
  unfold wp_L_transfer at h
  refine lv_aload hx hb zd_L_transfer_0 (lv_at hl 5 rfl) ?_
  refine lv_iconst (v := 0) hx hb zd_L_transfer_2 (by decide) ?_
  refine lv_aload_n hx hb zd_L_transfer_3 rfl (lv_at hl 0 rfl) ?_
  refine lv_iload_n hx hb zd_L_transfer_4 rfl (lv_at hl 1 rfl) ?_
  refine lv_iload_n hx hb zd_L_transfer_5 rfl (lv_at hl 2 rfl) ?_
  refine lv_iload_n hx hb zd_L_transfer_6 rfl (lv_at hl 3 rfl) ?_
  refine lv_iload hx hb zd_L_transfer_7 (lv_at hl 4 rfl) ?_
  refine zq_x_Vi (rest := [.int 0, .ref ao]) (adl := (A_L_transfer ad ao)) (wr := [(ao, .inl (kT 1, 1, .inr (.inl fo)))]) ⟨hx, hb, hml, hown, ht⟩ (c_PS_transfer l hst D kT ad rn ocn ofn ptn pin po pa pb pt p0 p1 p2 p3 _ _ h) (cwV 4 ht (zq_gV zw_720 zw_721 zw_722 zw_708 zw_723) rfl rfl rfl zh_PS_transfer ⟨Nat.le_of_ble_eq_true rfl, Nat.le_of_ble_eq_true rfl⟩) hE hX hP hD hS hA [0, 1, 2, 3, 4, 5, 6, 7] [8] 9 rfl (by decide +kernel) rfl (by decide +kernel) rfl rfl 0 rfl rfl rfl rfl hl.1 (Nat.le_of_ble_eq_true rfl) rfl zd_L_transfer_9 ⟨Nat.le_refl _, Nat.le_refl _⟩ (fun E ce q9 H locs hpx hP hS hce hcv hcE => ?_) (fun r w1 H locs hw hJ hS => ?_)
  · rcases hpx with ⟨rfl, h⟩ | ⟨rfl, h⟩
    · refine zq_catch1 (x := ⟨0, 14, 17, 13⟩) (name := "java/lang/IllegalArgumentException") hown htab (by decide) (by decide) (ht _ zw_710) (va_Nw.use (zq_isD_on (zq_nw2_ok _ (List.mem_of_getElem? (i := 0) rfl))) (hX.2.2 _ (List.mem_of_getElem? (i := 0) rfl))) hce hcv hcE ?_
      refine lv_astore (lv' := [(6, .ref q9), (0, .ref (ad 0)), (1, .int p0), (2, .int p1), (3, .int p2), (4, .int p3), (5, .ref ao)]) hx hb zd_L_transfer_17 hl (by decide) rfl (fun ls hl => ?_)
      refine lv_iconst (v := 1) hx hb zd_L_transfer_19 (by decide) ?_
      exact hret 1 _ H locs 20 ls ⟨ptn, po, pa, pb, pt, fo, rfl, h⟩ hP rfl hS zd_L_transfer_20
    · refine zq_catch2 (y := ⟨0, 14, 17, 13⟩) (x := ⟨0, 14, 21, 15⟩) (nm1 := "java/lang/IllegalArgumentException") (name := "java/lang/UnsupportedOperationException") hown htab (by decide) (by decide) (by decide) (by decide) (ht _ zw_710) (hN _ (List.mem_of_getElem? (i := 0) rfl)) (ht _ zw_711) (va_Nw.use (zq_isD_on (zq_nw2_ok _ (List.mem_of_getElem? (i := 7) rfl))) (hX.2.2 _ (List.mem_of_getElem? (i := 7) rfl))) hce hcv hcE ?_
      refine lv_astore (lv' := [(6, .ref q9), (0, .ref (ad 0)), (1, .int p0), (2, .int p1), (3, .int p2), (4, .int p3), (5, .ref ao)]) hx hb zd_L_transfer_21 hl (by decide) rfl (fun ls hl => ?_)
      refine lv_iconst (v := 2) hx hb zd_L_transfer_23 (by decide) ?_
      exact hret 2 _ H locs 24 ls ⟨ptn, po, pa, pb, pt, fo, rfl, h⟩ hP rfl hS zd_L_transfer_24
  · obtain ⟨ptn_1, po_1, pa_1, pb_1, pt_1, rfl, h⟩ := hw
    obtain ⟨hP, hD⟩ := hJ (W_L_transfer kT ad ao rn ocn ofn ptn_1 pin po_1 pa_1 pb_1 pt_1 fo) rfl rfl rfl
    refine lv_i2l (v := (zq_j_i2l r)) hx hb zd_L_transfer_12 rfl ?_
    refine zq_a_last hx hb hK hP hD hS 8 1 rfl rfl (zq_in (by decide)) (j := 0) (by decide) zd_L_transfer_13 (fun H locs hP hD hS => ?_)
    refine lv_goto (tgt := 25) hx hb zd_L_transfer_14 (by decide) ?_
    refine lv_iconst (v := 0) hx hb zd_L_transfer_25 (by decide) ?_
    exact hret 0 _ H locs 26 ls ⟨ptn_1, po_1, pa_1, pb_1, pt_1, _, rfl, h⟩ hP rfl hS zd_L_transfer_26
abbrev W_L_instruction (kT : Nat → ClassId) (ad : Nat → Nat) (ao : Nat) (ptn : Int32) (pin : Int32) (pm : Nat → Int32) (pv : Nat → Int32) (pw : Nat → Int32) (pst : Nat → Int32) (pe : Nat → Int32) (fo : Nat → Int64) : va_W := [(ad 0, .inr (9, [.ref (ad 1), .ref (ad 5), .ref (ad 7), .ref (ad 12), .ref (ad 22), .ref (ad 25), .ref (ad 33), .ref (ad 34)])), (ad 12, .inr (3, [.ref (ad 13), .ref (ad 14), .ref (ad 15), .ref (ad 16), .int ptn, .ref (ad 17), .ref (ad 18), .ref (ad 19), .ref (ad 20), .ref (ad 21), .int pin])), (ad 17, .inl (kT 0, 40, .inl pm)), (ad 18, .inl (kT 0, 40, .inl pv)), (ad 19, .inl (kT 0, 40, .inl pw)), (ad 20, .inl (kT 0, 40, .inl pst)), (ad 21, .inl (kT 0, 40, .inl pe)), (ao, .inl (kT 1, 1, .inr (.inl fo)))]
abbrev A_L_instruction (ad : Nat → Nat) (ao : Nat) : List Nat := [ad 0, ad 12, ad 17, ad 18, ad 19, ad 20, ad 21, ao]
def wp_L_instruction (ptn : Int32) (pin : Int32) (pm : Nat → Int32) (pv : Nat → Int32) (pw : Nat → Int32) (pst : Nat → Int32) (pe : Nat → Int32) (fo : Nat → Int64) (p0 : Int32) (p1 : Int32) (p2 : Int32) (post : Int32 → (Nat → Int64) → Int32 → (Nat → Int32) → (Nat → Int32) → (Nat → Int32) → (Nat → Int32) → (Nat → Int32) → Prop) : Prop := wp_PS_instruction ptn pin pm pv pw pst pe p0 p1 p2 (fun r pin_1 pm_1 pv_1 pw_1 pst_1 pe_1 => post 0 (vp_updL fo 0 (zq_j_i2l r)) pin_1 pm_1 pv_1 pw_1 pst_1 pe_1) (fun E => (E = "java/lang/IllegalArgumentException" ∧ post 1 fo pin pm pv pw pst pe) ∨ (E = "java/lang/UnsupportedOperationException" ∧ post 2 fo pin pm pv pw pst pe))
set_option maxHeartbeats 4000000 in
set_option maxRecDepth 100000 in
theorem c_L_instruction (l : Launch) (hst : l.stackTraces = false) (D : va_G) (kT : Nat → ClassId) (ad : Nat → Nat) (ao : Nat) (ptn : Int32) (pin : Int32) (pm : Nat → Int32) (pv : Nat → Int32) (pw : Nat → Int32) (pst : Nat → Int32) (pe : Nat → Int32) (fo : Nat → Int64) (p0 : Int32) (p1 : Int32) (p2 : Int32) (post : Int32 → (Nat → Int64) → Int32 → (Nat → Int32) → (Nat → Int32) → (Nat → Int32) → (Nat → Int32) → (Nat → Int32) → Prop) (h : wp_L_instruction ptn pin pm pv pw pst pe fo p0 p1 p2 post) : zq_MW l zy_L_instruction zs_L_instruction ({ frames := 8, cells := 1, slots := 6, locals := 123 }) D kT [.ref (ad 0), .int p0, .int p1, .int p2, .ref ao] (W_L_instruction kT ad ao ptn pin pm pv pw pst pe fo) (fun r w' => ∃ (pin' : Int32) (pm' : Nat → Int32) (pv' : Nat → Int32) (pw' : Nat → Int32) (pst' : Nat → Int32) (pe' : Nat → Int32) (fo' : Nat → Int64), w' = (W_L_instruction kT ad ao ptn pin' pm' pv' pw' pst' pe' fo') ∧ post r fo' pin' pm' pv' pw' pst' pe') := by
  refine zq_MW_of (adl := (A_L_instruction ad ao)) (cc := zb_L_instruction) (maxL := 6) (own := "PlainStepsLaw") (hh := [(0, 12, 15, 13), (0, 12, 19, 15)]) rfl (by decide) rfl rfl (Nat.le_of_ble_eq_true rfl) ?_
  intro p e s m AV below meth c A QQ H locs ls hx hb hml hown ht hE hX hN htab hA hret hP hD hS hl
  have hK := hE.1
  have hl : lv_has ls 6 [(0, .ref (ad 0)), (1, .int p0), (2, .int p1), (3, .int p2), (4, .ref ao)] := hl
  unfold wp_L_instruction at h
  refine lv_aload hx hb zd_L_instruction_0 (lv_at hl 4 rfl) ?_
  refine lv_iconst (v := 0) hx hb zd_L_instruction_2 (by decide) ?_
  refine lv_aload_n hx hb zd_L_instruction_3 rfl (lv_at hl 0 rfl) ?_
  refine lv_iload_n hx hb zd_L_instruction_4 rfl (lv_at hl 1 rfl) ?_
  refine lv_iload_n hx hb zd_L_instruction_5 rfl (lv_at hl 2 rfl) ?_
  refine lv_iload_n hx hb zd_L_instruction_6 rfl (lv_at hl 3 rfl) ?_
  refine zq_x_Vi (rest := [.int 0, .ref ao]) (adl := (A_L_instruction ad ao)) (wr := [(ao, .inl (kT 1, 1, .inr (.inl fo)))]) ⟨hx, hb, hml, hown, ht⟩ (c_PS_instruction l hst D kT ad ptn pin pm pv pw pst pe p0 p1 p2 _ _ h) (cwV 3 ht (zq_gV zw_724 zw_725 zw_726 zw_708 zw_727) rfl rfl rfl zh_PS_instruction ⟨Nat.le_of_ble_eq_true rfl, Nat.le_of_ble_eq_true rfl⟩) hE hX hP hD hS hA [0, 1, 2, 3, 4, 5, 6] [7] 8 rfl (by decide +kernel) rfl (by decide +kernel) rfl rfl 0 rfl rfl rfl rfl hl.1 (Nat.le_of_ble_eq_true rfl) rfl zd_L_instruction_7 ⟨Nat.le_refl _, Nat.le_refl _⟩ (fun E ce q9 H locs hpx hP hS hce hcv hcE => ?_) (fun r w1 H locs hw hJ hS => ?_)
  · rcases hpx with ⟨rfl, h⟩ | ⟨rfl, h⟩
    · refine zq_catch1 (x := ⟨0, 12, 15, 13⟩) (name := "java/lang/IllegalArgumentException") hown htab (by decide) (by decide) (ht _ zw_710) (va_Nw.use (zq_isD_on (zq_nw2_ok _ (List.mem_of_getElem? (i := 0) rfl))) (hX.2.2 _ (List.mem_of_getElem? (i := 0) rfl))) hce hcv hcE ?_
      refine lv_astore (lv' := [(5, .ref q9), (0, .ref (ad 0)), (1, .int p0), (2, .int p1), (3, .int p2), (4, .ref ao)]) hx hb zd_L_instruction_15 hl (by decide) rfl (fun ls hl => ?_)
      refine lv_iconst (v := 1) hx hb zd_L_instruction_17 (by decide) ?_
      exact hret 1 _ H locs 18 ls ⟨pin, pm, pv, pw, pst, pe, fo, rfl, h⟩ hP rfl hS zd_L_instruction_18
    · refine zq_catch2 (y := ⟨0, 12, 15, 13⟩) (x := ⟨0, 12, 19, 15⟩) (nm1 := "java/lang/IllegalArgumentException") (name := "java/lang/UnsupportedOperationException") hown htab (by decide) (by decide) (by decide) (by decide) (ht _ zw_710) (hN _ (List.mem_of_getElem? (i := 0) rfl)) (ht _ zw_711) (va_Nw.use (zq_isD_on (zq_nw2_ok _ (List.mem_of_getElem? (i := 7) rfl))) (hX.2.2 _ (List.mem_of_getElem? (i := 7) rfl))) hce hcv hcE ?_
      refine lv_astore (lv' := [(5, .ref q9), (0, .ref (ad 0)), (1, .int p0), (2, .int p1), (3, .int p2), (4, .ref ao)]) hx hb zd_L_instruction_19 hl (by decide) rfl (fun ls hl => ?_)
      refine lv_iconst (v := 2) hx hb zd_L_instruction_21 (by decide) ?_
      exact hret 2 _ H locs 22 ls ⟨pin, pm, pv, pw, pst, pe, fo, rfl, h⟩ hP rfl hS zd_L_instruction_22
  · obtain ⟨pin_1, pm_1, pv_1, pw_1, pst_1, pe_1, rfl, h⟩ := hw
    obtain ⟨hP, hD⟩ := hJ (W_L_instruction kT ad ao ptn pin_1 pm_1 pv_1 pw_1 pst_1 pe_1 fo) rfl rfl rfl
    refine lv_i2l (v := (zq_j_i2l r)) hx hb zd_L_instruction_10 rfl ?_
    refine zq_a_last hx hb hK hP hD hS 7 1 rfl rfl (zq_in (by decide)) (j := 0) (by decide) zd_L_instruction_11 (fun H locs hP hD hS => ?_)
    refine lv_goto (tgt := 23) hx hb zd_L_instruction_12 (by decide) ?_
    refine lv_iconst (v := 0) hx hb zd_L_instruction_23 (by decide) ?_
    exact hret 0 _ H locs 24 ls ⟨pin_1, pm_1, pv_1, pw_1, pst_1, pe_1, _, rfl, h⟩ hP rfl hS zd_L_instruction_24
abbrev W_L_memory (kT : Nat → ClassId) (ad : Nat → Nat) (ao : Nat) (bc : Nat → Int32) (fo : Nat → Int64) : va_W := [(ad 0, .inr (9, [.ref (ad 1), .ref (ad 5), .ref (ad 7), .ref (ad 12), .ref (ad 22), .ref (ad 25), .ref (ad 33), .ref (ad 34)])), (ad 5, .inr (1, [.ref (ad 6)])), (ad 6, .inl (kT 3, 4096, .inl bc)), (ao, .inl (kT 1, 1, .inr (.inl fo)))]
abbrev A_L_memory (ad : Nat → Nat) (ao : Nat) : List Nat := [ad 0, ad 5, ad 6, ao]
def wp_L_memory (bc : Nat → Int32) (fo : Nat → Int64) (p0 : Int32) (p1 : Int32) (post : Int32 → (Nat → Int64) → (Nat → Int32) → Prop) : Prop := wp_PS_memory bc p0 p1 (fun r bc_1 => post 0 (vp_updL fo 0 (zq_j_i2l r)) bc_1) (fun E => (E = "java/lang/IndexOutOfBoundsException" ∧ post 1 fo bc) ∨ (E = "java/lang/IllegalArgumentException" ∧ post 2 fo bc))
set_option maxHeartbeats 4000000 in
set_option maxRecDepth 100000 in
theorem c_L_memory (l : Launch) (hst : l.stackTraces = false) (D : va_G) (kT : Nat → ClassId) (ad : Nat → Nat) (ao : Nat) (bc : Nat → Int32) (fo : Nat → Int64) (p0 : Int32) (p1 : Int32) (post : Int32 → (Nat → Int64) → (Nat → Int32) → Prop) (h : wp_L_memory bc fo p0 p1 post) : zq_MW l zy_L_memory zs_L_memory ({ frames := 8, cells := 1, slots := 6, locals := 123 }) D kT [.ref (ad 0), .int p0, .int p1, .ref ao] (W_L_memory kT ad ao bc fo) (fun r w' => ∃ (bc' : Nat → Int32) (fo' : Nat → Int64), w' = (W_L_memory kT ad ao bc' fo') ∧ post r fo' bc') := by
  refine zq_MW_of (adl := (A_L_memory ad ao)) (cc := zb_L_memory) (maxL := 5) (own := "PlainStepsLaw") (hh := [(0, 10, 13, 37), (0, 10, 17, 13)]) rfl (by decide) rfl rfl (Nat.le_of_ble_eq_true rfl) ?_
  intro p e s m AV below meth c A QQ H locs ls hx hb hml hown ht hE hX hN htab hA hret hP hD hS hl
  have hK := hE.1
  have hl : lv_has ls 5 [(0, .ref (ad 0)), (1, .int p0), (2, .int p1), (3, .ref ao)] := hl
  unfold wp_L_memory at h
  refine lv_aload_n hx hb zd_L_memory_0 rfl (lv_at hl 3 rfl) ?_
  refine lv_iconst (v := 0) hx hb zd_L_memory_1 (by decide) ?_
  refine lv_aload_n hx hb zd_L_memory_2 rfl (lv_at hl 0 rfl) ?_
  refine lv_iload_n hx hb zd_L_memory_3 rfl (lv_at hl 1 rfl) ?_
  refine lv_iload_n hx hb zd_L_memory_4 rfl (lv_at hl 2 rfl) ?_
  refine zq_x_Vi (rest := [.int 0, .ref ao]) (adl := (A_L_memory ad ao)) (wr := [(ao, .inl (kT 1, 1, .inr (.inl fo)))]) ⟨hx, hb, hml, hown, ht⟩ (c_PS_memory l hst D kT ad bc p0 p1 _ _ h) (cwV 2 ht (zq_gV zw_728 zw_729 zw_730 zw_708 zw_731) rfl rfl rfl zh_PS_memory ⟨Nat.le_of_ble_eq_true rfl, Nat.le_of_ble_eq_true rfl⟩) hE hX hP hD hS hA [0, 1, 2] [3] 4 rfl (by decide +kernel) rfl (by decide +kernel) rfl rfl 0 rfl rfl rfl rfl hl.1 (Nat.le_of_ble_eq_true rfl) rfl zd_L_memory_5 ⟨Nat.le_refl _, Nat.le_refl _⟩ (fun E ce q9 H locs hpx hP hS hce hcv hcE => ?_) (fun r w1 H locs hw hJ hS => ?_)
  · rcases hpx with ⟨rfl, h⟩ | ⟨rfl, h⟩
    · refine zq_catch1 (x := ⟨0, 10, 13, 37⟩) (name := "java/lang/IndexOutOfBoundsException") hown htab (by decide) (by decide) (ht _ zw_732) (va_Nw.use (zq_isD_on (zq_nw2_ok _ (List.mem_of_getElem? (i := 8) rfl))) (hX.2.2 _ (List.mem_of_getElem? (i := 8) rfl))) hce hcv hcE ?_
      refine lv_astore (lv' := [(4, .ref q9), (0, .ref (ad 0)), (1, .int p0), (2, .int p1), (3, .ref ao)]) hx hb zd_L_memory_13 hl (by decide) rfl (fun ls hl => ?_)
      refine lv_iconst (v := 1) hx hb zd_L_memory_15 (by decide) ?_
      exact hret 1 _ H locs 16 ls ⟨bc, fo, rfl, h⟩ hP rfl hS zd_L_memory_16
    · refine zq_catch2 (y := ⟨0, 10, 13, 37⟩) (x := ⟨0, 10, 17, 13⟩) (nm1 := "java/lang/IndexOutOfBoundsException") (name := "java/lang/IllegalArgumentException") hown htab (by decide) (by decide) (by decide) (by decide) (ht _ zw_732) (hN _ (List.mem_of_getElem? (i := 1) rfl)) (ht _ zw_710) (va_Nw.use (zq_isD_on (zq_nw2_ok _ (List.mem_of_getElem? (i := 0) rfl))) (hX.2.2 _ (List.mem_of_getElem? (i := 0) rfl))) hce hcv hcE ?_
      refine lv_astore (lv' := [(4, .ref q9), (0, .ref (ad 0)), (1, .int p0), (2, .int p1), (3, .ref ao)]) hx hb zd_L_memory_17 hl (by decide) rfl (fun ls hl => ?_)
      refine lv_iconst (v := 2) hx hb zd_L_memory_19 (by decide) ?_
      exact hret 2 _ H locs 20 ls ⟨bc, fo, rfl, h⟩ hP rfl hS zd_L_memory_20
  · obtain ⟨bc_1, rfl, h⟩ := hw
    obtain ⟨hP, hD⟩ := hJ (W_L_memory kT ad ao bc_1 fo) rfl rfl rfl
    refine lv_i2l (v := (zq_j_i2l r)) hx hb zd_L_memory_8 rfl ?_
    refine zq_a_last hx hb hK hP hD hS 3 1 rfl rfl (zq_in (by decide)) (j := 0) (by decide) zd_L_memory_9 (fun H locs hP hD hS => ?_)
    refine lv_goto (tgt := 21) hx hb zd_L_memory_10 (by decide) ?_
    refine lv_iconst (v := 0) hx hb zd_L_memory_21 (by decide) ?_
    exact hret 0 _ H locs 22 ls ⟨bc_1, _, rfl, h⟩ hP rfl hS zd_L_memory_22
abbrev W_L_byteAt (kT : Nat → ClassId) (ad : Nat → Nat) (ao : Nat) (bc : Nat → Int32) (fo : Nat → Int64) : va_W := [(ad 0, .inr (9, [.ref (ad 1), .ref (ad 5), .ref (ad 7), .ref (ad 12), .ref (ad 22), .ref (ad 25), .ref (ad 33), .ref (ad 34)])), (ad 5, .inr (1, [.ref (ad 6)])), (ad 6, .inl (kT 3, 4096, .inl bc)), (ao, .inl (kT 1, 1, .inr (.inl fo)))]
abbrev A_L_byteAt (ad : Nat → Nat) (ao : Nat) : List Nat := [ad 0, ad 5, ad 6, ao]
def wp_L_byteAt (bc : Nat → Int32) (fo : Nat → Int64) (p0 : Int32) (post : Int32 → (Nat → Int64) → Prop) : Prop := wp_PS_byteAt bc p0 (fun r  => post 0 (vp_updL fo 0 (zq_j_i2l r)) ) (fun E => (E = "java/lang/IndexOutOfBoundsException" ∧ post 1 fo ))
set_option maxHeartbeats 4000000 in
set_option maxRecDepth 100000 in
theorem c_L_byteAt (l : Launch) (hst : l.stackTraces = false) (D : va_G) (kT : Nat → ClassId) (ad : Nat → Nat) (ao : Nat) (bc : Nat → Int32) (fo : Nat → Int64) (p0 : Int32) (post : Int32 → (Nat → Int64) → Prop) (h : wp_L_byteAt bc fo p0 post) : zq_MW l zy_L_byteAt zs_L_byteAt ({ frames := 8, cells := 1, slots := 6, locals := 121 }) D kT [.ref (ad 0), .int p0, .ref ao] (W_L_byteAt kT ad ao bc fo) (fun r w' => ∃  (fo' : Nat → Int64), w' = (W_L_byteAt kT ad ao bc fo') ∧ post r fo' ) := by
  refine zq_MW_of (adl := (A_L_byteAt ad ao)) (cc := zb_L_byteAt) (maxL := 4) (own := "PlainStepsLaw") (hh := [(0, 9, 12, 37)]) rfl (by decide) rfl rfl (Nat.le_of_ble_eq_true rfl) ?_
  intro p e s m AV below meth c A QQ H locs ls hx hb hml hown ht hE hX hN htab hA hret hP hD hS hl
  have hK := hE.1
  have hl : lv_has ls 4 [(0, .ref (ad 0)), (1, .int p0), (2, .ref ao)] := hl
  unfold wp_L_byteAt at h
  refine lv_aload_n hx hb zd_L_byteAt_0 rfl (lv_at hl 2 rfl) ?_
  refine lv_iconst (v := 0) hx hb zd_L_byteAt_1 (by decide) ?_
  refine lv_aload_n hx hb zd_L_byteAt_2 rfl (lv_at hl 0 rfl) ?_
  refine lv_iload_n hx hb zd_L_byteAt_3 rfl (lv_at hl 1 rfl) ?_
  refine zq_x_Vi (rest := [.int 0, .ref ao]) (adl := (A_L_byteAt ad ao)) (wr := [(ao, .inl (kT 1, 1, .inr (.inl fo)))]) ⟨hx, hb, hml, hown, ht⟩ (c_PS_byteAt l hst D kT ad bc p0 _ _ h) (cwV 1 ht (zq_gV zw_733 zw_734 zw_735 zw_708 zw_736) rfl rfl rfl zh_PS_byteAt ⟨Nat.le_of_ble_eq_true rfl, Nat.le_of_ble_eq_true rfl⟩) hE hX hP hD hS hA [0, 1, 2] [3] 4 rfl (by decide +kernel) rfl (by decide +kernel) rfl rfl 0 rfl rfl rfl rfl hl.1 (Nat.le_of_ble_eq_true rfl) rfl zd_L_byteAt_4 ⟨Nat.le_refl _, Nat.le_refl _⟩ (fun E ce q9 H locs hpx hP hS hce hcv hcE => ?_) (fun r w1 H locs hw hJ hS => ?_)
  · obtain ⟨rfl, h⟩ := hpx
    refine zq_catch1 (x := ⟨0, 9, 12, 37⟩) (name := "java/lang/IndexOutOfBoundsException") hown htab (by decide) (by decide) (ht _ zw_732) (va_Nw.use (zq_isD_on (zq_nw2_ok _ (List.mem_of_getElem? (i := 8) rfl))) (hX.2.2 _ (List.mem_of_getElem? (i := 8) rfl))) hce hcv hcE ?_
    refine lv_astore_n (lv' := [(3, .ref q9), (0, .ref (ad 0)), (1, .int p0), (2, .ref ao)]) hx hb zd_L_byteAt_12 rfl hl (by decide) rfl (fun ls hl => ?_)
    refine lv_iconst (v := 1) hx hb zd_L_byteAt_13 (by decide) ?_
    exact hret 1 _ H locs 14 ls ⟨fo, rfl, h⟩ hP rfl hS zd_L_byteAt_14
  · obtain ⟨rfl, h⟩ := hw
    obtain ⟨hP, hD⟩ := hJ (W_L_byteAt kT ad ao bc fo) rfl rfl rfl
    refine lv_i2l (v := (zq_j_i2l r)) hx hb zd_L_byteAt_7 rfl ?_
    refine zq_a_last hx hb hK hP hD hS 3 1 rfl rfl (zq_in (by decide)) (j := 0) (by decide) zd_L_byteAt_8 (fun H locs hP hD hS => ?_)
    refine lv_goto (tgt := 15) hx hb zd_L_byteAt_9 (by decide) ?_
    refine lv_iconst (v := 0) hx hb zd_L_byteAt_15 (by decide) ?_
    exact hret 0 _ H locs 16 ls ⟨_, rfl, h⟩ hP rfl hS zd_L_byteAt_16
abbrev W_L_step (kT : Nat → ClassId) (ad : Nat → Nat) (ao : Nat) (rn : Int32) (rc : Nat → Int64) (rv : Nat → Int64) (rm : Nat → Int32) (bc : Nat → Int32) (ocn : Int32) (ofn : Int32) (oc : Nat → Int64) (ofr : Nat → Int32) (oto : Nat → Int32) (osg : Nat → Int32) (ptn : Int32) (pin : Int32) (po : Nat → Int32) (pa : Nat → Int32) (pb : Nat → Int32) (pt : Nat → Int32) (pm : Nat → Int32) (pv : Nat → Int32) (pw : Nat → Int32) (pst : Nat → Int32) (pe : Nat → Int32) (kn : Int32) (kv : Int32) (kp : Nat → Int32) (kl : Nat → Int32) (lo : Nat → Int32) (lr : Nat → Int32) (wn : Int32) (wf : Nat → Int32) (wt : Nat → Int32) (wv : Nat → Int64) (xw : Int32) (xp : Int32) (xr : Int32) (xq : Int32) (xe : Int32) (xh : Int32) (xb : Int32) (mw : Int32) (mh : Int32) (mk : Int32) (mp : Int32) (cn : Nat → Int32) (fo : Nat → Int64) : va_W := [(ad 0, .inr (9, [.ref (ad 1), .ref (ad 5), .ref (ad 7), .ref (ad 12), .ref (ad 22), .ref (ad 25), .ref (ad 33), .ref (ad 34)])), (ad 1, .inr (0, [.ref (ad 2), .ref (ad 3), .ref (ad 4), .int rn])), (ad 2, .inl (kT 1, 24, .inr (.inl rc))), (ad 3, .inl (kT 1, 24, .inr (.inl rv))), (ad 4, .inl (kT 2, 24, .inl rm)), (ad 5, .inr (1, [.ref (ad 6)])), (ad 6, .inl (kT 3, 4096, .inl bc)), (ad 7, .inr (2, [.ref (ad 1), .ref (ad 8), .ref (ad 9), .ref (ad 10), .ref (ad 11), .int ocn, .int ofn])), (ad 8, .inl (kT 1, 16, .inr (.inl oc))), (ad 9, .inl (kT 0, 16, .inl ofr)), (ad 10, .inl (kT 0, 16, .inl oto)), (ad 11, .inl (kT 2, 16, .inl osg)), (ad 12, .inr (3, [.ref (ad 13), .ref (ad 14), .ref (ad 15), .ref (ad 16), .int ptn, .ref (ad 17), .ref (ad 18), .ref (ad 19), .ref (ad 20), .ref (ad 21), .int pin])), (ad 13, .inl (kT 0, 200, .inl po)), (ad 14, .inl (kT 0, 200, .inl pa)), (ad 15, .inl (kT 0, 200, .inl pb)), (ad 16, .inl (kT 0, 200, .inl pt)), (ad 17, .inl (kT 0, 40, .inl pm)), (ad 18, .inl (kT 0, 40, .inl pv)), (ad 19, .inl (kT 0, 40, .inl pw)), (ad 20, .inl (kT 0, 40, .inl pst)), (ad 21, .inl (kT 0, 40, .inl pe)), (ad 22, .inr (4, [.ref (ad 23), .ref (ad 24), .int kn, .int kv])), (ad 23, .inl (kT 0, 8, .inl kp)), (ad 24, .inl (kT 0, 8, .inl kl)), (ad 25, .inr (5, [.ref (ad 26), .ref (ad 27)])), (ad 26, .inl (kT 2, 8, .inl lo)), (ad 27, .inl (kT 0, 8, .inl lr)), (ad 28, .inr (6, [.ref (ad 1), .ref (ad 5), .ref (ad 29), .ref (ad 30), .ref (ad 31), .int wn])), (ad 29, .inl (kT 0, 200, .inl wf)), (ad 30, .inl (kT 0, 200, .inl wt)), (ad 31, .inl (kT 1, 200, .inr (.inl wv))), (ad 32, .inr (7, [.ref (ad 1), .ref (ad 5), .ref (ad 7), .ref (ad 12), .ref (ad 22), .ref (ad 28), .ref (ad 34), .int xw, .int xp, .int xr, .int xq, .int xe, .int xh, .int xb])), (ad 33, .inr (8, [.ref (ad 1), .ref (ad 5), .ref (ad 12), .ref (ad 22), .ref (ad 25), .ref (ad 32), .ref (ad 34), .int mw, .int mh, .int mk, .int mp])), (ad 34, .inl (kT 0, 9, .inl cn)), (ao, .inl (kT 1, 1, .inr (.inl fo)))]
abbrev A_L_step (ad : Nat → Nat) (ao : Nat) : List Nat := [ad 0, ad 1, ad 2, ad 3, ad 4, ad 5, ad 6, ad 7, ad 8, ad 9, ad 10, ad 11, ad 12, ad 13, ad 14, ad 15, ad 16, ad 17, ad 18, ad 19, ad 20, ad 21, ad 22, ad 23, ad 24, ad 25, ad 26, ad 27, ad 28, ad 29, ad 30, ad 31, ad 32, ad 33, ad 34, ao]
def wp_L_step (rn : Int32) (rc : Nat → Int64) (rv : Nat → Int64) (rm : Nat → Int32) (bc : Nat → Int32) (ocn : Int32) (ofn : Int32) (oc : Nat → Int64) (ofr : Nat → Int32) (oto : Nat → Int32) (osg : Nat → Int32) (ptn : Int32) (pin : Int32) (po : Nat → Int32) (pa : Nat → Int32) (pb : Nat → Int32) (pt : Nat → Int32) (pm : Nat → Int32) (pv : Nat → Int32) (pw : Nat → Int32) (pst : Nat → Int32) (pe : Nat → Int32) (kn : Int32) (kv : Int32) (kp : Nat → Int32) (kl : Nat → Int32) (lo : Nat → Int32) (lr : Nat → Int32) (wn : Int32) (wf : Nat → Int32) (wt : Nat → Int32) (wv : Nat → Int64) (xw : Int32) (xp : Int32) (xr : Int32) (xq : Int32) (xe : Int32) (xh : Int32) (xb : Int32) (mw : Int32) (mh : Int32) (mk : Int32) (mp : Int32) (cn : Nat → Int32) (fo : Nat → Int64) (p0 : Int32) (post : Int32 → (Nat → Int64) → (Nat → Int64) → (Nat → Int32) → (Nat → Int32) → Int32 → Int32 → (Nat → Int32) → (Nat → Int32) → Int32 → (Nat → Int32) → (Nat → Int32) → (Nat → Int64) → Int32 → Int32 → Int32 → Int32 → Int32 → Int32 → Int32 → Int32 → Int32 → Int32 → Int32 → (Nat → Int32) → Prop) : Prop := wp_PS_step rn rc rv rm bc ocn ofn oc ofr oto osg ptn pin po pa pb pt pm pv pw pst pe kn kv kp kl lo lr wn wf wt wv xw xp xr xq xe xh xb mw mh mk mp cn p0 (fun r rv_1 rm_1 bc_1 kn_1 kv_1 kp_1 kl_1 wn_1 wf_1 wt_1 wv_1 xw_1 xp_1 xr_1 xq_1 xe_1 xh_1 xb_1 mw_1 mh_1 mk_1 mp_1 cn_1 => post 0 (vp_updL fo 0 (zq_j_i2l r)) rv_1 rm_1 bc_1 kn_1 kv_1 kp_1 kl_1 wn_1 wf_1 wt_1 wv_1 xw_1 xp_1 xr_1 xq_1 xe_1 xh_1 xb_1 mw_1 mh_1 mk_1 mp_1 cn_1) (fun E => (E = "java/lang/IllegalArgumentException" ∧ post 1 fo rv rm bc kn kv kp kl wn wf wt wv xw xp xr xq xe xh xb mw mh mk mp cn) ∨ (E = "java/lang/IllegalStateException" ∧ post 2 fo rv rm bc kn kv kp kl wn wf wt wv xw xp xr xq xe xh xb mw mh mk mp cn))
set_option maxHeartbeats 4000000 in
set_option maxRecDepth 100000 in
theorem c_L_step (l : Launch) (hst : l.stackTraces = false) (D : va_G) (kT : Nat → ClassId) (ad : Nat → Nat) (ao : Nat) (rn : Int32) (rc : Nat → Int64) (rv : Nat → Int64) (rm : Nat → Int32) (bc : Nat → Int32) (ocn : Int32) (ofn : Int32) (oc : Nat → Int64) (ofr : Nat → Int32) (oto : Nat → Int32) (osg : Nat → Int32) (ptn : Int32) (pin : Int32) (po : Nat → Int32) (pa : Nat → Int32) (pb : Nat → Int32) (pt : Nat → Int32) (pm : Nat → Int32) (pv : Nat → Int32) (pw : Nat → Int32) (pst : Nat → Int32) (pe : Nat → Int32) (kn : Int32) (kv : Int32) (kp : Nat → Int32) (kl : Nat → Int32) (lo : Nat → Int32) (lr : Nat → Int32) (wn : Int32) (wf : Nat → Int32) (wt : Nat → Int32) (wv : Nat → Int64) (xw : Int32) (xp : Int32) (xr : Int32) (xq : Int32) (xe : Int32) (xh : Int32) (xb : Int32) (mw : Int32) (mh : Int32) (mk : Int32) (mp : Int32) (cn : Nat → Int32) (fo : Nat → Int64) (p0 : Int32) (post : Int32 → (Nat → Int64) → (Nat → Int64) → (Nat → Int32) → (Nat → Int32) → Int32 → Int32 → (Nat → Int32) → (Nat → Int32) → Int32 → (Nat → Int32) → (Nat → Int32) → (Nat → Int64) → Int32 → Int32 → Int32 → Int32 → Int32 → Int32 → Int32 → Int32 → Int32 → Int32 → Int32 → (Nat → Int32) → Prop) (h : wp_L_step rn rc rv rm bc ocn ofn oc ofr oto osg ptn pin po pa pb pt pm pv pw pst pe kn kv kp kl lo lr wn wf wt wv xw xp xr xq xe xh xb mw mh mk mp cn fo p0 post) : zq_MW l zy_L_step zs_L_step ({ frames := 8, cells := 1, slots := 6, locals := 203 }) D kT [.ref (ad 0), .int p0, .ref ao] (W_L_step kT ad ao rn rc rv rm bc ocn ofn oc ofr oto osg ptn pin po pa pb pt pm pv pw pst pe kn kv kp kl lo lr wn wf wt wv xw xp xr xq xe xh xb mw mh mk mp cn fo) (fun r w' => ∃ (rv' : Nat → Int64) (rm' : Nat → Int32) (bc' : Nat → Int32) (kn' : Int32) (kv' : Int32) (kp' : Nat → Int32) (kl' : Nat → Int32) (wn' : Int32) (wf' : Nat → Int32) (wt' : Nat → Int32) (wv' : Nat → Int64) (xw' : Int32) (xp' : Int32) (xr' : Int32) (xq' : Int32) (xe' : Int32) (xh' : Int32) (xb' : Int32) (mw' : Int32) (mh' : Int32) (mk' : Int32) (mp' : Int32) (cn' : Nat → Int32) (fo' : Nat → Int64), w' = (W_L_step kT ad ao rn rc rv' rm' bc' ocn ofn oc ofr oto osg ptn pin po pa pb pt pm pv pw pst pe kn' kv' kp' kl' lo lr wn' wf' wt' wv' xw' xp' xr' xq' xe' xh' xb' mw' mh' mk' mp' cn' fo') ∧ post r fo' rv' rm' bc' kn' kv' kp' kl' wn' wf' wt' wv' xw' xp' xr' xq' xe' xh' xb' mw' mh' mk' mp' cn') := by
  refine zq_MW_of (adl := (A_L_step ad ao)) (cc := zb_L_step) (maxL := 4) (own := "PlainStepsLaw") (hh := [(0, 9, 12, 13), (0, 9, 15, 45)]) rfl (by decide) rfl rfl (Nat.le_of_ble_eq_true rfl) ?_
  intro p e s m AV below meth c A QQ H locs ls hx hb hml hown ht hE hX hN htab hA hret hP hD hS hl
  have hK := hE.1
  have hl : lv_has ls 4 [(0, .ref (ad 0)), (1, .int p0), (2, .ref ao)] := hl
  unfold wp_L_step at h
  refine lv_aload_n hx hb zd_L_step_0 rfl (lv_at hl 2 rfl) ?_
  refine lv_iconst (v := 0) hx hb zd_L_step_1 (by decide) ?_
  refine lv_aload_n hx hb zd_L_step_2 rfl (lv_at hl 0 rfl) ?_
  refine lv_iload_n hx hb zd_L_step_3 rfl (lv_at hl 1 rfl) ?_
  refine zq_x_Vi (rest := [.int 0, .ref ao]) (adl := (A_L_step ad ao)) (wr := [(ao, .inl (kT 1, 1, .inr (.inl fo)))]) ⟨hx, hb, hml, hown, ht⟩ (c_PS_step l hst D kT ad rn rc rv rm bc ocn ofn oc ofr oto osg ptn pin po pa pb pt pm pv pw pst pe kn kv kp kl lo lr wn wf wt wv xw xp xr xq xe xh xb mw mh mk mp cn p0 _ _ h) (cwV 1 ht (zq_gV zw_737 zw_738 zw_739 zw_708 zw_740) rfl rfl rfl zh_PS_step ⟨Nat.le_of_ble_eq_true rfl, Nat.le_of_ble_eq_true rfl⟩) hE hX hP hD hS hA [0, 1, 2, 3, 4, 5, 6, 7, 8, 9, 10, 11, 12, 13, 14, 15, 16, 17, 18, 19, 20, 21, 22, 23, 24, 25, 26, 27, 28, 29, 30, 31, 32, 33, 34] [35] 36 rfl (by decide +kernel) rfl (by decide +kernel) rfl rfl 0 rfl rfl rfl rfl hl.1 (Nat.le_of_ble_eq_true rfl) rfl zd_L_step_4 ⟨Nat.le_refl _, Nat.le_refl _⟩ (fun E ce q9 H locs hpx hP hS hce hcv hcE => ?_) (fun r w1 H locs hw hJ hS => ?_)
  · rcases hpx with ⟨rfl, h⟩ | ⟨rfl, h⟩
    · refine zq_catch1 (x := ⟨0, 9, 12, 13⟩) (name := "java/lang/IllegalArgumentException") hown htab (by decide) (by decide) (ht _ zw_710) (va_Nw.use (zq_isD_on (zq_nw2_ok _ (List.mem_of_getElem? (i := 0) rfl))) (hX.2.2 _ (List.mem_of_getElem? (i := 0) rfl))) hce hcv hcE ?_
      refine lv_astore_n (lv' := [(3, .ref q9), (0, .ref (ad 0)), (1, .int p0), (2, .ref ao)]) hx hb zd_L_step_12 rfl hl (by decide) rfl (fun ls hl => ?_)
      refine lv_iconst (v := 1) hx hb zd_L_step_13 (by decide) ?_
      exact hret 1 _ H locs 14 ls ⟨rv, rm, bc, kn, kv, kp, kl, wn, wf, wt, wv, xw, xp, xr, xq, xe, xh, xb, mw, mh, mk, mp, cn, fo, rfl, h⟩ hP rfl hS zd_L_step_14
    · refine zq_catch2 (y := ⟨0, 9, 12, 13⟩) (x := ⟨0, 9, 15, 45⟩) (nm1 := "java/lang/IllegalArgumentException") (name := "java/lang/IllegalStateException") hown htab (by decide) (by decide) (by decide) (by decide) (ht _ zw_710) (hN _ (List.mem_of_getElem? (i := 2) rfl)) (ht _ zw_741) (va_Nw.use (zq_isD_on (zq_nw2_ok _ (List.mem_of_getElem? (i := 9) rfl))) (hX.2.2 _ (List.mem_of_getElem? (i := 9) rfl))) hce hcv hcE ?_
      refine lv_astore_n (lv' := [(3, .ref q9), (0, .ref (ad 0)), (1, .int p0), (2, .ref ao)]) hx hb zd_L_step_15 rfl hl (by decide) rfl (fun ls hl => ?_)
      refine lv_iconst (v := 2) hx hb zd_L_step_16 (by decide) ?_
      exact hret 2 _ H locs 17 ls ⟨rv, rm, bc, kn, kv, kp, kl, wn, wf, wt, wv, xw, xp, xr, xq, xe, xh, xb, mw, mh, mk, mp, cn, fo, rfl, h⟩ hP rfl hS zd_L_step_17
  · obtain ⟨rv_1, rm_1, bc_1, kn_1, kv_1, kp_1, kl_1, wn_1, wf_1, wt_1, wv_1, xw_1, xp_1, xr_1, xq_1, xe_1, xh_1, xb_1, mw_1, mh_1, mk_1, mp_1, cn_1, rfl, h⟩ := hw
    obtain ⟨hP, hD⟩ := hJ (W_L_step kT ad ao rn rc rv_1 rm_1 bc_1 ocn ofn oc ofr oto osg ptn pin po pa pb pt pm pv pw pst pe kn_1 kv_1 kp_1 kl_1 lo lr wn_1 wf_1 wt_1 wv_1 xw_1 xp_1 xr_1 xq_1 xe_1 xh_1 xb_1 mw_1 mh_1 mk_1 mp_1 cn_1 fo) rfl rfl rfl
    refine lv_i2l (v := (zq_j_i2l r)) hx hb zd_L_step_7 rfl ?_
    refine zq_a_last hx hb hK hP hD hS 35 1 rfl rfl (zq_in (by decide)) (j := 0) (by decide) zd_L_step_8 (fun H locs hP hD hS => ?_)
    refine lv_goto (tgt := 18) hx hb zd_L_step_9 (by decide) ?_
    refine lv_iconst (v := 0) hx hb zd_L_step_18 (by decide) ?_
    exact hret 0 _ H locs 19 ls ⟨rv_1, rm_1, bc_1, kn_1, kv_1, kp_1, kl_1, wn_1, wf_1, wt_1, wv_1, xw_1, xp_1, xr_1, xq_1, xe_1, xh_1, xb_1, mw_1, mh_1, mk_1, mp_1, cn_1, _, rfl, h⟩ hP rfl hS zd_L_step_19
abbrev W_L_set (kT : Nat → ClassId) (ad : Nat → Nat) (ao : Nat) (rn : Int32) (rc : Nat → Int64) (rv : Nat → Int64) (rm : Nat → Int32) (mw : Int32) (mh : Int32) (mk : Int32) (mp : Int32) (fo : Nat → Int64) : va_W := [(ad 0, .inr (9, [.ref (ad 1), .ref (ad 5), .ref (ad 7), .ref (ad 12), .ref (ad 22), .ref (ad 25), .ref (ad 33), .ref (ad 34)])), (ad 1, .inr (0, [.ref (ad 2), .ref (ad 3), .ref (ad 4), .int rn])), (ad 2, .inl (kT 1, 24, .inr (.inl rc))), (ad 3, .inl (kT 1, 24, .inr (.inl rv))), (ad 4, .inl (kT 2, 24, .inl rm)), (ad 33, .inr (8, [.ref (ad 1), .ref (ad 5), .ref (ad 12), .ref (ad 22), .ref (ad 25), .ref (ad 32), .ref (ad 34), .int mw, .int mh, .int mk, .int mp])), (ao, .inl (kT 1, 1, .inr (.inl fo)))]
abbrev A_L_set (ad : Nat → Nat) (ao : Nat) : List Nat := [ad 0, ad 1, ad 2, ad 3, ad 4, ad 33, ao]
def wp_L_set (rn : Int32) (rc : Nat → Int64) (rv : Nat → Int64) (rm : Nat → Int32) (mw : Int32) (mh : Int32) (mk : Int32) (mp : Int32) (fo : Nat → Int64) (p0 : Int32) (p1 : Int64) (post : Int32 → (Nat → Int64) → (Nat → Int64) → (Nat → Int32) → Int32 → Prop) : Prop := wp_PS_set rn rc rv rm mw mh mk mp p0 p1 (fun r rv_1 rm_1 mw_1 => post 0 (vp_updL fo 0 r) rv_1 rm_1 mw_1) (fun E => (E = "java/lang/IndexOutOfBoundsException" ∧ post 1 fo rv rm mw))
set_option maxHeartbeats 4000000 in
set_option maxRecDepth 100000 in
theorem c_L_set (l : Launch) (hst : l.stackTraces = false) (D : va_G) (kT : Nat → ClassId) (ad : Nat → Nat) (ao : Nat) (rn : Int32) (rc : Nat → Int64) (rv : Nat → Int64) (rm : Nat → Int32) (mw : Int32) (mh : Int32) (mk : Int32) (mp : Int32) (fo : Nat → Int64) (p0 : Int32) (p1 : Int64) (post : Int32 → (Nat → Int64) → (Nat → Int64) → (Nat → Int32) → Int32 → Prop) (h : wp_L_set rn rc rv rm mw mh mk mp fo p0 p1 post) : zq_MW l zy_L_set zs_L_set ({ frames := 8, cells := 1, slots := 6, locals := 125 }) D kT [.ref (ad 0), .int p0, .long p1, .ref ao] (W_L_set kT ad ao rn rc rv rm mw mh mk mp fo) (fun r w' => ∃ (rv' : Nat → Int64) (rm' : Nat → Int32) (mw' : Int32) (fo' : Nat → Int64), w' = (W_L_set kT ad ao rn rc rv' rm' mw' mh mk mp fo') ∧ post r fo' rv' rm' mw') := by
  refine zq_MW_of (adl := (A_L_set ad ao)) (cc := zb_L_set) (maxL := 6) (own := "PlainStepsLaw") (hh := [(0, 10, 13, 37)]) rfl (by decide) rfl rfl (Nat.le_of_ble_eq_true rfl) ?_
  intro p e s m AV below meth c A QQ H locs ls hx hb hml hown ht hE hX hN htab hA hret hP hD hS hl
  have hK := hE.1
  have hl : lv_has ls 6 [(0, .ref (ad 0)), (1, .int p0), (2, .long p1), (4, .ref ao)] := hl
  unfold wp_L_set at h
  refine lv_aload hx hb zd_L_set_0 (lv_at hl 3 rfl) ?_
  refine lv_iconst (v := 0) hx hb zd_L_set_2 (by decide) ?_
  refine lv_aload_n hx hb zd_L_set_3 rfl (lv_at hl 0 rfl) ?_
  refine lv_iload_n hx hb zd_L_set_4 rfl (lv_at hl 1 rfl) ?_
  refine lv_lload_n hx hb zd_L_set_5 rfl (lv_at hl 2 rfl) ?_
  refine zq_x_Vl (rest := [.int 0, .ref ao]) (adl := (A_L_set ad ao)) (wr := [(ao, .inl (kT 1, 1, .inr (.inl fo)))]) ⟨hx, hb, hml, hown, ht⟩ (c_PS_set l hst D kT ad rn rc rv rm mw mh mk mp p0 p1 _ _ h) (cwV 2 ht (zq_gV zw_742 zw_743 zw_744 zw_708 zw_745) rfl rfl rfl zh_PS_set ⟨Nat.le_of_ble_eq_true rfl, Nat.le_of_ble_eq_true rfl⟩) hE hX hP hD hS hA [0, 1, 2, 3, 4, 5] [6] 7 rfl (by decide +kernel) rfl (by decide +kernel) rfl rfl 0 rfl rfl rfl rfl hl.1 (Nat.le_of_ble_eq_true rfl) rfl zd_L_set_6 ⟨Nat.le_refl _, Nat.le_refl _⟩ (fun E ce q9 H locs hpx hP hS hce hcv hcE => ?_) (fun r w1 H locs hw hJ hS => ?_)
  · obtain ⟨rfl, h⟩ := hpx
    refine zq_catch1 (x := ⟨0, 10, 13, 37⟩) (name := "java/lang/IndexOutOfBoundsException") hown htab (by decide) (by decide) (ht _ zw_732) (va_Nw.use (zq_isD_on (zq_nw2_ok _ (List.mem_of_getElem? (i := 8) rfl))) (hX.2.2 _ (List.mem_of_getElem? (i := 8) rfl))) hce hcv hcE ?_
    refine lv_astore (lv' := [(5, .ref q9), (0, .ref (ad 0)), (1, .int p0), (2, .long p1), (4, .ref ao)]) hx hb zd_L_set_13 hl (by decide) rfl (fun ls hl => ?_)
    refine lv_iconst (v := 1) hx hb zd_L_set_15 (by decide) ?_
    exact hret 1 _ H locs 16 ls ⟨rv, rm, mw, fo, rfl, h⟩ hP rfl hS zd_L_set_16
  · obtain ⟨rv_1, rm_1, mw_1, rfl, h⟩ := hw
    obtain ⟨hP, hD⟩ := hJ (W_L_set kT ad ao rn rc rv_1 rm_1 mw_1 mh mk mp fo) rfl rfl rfl
    refine zq_a_last hx hb hK hP hD hS 6 1 rfl rfl (zq_in (by decide)) (j := 0) (by decide) zd_L_set_9 (fun H locs hP hD hS => ?_)
    refine lv_goto (tgt := 17) hx hb zd_L_set_10 (by decide) ?_
    refine lv_iconst (v := 0) hx hb zd_L_set_17 (by decide) ?_
    exact hret 0 _ H locs 18 ls ⟨rv_1, rm_1, mw_1, _, rfl, h⟩ hP rfl hS zd_L_set_18
abbrev W_L_get (kT : Nat → ClassId) (ad : Nat → Nat) (ao : Nat) (rn : Int32) (rv : Nat → Int64) (fo : Nat → Int64) : va_W := [(ad 0, .inr (9, [.ref (ad 1), .ref (ad 5), .ref (ad 7), .ref (ad 12), .ref (ad 22), .ref (ad 25), .ref (ad 33), .ref (ad 34)])), (ad 1, .inr (0, [.ref (ad 2), .ref (ad 3), .ref (ad 4), .int rn])), (ad 3, .inl (kT 1, 24, .inr (.inl rv))), (ao, .inl (kT 1, 1, .inr (.inl fo)))]
abbrev A_L_get (ad : Nat → Nat) (ao : Nat) : List Nat := [ad 0, ad 1, ad 3, ao]
def wp_L_get (rn : Int32) (rv : Nat → Int64) (fo : Nat → Int64) (p0 : Int32) (post : Int32 → (Nat → Int64) → Prop) : Prop := wp_PS_get rn rv p0 (fun r  => post 0 (vp_updL fo 0 r) ) (fun E => (E = "java/lang/IndexOutOfBoundsException" ∧ post 1 fo ))
set_option maxHeartbeats 4000000 in
set_option maxRecDepth 100000 in
theorem c_L_get (l : Launch) (hst : l.stackTraces = false) (D : va_G) (kT : Nat → ClassId) (ad : Nat → Nat) (ao : Nat) (rn : Int32) (rv : Nat → Int64) (fo : Nat → Int64) (p0 : Int32) (post : Int32 → (Nat → Int64) → Prop) (h : wp_L_get rn rv fo p0 post) : zq_MW l zy_L_get zs_L_get ({ frames := 8, cells := 1, slots := 6, locals := 121 }) D kT [.ref (ad 0), .int p0, .ref ao] (W_L_get kT ad ao rn rv fo) (fun r w' => ∃  (fo' : Nat → Int64), w' = (W_L_get kT ad ao rn rv fo') ∧ post r fo' ) := by
  refine zq_MW_of (adl := (A_L_get ad ao)) (cc := zb_L_get) (maxL := 4) (own := "PlainStepsLaw") (hh := [(0, 8, 11, 37)]) rfl (by decide) rfl rfl (Nat.le_of_ble_eq_true rfl) ?_
  intro p e s m AV below meth c A QQ H locs ls hx hb hml hown ht hE hX hN htab hA hret hP hD hS hl
  have hK := hE.1
  have hl : lv_has ls 4 [(0, .ref (ad 0)), (1, .int p0), (2, .ref ao)] := hl
  unfold wp_L_get at h
  refine lv_aload_n hx hb zd_L_get_0 rfl (lv_at hl 2 rfl) ?_
  refine lv_iconst (v := 0) hx hb zd_L_get_1 (by decide) ?_
  refine lv_aload_n hx hb zd_L_get_2 rfl (lv_at hl 0 rfl) ?_
  refine lv_iload_n hx hb zd_L_get_3 rfl (lv_at hl 1 rfl) ?_
  refine zq_x_Vl (rest := [.int 0, .ref ao]) (adl := (A_L_get ad ao)) (wr := [(ao, .inl (kT 1, 1, .inr (.inl fo)))]) ⟨hx, hb, hml, hown, ht⟩ (c_PS_get l hst D kT ad rn rv p0 _ _ h) (cwV 1 ht (zq_gV zw_746 zw_747 zw_748 zw_708 zw_749) rfl rfl rfl zh_PS_get ⟨Nat.le_of_ble_eq_true rfl, Nat.le_of_ble_eq_true rfl⟩) hE hX hP hD hS hA [0, 1, 2] [3] 4 rfl (by decide +kernel) rfl (by decide +kernel) rfl rfl 0 rfl rfl rfl rfl hl.1 (Nat.le_of_ble_eq_true rfl) rfl zd_L_get_4 ⟨Nat.le_refl _, Nat.le_refl _⟩ (fun E ce q9 H locs hpx hP hS hce hcv hcE => ?_) (fun r w1 H locs hw hJ hS => ?_)
  · obtain ⟨rfl, h⟩ := hpx
    refine zq_catch1 (x := ⟨0, 8, 11, 37⟩) (name := "java/lang/IndexOutOfBoundsException") hown htab (by decide) (by decide) (ht _ zw_732) (va_Nw.use (zq_isD_on (zq_nw2_ok _ (List.mem_of_getElem? (i := 8) rfl))) (hX.2.2 _ (List.mem_of_getElem? (i := 8) rfl))) hce hcv hcE ?_
    refine lv_astore_n (lv' := [(3, .ref q9), (0, .ref (ad 0)), (1, .int p0), (2, .ref ao)]) hx hb zd_L_get_11 rfl hl (by decide) rfl (fun ls hl => ?_)
    refine lv_iconst (v := 1) hx hb zd_L_get_12 (by decide) ?_
    exact hret 1 _ H locs 13 ls ⟨fo, rfl, h⟩ hP rfl hS zd_L_get_13
  · obtain ⟨rfl, h⟩ := hw
    obtain ⟨hP, hD⟩ := hJ (W_L_get kT ad ao rn rv fo) rfl rfl rfl
    refine zq_a_last hx hb hK hP hD hS 3 1 rfl rfl (zq_in (by decide)) (j := 0) (by decide) zd_L_get_7 (fun H locs hP hD hS => ?_)
    refine lv_goto (tgt := 14) hx hb zd_L_get_8 (by decide) ?_
    refine lv_iconst (v := 0) hx hb zd_L_get_14 (by decide) ?_
    exact hret 0 _ H locs 15 ls ⟨_, rfl, h⟩ hP rfl hS zd_L_get_15
abbrev W_L_mark (kT : Nat → ClassId) (ad : Nat → Nat) (ao : Nat) (rn : Int32) (rm : Nat → Int32) (fo : Nat → Int64) : va_W := [(ad 0, .inr (9, [.ref (ad 1), .ref (ad 5), .ref (ad 7), .ref (ad 12), .ref (ad 22), .ref (ad 25), .ref (ad 33), .ref (ad 34)])), (ad 1, .inr (0, [.ref (ad 2), .ref (ad 3), .ref (ad 4), .int rn])), (ad 4, .inl (kT 2, 24, .inl rm)), (ao, .inl (kT 1, 1, .inr (.inl fo)))]
abbrev A_L_mark (ad : Nat → Nat) (ao : Nat) : List Nat := [ad 0, ad 1, ad 4, ao]
def wp_L_mark (rn : Int32) (rm : Nat → Int32) (fo : Nat → Int64) (p0 : Int32) (post : Int32 → (Nat → Int64) → Prop) : Prop := wp_PS_mark rn rm p0 (fun r  => (if r = 0 then post 0 (vp_updL fo 0 0)  else post 0 (vp_updL fo 0 1) )) (fun E => (E = "java/lang/IndexOutOfBoundsException" ∧ post 1 fo ))
set_option maxHeartbeats 4000000 in
set_option maxRecDepth 100000 in
theorem c_L_mark (l : Launch) (hst : l.stackTraces = false) (D : va_G) (kT : Nat → ClassId) (ad : Nat → Nat) (ao : Nat) (rn : Int32) (rm : Nat → Int32) (fo : Nat → Int64) (p0 : Int32) (post : Int32 → (Nat → Int64) → Prop) (h : wp_L_mark rn rm fo p0 post) : zq_MW l zy_L_mark zs_L_mark ({ frames := 8, cells := 1, slots := 6, locals := 121 }) D kT [.ref (ad 0), .int p0, .ref ao] (W_L_mark kT ad ao rn rm fo) (fun r w' => ∃  (fo' : Nat → Int64), w' = (W_L_mark kT ad ao rn rm fo') ∧ post r fo' ) := by
  refine zq_MW_of (adl := (A_L_mark ad ao)) (cc := zb_L_mark) (maxL := 4) (own := "PlainStepsLaw") (hh := [(0, 16, 19, 37)]) rfl (by decide) rfl rfl (Nat.le_of_ble_eq_true rfl) ?_
  intro p e s m AV below meth c A QQ H locs ls hx hb hml hown ht hE hX hN htab hA hret hP hD hS hl
  have hK := hE.1
  have hl : lv_has ls 4 [(0, .ref (ad 0)), (1, .int p0), (2, .ref ao)] := hl
  unfold wp_L_mark at h
  refine lv_aload_n hx hb zd_L_mark_0 rfl (lv_at hl 2 rfl) ?_
  refine lv_iconst (v := 0) hx hb zd_L_mark_1 (by decide) ?_
  refine lv_aload_n hx hb zd_L_mark_2 rfl (lv_at hl 0 rfl) ?_
  refine lv_iload_n hx hb zd_L_mark_3 rfl (lv_at hl 1 rfl) ?_
  refine zq_x_Vi (rest := [.int 0, .ref ao]) (adl := (A_L_mark ad ao)) (wr := [(ao, .inl (kT 1, 1, .inr (.inl fo)))]) ⟨hx, hb, hml, hown, ht⟩ (c_PS_mark l hst D kT ad rn rm p0 _ _ h) (cwV 1 ht (zq_gV zw_750 zw_751 zw_752 zw_708 zw_753) rfl rfl rfl zh_PS_mark ⟨Nat.le_of_ble_eq_true rfl, Nat.le_of_ble_eq_true rfl⟩) hE hX hP hD hS hA [0, 1, 2] [3] 4 rfl (by decide +kernel) rfl (by decide +kernel) rfl rfl 0 rfl rfl rfl rfl hl.1 (Nat.le_of_ble_eq_true rfl) rfl zd_L_mark_4 ⟨Nat.le_refl _, Nat.le_refl _⟩ (fun E ce q9 H locs hpx hP hS hce hcv hcE => ?_) (fun r w1 H locs hw hJ hS => ?_)
  · obtain ⟨rfl, h⟩ := hpx
    refine zq_catch1 (x := ⟨0, 16, 19, 37⟩) (name := "java/lang/IndexOutOfBoundsException") hown htab (by decide) (by decide) (ht _ zw_732) (va_Nw.use (zq_isD_on (zq_nw2_ok _ (List.mem_of_getElem? (i := 8) rfl))) (hX.2.2 _ (List.mem_of_getElem? (i := 8) rfl))) hce hcv hcE ?_
    refine lv_astore_n (lv' := [(3, .ref q9), (0, .ref (ad 0)), (1, .int p0), (2, .ref ao)]) hx hb zd_L_mark_19 rfl hl (by decide) rfl (fun ls hl => ?_)
    refine lv_iconst (v := 1) hx hb zd_L_mark_20 (by decide) ?_
    exact hret 1 _ H locs 21 ls ⟨fo, rfl, h⟩ hP rfl hS zd_L_mark_21
  · obtain ⟨rfl, h⟩ := hw
    obtain ⟨hP, hD⟩ := hJ (W_L_mark kT ad ao rn rm fo) rfl rfl rfl
    refine lv_if_eq (tgt := 14) hx hb zd_L_mark_7 (by decide) (fun c_1 => ?_) (fun c_1 => ?_)
    · have h := zq_it c_1 h
      refine lv_lconst (v := 0) hx hb zd_L_mark_14 (by decide) ?_
      refine zq_a_last hx hb hK hP hD hS 3 1 rfl rfl (zq_in (by decide)) (j := 0) (by decide) zd_L_mark_15 (fun H locs hP hD hS => ?_)
      refine lv_goto (tgt := 22) hx hb zd_L_mark_16 (by decide) ?_
      refine lv_iconst (v := 0) hx hb zd_L_mark_22 (by decide) ?_
      exact hret 0 _ H locs 23 ls ⟨_, rfl, h⟩ hP rfl hS zd_L_mark_23
    · have h := zq_if c_1 h
      refine lv_lconst (v := 1) hx hb zd_L_mark_10 (by decide) ?_
      refine lv_goto (tgt := 15) hx hb zd_L_mark_11 (by decide) ?_
      refine zq_a_last hx hb hK hP hD hS 3 1 rfl rfl (zq_in (by decide)) (j := 0) (by decide) zd_L_mark_15 (fun H locs hP hD hS => ?_)
      refine lv_goto (tgt := 22) hx hb zd_L_mark_16 (by decide) ?_
      refine lv_iconst (v := 0) hx hb zd_L_mark_22 (by decide) ?_
      exact hret 0 _ H locs 23 ls ⟨_, rfl, h⟩ hP rfl hS zd_L_mark_23
abbrev W_L_line (kT : Nat → ClassId) (ad : Nat → Nat) (ao : Nat) (lo : Nat → Int32) (fo : Nat → Int64) : va_W := [(ad 0, .inr (9, [.ref (ad 1), .ref (ad 5), .ref (ad 7), .ref (ad 12), .ref (ad 22), .ref (ad 25), .ref (ad 33), .ref (ad 34)])), (ad 25, .inr (5, [.ref (ad 26), .ref (ad 27)])), (ad 26, .inl (kT 2, 8, .inl lo)), (ao, .inl (kT 1, 1, .inr (.inl fo)))]
abbrev A_L_line (ad : Nat → Nat) (ao : Nat) : List Nat := [ad 0, ad 25, ad 26, ao]
def wp_L_line (lo : Nat → Int32) (fo : Nat → Int64) (p0 : Int32) (p1 : Int32) (post : Int32 → (Nat → Int64) → (Nat → Int32) → Prop) : Prop := wp_PS_line lo p0 p1 (fun r lo_1 => (if r = 0 then post 0 (vp_updL fo 0 0) lo_1 else post 0 (vp_updL fo 0 1) lo_1)) (fun E => (E = "java/lang/IndexOutOfBoundsException" ∧ post 1 fo lo))
set_option maxHeartbeats 4000000 in
set_option maxRecDepth 100000 in
theorem c_L_line (l : Launch) (hst : l.stackTraces = false) (D : va_G) (kT : Nat → ClassId) (ad : Nat → Nat) (ao : Nat) (lo : Nat → Int32) (fo : Nat → Int64) (p0 : Int32) (p1 : Int32) (post : Int32 → (Nat → Int64) → (Nat → Int32) → Prop) (h : wp_L_line lo fo p0 p1 post) : zq_MW l zy_L_line zs_L_line ({ frames := 8, cells := 1, slots := 6, locals := 122 }) D kT [.ref (ad 0), .int p0, .int p1, .ref ao] (W_L_line kT ad ao lo fo) (fun r w' => ∃ (lo' : Nat → Int32) (fo' : Nat → Int64), w' = (W_L_line kT ad ao lo' fo') ∧ post r fo' lo') := by
  refine zq_MW_of (adl := (A_L_line ad ao)) (cc := zb_L_line) (maxL := 5) (own := "PlainStepsLaw") (hh := [(0, 17, 20, 37)]) rfl (by decide) rfl rfl (Nat.le_of_ble_eq_true rfl) ?_
  intro p e s m AV below meth c A QQ H locs ls hx hb hml hown ht hE hX hN htab hA hret hP hD hS hl
  have hK := hE.1
  have hl : lv_has ls 5 [(0, .ref (ad 0)), (1, .int p0), (2, .int p1), (3, .ref ao)] := hl
  unfold wp_L_line at h
  refine lv_aload_n hx hb zd_L_line_0 rfl (lv_at hl 3 rfl) ?_
  refine lv_iconst (v := 0) hx hb zd_L_line_1 (by decide) ?_
  refine lv_aload_n hx hb zd_L_line_2 rfl (lv_at hl 0 rfl) ?_
  refine lv_iload_n hx hb zd_L_line_3 rfl (lv_at hl 1 rfl) ?_
  refine lv_iload_n hx hb zd_L_line_4 rfl (lv_at hl 2 rfl) ?_
  refine zq_x_Vi (rest := [.int 0, .ref ao]) (adl := (A_L_line ad ao)) (wr := [(ao, .inl (kT 1, 1, .inr (.inl fo)))]) ⟨hx, hb, hml, hown, ht⟩ (c_PS_line l hst D kT ad lo p0 p1 _ _ h) (cwV 2 ht (zq_gV zw_754 zw_755 zw_756 zw_708 zw_757) rfl rfl rfl zh_PS_line ⟨Nat.le_of_ble_eq_true rfl, Nat.le_of_ble_eq_true rfl⟩) hE hX hP hD hS hA [0, 1, 2] [3] 4 rfl (by decide +kernel) rfl (by decide +kernel) rfl rfl 0 rfl rfl rfl rfl hl.1 (Nat.le_of_ble_eq_true rfl) rfl zd_L_line_5 ⟨Nat.le_refl _, Nat.le_refl _⟩ (fun E ce q9 H locs hpx hP hS hce hcv hcE => ?_) (fun r w1 H locs hw hJ hS => ?_)
  · obtain ⟨rfl, h⟩ := hpx
    refine zq_catch1 (x := ⟨0, 17, 20, 37⟩) (name := "java/lang/IndexOutOfBoundsException") hown htab (by decide) (by decide) (ht _ zw_732) (va_Nw.use (zq_isD_on (zq_nw2_ok _ (List.mem_of_getElem? (i := 8) rfl))) (hX.2.2 _ (List.mem_of_getElem? (i := 8) rfl))) hce hcv hcE ?_
    refine lv_astore (lv' := [(4, .ref q9), (0, .ref (ad 0)), (1, .int p0), (2, .int p1), (3, .ref ao)]) hx hb zd_L_line_20 hl (by decide) rfl (fun ls hl => ?_)
    refine lv_iconst (v := 1) hx hb zd_L_line_22 (by decide) ?_
    exact hret 1 _ H locs 23 ls ⟨lo, fo, rfl, h⟩ hP rfl hS zd_L_line_23
  · obtain ⟨lo_1, rfl, h⟩ := hw
    obtain ⟨hP, hD⟩ := hJ (W_L_line kT ad ao lo_1 fo) rfl rfl rfl
    refine lv_if_eq (tgt := 15) hx hb zd_L_line_8 (by decide) (fun c_1 => ?_) (fun c_1 => ?_)
    · have h := zq_it c_1 h
      refine lv_lconst (v := 0) hx hb zd_L_line_15 (by decide) ?_
      refine zq_a_last hx hb hK hP hD hS 3 1 rfl rfl (zq_in (by decide)) (j := 0) (by decide) zd_L_line_16 (fun H locs hP hD hS => ?_)
      refine lv_goto (tgt := 24) hx hb zd_L_line_17 (by decide) ?_
      refine lv_iconst (v := 0) hx hb zd_L_line_24 (by decide) ?_
      exact hret 0 _ H locs 25 ls ⟨lo_1, _, rfl, h⟩ hP rfl hS zd_L_line_25
    · have h := zq_if c_1 h
      refine lv_lconst (v := 1) hx hb zd_L_line_11 (by decide) ?_
      refine lv_goto (tgt := 16) hx hb zd_L_line_12 (by decide) ?_
      refine zq_a_last hx hb hK hP hD hS 3 1 rfl rfl (zq_in (by decide)) (j := 0) (by decide) zd_L_line_16 (fun H locs hP hD hS => ?_)
      refine lv_goto (tgt := 24) hx hb zd_L_line_17 (by decide) ?_
      refine lv_iconst (v := 0) hx hb zd_L_line_24 (by decide) ?_
      exact hret 0 _ H locs 25 ls ⟨lo_1, _, rfl, h⟩ hP rfl hS zd_L_line_25
abbrev W_L_enable (kT : Nat → ClassId) (ad : Nat → Nat) (ao : Nat) (lr : Nat → Int32) (fo : Nat → Int64) : va_W := [(ad 0, .inr (9, [.ref (ad 1), .ref (ad 5), .ref (ad 7), .ref (ad 12), .ref (ad 22), .ref (ad 25), .ref (ad 33), .ref (ad 34)])), (ad 25, .inr (5, [.ref (ad 26), .ref (ad 27)])), (ad 27, .inl (kT 0, 8, .inl lr)), (ao, .inl (kT 1, 1, .inr (.inl fo)))]
abbrev A_L_enable (ad : Nat → Nat) (ao : Nat) : List Nat := [ad 0, ad 25, ad 27, ao]
def wp_L_enable (lr : Nat → Int32) (fo : Nat → Int64) (p0 : Int32) (p1 : Int32) (post : Int32 → (Nat → Int64) → (Nat → Int32) → Prop) : Prop := wp_PS_enable lr p0 p1 (fun r lr_1 => post 0 (vp_updL fo 0 (zq_j_i2l r)) lr_1) (fun E => (E = "java/lang/IndexOutOfBoundsException" ∧ post 1 fo lr) ∨ (E = "java/lang/IllegalArgumentException" ∧ post 2 fo lr))
set_option maxHeartbeats 4000000 in
set_option maxRecDepth 100000 in
theorem c_L_enable (l : Launch) (hst : l.stackTraces = false) (D : va_G) (kT : Nat → ClassId) (ad : Nat → Nat) (ao : Nat) (lr : Nat → Int32) (fo : Nat → Int64) (p0 : Int32) (p1 : Int32) (post : Int32 → (Nat → Int64) → (Nat → Int32) → Prop) (h : wp_L_enable lr fo p0 p1 post) : zq_MW l zy_L_enable zs_L_enable ({ frames := 8, cells := 1, slots := 6, locals := 122 }) D kT [.ref (ad 0), .int p0, .int p1, .ref ao] (W_L_enable kT ad ao lr fo) (fun r w' => ∃ (lr' : Nat → Int32) (fo' : Nat → Int64), w' = (W_L_enable kT ad ao lr' fo') ∧ post r fo' lr') := by
  refine zq_MW_of (adl := (A_L_enable ad ao)) (cc := zb_L_enable) (maxL := 5) (own := "PlainStepsLaw") (hh := [(0, 10, 13, 37), (0, 10, 17, 13)]) rfl (by decide) rfl rfl (Nat.le_of_ble_eq_true rfl) ?_
  intro p e s m AV below meth c A QQ H locs ls hx hb hml hown ht hE hX hN htab hA hret hP hD hS hl
  have hK := hE.1
  have hl : lv_has ls 5 [(0, .ref (ad 0)), (1, .int p0), (2, .int p1), (3, .ref ao)] := hl
  unfold wp_L_enable at h
  refine lv_aload_n hx hb zd_L_enable_0 rfl (lv_at hl 3 rfl) ?_
  refine lv_iconst (v := 0) hx hb zd_L_enable_1 (by decide) ?_
  refine lv_aload_n hx hb zd_L_enable_2 rfl (lv_at hl 0 rfl) ?_
  refine lv_iload_n hx hb zd_L_enable_3 rfl (lv_at hl 1 rfl) ?_
  refine lv_iload_n hx hb zd_L_enable_4 rfl (lv_at hl 2 rfl) ?_
  refine zq_x_Vi (rest := [.int 0, .ref ao]) (adl := (A_L_enable ad ao)) (wr := [(ao, .inl (kT 1, 1, .inr (.inl fo)))]) ⟨hx, hb, hml, hown, ht⟩ (c_PS_enable l hst D kT ad lr p0 p1 _ _ h) (cwV 2 ht (zq_gV zw_758 zw_759 zw_760 zw_708 zw_761) rfl rfl rfl zh_PS_enable ⟨Nat.le_of_ble_eq_true rfl, Nat.le_of_ble_eq_true rfl⟩) hE hX hP hD hS hA [0, 1, 2] [3] 4 rfl (by decide +kernel) rfl (by decide +kernel) rfl rfl 0 rfl rfl rfl rfl hl.1 (Nat.le_of_ble_eq_true rfl) rfl zd_L_enable_5 ⟨Nat.le_refl _, Nat.le_refl _⟩ (fun E ce q9 H locs hpx hP hS hce hcv hcE => ?_) (fun r w1 H locs hw hJ hS => ?_)
  · rcases hpx with ⟨rfl, h⟩ | ⟨rfl, h⟩
    · refine zq_catch1 (x := ⟨0, 10, 13, 37⟩) (name := "java/lang/IndexOutOfBoundsException") hown htab (by decide) (by decide) (ht _ zw_732) (va_Nw.use (zq_isD_on (zq_nw2_ok _ (List.mem_of_getElem? (i := 8) rfl))) (hX.2.2 _ (List.mem_of_getElem? (i := 8) rfl))) hce hcv hcE ?_
      refine lv_astore (lv' := [(4, .ref q9), (0, .ref (ad 0)), (1, .int p0), (2, .int p1), (3, .ref ao)]) hx hb zd_L_enable_13 hl (by decide) rfl (fun ls hl => ?_)
      refine lv_iconst (v := 1) hx hb zd_L_enable_15 (by decide) ?_
      exact hret 1 _ H locs 16 ls ⟨lr, fo, rfl, h⟩ hP rfl hS zd_L_enable_16
    · refine zq_catch2 (y := ⟨0, 10, 13, 37⟩) (x := ⟨0, 10, 17, 13⟩) (nm1 := "java/lang/IndexOutOfBoundsException") (name := "java/lang/IllegalArgumentException") hown htab (by decide) (by decide) (by decide) (by decide) (ht _ zw_732) (hN _ (List.mem_of_getElem? (i := 1) rfl)) (ht _ zw_710) (va_Nw.use (zq_isD_on (zq_nw2_ok _ (List.mem_of_getElem? (i := 0) rfl))) (hX.2.2 _ (List.mem_of_getElem? (i := 0) rfl))) hce hcv hcE ?_
      refine lv_astore (lv' := [(4, .ref q9), (0, .ref (ad 0)), (1, .int p0), (2, .int p1), (3, .ref ao)]) hx hb zd_L_enable_17 hl (by decide) rfl (fun ls hl => ?_)
      refine lv_iconst (v := 2) hx hb zd_L_enable_19 (by decide) ?_
      exact hret 2 _ H locs 20 ls ⟨lr, fo, rfl, h⟩ hP rfl hS zd_L_enable_20
  · obtain ⟨lr_1, rfl, h⟩ := hw
    obtain ⟨hP, hD⟩ := hJ (W_L_enable kT ad ao lr_1 fo) rfl rfl rfl
    refine lv_i2l (v := (zq_j_i2l r)) hx hb zd_L_enable_8 rfl ?_
    refine zq_a_last hx hb hK hP hD hS 3 1 rfl rfl (zq_in (by decide)) (j := 0) (by decide) zd_L_enable_9 (fun H locs hP hD hS => ?_)
    refine lv_goto (tgt := 21) hx hb zd_L_enable_10 (by decide) ?_
    refine lv_iconst (v := 0) hx hb zd_L_enable_21 (by decide) ?_
    exact hret 0 _ H locs 22 ls ⟨lr_1, _, rfl, h⟩ hP rfl hS zd_L_enable_22
abbrev W_L_fault (kT : Nat → ClassId) (ad : Nat → Nat) (ao : Nat) (mw : Int32) (mh : Int32) (mk : Int32) (mp : Int32) (fo : Nat → Int64) : va_W := [(ad 0, .inr (9, [.ref (ad 1), .ref (ad 5), .ref (ad 7), .ref (ad 12), .ref (ad 22), .ref (ad 25), .ref (ad 33), .ref (ad 34)])), (ad 33, .inr (8, [.ref (ad 1), .ref (ad 5), .ref (ad 12), .ref (ad 22), .ref (ad 25), .ref (ad 32), .ref (ad 34), .int mw, .int mh, .int mk, .int mp])), (ao, .inl (kT 1, 1, .inr (.inl fo)))]
abbrev A_L_fault (ad : Nat → Nat) (ao : Nat) : List Nat := [ad 0, ad 33, ao]
def wp_L_fault (mw : Int32) (mh : Int32) (mk : Int32) (mp : Int32) (fo : Nat → Int64) (p0 : Int32) (post : Int32 → (Nat → Int64) → Prop) : Prop := wp_PS_fault mw mh mk mp p0 (fun r  => post 0 (vp_updL fo 0 (zq_j_i2l r)) ) (fun E => (E = "java/lang/IndexOutOfBoundsException" ∧ post 1 fo ))
set_option maxHeartbeats 4000000 in
set_option maxRecDepth 100000 in
theorem c_L_fault (l : Launch) (hst : l.stackTraces = false) (D : va_G) (kT : Nat → ClassId) (ad : Nat → Nat) (ao : Nat) (mw : Int32) (mh : Int32) (mk : Int32) (mp : Int32) (fo : Nat → Int64) (p0 : Int32) (post : Int32 → (Nat → Int64) → Prop) (h : wp_L_fault mw mh mk mp fo p0 post) : zq_MW l zy_L_fault zs_L_fault ({ frames := 8, cells := 1, slots := 6, locals := 121 }) D kT [.ref (ad 0), .int p0, .ref ao] (W_L_fault kT ad ao mw mh mk mp fo) (fun r w' => ∃  (fo' : Nat → Int64), w' = (W_L_fault kT ad ao mw mh mk mp fo') ∧ post r fo' ) := by
  refine zq_MW_of (adl := (A_L_fault ad ao)) (cc := zb_L_fault) (maxL := 4) (own := "PlainStepsLaw") (hh := [(0, 9, 12, 37)]) rfl (by decide) rfl rfl (Nat.le_of_ble_eq_true rfl) ?_
  intro p e s m AV below meth c A QQ H locs ls hx hb hml hown ht hE hX hN htab hA hret hP hD hS hl
  have hK := hE.1
  have hl : lv_has ls 4 [(0, .ref (ad 0)), (1, .int p0), (2, .ref ao)] := hl
  unfold wp_L_fault at h
  refine lv_aload_n hx hb zd_L_fault_0 rfl (lv_at hl 2 rfl) ?_
  refine lv_iconst (v := 0) hx hb zd_L_fault_1 (by decide) ?_
  refine lv_aload_n hx hb zd_L_fault_2 rfl (lv_at hl 0 rfl) ?_
  refine lv_iload_n hx hb zd_L_fault_3 rfl (lv_at hl 1 rfl) ?_
  refine zq_x_Vi (rest := [.int 0, .ref ao]) (adl := (A_L_fault ad ao)) (wr := [(ao, .inl (kT 1, 1, .inr (.inl fo)))]) ⟨hx, hb, hml, hown, ht⟩ (c_PS_fault l hst D kT ad mw mh mk mp p0 _ _ h) (cwV 1 ht (zq_gV zw_762 zw_763 zw_764 zw_708 zw_765) rfl rfl rfl zh_PS_fault ⟨Nat.le_of_ble_eq_true rfl, Nat.le_of_ble_eq_true rfl⟩) hE hX hP hD hS hA [0, 1] [2] 3 rfl (by decide +kernel) rfl (by decide +kernel) rfl rfl 0 rfl rfl rfl rfl hl.1 (Nat.le_of_ble_eq_true rfl) rfl zd_L_fault_4 ⟨Nat.le_refl _, Nat.le_refl _⟩ (fun E ce q9 H locs hpx hP hS hce hcv hcE => ?_) (fun r w1 H locs hw hJ hS => ?_)
  · obtain ⟨rfl, h⟩ := hpx
    refine zq_catch1 (x := ⟨0, 9, 12, 37⟩) (name := "java/lang/IndexOutOfBoundsException") hown htab (by decide) (by decide) (ht _ zw_732) (va_Nw.use (zq_isD_on (zq_nw2_ok _ (List.mem_of_getElem? (i := 8) rfl))) (hX.2.2 _ (List.mem_of_getElem? (i := 8) rfl))) hce hcv hcE ?_
    refine lv_astore_n (lv' := [(3, .ref q9), (0, .ref (ad 0)), (1, .int p0), (2, .ref ao)]) hx hb zd_L_fault_12 rfl hl (by decide) rfl (fun ls hl => ?_)
    refine lv_iconst (v := 1) hx hb zd_L_fault_13 (by decide) ?_
    exact hret 1 _ H locs 14 ls ⟨fo, rfl, h⟩ hP rfl hS zd_L_fault_14
  · obtain ⟨rfl, h⟩ := hw
    obtain ⟨hP, hD⟩ := hJ (W_L_fault kT ad ao mw mh mk mp fo) rfl rfl rfl
    refine lv_i2l (v := (zq_j_i2l r)) hx hb zd_L_fault_7 rfl ?_
    refine zq_a_last hx hb hK hP hD hS 2 1 rfl rfl (zq_in (by decide)) (j := 0) (by decide) zd_L_fault_8 (fun H locs hP hD hS => ?_)
    refine lv_goto (tgt := 15) hx hb zd_L_fault_9 (by decide) ?_
    refine lv_iconst (v := 0) hx hb zd_L_fault_15 (by decide) ?_
    exact hret 0 _ H locs 16 ls ⟨_, rfl, h⟩ hP rfl hS zd_L_fault_16
abbrev W_L_counter (kT : Nat → ClassId) (ad : Nat → Nat) (ao : Nat) (kn : Int32) (kv : Int32) (cn : Nat → Int32) (fo : Nat → Int64) : va_W := [(ad 0, .inr (9, [.ref (ad 1), .ref (ad 5), .ref (ad 7), .ref (ad 12), .ref (ad 22), .ref (ad 25), .ref (ad 33), .ref (ad 34)])), (ad 22, .inr (4, [.ref (ad 23), .ref (ad 24), .int kn, .int kv])), (ad 34, .inl (kT 0, 9, .inl cn)), (ao, .inl (kT 1, 1, .inr (.inl fo)))]
abbrev A_L_counter (ad : Nat → Nat) (ao : Nat) : List Nat := [ad 0, ad 22, ad 34, ao]
def wp_L_counter (kn : Int32) (kv : Int32) (cn : Nat → Int32) (fo : Nat → Int64) (p0 : Int32) (post : Int32 → (Nat → Int64) → Prop) : Prop := wp_PS_counter kn kv cn p0 (fun r  => post 0 (vp_updL fo 0 (zq_j_i2l r)) ) (fun E => (E = "java/lang/IndexOutOfBoundsException" ∧ post 1 fo ))
set_option maxHeartbeats 4000000 in
set_option maxRecDepth 100000 in
theorem c_L_counter (l : Launch) (hst : l.stackTraces = false) (D : va_G) (kT : Nat → ClassId) (ad : Nat → Nat) (ao : Nat) (kn : Int32) (kv : Int32) (cn : Nat → Int32) (fo : Nat → Int64) (p0 : Int32) (post : Int32 → (Nat → Int64) → Prop) (h : wp_L_counter kn kv cn fo p0 post) : zq_MW l zy_L_counter zs_L_counter ({ frames := 8, cells := 1, slots := 6, locals := 121 }) D kT [.ref (ad 0), .int p0, .ref ao] (W_L_counter kT ad ao kn kv cn fo) (fun r w' => ∃  (fo' : Nat → Int64), w' = (W_L_counter kT ad ao kn kv cn fo') ∧ post r fo' ) := by
  refine zq_MW_of (adl := (A_L_counter ad ao)) (cc := zb_L_counter) (maxL := 4) (own := "PlainStepsLaw") (hh := [(0, 9, 12, 37)]) rfl (by decide) rfl rfl (Nat.le_of_ble_eq_true rfl) ?_
  intro p e s m AV below meth c A QQ H locs ls hx hb hml hown ht hE hX hN htab hA hret hP hD hS hl
  have hK := hE.1
  have hl : lv_has ls 4 [(0, .ref (ad 0)), (1, .int p0), (2, .ref ao)] := hl
  unfold wp_L_counter at h
  refine lv_aload_n hx hb zd_L_counter_0 rfl (lv_at hl 2 rfl) ?_
  refine lv_iconst (v := 0) hx hb zd_L_counter_1 (by decide) ?_
  refine lv_aload_n hx hb zd_L_counter_2 rfl (lv_at hl 0 rfl) ?_
  refine lv_iload_n hx hb zd_L_counter_3 rfl (lv_at hl 1 rfl) ?_
  refine zq_x_Vi (rest := [.int 0, .ref ao]) (adl := (A_L_counter ad ao)) (wr := [(ao, .inl (kT 1, 1, .inr (.inl fo)))]) ⟨hx, hb, hml, hown, ht⟩ (c_PS_counter l hst D kT ad kn kv cn p0 _ _ h) (cwV 1 ht (zq_gV zw_766 zw_767 zw_768 zw_708 zw_769) rfl rfl rfl zh_PS_counter ⟨Nat.le_of_ble_eq_true rfl, Nat.le_of_ble_eq_true rfl⟩) hE hX hP hD hS hA [0, 1, 2] [3] 4 rfl (by decide +kernel) rfl (by decide +kernel) rfl rfl 0 rfl rfl rfl rfl hl.1 (Nat.le_of_ble_eq_true rfl) rfl zd_L_counter_4 ⟨Nat.le_refl _, Nat.le_refl _⟩ (fun E ce q9 H locs hpx hP hS hce hcv hcE => ?_) (fun r w1 H locs hw hJ hS => ?_)
  · obtain ⟨rfl, h⟩ := hpx
    refine zq_catch1 (x := ⟨0, 9, 12, 37⟩) (name := "java/lang/IndexOutOfBoundsException") hown htab (by decide) (by decide) (ht _ zw_732) (va_Nw.use (zq_isD_on (zq_nw2_ok _ (List.mem_of_getElem? (i := 8) rfl))) (hX.2.2 _ (List.mem_of_getElem? (i := 8) rfl))) hce hcv hcE ?_
    refine lv_astore_n (lv' := [(3, .ref q9), (0, .ref (ad 0)), (1, .int p0), (2, .ref ao)]) hx hb zd_L_counter_12 rfl hl (by decide) rfl (fun ls hl => ?_)
    refine lv_iconst (v := 1) hx hb zd_L_counter_13 (by decide) ?_
    exact hret 1 _ H locs 14 ls ⟨fo, rfl, h⟩ hP rfl hS zd_L_counter_14
  · obtain ⟨rfl, h⟩ := hw
    obtain ⟨hP, hD⟩ := hJ (W_L_counter kT ad ao kn kv cn fo) rfl rfl rfl
    refine lv_i2l (v := (zq_j_i2l r)) hx hb zd_L_counter_7 rfl ?_
    refine zq_a_last hx hb hK hP hD hS 3 1 rfl rfl (zq_in (by decide)) (j := 0) (by decide) zd_L_counter_8 (fun H locs hP hD hS => ?_)
    refine lv_goto (tgt := 15) hx hb zd_L_counter_9 (by decide) ?_
    refine lv_iconst (v := 0) hx hb zd_L_counter_15 (by decide) ?_
    exact hret 0 _ H locs 16 ls ⟨_, rfl, h⟩ hP rfl hS zd_L_counter_16
