abbrev W_Registers_add (kT : Nat → ClassId) (ad : Nat → Nat) (rn : Int32) (rc : Nat → Int64) (rm : Nat → Int32) : va_W := [(ad 1, .inr (0, [.ref (ad 2), .ref (ad 3), .ref (ad 4), .int rn])), (ad 2, .inl (kT 1, 24, .inr (.inl rc))), (ad 4, .inl (kT 2, 24, .inl rm))]
abbrev A_Registers_add (ad : Nat → Nat) : List Nat := [ad 1, ad 2, ad 4]
def wp_Registers_add (rn : Int32) (rc : Nat → Int64) (rm : Nat → Int32) (p0 : Int32) (post : Int32 → Int32 → (Nat → Int64) → (Nat → Int32) → Prop) : Prop := vp_in rn 24 ∧ vp_in rn 24 ∧ post ((rn + 1) - 1) (rn + 1) (vp_updL rc rn.toNatClampNeg (zq_j_lushr (-1) (64 - p0))) (upd rm rn.toNatClampNeg (vp_nar .boolean 1))
set_option maxHeartbeats 4000000 in
set_option maxRecDepth 100000 in
theorem c_Registers_add (l : Launch) (D : va_G) (kT : Nat → ClassId) (ad : Nat → Nat) (rn : Int32) (rc : Nat → Int64) (rm : Nat → Int32) (p0 : Int32) (post : Int32 → Int32 → (Nat → Int64) → (Nat → Int32) → Prop) (h : wp_Registers_add rn rc rm p0 post) : zq_Mi l zy_Registers_add zs_Registers_add ({ frames := 0, cells := 0, slots := 0, locals := 0 }) D kT [.ref (ad 1), .int p0] (W_Registers_add kT ad rn rc rm) (fun r w' => ∃ (rn' : Int32) (rc' : Nat → Int64) (rm' : Nat → Int32), w' = (W_Registers_add kT ad rn' rc' rm') ∧ post r rn' rc' rm') := by
  refine zq_Mi_of (adl := (A_Registers_add ad)) (cc := zb_Registers_add) (maxL := 2) (own := zR_Registers) rfl (by decide) rfl rfl (Nat.le_of_ble_eq_true rfl) ?_
  intro p e s m AV below meth c A QQ H locs ls hx hb hml hown ht hE hA hret hP hD hS hl
  have hK := hE.1
  have hl : lv_has ls 2 [(0, .ref (ad 1)), (1, .int p0)] := hl
  refine lv_aload_n hx hb zd_Registers_add_0 rfl (lv_at hl 0 rfl) ?_
  refine va_get (D := D) (ci := 0) (v := .ref (ad 2)) (C := zR_Registers) (T := zF_Registers) (N := 4) hx hb ht zi_Registers hown hK hP 0 rfl rfl 0 (by decide) (ht _ zw_120) (fun _ h9 => h9) rfl zd_Registers_add_1 ?_
  refine lv_aload_n hx hb zd_Registers_add_4 rfl (lv_at hl 0 rfl) ?_
  refine va_get (D := D) (ci := 0) (v := .int rn) (C := zR_Registers) (T := zF_Registers) (N := 4) hx hb ht zi_Registers hown hK hP 0 rfl rfl 3 (by decide) (ht _ zw_121) (fun _ h9 => h9) rfl zd_Registers_add_5 ?_
  refine W.ldc2 (v := (-1)) hx hb hown (ht _ zw_122) rfl zd_Registers_add_8 ?_
  refine W.eq (g2 := F0 m 11 ls [.long (-1), .int rn, .ref (ad 2)]) rfl ?_
  refine lv_bipush (v := 64) hx hb zd_Registers_add_11 (by decide) ?_
  refine lv_iload_n hx hb zd_Registers_add_13 rfl (lv_at hl 1 rfl) ?_
  refine lv_isub hx hb zd_Registers_add_14 ?_
  refine lv_lushr (v := (zq_j_lushr (-1) (64 - p0))) hx hb zd_Registers_add_15 rfl ?_
  obtain ⟨hi_1, h⟩ := h
  refine zq_a_last (D := D) hx hb hK hP hD hS 1 1 rfl rfl hi_1 rfl zd_Registers_add_16 (fun H locs hP hD hS => ?_)
  have hP : va_P D vwCl (W_Registers_add kT ad rn (vp_updL rc rn.toNatClampNeg (zq_j_lushr (-1) (64 - p0))) rm) H := hP
  have hD : va_D A (W_Registers_add kT ad rn (vp_updL rc rn.toNatClampNeg (zq_j_lushr (-1) (64 - p0))) rm) := hD
  refine lv_aload_n hx hb zd_Registers_add_17 rfl (lv_at hl 0 rfl) ?_
  refine va_get (D := D) (ci := 0) (v := .ref (ad 4)) (C := zR_Registers) (T := zF_Registers) (N := 4) hx hb ht zi_Registers hown hK hP 0 rfl rfl 2 (by decide) (ht _ zw_123) (fun _ h9 => h9) rfl zd_Registers_add_18 ?_
  refine lv_aload_n hx hb zd_Registers_add_21 rfl (lv_at hl 0 rfl) ?_
  refine va_get (D := D) (ci := 0) (v := .int rn) (C := zR_Registers) (T := zF_Registers) (N := 4) hx hb ht zi_Registers hown hK hP 0 rfl rfl 3 (by decide) (ht _ zw_121) (fun _ h9 => h9) rfl zd_Registers_add_22 ?_
  refine lv_iconst (v := 1) hx hb zd_Registers_add_25 (by decide) ?_
  obtain ⟨hi_2, h⟩ := h
  refine zq_a_zast (D := D) hx hb hK hP hD hS 2 2 rfl rfl hi_2 rfl zd_Registers_add_26 (fun H locs hP hD hS => ?_)
  have hP : va_P D vwCl (W_Registers_add kT ad rn (vp_updL rc rn.toNatClampNeg (zq_j_lushr (-1) (64 - p0))) (upd rm rn.toNatClampNeg (vp_nar .boolean 1))) H := hP
  have hD : va_D A (W_Registers_add kT ad rn (vp_updL rc rn.toNatClampNeg (zq_j_lushr (-1) (64 - p0))) (upd rm rn.toNatClampNeg (vp_nar .boolean 1))) := hD
  refine lv_aload_n hx hb zd_Registers_add_27 rfl (lv_at hl 0 rfl) ?_
  refine lv_dup hx hb zd_Registers_add_28 rfl ?_
  refine va_get (D := D) (ci := 0) (v := .int rn) (C := zR_Registers) (T := zF_Registers) (N := 4) hx hb ht zi_Registers hown hK hP 0 rfl rfl 3 (by decide) (ht _ zw_121) (fun _ h9 => h9) rfl zd_Registers_add_29 ?_
  refine lv_iconst (v := 1) hx hb zd_Registers_add_32 (by decide) ?_
  refine lv_iadd hx hb zd_Registers_add_33 ?_
  refine va_put (D := D) (ci := 0) (v := .int (rn + 1)) (ty := .int) (C := zR_Registers) (T := zF_Registers) (N := 4) hx hb ht zi_Registers zt_Registers zt_Registers_ok zn_Registers hown hK hP hD hS 0 rfl rfl 3 (by decide) (ht _ zw_121) (fun _ h9 => h9) rfl (by decide +kernel) rfl rfl (Nat.le_of_ble_eq_true rfl) zd_Registers_add_34 (fun H locs hP hD hS => ?_)
  have hP : va_P D vwCl (W_Registers_add kT ad (rn + 1) (vp_updL rc rn.toNatClampNeg (zq_j_lushr (-1) (64 - p0))) (upd rm rn.toNatClampNeg (vp_nar .boolean 1))) H := hP
  have hD : va_D A (W_Registers_add kT ad (rn + 1) (vp_updL rc rn.toNatClampNeg (zq_j_lushr (-1) (64 - p0))) (upd rm rn.toNatClampNeg (vp_nar .boolean 1))) := hD
  refine lv_aload_n hx hb zd_Registers_add_37 rfl (lv_at hl 0 rfl) ?_
  refine va_get (D := D) (ci := 0) (v := .int (rn + 1)) (C := zR_Registers) (T := zF_Registers) (N := 4) hx hb ht zi_Registers hown hK hP 0 rfl rfl 3 (by decide) (ht _ zw_121) (fun _ h9 => h9) rfl zd_Registers_add_38 ?_
  refine lv_iconst (v := 1) hx hb zd_Registers_add_41 (by decide) ?_
  refine lv_isub hx hb zd_Registers_add_42 ?_
  exact hret ((rn + 1) - 1)  _ H locs 43 ls ⟨(rn + 1), (vp_updL rc rn.toNatClampNeg (zq_j_lushr (-1) (64 - p0))), (upd rm rn.toNatClampNeg (vp_nar .boolean 1)), rfl, h⟩ hP rfl hS zd_Registers_add_43
abbrev W_Registers_has (kT : Nat → ClassId) (ad : Nat → Nat) (rn : Int32) : va_W := [(ad 1, .inr (0, [.ref (ad 2), .ref (ad 3), .ref (ad 4), .int rn]))]
abbrev A_Registers_has (ad : Nat → Nat) : List Nat := [ad 1]
def wp_Registers_has (rn : Int32) (p0 : Int32) (post : Int32 → Prop) : Prop := (if p0 < 0 then post 0  else (if rn ≤ p0 then post 0  else post 1 ))
set_option maxHeartbeats 4000000 in
set_option maxRecDepth 100000 in
theorem c_Registers_has (l : Launch) (D : va_G) (kT : Nat → ClassId) (ad : Nat → Nat) (rn : Int32) (p0 : Int32) (post : Int32 → Prop) (h : wp_Registers_has rn p0 post) : zq_Mi l zy_Registers_has zs_Registers_has ({ frames := 0, cells := 0, slots := 0, locals := 0 }) D kT [.ref (ad 1), .int p0] (W_Registers_has kT ad rn) (fun r w' => w' = (W_Registers_has kT ad rn) ∧ post r ) := by
  refine zq_Mz_of (adl := (A_Registers_has ad)) (cc := zb_Registers_has) (maxL := 2) (own := zR_Registers) rfl (by decide) rfl rfl (Nat.le_of_ble_eq_true rfl) ?_
  intro p e s m AV below meth c A QQ H locs ls hx hb hml hown ht hE hA hret hP hD hS hl
  have hK := hE.1
  have hl : lv_has ls 2 [(0, .ref (ad 1)), (1, .int p0)] := hl
  unfold wp_Registers_has at h
  refine lv_iload_n hx hb zd_Registers_has_0 rfl (lv_at hl 1 rfl) ?_
  refine lv_if_lt (tgt := 16) hx hb zd_Registers_has_1 (by decide) (fun c_1 => ?_) (fun c_1 => ?_)
  · have h := zq_it c_1 h
    refine lv_iconst (v := 0) hx hb zd_Registers_has_16 (by decide) ?_
    exact hret 0 rfl _ H locs 17 ls ⟨rfl, h⟩ hP rfl hS zd_Registers_has_17
  · have h := zq_if c_1 h
    refine lv_iload_n hx hb zd_Registers_has_4 rfl (lv_at hl 1 rfl) ?_
    refine lv_aload_n hx hb zd_Registers_has_5 rfl (lv_at hl 0 rfl) ?_
    refine va_get (D := D) (ci := 0) (v := .int rn) (C := zR_Registers) (T := zF_Registers) (N := 4) hx hb ht zi_Registers hown hK hP 0 rfl rfl 3 (by decide) (ht _ zw_121) (fun _ h9 => h9) rfl zd_Registers_has_6 ?_
    refine lv_icmp_ge (tgt := 16) hx hb zd_Registers_has_9 (by decide) (fun c_2 => ?_) (fun c_2 => ?_)
    · have h := zq_it c_2 h
      refine lv_iconst (v := 0) hx hb zd_Registers_has_16 (by decide) ?_
      exact hret 0 rfl _ H locs 17 ls ⟨rfl, h⟩ hP rfl hS zd_Registers_has_17
    · have h := zq_if c_2 h
      refine lv_iconst (v := 1) hx hb zd_Registers_has_12 (by decide) ?_
      refine lv_goto (tgt := 17) hx hb zd_Registers_has_13 (by decide) ?_
      exact hret 1 rfl _ H locs 17 ls ⟨rfl, h⟩ hP rfl hS zd_Registers_has_17
abbrev W_Registers_valueOf (kT : Nat → ClassId) (ad : Nat → Nat) (rn : Int32) (rv : Nat → Int64) : va_W := [(ad 1, .inr (0, [.ref (ad 2), .ref (ad 3), .ref (ad 4), .int rn])), (ad 3, .inl (kT 1, 24, .inr (.inl rv)))]
abbrev A_Registers_valueOf (ad : Nat → Nat) : List Nat := [ad 1, ad 3]
def wp_Registers_valueOf (rn : Int32) (rv : Nat → Int64) (p0 : Int32) (post : Int64 → Prop) : Prop := vp_in p0 24 ∧ post (rv p0.toNatClampNeg) 
set_option maxHeartbeats 4000000 in
set_option maxRecDepth 100000 in
theorem c_Registers_valueOf (l : Launch) (D : va_G) (kT : Nat → ClassId) (ad : Nat → Nat) (rn : Int32) (rv : Nat → Int64) (p0 : Int32) (post : Int64 → Prop) (h : wp_Registers_valueOf rn rv p0 post) : zq_Ml l zy_Registers_valueOf zs_Registers_valueOf ({ frames := 0, cells := 0, slots := 0, locals := 0 }) D kT [.ref (ad 1), .int p0] (W_Registers_valueOf kT ad rn rv) (fun r w' => w' = (W_Registers_valueOf kT ad rn rv) ∧ post r ) := by
  refine zq_Ml_of (adl := (A_Registers_valueOf ad)) (cc := zb_Registers_valueOf) (maxL := 2) (own := zR_Registers) rfl (by decide) rfl rfl (Nat.le_of_ble_eq_true rfl) ?_
  intro p e s m AV below meth c A QQ H locs ls hx hb hml hown ht hE hA hret hP hD hS hl
  have hK := hE.1
  have hl : lv_has ls 2 [(0, .ref (ad 1)), (1, .int p0)] := hl
  refine lv_aload_n hx hb zd_Registers_valueOf_0 rfl (lv_at hl 0 rfl) ?_
  refine va_get (D := D) (ci := 0) (v := .ref (ad 3)) (C := zR_Registers) (T := zF_Registers) (N := 4) hx hb ht zi_Registers hown hK hP 0 rfl rfl 1 (by decide) (ht _ zw_124) (fun _ h9 => h9) rfl zd_Registers_valueOf_1 ?_
  refine lv_iload_n hx hb zd_Registers_valueOf_4 rfl (lv_at hl 1 rfl) ?_
  obtain ⟨hi_1, h⟩ := h
  refine zq_a_lald (D := D) hx hb hK hP 1 1 rfl rfl hi_1 rfl zd_Registers_valueOf_5 ?_
  exact hret (rv p0.toNatClampNeg)  _ H locs 6 ls ⟨rfl, h⟩ hP rfl hS zd_Registers_valueOf_6
abbrev W_Registers_isMarked (kT : Nat → ClassId) (ad : Nat → Nat) (rn : Int32) (rm : Nat → Int32) : va_W := [(ad 1, .inr (0, [.ref (ad 2), .ref (ad 3), .ref (ad 4), .int rn])), (ad 4, .inl (kT 2, 24, .inl rm))]
abbrev A_Registers_isMarked (ad : Nat → Nat) : List Nat := [ad 1, ad 4]
def wp_Registers_isMarked (rn : Int32) (rm : Nat → Int32) (p0 : Int32) (post : Int32 → Prop) : Prop := vp_in p0 24 ∧ zq_bz (rm p0.toNatClampNeg) ∧ post (rm p0.toNatClampNeg) 
set_option maxHeartbeats 4000000 in
set_option maxRecDepth 100000 in
theorem c_Registers_isMarked (l : Launch) (D : va_G) (kT : Nat → ClassId) (ad : Nat → Nat) (rn : Int32) (rm : Nat → Int32) (p0 : Int32) (post : Int32 → Prop) (h : wp_Registers_isMarked rn rm p0 post) : zq_Mi l zy_Registers_isMarked zs_Registers_isMarked ({ frames := 0, cells := 0, slots := 0, locals := 0 }) D kT [.ref (ad 1), .int p0] (W_Registers_isMarked kT ad rn rm) (fun r w' => w' = (W_Registers_isMarked kT ad rn rm) ∧ post r ) := by
  refine zq_Mz_of (adl := (A_Registers_isMarked ad)) (cc := zb_Registers_isMarked) (maxL := 2) (own := zR_Registers) rfl (by decide) rfl rfl (Nat.le_of_ble_eq_true rfl) ?_
  intro p e s m AV below meth c A QQ H locs ls hx hb hml hown ht hE hA hret hP hD hS hl
  have hK := hE.1
  have hl : lv_has ls 2 [(0, .ref (ad 1)), (1, .int p0)] := hl
  refine lv_aload_n hx hb zd_Registers_isMarked_0 rfl (lv_at hl 0 rfl) ?_
  refine va_get (D := D) (ci := 0) (v := .ref (ad 4)) (C := zR_Registers) (T := zF_Registers) (N := 4) hx hb ht zi_Registers hown hK hP 0 rfl rfl 2 (by decide) (ht _ zw_123) (fun _ h9 => h9) rfl zd_Registers_isMarked_1 ?_
  refine lv_iload_n hx hb zd_Registers_isMarked_4 rfl (lv_at hl 1 rfl) ?_
  obtain ⟨hi_1, h⟩ := h
  refine zq_a_zald (D := D) hx hb hK hP 1 2 rfl rfl hi_1 rfl zd_Registers_isMarked_5 ?_
  obtain ⟨hb_2, h⟩ := h
  exact hret (rm p0.toNatClampNeg) (zq_bzn hb_2) _ H locs 6 ls ⟨rfl, h⟩ hP rfl hS zd_Registers_isMarked_6
abbrev W_Registers_put (kT : Nat → ClassId) (ad : Nat → Nat) (rn : Int32) (rc : Nat → Int64) (rv : Nat → Int64) (rm : Nat → Int32) : va_W := [(ad 1, .inr (0, [.ref (ad 2), .ref (ad 3), .ref (ad 4), .int rn])), (ad 2, .inl (kT 1, 24, .inr (.inl rc))), (ad 3, .inl (kT 1, 24, .inr (.inl rv))), (ad 4, .inl (kT 2, 24, .inl rm))]
abbrev A_Registers_put (ad : Nat → Nat) : List Nat := [ad 1, ad 2, ad 3, ad 4]
def wp_Registers_put (rn : Int32) (rc : Nat → Int64) (rv : Nat → Int64) (rm : Nat → Int32) (p0 : Int32) (p1 : Int64) (p2 : Int32) (post : (Nat → Int64) → (Nat → Int32) → Prop) : Prop := vp_in p0 24 ∧ vp_in p0 24 ∧ vp_in p0 24 ∧ post  (vp_updL rv p0.toNatClampNeg (p1 &&& (rc p0.toNatClampNeg))) (upd rm p0.toNatClampNeg (vp_nar .boolean p2))
set_option maxHeartbeats 4000000 in
set_option maxRecDepth 100000 in
theorem c_Registers_put (l : Launch) (D : va_G) (kT : Nat → ClassId) (ad : Nat → Nat) (rn : Int32) (rc : Nat → Int64) (rv : Nat → Int64) (rm : Nat → Int32) (p0 : Int32) (p1 : Int64) (p2 : Int32) (post : (Nat → Int64) → (Nat → Int32) → Prop) (h : wp_Registers_put rn rc rv rm p0 p1 p2 post) : zq_Mv l zy_Registers_put zs_Registers_put ({ frames := 0, cells := 0, slots := 0, locals := 0 }) D kT [.ref (ad 1), .int p0, .long p1, .int p2] (W_Registers_put kT ad rn rc rv rm) (fun w' => ∃ (rv' : Nat → Int64) (rm' : Nat → Int32), w' = (W_Registers_put kT ad rn rc rv' rm') ∧ post  rv' rm') := by
  refine zq_Mv_of (adl := (A_Registers_put ad)) (cc := zb_Registers_put) (maxL := 5) (own := zR_Registers) rfl (by decide) rfl rfl (Nat.le_of_ble_eq_true rfl) ?_
  intro p e s m AV below meth c A QQ H locs ls hx hb hml hown ht hE hA hret hP hD hS hl
  have hK := hE.1
  have hl : lv_has ls 5 [(0, .ref (ad 1)), (1, .int p0), (2, .long p1), (4, .int p2)] := hl
  refine lv_aload_n hx hb zd_Registers_put_0 rfl (lv_at hl 0 rfl) ?_
  refine va_get (D := D) (ci := 0) (v := .ref (ad 3)) (C := zR_Registers) (T := zF_Registers) (N := 4) hx hb ht zi_Registers hown hK hP 0 rfl rfl 1 (by decide) (ht _ zw_124) (fun _ h9 => h9) rfl zd_Registers_put_1 ?_
  refine lv_iload_n hx hb zd_Registers_put_4 rfl (lv_at hl 1 rfl) ?_
  refine lv_lload_n hx hb zd_Registers_put_5 rfl (lv_at hl 2 rfl) ?_
  refine lv_aload_n hx hb zd_Registers_put_6 rfl (lv_at hl 0 rfl) ?_
  refine va_get (D := D) (ci := 0) (v := .ref (ad 2)) (C := zR_Registers) (T := zF_Registers) (N := 4) hx hb ht zi_Registers hown hK hP 0 rfl rfl 0 (by decide) (ht _ zw_120) (fun _ h9 => h9) rfl zd_Registers_put_7 ?_
  refine lv_iload_n hx hb zd_Registers_put_10 rfl (lv_at hl 1 rfl) ?_
  obtain ⟨hi_1, h⟩ := h
  refine zq_a_lald (D := D) hx hb hK hP 1 1 rfl rfl hi_1 rfl zd_Registers_put_11 ?_
  refine lv_land hx hb zd_Registers_put_12 ?_
  obtain ⟨hi_2, h⟩ := h
  refine zq_a_last (D := D) hx hb hK hP hD hS 2 1 rfl rfl hi_2 rfl zd_Registers_put_13 (fun H locs hP hD hS => ?_)
  have hP : va_P D vwCl (W_Registers_put kT ad rn rc (vp_updL rv p0.toNatClampNeg (p1 &&& (rc p0.toNatClampNeg))) rm) H := hP
  have hD : va_D A (W_Registers_put kT ad rn rc (vp_updL rv p0.toNatClampNeg (p1 &&& (rc p0.toNatClampNeg))) rm) := hD
  refine lv_aload_n hx hb zd_Registers_put_14 rfl (lv_at hl 0 rfl) ?_
  refine va_get (D := D) (ci := 0) (v := .ref (ad 4)) (C := zR_Registers) (T := zF_Registers) (N := 4) hx hb ht zi_Registers hown hK hP 0 rfl rfl 2 (by decide) (ht _ zw_123) (fun _ h9 => h9) rfl zd_Registers_put_15 ?_
  refine lv_iload_n hx hb zd_Registers_put_18 rfl (lv_at hl 1 rfl) ?_
  refine lv_iload hx hb zd_Registers_put_19 (lv_at hl 3 rfl) ?_
  obtain ⟨hi_3, h⟩ := h
  refine zq_a_zast (D := D) hx hb hK hP hD hS 3 2 rfl rfl hi_3 rfl zd_Registers_put_21 (fun H locs hP hD hS => ?_)
  have hP : va_P D vwCl (W_Registers_put kT ad rn rc (vp_updL rv p0.toNatClampNeg (p1 &&& (rc p0.toNatClampNeg))) (upd rm p0.toNatClampNeg (vp_nar .boolean p2))) H := hP
  have hD : va_D A (W_Registers_put kT ad rn rc (vp_updL rv p0.toNatClampNeg (p1 &&& (rc p0.toNatClampNeg))) (upd rm p0.toNatClampNeg (vp_nar .boolean p2))) := hD
  exact hret  _ H locs 22 ls ⟨(vp_updL rv p0.toNatClampNeg (p1 &&& (rc p0.toNatClampNeg))), (upd rm p0.toNatClampNeg (vp_nar .boolean p2)), rfl, h⟩ hP rfl hS zd_Registers_put_22
abbrev W_Registers_placeNow (kT : Nat → ClassId) (ad : Nat → Nat) (rn : Int32) (rv : Nat → Int64) : va_W := [(ad 1, .inr (0, [.ref (ad 2), .ref (ad 3), .ref (ad 4), .int rn])), (ad 3, .inl (kT 1, 24, .inr (.inl rv)))]
abbrev A_Registers_placeNow (ad : Nat → Nat) : List Nat := [ad 1, ad 3]
def wp_Registers_placeNow (rn : Int32) (rv : Nat → Int64)  (post : Int32 → Prop) : Prop := post (zq_j_l2i (rv 0)) 
set_option maxHeartbeats 4000000 in
set_option maxRecDepth 100000 in
theorem c_Registers_placeNow (l : Launch) (D : va_G) (kT : Nat → ClassId) (ad : Nat → Nat) (rn : Int32) (rv : Nat → Int64)  (post : Int32 → Prop) (h : wp_Registers_placeNow rn rv  post) : zq_Mi l zy_Registers_placeNow zs_Registers_placeNow ({ frames := 0, cells := 0, slots := 0, locals := 0 }) D kT [.ref (ad 1)] (W_Registers_placeNow kT ad rn rv) (fun r w' => w' = (W_Registers_placeNow kT ad rn rv) ∧ post r ) := by
  refine zq_Mi_of (adl := (A_Registers_placeNow ad)) (cc := zb_Registers_placeNow) (maxL := 1) (own := zR_Registers) rfl (by decide) rfl rfl (Nat.le_of_ble_eq_true rfl) ?_
  intro p e s m AV below meth c A QQ H locs ls hx hb hml hown ht hE hA hret hP hD hS hl
  have hK := hE.1
  have hl : lv_has ls 1 [(0, .ref (ad 1))] := hl
  refine lv_aload_n hx hb zd_Registers_placeNow_0 rfl (lv_at hl 0 rfl) ?_
  refine va_get (D := D) (ci := 0) (v := .ref (ad 3)) (C := zR_Registers) (T := zF_Registers) (N := 4) hx hb ht zi_Registers hown hK hP 0 rfl rfl 1 (by decide) (ht _ zw_124) (fun _ h9 => h9) rfl zd_Registers_placeNow_1 ?_
  refine lv_iconst (v := 0) hx hb zd_Registers_placeNow_4 (by decide) ?_
  refine zq_a_lald (D := D) (j := 0) hx hb hK hP 1 1 rfl rfl (zq_in (by decide)) (by decide) zd_Registers_placeNow_5 ?_
  refine lv_l2i (v := (zq_j_l2i (rv 0))) hx hb zd_Registers_placeNow_6 rfl ?_
  exact hret (zq_j_l2i (rv 0))  _ H locs 7 ls ⟨rfl, h⟩ hP rfl hS zd_Registers_placeNow_7
abbrev W_Registers_movePlace (kT : Nat → ClassId) (ad : Nat → Nat) (rn : Int32) (rc : Nat → Int64) (rv : Nat → Int64) (rm : Nat → Int32) : va_W := [(ad 1, .inr (0, [.ref (ad 2), .ref (ad 3), .ref (ad 4), .int rn])), (ad 2, .inl (kT 1, 24, .inr (.inl rc))), (ad 3, .inl (kT 1, 24, .inr (.inl rv))), (ad 4, .inl (kT 2, 24, .inl rm))]
abbrev A_Registers_movePlace (ad : Nat → Nat) : List Nat := [ad 1, ad 2, ad 3, ad 4]
def wp_Registers_movePlace (rn : Int32) (rc : Nat → Int64) (rv : Nat → Int64) (rm : Nat → Int32) (p0 : Int32) (post : (Nat → Int64) → (Nat → Int32) → Prop) : Prop := wp_Registers_put rn rc rv rm 0 (zq_j_i2l p0) (rm 0) (fun rv_1 rm_2 => post  rv_1 rm_2)
set_option maxHeartbeats 4000000 in
set_option maxRecDepth 100000 in
theorem c_Registers_movePlace (l : Launch) (D : va_G) (kT : Nat → ClassId) (ad : Nat → Nat) (rn : Int32) (rc : Nat → Int64) (rv : Nat → Int64) (rm : Nat → Int32) (p0 : Int32) (post : (Nat → Int64) → (Nat → Int32) → Prop) (h : wp_Registers_movePlace rn rc rv rm p0 post) : zq_Mv l zy_Registers_movePlace zs_Registers_movePlace ({ frames := 1, cells := 0, slots := 0, locals := 24 }) D kT [.ref (ad 1), .int p0] (W_Registers_movePlace kT ad rn rc rv rm) (fun w' => ∃ (rv' : Nat → Int64) (rm' : Nat → Int32), w' = (W_Registers_movePlace kT ad rn rc rv' rm') ∧ post  rv' rm') := by
  refine zq_Mv_of (adl := (A_Registers_movePlace ad)) (cc := zb_Registers_movePlace) (maxL := 2) (own := zR_Registers) rfl (by decide) rfl rfl (Nat.le_of_ble_eq_true rfl) ?_
  intro p e s m AV below meth c A QQ H locs ls hx hb hml hown ht hE hA hret hP hD hS hl
  have hK := hE.1
  have hl : lv_has ls 2 [(0, .ref (ad 1)), (1, .int p0)] := hl
  refine lv_aload_n hx hb zd_Registers_movePlace_0 rfl (lv_at hl 0 rfl) ?_
  refine lv_iconst (v := 0) hx hb zd_Registers_movePlace_1 (by decide) ?_
  refine lv_iload_n hx hb zd_Registers_movePlace_2 rfl (lv_at hl 1 rfl) ?_
  refine lv_i2l (v := (zq_j_i2l p0)) hx hb zd_Registers_movePlace_3 rfl ?_
  refine lv_aload_n hx hb zd_Registers_movePlace_4 rfl (lv_at hl 0 rfl) ?_
  refine va_get (D := D) (ci := 0) (v := .ref (ad 4)) (C := zR_Registers) (T := zF_Registers) (N := 4) hx hb ht zi_Registers hown hK hP 0 rfl rfl 2 (by decide) (ht _ zw_123) (fun _ h9 => h9) rfl zd_Registers_movePlace_5 ?_
  refine lv_iconst (v := 0) hx hb zd_Registers_movePlace_8 (by decide) ?_
  refine zq_a_zald (D := D) (j := 0) hx hb hK hP 3 2 rfl rfl (zq_in (by decide)) (by decide) zd_Registers_movePlace_9 ?_
  refine zq_c_Vv (rest := []) (adl := (A_Registers_movePlace ad)) (wr := []) ⟨hx, hb, hml, hown, ht⟩ (c_Registers_put l D kT ad rn rc rv rm 0 (zq_j_i2l p0) (rm 0) _ h) (cwV 3 ht (zq_gV zw_125 zw_126 zw_127 zw_128 zw_129) rfl rfl rfl zh_Registers_put ⟨Nat.le_of_ble_eq_true rfl, Nat.le_of_ble_eq_true rfl⟩) hE hP hD hS hA [0, 1, 2, 3] [] 4 rfl (by decide +kernel) rfl (by decide +kernel) rfl rfl 0 rfl rfl rfl rfl hl.1 (Nat.le_of_ble_eq_true rfl) rfl zd_Registers_movePlace_10 ⟨Nat.zero_le _, Nat.zero_le _⟩ (fun w1 H locs hw hJ hS => ?_)
  obtain ⟨rv_1, rm_2, rfl, h⟩ := hw
  obtain ⟨hP, hD⟩ := hJ (W_Registers_movePlace kT ad rn rc rv_1 rm_2) rfl rfl rfl
  exact hret  _ H locs 13 ls ⟨rv_1, rm_2, rfl, h⟩ hP rfl hS zd_Registers_movePlace_13
