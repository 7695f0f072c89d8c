abbrev W_Kept_isFull (kT : Nat → ClassId) (ad : Nat → Nat) (kn : Int32) (kv : Int32) : va_W := [(ad 22, .inr (4, [.ref (ad 23), .ref (ad 24), .int kn, .int kv]))]
abbrev A_Kept_isFull (ad : Nat → Nat) : List Nat := [ad 22]
def wp_Kept_isFull (kn : Int32) (kv : Int32)  (post : Int32 → Prop) : Prop := (if kn < 8 then post 0  else post 1 )
set_option maxHeartbeats 4000000 in
set_option maxRecDepth 100000 in
theorem c_Kept_isFull (l : Launch) (D : va_G) (kT : Nat → ClassId) (ad : Nat → Nat) (kn : Int32) (kv : Int32)  (post : Int32 → Prop) (h : wp_Kept_isFull kn kv  post) : zq_Mi l zy_Kept_isFull zs_Kept_isFull ({ frames := 0, cells := 0, slots := 0, locals := 0 }) D kT [.ref (ad 22)] (W_Kept_isFull kT ad kn kv) (fun r w' => w' = (W_Kept_isFull kT ad kn kv) ∧ post r ) := by
  refine zq_Mz_of (adl := (A_Kept_isFull ad)) (cc := zb_Kept_isFull) (maxL := 1) (own := zR_Kept) rfl (by decide) rfl rfl (Nat.le_of_ble_eq_true rfl) ?_
  intro p e s m AV below meth c A QQ H locs ls hx hb hml hown ht hE hA hret hP hD hS hl
  have hK := hE.1
  have hl : lv_has ls 1 [(0, .ref (ad 22))] := hl
  unfold wp_Kept_isFull at h
  refine lv_aload_n hx hb zd_Kept_isFull_0 rfl (lv_at hl 0 rfl) ?_
  refine va_get (D := D) (ci := 4) (v := .int kn) (C := zR_Kept) (T := zF_Kept) (N := 4) hx hb ht zi_Kept hown hK hP 0 rfl rfl 2 (by decide) (ht _ zw_172) (fun _ h9 => h9) rfl zd_Kept_isFull_1 ?_
  refine lv_bipush (v := 8) hx hb zd_Kept_isFull_4 (by decide) ?_
  refine lv_icmp_lt (tgt := 13) hx hb zd_Kept_isFull_6 (by decide) (fun c_1 => ?_) (fun c_1 => ?_)
  · have h := zq_it c_1 h
    refine lv_iconst (v := 0) hx hb zd_Kept_isFull_13 (by decide) ?_
    exact hret 0 rfl _ H locs 14 ls ⟨rfl, h⟩ hP rfl hS zd_Kept_isFull_14
  · have h := zq_if c_1 h
    refine lv_iconst (v := 1) hx hb zd_Kept_isFull_9 (by decide) ?_
    refine lv_goto (tgt := 14) hx hb zd_Kept_isFull_10 (by decide) ?_
    exact hret 1 rfl _ H locs 14 ls ⟨rfl, h⟩ hP rfl hS zd_Kept_isFull_14
abbrev W_Kept_keep (kT : Nat → ClassId) (ad : Nat → Nat) (kn : Int32) (kv : Int32) (kp : Nat → Int32) (kl : Nat → Int32) : va_W := [(ad 22, .inr (4, [.ref (ad 23), .ref (ad 24), .int kn, .int kv])), (ad 23, .inl (kT 0, 8, .inl kp)), (ad 24, .inl (kT 0, 8, .inl kl))]
abbrev A_Kept_keep (ad : Nat → Nat) : List Nat := [ad 22, ad 23, ad 24]
def wp_Kept_keep (kn : Int32) (kv : Int32) (kp : Nat → Int32) (kl : Nat → Int32) (p0 : Int32) (p1 : Int32) (post : Int32 → Int32 → (Nat → Int32) → (Nat → Int32) → Prop) : Prop := vp_in kn 8 ∧ vp_in kn 8 ∧ post  (kn + 1) p1 (upd kp kn.toNatClampNeg p0) (upd kl kn.toNatClampNeg kv)
set_option maxHeartbeats 4000000 in
set_option maxRecDepth 100000 in
theorem c_Kept_keep (l : Launch) (D : va_G) (kT : Nat → ClassId) (ad : Nat → Nat) (kn : Int32) (kv : Int32) (kp : Nat → Int32) (kl : Nat → Int32) (p0 : Int32) (p1 : Int32) (post : Int32 → Int32 → (Nat → Int32) → (Nat → Int32) → Prop) (h : wp_Kept_keep kn kv kp kl p0 p1 post) : zq_Mv l zy_Kept_keep zs_Kept_keep ({ frames := 0, cells := 0, slots := 0, locals := 0 }) D kT [.ref (ad 22), .int p0, .int p1] (W_Kept_keep kT ad kn kv kp kl) (fun w' => ∃ (kn' : Int32) (kv' : Int32) (kp' : Nat → Int32) (kl' : Nat → Int32), w' = (W_Kept_keep kT ad kn' kv' kp' kl') ∧ post  kn' kv' kp' kl') := by
  refine zq_Mv_of (adl := (A_Kept_keep ad)) (cc := zb_Kept_keep) (maxL := 3) (own := zR_Kept) rfl (by decide) rfl rfl (Nat.le_of_ble_eq_true rfl) ?_
  intro p e s m AV below meth c A QQ H locs ls hx hb hml hown ht hE hA hret hP hD hS hl
  have hK := hE.1
  have hl : lv_has ls 3 [(0, .ref (ad 22)), (1, .int p0), (2, .int p1)] := hl
  refine lv_aload_n hx hb zd_Kept_keep_0 rfl (lv_at hl 0 rfl) ?_
  refine va_get (D := D) (ci := 4) (v := .ref (ad 23)) (C := zR_Kept) (T := zF_Kept) (N := 4) hx hb ht zi_Kept hown hK hP 0 rfl rfl 0 (by decide) (ht _ zw_173) (fun _ h9 => h9) rfl zd_Kept_keep_1 ?_
  refine lv_aload_n hx hb zd_Kept_keep_4 rfl (lv_at hl 0 rfl) ?_
  refine va_get (D := D) (ci := 4) (v := .int kn) (C := zR_Kept) (T := zF_Kept) (N := 4) hx hb ht zi_Kept hown hK hP 0 rfl rfl 2 (by decide) (ht _ zw_172) (fun _ h9 => h9) rfl zd_Kept_keep_5 ?_
  refine lv_iload_n hx hb zd_Kept_keep_8 rfl (lv_at hl 1 rfl) ?_
  obtain ⟨hi_1, h⟩ := h
  refine zq_a_iast (D := D) hx hb hK hP hD hS 1 0 rfl rfl hi_1 rfl zd_Kept_keep_9 (fun H locs hP hD hS => ?_)
  have hP : va_P D vwCl (W_Kept_keep kT ad kn kv (upd kp kn.toNatClampNeg p0) kl) H := hP
  have hD : va_D A (W_Kept_keep kT ad kn kv (upd kp kn.toNatClampNeg p0) kl) := hD
  refine lv_aload_n hx hb zd_Kept_keep_10 rfl (lv_at hl 0 rfl) ?_
  refine va_get (D := D) (ci := 4) (v := .ref (ad 24)) (C := zR_Kept) (T := zF_Kept) (N := 4) hx hb ht zi_Kept hown hK hP 0 rfl rfl 1 (by decide) (ht _ zw_174) (fun _ h9 => h9) rfl zd_Kept_keep_11 ?_
  refine lv_aload_n hx hb zd_Kept_keep_14 rfl (lv_at hl 0 rfl) ?_
  refine va_get (D := D) (ci := 4) (v := .int kn) (C := zR_Kept) (T := zF_Kept) (N := 4) hx hb ht zi_Kept hown hK hP 0 rfl rfl 2 (by decide) (ht _ zw_172) (fun _ h9 => h9) rfl zd_Kept_keep_15 ?_
  refine lv_aload_n hx hb zd_Kept_keep_18 rfl (lv_at hl 0 rfl) ?_
  refine va_get (D := D) (ci := 4) (v := .int kv) (C := zR_Kept) (T := zF_Kept) (N := 4) hx hb ht zi_Kept hown hK hP 0 rfl rfl 3 (by decide) (ht _ zw_175) (fun _ h9 => h9) rfl zd_Kept_keep_19 ?_
  obtain ⟨hi_2, h⟩ := h
  refine zq_a_iast (D := D) hx hb hK hP hD hS 2 0 rfl rfl hi_2 rfl zd_Kept_keep_22 (fun H locs hP hD hS => ?_)
  have hP : va_P D vwCl (W_Kept_keep kT ad kn kv (upd kp kn.toNatClampNeg p0) (upd kl kn.toNatClampNeg kv)) H := hP
  have hD : va_D A (W_Kept_keep kT ad kn kv (upd kp kn.toNatClampNeg p0) (upd kl kn.toNatClampNeg kv)) := hD
  refine lv_aload_n hx hb zd_Kept_keep_23 rfl (lv_at hl 0 rfl) ?_
  refine lv_dup hx hb zd_Kept_keep_24 rfl ?_
  refine va_get (D := D) (ci := 4) (v := .int kn) (C := zR_Kept) (T := zF_Kept) (N := 4) hx hb ht zi_Kept hown hK hP 0 rfl rfl 2 (by decide) (ht _ zw_172) (fun _ h9 => h9) rfl zd_Kept_keep_25 ?_
  refine lv_iconst (v := 1) hx hb zd_Kept_keep_28 (by decide) ?_
  refine lv_iadd hx hb zd_Kept_keep_29 ?_
  refine va_put (D := D) (ci := 4) (v := .int (kn + 1)) (ty := .int) (C := zR_Kept) (T := zF_Kept) (N := 4) hx hb ht zi_Kept zt_Kept zt_Kept_ok zn_Kept hown hK hP hD hS 0 rfl rfl 2 (by decide) (ht _ zw_172) (fun _ h9 => h9) rfl (by decide +kernel) rfl rfl (Nat.le_of_ble_eq_true rfl) zd_Kept_keep_30 (fun H locs hP hD hS => ?_)
  have hP : va_P D vwCl (W_Kept_keep kT ad (kn + 1) kv (upd kp kn.toNatClampNeg p0) (upd kl kn.toNatClampNeg kv)) H := hP
  have hD : va_D A (W_Kept_keep kT ad (kn + 1) kv (upd kp kn.toNatClampNeg p0) (upd kl kn.toNatClampNeg kv)) := hD
  refine lv_aload_n hx hb zd_Kept_keep_33 rfl (lv_at hl 0 rfl) ?_
  refine lv_iload_n hx hb zd_Kept_keep_34 rfl (lv_at hl 2 rfl) ?_
  refine va_put (D := D) (ci := 4) (v := .int p1) (ty := .int) (C := zR_Kept) (T := zF_Kept) (N := 4) hx hb ht zi_Kept zt_Kept zt_Kept_ok zn_Kept hown hK hP hD hS 0 rfl rfl 3 (by decide) (ht _ zw_175) (fun _ h9 => h9) rfl (by decide +kernel) rfl rfl (Nat.le_of_ble_eq_true rfl) zd_Kept_keep_35 (fun H locs hP hD hS => ?_)
  have hP : va_P D vwCl (W_Kept_keep kT ad (kn + 1) p1 (upd kp kn.toNatClampNeg p0) (upd kl kn.toNatClampNeg kv)) H := hP
  have hD : va_D A (W_Kept_keep kT ad (kn + 1) p1 (upd kp kn.toNatClampNeg p0) (upd kl kn.toNatClampNeg kv)) := hD
  exact hret  _ H locs 38 ls ⟨(kn + 1), p1, (upd kp kn.toNatClampNeg p0), (upd kl kn.toNatClampNeg kv), rfl, h⟩ hP rfl hS zd_Kept_keep_38
abbrev W_Kept_goBack (kT : Nat → ClassId) (ad : Nat → Nat) (kn : Int32) (kv : Int32) (kp : Nat → Int32) (kl : Nat → Int32) : va_W := [(ad 22, .inr (4, [.ref (ad 23), .ref (ad 24), .int kn, .int kv])), (ad 23, .inl (kT 0, 8, .inl kp)), (ad 24, .inl (kT 0, 8, .inl kl))]
abbrev A_Kept_goBack (ad : Nat → Nat) : List Nat := [ad 22, ad 23, ad 24]
def wp_Kept_goBack (kn : Int32) (kv : Int32) (kp : Nat → Int32) (kl : Nat → Int32)  (post : Int32 → Int32 → Int32 → Prop) : Prop := (if 0 < kn then vp_in (kn - 1) 8 ∧ vp_in (kn - 1) 8 ∧ post (kp ((kn - 1)).toNatClampNeg) (kn - 1) (kl ((kn - 1)).toNatClampNeg) else post (-1) kn kv)
set_option maxHeartbeats 4000000 in
set_option maxRecDepth 100000 in
theorem c_Kept_goBack (l : Launch) (D : va_G) (kT : Nat → ClassId) (ad : Nat → Nat) (kn : Int32) (kv : Int32) (kp : Nat → Int32) (kl : Nat → Int32)  (post : Int32 → Int32 → Int32 → Prop) (h : wp_Kept_goBack kn kv kp kl  post) : zq_Mi l zy_Kept_goBack zs_Kept_goBack ({ frames := 0, cells := 0, slots := 0, locals := 0 }) D kT [.ref (ad 22)] (W_Kept_goBack kT ad kn kv kp kl) (fun r w' => ∃ (kn' : Int32) (kv' : Int32), w' = (W_Kept_goBack kT ad kn' kv' kp kl) ∧ post r kn' kv') := by
  refine zq_Mi_of (adl := (A_Kept_goBack ad)) (cc := zb_Kept_goBack) (maxL := 1) (own := zR_Kept) rfl (by decide) rfl rfl (Nat.le_of_ble_eq_true rfl) ?_
  intro p e s m AV below meth c A QQ H locs ls hx hb hml hown ht hE hA hret hP hD hS hl
  have hK := hE.1
  have hl : lv_has ls 1 [(0, .ref (ad 22))] := hl
  unfold wp_Kept_goBack at h
  refine lv_aload_n hx hb zd_Kept_goBack_0 rfl (lv_at hl 0 rfl) ?_
  refine va_get (D := D) (ci := 4) (v := .int kn) (C := zR_Kept) (T := zF_Kept) (N := 4) hx hb ht zi_Kept hown hK hP 0 rfl rfl 2 (by decide) (ht _ zw_172) (fun _ h9 => h9) rfl zd_Kept_goBack_1 ?_
  refine lv_if_gt (tgt := 9) hx hb zd_Kept_goBack_4 (by decide) (fun c_1 => ?_) (fun c_1 => ?_)
  · have h := zq_it c_1 h
    refine lv_aload_n hx hb zd_Kept_goBack_9 rfl (lv_at hl 0 rfl) ?_
    refine lv_dup hx hb zd_Kept_goBack_10 rfl ?_
    refine va_get (D := D) (ci := 4) (v := .int kn) (C := zR_Kept) (T := zF_Kept) (N := 4) hx hb ht zi_Kept hown hK hP 0 rfl rfl 2 (by decide) (ht _ zw_172) (fun _ h9 => h9) rfl zd_Kept_goBack_11 ?_
    refine lv_iconst (v := 1) hx hb zd_Kept_goBack_14 (by decide) ?_
    refine lv_isub hx hb zd_Kept_goBack_15 ?_
    refine va_put (D := D) (ci := 4) (v := .int (kn - 1)) (ty := .int) (C := zR_Kept) (T := zF_Kept) (N := 4) hx hb ht zi_Kept zt_Kept zt_Kept_ok zn_Kept hown hK hP hD hS 0 rfl rfl 2 (by decide) (ht _ zw_172) (fun _ h9 => h9) rfl (by decide +kernel) rfl rfl (Nat.le_of_ble_eq_true rfl) zd_Kept_goBack_16 (fun H locs hP hD hS => ?_)
    have hP : va_P D vwCl (W_Kept_goBack kT ad (kn - 1) kv kp kl) H := hP
    have hD : va_D A (W_Kept_goBack kT ad (kn - 1) kv kp kl) := hD
    refine lv_aload_n hx hb zd_Kept_goBack_19 rfl (lv_at hl 0 rfl) ?_
    refine lv_aload_n hx hb zd_Kept_goBack_20 rfl (lv_at hl 0 rfl) ?_
    refine va_get (D := D) (ci := 4) (v := .ref (ad 24)) (C := zR_Kept) (T := zF_Kept) (N := 4) hx hb ht zi_Kept hown hK hP 0 rfl rfl 1 (by decide) (ht _ zw_174) (fun _ h9 => h9) rfl zd_Kept_goBack_21 ?_
    refine lv_aload_n hx hb zd_Kept_goBack_24 rfl (lv_at hl 0 rfl) ?_
    refine va_get (D := D) (ci := 4) (v := .int (kn - 1)) (C := zR_Kept) (T := zF_Kept) (N := 4) hx hb ht zi_Kept hown hK hP 0 rfl rfl 2 (by decide) (ht _ zw_172) (fun _ h9 => h9) rfl zd_Kept_goBack_25 ?_
    obtain ⟨hi_2, h⟩ := h
    refine zq_a_iald (D := D) hx hb hK hP 2 0 rfl rfl hi_2 rfl zd_Kept_goBack_28 ?_
    refine va_put (D := D) (ci := 4) (v := .int (kl ((kn - 1)).toNatClampNeg)) (ty := .int) (C := zR_Kept) (T := zF_Kept) (N := 4) hx hb ht zi_Kept zt_Kept zt_Kept_ok zn_Kept hown hK hP hD hS 0 rfl rfl 3 (by decide) (ht _ zw_175) (fun _ h9 => h9) rfl (by decide +kernel) rfl rfl (Nat.le_of_ble_eq_true rfl) zd_Kept_goBack_29 (fun H locs hP hD hS => ?_)
    have hP : va_P D vwCl (W_Kept_goBack kT ad (kn - 1) (kl ((kn - 1)).toNatClampNeg) kp kl) H := hP
    have hD : va_D A (W_Kept_goBack kT ad (kn - 1) (kl ((kn - 1)).toNatClampNeg) kp kl) := hD
    refine lv_aload_n hx hb zd_Kept_goBack_32 rfl (lv_at hl 0 rfl) ?_
    refine va_get (D := D) (ci := 4) (v := .ref (ad 23)) (C := zR_Kept) (T := zF_Kept) (N := 4) hx hb ht zi_Kept hown hK hP 0 rfl rfl 0 (by decide) (ht _ zw_173) (fun _ h9 => h9) rfl zd_Kept_goBack_33 ?_
    refine lv_aload_n hx hb zd_Kept_goBack_36 rfl (lv_at hl 0 rfl) ?_
    refine va_get (D := D) (ci := 4) (v := .int (kn - 1)) (C := zR_Kept) (T := zF_Kept) (N := 4) hx hb ht zi_Kept hown hK hP 0 rfl rfl 2 (by decide) (ht _ zw_172) (fun _ h9 => h9) rfl zd_Kept_goBack_37 ?_
    obtain ⟨hi_3, h⟩ := h
    refine zq_a_iald (D := D) hx hb hK hP 1 0 rfl rfl hi_3 rfl zd_Kept_goBack_40 ?_
    exact hret (kp ((kn - 1)).toNatClampNeg)  _ H locs 41 ls ⟨(kn - 1), (kl ((kn - 1)).toNatClampNeg), rfl, h⟩ hP rfl hS zd_Kept_goBack_41
  · have h := zq_if c_1 h
    refine lv_iconst (v := (-1)) hx hb zd_Kept_goBack_7 (by decide) ?_
    exact hret (-1)  _ H locs 8 ls ⟨kn, kv, rfl, h⟩ hP rfl hS zd_Kept_goBack_8
abbrev W_Kept_restore (kT : Nat → ClassId) (ad : Nat → Nat) (kn : Int32) (kv : Int32) : va_W := [(ad 22, .inr (4, [.ref (ad 23), .ref (ad 24), .int kn, .int kv]))]
abbrev A_Kept_restore (ad : Nat → Nat) : List Nat := [ad 22]
def wp_Kept_restore (kn : Int32) (kv : Int32) (p0 : Int32) (p1 : Int32) (post : Int32 → Int32 → Prop) : Prop := post  p0 p1
set_option maxHeartbeats 4000000 in
set_option maxRecDepth 100000 in
theorem c_Kept_restore (l : Launch) (D : va_G) (kT : Nat → ClassId) (ad : Nat → Nat) (kn : Int32) (kv : Int32) (p0 : Int32) (p1 : Int32) (post : Int32 → Int32 → Prop) (h : wp_Kept_restore kn kv p0 p1 post) : zq_Mv l zy_Kept_restore zs_Kept_restore ({ frames := 0, cells := 0, slots := 0, locals := 0 }) D kT [.ref (ad 22), .int p0, .int p1] (W_Kept_restore kT ad kn kv) (fun w' => ∃ (kn' : Int32) (kv' : Int32), w' = (W_Kept_restore kT ad kn' kv') ∧ post  kn' kv') := by
  refine zq_Mv_of (adl := (A_Kept_restore ad)) (cc := zb_Kept_restore) (maxL := 3) (own := zR_Kept) rfl (by decide) rfl rfl (Nat.le_of_ble_eq_true rfl) ?_
  intro p e s m AV below meth c A QQ H locs ls hx hb hml hown ht hE hA hret hP hD hS hl
  have hK := hE.1
  have hl : lv_has ls 3 [(0, .ref (ad 22)), (1, .int p0), (2, .int p1)] := hl
  refine lv_aload_n hx hb zd_Kept_restore_0 rfl (lv_at hl 0 rfl) ?_
  refine lv_iload_n hx hb zd_Kept_restore_1 rfl (lv_at hl 1 rfl) ?_
  refine va_put (D := D) (ci := 4) (v := .int p0) (ty := .int) (C := zR_Kept) (T := zF_Kept) (N := 4) hx hb ht zi_Kept zt_Kept zt_Kept_ok zn_Kept hown hK hP hD hS 0 rfl rfl 2 (by decide) (ht _ zw_172) (fun _ h9 => h9) rfl (by decide +kernel) rfl rfl (Nat.le_of_ble_eq_true rfl) zd_Kept_restore_2 (fun H locs hP hD hS => ?_)
  have hP : va_P D vwCl (W_Kept_restore kT ad p0 kv) H := hP
  have hD : va_D A (W_Kept_restore kT ad p0 kv) := hD
  refine lv_aload_n hx hb zd_Kept_restore_5 rfl (lv_at hl 0 rfl) ?_
  refine lv_iload_n hx hb zd_Kept_restore_6 rfl (lv_at hl 2 rfl) ?_
  refine va_put (D := D) (ci := 4) (v := .int p1) (ty := .int) (C := zR_Kept) (T := zF_Kept) (N := 4) hx hb ht zi_Kept zt_Kept zt_Kept_ok zn_Kept hown hK hP hD hS 0 rfl rfl 3 (by decide) (ht _ zw_175) (fun _ h9 => h9) rfl (by decide +kernel) rfl rfl (Nat.le_of_ble_eq_true rfl) zd_Kept_restore_7 (fun H locs hP hD hS => ?_)
  have hP : va_P D vwCl (W_Kept_restore kT ad p0 p1) H := hP
  have hD : va_D A (W_Kept_restore kT ad p0 p1) := hD
  exact hret  _ H locs 10 ls ⟨p0, p1, rfl, h⟩ hP rfl hS zd_Kept_restore_10
