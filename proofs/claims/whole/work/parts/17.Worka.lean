abbrev W_Work_prepare (kT : Nat → ClassId) (ad : Nat → Nat) (ptn : Int32) (pin : Int32) (pw : Nat → Int32) (wn : Int32) (xw : Int32) (xp : Int32) (xr : Int32) (xq : Int32) (xe : Int32) (xh : Int32) (xb : Int32) : va_W := [(ad 12, .inr (3, [.ref (ad 13), .ref (ad 14), .ref (ad 15), .ref (ad 16), .int ptn, .ref (ad 17), .ref (ad 18), .ref (ad 19), .ref (ad 20), .ref (ad 21), .int pin])), (ad 19, .inl (kT 0, 40, .inl pw)), (ad 28, .inr (6, [.ref (ad 1), .ref (ad 5), .ref (ad 29), .ref (ad 30), .ref (ad 31), .int wn])), (ad 32, .inr (7, [.ref (ad 1), .ref (ad 5), .ref (ad 7), .ref (ad 12), .ref (ad 22), .ref (ad 28), .ref (ad 34), .int xw, .int xp, .int xr, .int xq, .int xe, .int xh, .int xb]))]
abbrev A_Work_prepare (ad : Nat → Nat) : List Nat := [ad 12, ad 19, ad 28, ad 32]
def wp_Work_prepare (ptn : Int32) (pin : Int32) (pw : Nat → Int32) (wn : Int32) (xw : Int32) (xp : Int32) (xr : Int32) (xq : Int32) (xe : Int32) (xh : Int32) (xb : Int32) (p0 : Int32) (p1 : Int32) (post : Int32 → Int32 → Int32 → Int32 → Int32 → Int32 → Int32 → Int32 → Prop) : Prop := wp_Program_is ptn pin pw p0 1 (fun r_1 => zq_bz r_1 ∧ wp_Program_is ptn pin pw p0 2 (fun r_3 => zq_bz r_3 ∧ wp_Writes_clear wn (fun wn_5 => post  wn_5 p1 r_1 r_3 0 0 0 (-1))))
set_option maxHeartbeats 4000000 in
set_option maxRecDepth 100000 in
theorem c_Work_prepare (l : Launch) (D : va_G) (kT : Nat → ClassId) (ad : Nat → Nat) (ptn : Int32) (pin : Int32) (pw : Nat → Int32) (wn : Int32) (xw : Int32) (xp : Int32) (xr : Int32) (xq : Int32) (xe : Int32) (xh : Int32) (xb : Int32) (p0 : Int32) (p1 : Int32) (post : Int32 → Int32 → Int32 → Int32 → Int32 → Int32 → Int32 → Int32 → Prop) (h : wp_Work_prepare ptn pin pw wn xw xp xr xq xe xh xb p0 p1 post) : zq_Mv l zy_Work_prepare zs_Work_prepare ({ frames := 1, cells := 0, slots := 0, locals := 22 }) D kT [.ref (ad 32), .int p0, .int p1] (W_Work_prepare kT ad ptn pin pw wn xw xp xr xq xe xh xb) (fun w' => ∃ (wn' : Int32) (xw' : Int32) (xp' : Int32) (xr' : Int32) (xq' : Int32) (xe' : Int32) (xh' : Int32) (xb' : Int32), w' = (W_Work_prepare kT ad ptn pin pw wn' xw' xp' xr' xq' xe' xh' xb') ∧ post  wn' xw' xp' xr' xq' xe' xh' xb') := by
  refine zq_Mv_of (adl := (A_Work_prepare ad)) (cc := zb_Work_prepare) (maxL := 3) (own := zR_Work) rfl (by decide) rfl rfl (Nat.le_of_ble_eq_true rfl) ?_
  intro p e s m AV below meth c A QQ H locs ls hx hb hml hown ht hE hA hret hP hD hS hl
  have hK := hE.1
  have hl : lv_has ls 3 [(0, .ref (ad 32)), (1, .int p0), (2, .int p1)] := hl
  refine lv_aload_n hx hb zd_Work_prepare_0 rfl (lv_at hl 0 rfl) ?_
  refine lv_iload_n hx hb zd_Work_prepare_1 rfl (lv_at hl 2 rfl) ?_
  refine va_put (D := D) (ci := 7) (v := .int p1) (ty := .int) (C := zR_Work) (T := zF_Work) (N := 14) hx hb ht zi_Work zt_Work zt_Work_ok zn_Work hown hK hP hD hS 3 rfl rfl 7 (by decide) (ht _ zw_212) (fun _ h9 => h9) rfl (by decide +kernel) rfl rfl (Nat.le_of_ble_eq_true rfl) zd_Work_prepare_2 (fun H locs hP hD hS => ?_)
  have hP : va_P D vwCl (W_Work_prepare kT ad ptn pin pw wn p1 xp xr xq xe xh xb) H := hP
  have hD : va_D A (W_Work_prepare kT ad ptn pin pw wn p1 xp xr xq xe xh xb) := hD
  refine lv_aload_n hx hb zd_Work_prepare_5 rfl (lv_at hl 0 rfl) ?_
  refine lv_aload_n hx hb zd_Work_prepare_6 rfl (lv_at hl 0 rfl) ?_
  refine va_get (D := D) (ci := 7) (v := .ref (ad 12)) (C := zR_Work) (T := zF_Work) (N := 14) hx hb ht zi_Work hown hK hP 3 rfl rfl 3 (by decide) (ht _ zw_213) (fun _ h9 => h9) rfl zd_Work_prepare_7 ?_
  refine lv_iload_n hx hb zd_Work_prepare_10 rfl (lv_at hl 1 rfl) ?_
  refine lv_iconst (v := 1) hx hb zd_Work_prepare_11 (by decide) ?_
  refine zq_c_Vi (rest := [.ref (ad 32)]) (adl := (A_Work_prepare ad)) (wr := [(ad 28, .inr (6, [.ref (ad 1), .ref (ad 5), .ref (ad 29), .ref (ad 30), .ref (ad 31), .int wn])), (ad 32, .inr (7, [.ref (ad 1), .ref (ad 5), .ref (ad 7), .ref (ad 12), .ref (ad 22), .ref (ad 28), .ref (ad 34), .int p1, .int xp, .int xr, .int xq, .int xe, .int xh, .int xb]))]) ⟨hx, hb, hml, hown, ht⟩ (c_Program_is l D kT ad ptn pin pw p0 1 _ h) (cwV 2 ht (zq_gV zw_214 zw_215 zw_216 zw_217 zw_218) rfl rfl rfl zh_Program_is ⟨Nat.le_of_ble_eq_true rfl, Nat.le_of_ble_eq_true rfl⟩) hE hP hD hS hA [0, 1] [2, 3] 4 rfl (by decide +kernel) rfl (by decide +kernel) rfl rfl 0 rfl rfl rfl rfl hl.1 (Nat.le_of_ble_eq_true rfl) rfl zd_Work_prepare_12 ⟨Nat.zero_le _, Nat.zero_le _⟩ (fun r_1 w1 H locs hw hJ hS => ?_)
  obtain ⟨rfl, h⟩ := hw
  obtain ⟨hP, hD⟩ := hJ (W_Work_prepare kT ad ptn pin pw wn p1 xp xr xq xe xh xb) rfl rfl rfl
  obtain ⟨hb_2, h⟩ := h
  refine va_put (D := D) (ci := 7) (v := .int r_1) (ty := .boolean) (C := zR_Work) (T := zF_Work) (N := 14) hx hb ht zi_Work zt_Work zt_Work_ok zn_Work hown hK hP hD hS 3 rfl rfl 8 (by decide) (ht _ zw_219) (fun _ h9 => h9) rfl (by decide +kernel) (zq_bzn hb_2) (zq_bzf hb_2) (Nat.le_of_ble_eq_true rfl) zd_Work_prepare_15 (fun H locs hP hD hS => ?_)
  have hP : va_P D vwCl (W_Work_prepare kT ad ptn pin pw wn p1 r_1 xr xq xe xh xb) H := hP
  have hD : va_D A (W_Work_prepare kT ad ptn pin pw wn p1 r_1 xr xq xe xh xb) := hD
  refine lv_aload_n hx hb zd_Work_prepare_18 rfl (lv_at hl 0 rfl) ?_
  refine lv_aload_n hx hb zd_Work_prepare_19 rfl (lv_at hl 0 rfl) ?_
  refine va_get (D := D) (ci := 7) (v := .ref (ad 12)) (C := zR_Work) (T := zF_Work) (N := 14) hx hb ht zi_Work hown hK hP 3 rfl rfl 3 (by decide) (ht _ zw_213) (fun _ h9 => h9) rfl zd_Work_prepare_20 ?_
  refine lv_iload_n hx hb zd_Work_prepare_23 rfl (lv_at hl 1 rfl) ?_
  refine lv_iconst (v := 2) hx hb zd_Work_prepare_24 (by decide) ?_
  refine zq_c_Vi (rest := [.ref (ad 32)]) (adl := (A_Work_prepare ad)) (wr := [(ad 28, .inr (6, [.ref (ad 1), .ref (ad 5), .ref (ad 29), .ref (ad 30), .ref (ad 31), .int wn])), (ad 32, .inr (7, [.ref (ad 1), .ref (ad 5), .ref (ad 7), .ref (ad 12), .ref (ad 22), .ref (ad 28), .ref (ad 34), .int p1, .int r_1, .int xr, .int xq, .int xe, .int xh, .int xb]))]) ⟨hx, hb, hml, hown, ht⟩ (c_Program_is l D kT ad ptn pin pw p0 2 _ h) (cwV 2 ht (zq_gV zw_214 zw_215 zw_216 zw_217 zw_218) rfl rfl rfl zh_Program_is ⟨Nat.le_of_ble_eq_true rfl, Nat.le_of_ble_eq_true rfl⟩) hE hP hD hS hA [0, 1] [2, 3] 4 rfl (by decide +kernel) rfl (by decide +kernel) rfl rfl 0 rfl rfl rfl rfl hl.1 (Nat.le_of_ble_eq_true rfl) rfl zd_Work_prepare_25 ⟨Nat.zero_le _, Nat.zero_le _⟩ (fun r_3 w1 H locs hw hJ hS => ?_)
  obtain ⟨rfl, h⟩ := hw
  obtain ⟨hP, hD⟩ := hJ (W_Work_prepare kT ad ptn pin pw wn p1 r_1 xr xq xe xh xb) rfl rfl rfl
  obtain ⟨hb_4, h⟩ := h
  refine va_put (D := D) (ci := 7) (v := .int r_3) (ty := .boolean) (C := zR_Work) (T := zF_Work) (N := 14) hx hb ht zi_Work zt_Work zt_Work_ok zn_Work hown hK hP hD hS 3 rfl rfl 9 (by decide) (ht _ zw_220) (fun _ h9 => h9) rfl (by decide +kernel) (zq_bzn hb_4) (zq_bzf hb_4) (Nat.le_of_ble_eq_true rfl) zd_Work_prepare_28 (fun H locs hP hD hS => ?_)
  have hP : va_P D vwCl (W_Work_prepare kT ad ptn pin pw wn p1 r_1 r_3 xq xe xh xb) H := hP
  have hD : va_D A (W_Work_prepare kT ad ptn pin pw wn p1 r_1 r_3 xq xe xh xb) := hD
  refine lv_aload_n hx hb zd_Work_prepare_31 rfl (lv_at hl 0 rfl) ?_
  refine lv_iconst (v := 0) hx hb zd_Work_prepare_32 (by decide) ?_
  refine va_put (D := D) (ci := 7) (v := .int 0) (ty := .boolean) (C := zR_Work) (T := zF_Work) (N := 14) hx hb ht zi_Work zt_Work zt_Work_ok zn_Work hown hK hP hD hS 3 rfl rfl 10 (by decide) (ht _ zw_221) (fun _ h9 => h9) rfl (by decide +kernel) rfl rfl (Nat.le_of_ble_eq_true rfl) zd_Work_prepare_33 (fun H locs hP hD hS => ?_)
  have hP : va_P D vwCl (W_Work_prepare kT ad ptn pin pw wn p1 r_1 r_3 0 xe xh xb) H := hP
  have hD : va_D A (W_Work_prepare kT ad ptn pin pw wn p1 r_1 r_3 0 xe xh xb) := hD
  refine lv_aload_n hx hb zd_Work_prepare_36 rfl (lv_at hl 0 rfl) ?_
  refine lv_iconst (v := 0) hx hb zd_Work_prepare_37 (by decide) ?_
  refine va_put (D := D) (ci := 7) (v := .int 0) (ty := .boolean) (C := zR_Work) (T := zF_Work) (N := 14) hx hb ht zi_Work zt_Work zt_Work_ok zn_Work hown hK hP hD hS 3 rfl rfl 11 (by decide) (ht _ zw_222) (fun _ h9 => h9) rfl (by decide +kernel) rfl rfl (Nat.le_of_ble_eq_true rfl) zd_Work_prepare_38 (fun H locs hP hD hS => ?_)
  have hP : va_P D vwCl (W_Work_prepare kT ad ptn pin pw wn p1 r_1 r_3 0 0 xh xb) H := hP
  have hD : va_D A (W_Work_prepare kT ad ptn pin pw wn p1 r_1 r_3 0 0 xh xb) := hD
  refine lv_aload_n hx hb zd_Work_prepare_41 rfl (lv_at hl 0 rfl) ?_
  refine lv_iconst (v := 0) hx hb zd_Work_prepare_42 (by decide) ?_
  refine va_put (D := D) (ci := 7) (v := .int 0) (ty := .boolean) (C := zR_Work) (T := zF_Work) (N := 14) hx hb ht zi_Work zt_Work zt_Work_ok zn_Work hown hK hP hD hS 3 rfl rfl 12 (by decide) (ht _ zw_223) (fun _ h9 => h9) rfl (by decide +kernel) rfl rfl (Nat.le_of_ble_eq_true rfl) zd_Work_prepare_43 (fun H locs hP hD hS => ?_)
  have hP : va_P D vwCl (W_Work_prepare kT ad ptn pin pw wn p1 r_1 r_3 0 0 0 xb) H := hP
  have hD : va_D A (W_Work_prepare kT ad ptn pin pw wn p1 r_1 r_3 0 0 0 xb) := hD
  refine lv_aload_n hx hb zd_Work_prepare_46 rfl (lv_at hl 0 rfl) ?_
  refine lv_iconst (v := (-1)) hx hb zd_Work_prepare_47 (by decide) ?_
  refine va_put (D := D) (ci := 7) (v := .int (-1)) (ty := .int) (C := zR_Work) (T := zF_Work) (N := 14) hx hb ht zi_Work zt_Work zt_Work_ok zn_Work hown hK hP hD hS 3 rfl rfl 13 (by decide) (ht _ zw_224) (fun _ h9 => h9) rfl (by decide +kernel) rfl rfl (Nat.le_of_ble_eq_true rfl) zd_Work_prepare_48 (fun H locs hP hD hS => ?_)
  have hP : va_P D vwCl (W_Work_prepare kT ad ptn pin pw wn p1 r_1 r_3 0 0 0 (-1)) H := hP
  have hD : va_D A (W_Work_prepare kT ad ptn pin pw wn p1 r_1 r_3 0 0 0 (-1)) := hD
  refine lv_aload_n hx hb zd_Work_prepare_51 rfl (lv_at hl 0 rfl) ?_
  refine va_get (D := D) (ci := 7) (v := .ref (ad 28)) (C := zR_Work) (T := zF_Work) (N := 14) hx hb ht zi_Work hown hK hP 3 rfl rfl 5 (by decide) (ht _ zw_225) (fun _ h9 => h9) rfl zd_Work_prepare_52 ?_
  refine zq_c_Vv (rest := []) (adl := (A_Work_prepare ad)) (wr := [(ad 12, .inr (3, [.ref (ad 13), .ref (ad 14), .ref (ad 15), .ref (ad 16), .int ptn, .ref (ad 17), .ref (ad 18), .ref (ad 19), .ref (ad 20), .ref (ad 21), .int pin])), (ad 19, .inl (kT 0, 40, .inl pw)), (ad 32, .inr (7, [.ref (ad 1), .ref (ad 5), .ref (ad 7), .ref (ad 12), .ref (ad 22), .ref (ad 28), .ref (ad 34), .int p1, .int r_1, .int r_3, .int 0, .int 0, .int 0, .int (-1)]))]) ⟨hx, hb, hml, hown, ht⟩ (c_Writes_clear l D kT ad wn _ h) (cwV 0 ht (zq_gV zw_226 zw_227 zw_228 zw_192 zw_229) rfl rfl rfl zh_Writes_clear ⟨Nat.le_of_ble_eq_true rfl, Nat.le_of_ble_eq_true rfl⟩) hE hP hD hS hA [2] [0, 1, 3] 4 rfl (by decide +kernel) rfl (by decide +kernel) rfl rfl 0 rfl rfl rfl rfl hl.1 (Nat.le_of_ble_eq_true rfl) rfl zd_Work_prepare_55 ⟨Nat.zero_le _, Nat.zero_le _⟩ (fun w1 H locs hw hJ hS => ?_)
  obtain ⟨wn_5, rfl, h⟩ := hw
  obtain ⟨hP, hD⟩ := hJ (W_Work_prepare kT ad ptn pin pw wn_5 p1 r_1 r_3 0 0 0 (-1)) rfl rfl rfl
  exact hret  _ H locs 58 ls ⟨wn_5, p1, r_1, r_3, 0, 0, 0, (-1), rfl, h⟩ hP rfl hS zd_Work_prepare_58
def wp_Work_isBelow  (p0 : Int64) (p1 : Int64) (post : Int32 → Prop) : Prop := (if (p1 ^^^ zq_min) ≤ (p0 ^^^ zq_min) then post 0  else post 1 )
set_option maxHeartbeats 4000000 in
set_option maxRecDepth 100000 in
theorem c_Work_isBelow (l : Launch) (D : va_G) (kT : Nat → ClassId) (ad : Nat → Nat)  (p0 : Int64) (p1 : Int64) (post : Int32 → Prop) (h : wp_Work_isBelow  p0 p1 post) : zq_Mi l zy_Work_isBelow zs_Work_isBelow ({ frames := 0, cells := 0, slots := 0, locals := 0 }) D kT [.long p0, .long p1] [] (fun r w' => w' = [] ∧ post r ) := by
  refine zq_Mz_of (adl := []) (cc := zb_Work_isBelow) (maxL := 4) (own := zR_Work) rfl (by decide) rfl rfl (Nat.le_of_ble_eq_true rfl) ?_
  intro p e s m AV below meth c A QQ H locs ls hx hb hml hown ht hE hA hret hP hD hS hl
  have hK := hE.1
  have hl : lv_has ls 4 [(0, .long p0), (2, .long p1)] := hl
  unfold wp_Work_isBelow at h
  refine lv_lload_n hx hb zd_Work_isBelow_0 rfl (lv_at hl 0 rfl) ?_
  refine W.ldc2 (v := zq_min) hx hb hown (by rw [zq_min_eq]; exact (ht _ zw_230)) rfl zd_Work_isBelow_1 ?_
  refine W.eq (g2 := F0 m 4 ls [.long zq_min, .long p0]) rfl ?_
  refine lv_lxor hx hb zd_Work_isBelow_4 ?_
  refine lv_lload_n hx hb zd_Work_isBelow_5 rfl (lv_at hl 1 rfl) ?_
  refine W.ldc2 (v := zq_min) hx hb hown (by rw [zq_min_eq]; exact (ht _ zw_230)) rfl zd_Work_isBelow_6 ?_
  refine W.eq (g2 := F0 m 9 ls [.long zq_min, .long p1, .long (p0 ^^^ zq_min)]) rfl ?_
  refine lv_lxor hx hb zd_Work_isBelow_9 ?_
  refine W.lcmp hx hb zd_Work_isBelow_10 ?_
  refine lv_if_ge (tgt := 18) hx hb zd_Work_isBelow_11 (by decide) (fun c_1 => ?_) (fun c_1 => ?_)
  · have h := zq_it (zq_lc_ge.mp c_1) h
    refine lv_iconst (v := 0) hx hb zd_Work_isBelow_18 (by decide) ?_
    exact hret 0 rfl _ H locs 19 ls ⟨rfl, h⟩ hP rfl hS zd_Work_isBelow_19
  · have h := zq_if (fun z => c_1 (zq_lc_ge.mpr z)) h
    refine lv_iconst (v := 1) hx hb zd_Work_isBelow_14 (by decide) ?_
    refine lv_goto (tgt := 19) hx hb zd_Work_isBelow_15 (by decide) ?_
    exact hret 1 rfl _ H locs 19 ls ⟨rfl, h⟩ hP rfl hS zd_Work_isBelow_19
def wp_Work_quotient  (p0 : Int64) (p1 : Int64) (post : Int64 → Prop) : Prop := (if 0 < p1 then (if p0 < 0 then ¬ p1 = 0 ∧ wp_Work_isBelow (p0 - ((zq_j_lshl ((zq_j_lushr p0 1) / p1) 1) * p1)) p1 (fun r_4 => (if r_4 = 0 then post ((zq_j_lshl ((zq_j_lushr p0 1) / p1) 1) + 1)  else post (zq_j_lshl ((zq_j_lushr p0 1) / p1) 1) )) else ¬ p1 = 0 ∧ post (p0 / p1) ) else (if p1 = 0 then post 0  else wp_Work_isBelow p0 p1 (fun r_8 => (if r_8 = 0 then post 1  else post 0 ))))
set_option maxHeartbeats 4000000 in
set_option maxRecDepth 100000 in
theorem c_Work_quotient (l : Launch) (D : va_G) (kT : Nat → ClassId) (ad : Nat → Nat)  (p0 : Int64) (p1 : Int64) (post : Int64 → Prop) (h : wp_Work_quotient  p0 p1 post) : zq_Ml l zy_Work_quotient zs_Work_quotient ({ frames := 1, cells := 0, slots := 0, locals := 23 }) D kT [.long p0, .long p1] [] (fun r w' => w' = [] ∧ post r ) := by
  refine zq_Ml_of (adl := []) (cc := zb_Work_quotient) (maxL := 6) (own := zR_Work) rfl (by decide) rfl rfl (Nat.le_of_ble_eq_true rfl) ?_
  intro p e s m AV below meth c A QQ H locs ls hx hb hml hown ht hE hA hret hP hD hS hl
  have hK := hE.1
  have hl : lv_has ls 6 [(0, .long p0), (2, .long p1)] := hl
  unfold wp_Work_quotient at h
  refine lv_lload_n hx hb zd_Work_quotient_0 rfl (lv_at hl 1 rfl) ?_
  refine lv_lconst (v := 0) hx hb zd_Work_quotient_1 (by decide) ?_
  refine W.lcmp hx hb zd_Work_quotient_2 ?_
  refine lv_if_gt (tgt := 26) hx hb zd_Work_quotient_3 (by decide) (fun c_1 => ?_) (fun c_1 => ?_)
  · have h := zq_it (zq_lc_gt.mp c_1) h
    refine lv_lload_n hx hb zd_Work_quotient_26 rfl (lv_at hl 0 rfl) ?_
    refine lv_lconst (v := 0) hx hb zd_Work_quotient_27 (by decide) ?_
    refine W.lcmp hx hb zd_Work_quotient_28 ?_
    refine lv_if_lt (tgt := 36) hx hb zd_Work_quotient_29 (by decide) (fun c_2 => ?_) (fun c_2 => ?_)
    · have h := zq_it (zq_lc_lt.mp c_2) h
      refine lv_lload_n hx hb zd_Work_quotient_36 rfl (lv_at hl 0 rfl) ?_
      refine lv_iconst (v := 1) hx hb zd_Work_quotient_37 (by decide) ?_
      refine lv_lushr (v := (zq_j_lushr p0 1)) hx hb zd_Work_quotient_38 rfl ?_
      refine lv_lload_n hx hb zd_Work_quotient_39 rfl (lv_at hl 1 rfl) ?_
      obtain ⟨hz_3, h⟩ := h
      refine lv_ldiv hx hb zd_Work_quotient_40 hz_3 ?_
      refine lv_iconst (v := 1) hx hb zd_Work_quotient_41 (by decide) ?_
      refine lv_lshl (v := (zq_j_lshl ((zq_j_lushr p0 1) / p1) 1)) hx hb zd_Work_quotient_42 rfl ?_
      refine lv_lstore (lv' := [(4, .long (zq_j_lshl ((zq_j_lushr p0 1) / p1) 1)), (0, .long p0), (2, .long p1)]) hx hb zd_Work_quotient_43 hl (by decide) rfl (fun ls hl => ?_)
      refine lv_lload_n hx hb zd_Work_quotient_45 rfl (lv_at hl 1 rfl) ?_
      refine lv_lload hx hb zd_Work_quotient_46 (lv_at hl 0 rfl) ?_
      refine lv_lload_n hx hb zd_Work_quotient_48 rfl (lv_at hl 2 rfl) ?_
      refine lv_lmul hx hb zd_Work_quotient_49 ?_
      refine lv_lsub hx hb zd_Work_quotient_50 ?_
      refine lv_lload_n hx hb zd_Work_quotient_51 rfl (lv_at hl 2 rfl) ?_
      refine zq_c_Si (rest := []) (adl := []) (wr := []) ⟨hx, hb, hml, hown, ht⟩ (c_Work_isBelow l D kT ad (p0 - ((zq_j_lshl ((zq_j_lushr p0 1) / p1) 1) * p1)) p1 _ h) (cwS 2 ht (zq_gS zw_231 zw_232 zw_233 zw_234) rfl rfl rfl zh_Work_isBelow ⟨Nat.le_of_ble_eq_true rfl, Nat.le_of_ble_eq_true rfl⟩) hE hP hD hS hA [] [] 0 rfl (by decide +kernel) rfl (by decide +kernel) rfl rfl  rfl hl.1 (Nat.le_of_ble_eq_true rfl) rfl zd_Work_quotient_52 ⟨Nat.zero_le _, Nat.zero_le _⟩ (fun r_4 w1 H locs hw hJ hS => ?_)
      obtain ⟨rfl, h⟩ := hw
      obtain ⟨hP, hD⟩ := hJ [] rfl rfl rfl
      refine lv_if_eq (tgt := 63) hx hb zd_Work_quotient_55 (by decide) (fun c_5 => ?_) (fun c_5 => ?_)
      · have h := zq_it c_5 h
        refine lv_lload hx hb zd_Work_quotient_63 (lv_at hl 0 rfl) ?_
        refine lv_lconst (v := 1) hx hb zd_Work_quotient_65 (by decide) ?_
        refine lv_ladd hx hb zd_Work_quotient_66 ?_
        exact hret ((zq_j_lshl ((zq_j_lushr p0 1) / p1) 1) + 1)  _ H locs 67 ls ⟨rfl, h⟩ hP rfl hS zd_Work_quotient_67
      · have h := zq_if c_5 h
        refine lv_lload hx hb zd_Work_quotient_58 (lv_at hl 0 rfl) ?_
        refine lv_goto (tgt := 67) hx hb zd_Work_quotient_60 (by decide) ?_
        exact hret (zq_j_lshl ((zq_j_lushr p0 1) / p1) 1)  _ H locs 67 ls ⟨rfl, h⟩ hP rfl hS zd_Work_quotient_67
    · have h := zq_if (fun z => c_2 (zq_lc_lt.mpr z)) h
      refine lv_lload_n hx hb zd_Work_quotient_32 rfl (lv_at hl 0 rfl) ?_
      refine lv_lload_n hx hb zd_Work_quotient_33 rfl (lv_at hl 1 rfl) ?_
      obtain ⟨hz_6, h⟩ := h
      refine lv_ldiv hx hb zd_Work_quotient_34 hz_6 ?_
      exact hret (p0 / p1)  _ H locs 35 ls ⟨rfl, h⟩ hP rfl hS zd_Work_quotient_35
  · have h := zq_if (fun z => c_1 (zq_lc_gt.mpr z)) h
    refine lv_lload_n hx hb zd_Work_quotient_6 rfl (lv_at hl 1 rfl) ?_
    refine lv_lconst (v := 0) hx hb zd_Work_quotient_7 (by decide) ?_
    refine W.lcmp hx hb zd_Work_quotient_8 ?_
    refine lv_if_eq (tgt := 20) hx hb zd_Work_quotient_9 (by decide) (fun c_7 => ?_) (fun c_7 => ?_)
    · have h := zq_it (zq_lc_eq.mp c_7) h
      refine lv_lconst (v := 0) hx hb zd_Work_quotient_20 (by decide) ?_
      refine lv_goto (tgt := 25) hx hb zd_Work_quotient_21 (by decide) ?_
      exact hret 0  _ H locs 25 ls ⟨rfl, h⟩ hP rfl hS zd_Work_quotient_25
    · have h := zq_if (fun z => c_7 (zq_lc_eq.mpr z)) h
      refine lv_lload_n hx hb zd_Work_quotient_12 rfl (lv_at hl 0 rfl) ?_
      refine lv_lload_n hx hb zd_Work_quotient_13 rfl (lv_at hl 1 rfl) ?_
      refine zq_c_Si (rest := []) (adl := []) (wr := []) ⟨hx, hb, hml, hown, ht⟩ (c_Work_isBelow l D kT ad p0 p1 _ h) (cwS 2 ht (zq_gS zw_231 zw_232 zw_233 zw_234) rfl rfl rfl zh_Work_isBelow ⟨Nat.le_of_ble_eq_true rfl, Nat.le_of_ble_eq_true rfl⟩) hE hP hD hS hA [] [] 0 rfl (by decide +kernel) rfl (by decide +kernel) rfl rfl  rfl hl.1 (Nat.le_of_ble_eq_true rfl) rfl zd_Work_quotient_14 ⟨Nat.zero_le _, Nat.zero_le _⟩ (fun r_8 w1 H locs hw hJ hS => ?_)
      obtain ⟨rfl, h⟩ := hw
      obtain ⟨hP, hD⟩ := hJ [] rfl rfl rfl
      refine lv_if_eq (tgt := 24) hx hb zd_Work_quotient_17 (by decide) (fun c_9 => ?_) (fun c_9 => ?_)
      · have h := zq_it c_9 h
        refine lv_lconst (v := 1) hx hb zd_Work_quotient_24 (by decide) ?_
        exact hret 1  _ H locs 25 ls ⟨rfl, h⟩ hP rfl hS zd_Work_quotient_25
      · have h := zq_if c_9 h
        refine lv_lconst (v := 0) hx hb zd_Work_quotient_20 (by decide) ?_
        refine lv_goto (tgt := 25) hx hb zd_Work_quotient_21 (by decide) ?_
        exact hret 0  _ H locs 25 ls ⟨rfl, h⟩ hP rfl hS zd_Work_quotient_25
abbrev W_Work_write (kT : Nat → ClassId) (ad : Nat → Nat) (rn : Int32) (rc : Nat → Int64) (rv : Nat → Int64) (rm : Nat → Int32) (bc : Nat → Int32) (wn : Int32) (wf : Nat → Int32) (wt : Nat → Int32) (wv : Nat → Int64) (xw : Int32) (xp : Int32) (xr : Int32) (xq : Int32) (xe : Int32) (xh : Int32) (xb : Int32) : va_W := [(ad 1, .inr (0, [.ref (ad 2), .ref (ad 3), .ref (ad 4), .int rn])), (ad 2, .inl (kT 1, 24, .inr (.inl rc))), (ad 3, .inl (kT 1, 24, .inr (.inl rv))), (ad 4, .inl (kT 2, 24, .inl rm)), (ad 5, .inr (1, [.ref (ad 6)])), (ad 6, .inl (kT 3, 4096, .inl bc)), (ad 28, .inr (6, [.ref (ad 1), .ref (ad 5), .ref (ad 29), .ref (ad 30), .ref (ad 31), .int wn])), (ad 29, .inl (kT 0, 200, .inl wf)), (ad 30, .inl (kT 0, 200, .inl wt)), (ad 31, .inl (kT 1, 200, .inr (.inl wv))), (ad 32, .inr (7, [.ref (ad 1), .ref (ad 5), .ref (ad 7), .ref (ad 12), .ref (ad 22), .ref (ad 28), .ref (ad 34), .int xw, .int xp, .int xr, .int xq, .int xe, .int xh, .int xb]))]
abbrev A_Work_write (ad : Nat → Nat) : List Nat := [ad 1, ad 2, ad 3, ad 4, ad 5, ad 6, ad 28, ad 29, ad 30, ad 31, ad 32]
def wp_Work_write_52 (rn : Int32) (rc : Nat → Int64) (xw : Int32) (xp : Int32) (xr : Int32) (xe : Int32) (xh : Int32) (xb : Int32) (rv : Nat → Int64) (rm : Nat → Int32) (bc : Nat → Int32) (wn : Int32) (wf : Nat → Int32) (wt : Nat → Int32) (wv : Nat → Int64) (xq : Int32) (y1 : Int32) (y2 : Int32) (y3 : Int64) (post : (Nat → Int64) → (Nat → Int32) → (Nat → Int32) → Int32 → (Nat → Int32) → (Nat → Int32) → (Nat → Int64) → Int32 → Prop) : Prop := wp_Writes_perform rn rc rv rm bc wn y1 y2 y3 (fun rv_16 rm_17 bc_18 => post  rv_16 rm_17 bc_18 wn wf wt wv xq)
def wp_Work_write_18 (rn : Int32) (rc : Nat → Int64) (xw : Int32) (xp : Int32) (xr : Int32) (xe : Int32) (xh : Int32) (xb : Int32) (rv : Nat → Int64) (rm : Nat → Int32) (bc : Nat → Int32) (wn : Int32) (wf : Nat → Int32) (wt : Nat → Int32) (wv : Nat → Int64) (xq : Int32) (y1 : Int32) (y2 : Int32) (y3 : Int64) (post : (Nat → Int64) → (Nat → Int32) → (Nat → Int32) → Int32 → (Nat → Int32) → (Nat → Int32) → (Nat → Int64) → Int32 → Prop) : Prop := (if xp = 0 then (if xr = 0 then wp_Work_write_52 rn rc xw xp xr xe xh xb rv rm bc wn wf wt wv xq y1 y2 y3 post else wp_Writes_noteReverse rn rv rm bc wn wf wt wv y1 y2 (fun wn_6 wf_7 wt_8 wv_9 => wp_Work_write_52 rn rc xw xp xr xe xh xb rv rm bc wn_6 wf_7 wt_8 wv_9 xq y1 y2 y3 post)) else wp_Writes_note wn wf wt wv y1 y2 y3 (fun wn_11 wf_12 wt_13 wv_14 => post  rv rm bc wn_11 wf_12 wt_13 wv_14 xq))
def wp_Work_write_13 (rn : Int32) (rc : Nat → Int64) (xw : Int32) (xp : Int32) (xr : Int32) (xe : Int32) (xh : Int32) (xb : Int32) (rv : Nat → Int64) (rm : Nat → Int32) (bc : Nat → Int32) (wn : Int32) (wf : Nat → Int32) (wt : Nat → Int32) (wv : Nat → Int64) (xq : Int32) (y1 : Int32) (y2 : Int32) (y3 : Int64) (post : (Nat → Int64) → (Nat → Int32) → (Nat → Int32) → Int32 → (Nat → Int32) → (Nat → Int32) → (Nat → Int64) → Int32 → Prop) : Prop := wp_Work_write_18 rn rc xw xp xr xe xh xb rv rm bc wn wf wt wv 1 y1 y2 y3 post
def wp_Work_write (rn : Int32) (rc : Nat → Int64) (rv : Nat → Int64) (rm : Nat → Int32) (bc : Nat → Int32) (wn : Int32) (wf : Nat → Int32) (wt : Nat → Int32) (wv : Nat → Int64) (xw : Int32) (xp : Int32) (xr : Int32) (xq : Int32) (xe : Int32) (xh : Int32) (xb : Int32) (p0 : Int32) (p1 : Int32) (p2 : Int64) (post : (Nat → Int64) → (Nat → Int32) → (Nat → Int32) → Int32 → (Nat → Int32) → (Nat → Int32) → (Nat → Int64) → Int32 → Prop) : Prop := (if p1 = 0 then (if p0 = 0 then wp_Work_write_13 rn rc xw xp xr xe xh xb rv rm bc wn wf wt wv xq p0 p1 p2 post else (if p0 = 1 then wp_Work_write_13 rn rc xw xp xr xe xh xb rv rm bc wn wf wt wv xq p0 p1 p2 post else wp_Work_write_18 rn rc xw xp xr xe xh xb rv rm bc wn wf wt wv xq p0 p1 p2 post)) else wp_Work_write_18 rn rc xw xp xr xe xh xb rv rm bc wn wf wt wv xq p0 p1 p2 post)
set_option maxHeartbeats 4000000 in
set_option maxRecDepth 100000 in
theorem c_Work_write (l : Launch) (D : va_G) (kT : Nat → ClassId) (ad : Nat → Nat) (rn : Int32) (rc : Nat → Int64) (rv : Nat → Int64) (rm : Nat → Int32) (bc : Nat → Int32) (wn : Int32) (wf : Nat → Int32) (wt : Nat → Int32) (wv : Nat → Int64) (xw : Int32) (xp : Int32) (xr : Int32) (xq : Int32) (xe : Int32) (xh : Int32) (xb : Int32) (p0 : Int32) (p1 : Int32) (p2 : Int64) (post : (Nat → Int64) → (Nat → Int32) → (Nat → Int32) → Int32 → (Nat → Int32) → (Nat → Int32) → (Nat → Int64) → Int32 → Prop) (h : wp_Work_write rn rc rv rm bc wn wf wt wv xw xp xr xq xe xh xb p0 p1 p2 post) : zq_Mv l zy_Work_write zs_Work_write ({ frames := 2, cells := 0, slots := 0, locals := 48 }) D kT [.ref (ad 32), .int p0, .int p1, .long p2] (W_Work_write kT ad rn rc rv rm bc wn wf wt wv xw xp xr xq xe xh xb) (fun w' => ∃ (rv' : Nat → Int64) (rm' : Nat → Int32) (bc' : Nat → Int32) (wn' : Int32) (wf' : Nat → Int32) (wt' : Nat → Int32) (wv' : Nat → Int64) (xq' : Int32), w' = (W_Work_write kT ad rn rc rv' rm' bc' wn' wf' wt' wv' xw xp xr xq' xe xh xb) ∧ post  rv' rm' bc' wn' wf' wt' wv' xq') := by
  refine zq_Mv_of (adl := (A_Work_write ad)) (cc := zb_Work_write) (maxL := 5) (own := zR_Work) rfl (by decide) rfl rfl (Nat.le_of_ble_eq_true rfl) ?_
  intro p e s m AV below meth c A QQ H locs ls hx hb hml hown ht hE hA hret hP hD hS hl
  have hK := hE.1
  have hl : lv_has ls 5 [(0, .ref (ad 32)), (1, .int p0), (2, .int p1), (3, .long p2)] := hl
  unfold wp_Work_write at h
  have B52 : ∀  (rv : Nat → Int64) (rm : Nat → Int32) (bc : Nat → Int32) (wn : Int32) (wf : Nat → Int32) (wt : Nat → Int32) (wv : Nat → Int64) (xq : Int32) (y1 : Int32) (y2 : Int32) (y3 : Int64) (H : Heap) (locs : List Loc) (ls : Array Slot), wp_Work_write_52 rn rc xw xp xr xe xh xb rv rm bc wn wf wt wv xq y1 y2 y3 post → va_P D vwCl (W_Work_write kT ad rn rc rv rm bc wn wf wt wv xw xp xr xq xe xh xb) H → va_D A (W_Work_write kT ad rn rc rv rm bc wn wf wt wv xw xp xr xq xe xh xb) → va_S A s.heap H locs → lv_has ls 5 [(0, .ref (ad 32)), (1, .int y1), (2, .int y2), (3, .long y3)] → W p l e ({ frames := 2, cells := 0, slots := 0, locals := 48 }) s m AV below meth c H locs 0 0 QQ (F0 m 52 ls []) := by
    intro rv rm bc wn wf wt wv xq y1 y2 y3 H locs ls h hP hD hS hl
    refine lv_aload_n hx hb zd_Work_write_52 rfl (lv_at hl 0 rfl) ?_
    refine va_get (D := D) (ci := 7) (v := .ref (ad 28)) (C := zR_Work) (T := zF_Work) (N := 14) hx hb ht zi_Work hown hK hP 10 rfl rfl 5 (by decide) (ht _ zw_225) (fun _ h9 => h9) rfl zd_Work_write_53 ?_
    refine lv_iload_n hx hb zd_Work_write_56 rfl (lv_at hl 1 rfl) ?_
    refine lv_iload_n hx hb zd_Work_write_57 rfl (lv_at hl 2 rfl) ?_
    refine lv_lload_n hx hb zd_Work_write_58 rfl (lv_at hl 3 rfl) ?_
    refine zq_c_Vv (rest := []) (adl := (A_Work_write ad)) (wr := [(ad 29, .inl (kT 0, 200, .inl wf)), (ad 30, .inl (kT 0, 200, .inl wt)), (ad 31, .inl (kT 1, 200, .inr (.inl wv))), (ad 32, .inr (7, [.ref (ad 1), .ref (ad 5), .ref (ad 7), .ref (ad 12), .ref (ad 22), .ref (ad 28), .ref (ad 34), .int xw, .int xp, .int xr, .int xq, .int xe, .int xh, .int xb]))]) ⟨hx, hb, hml, hown, ht⟩ (c_Writes_perform l D kT ad rn rc rv rm bc wn y1 y2 y3 _ h) (cwV 3 ht (zq_gV zw_240 zw_209 zw_210 zw_192 zw_211) rfl rfl rfl zh_Writes_perform ⟨Nat.le_of_ble_eq_true rfl, Nat.le_of_ble_eq_true rfl⟩) hE hP hD hS hA [0, 1, 2, 3, 4, 5, 6] [7, 8, 9, 10] 11 rfl (by decide +kernel) rfl (by decide +kernel) rfl rfl 6 rfl rfl rfl rfl hl.1 (Nat.le_of_ble_eq_true rfl) rfl zd_Work_write_59 ⟨Nat.zero_le _, Nat.zero_le _⟩ (fun w1 H locs hw hJ hS => ?_)
    obtain ⟨rv_16, rm_17, bc_18, rfl, h⟩ := hw
    obtain ⟨hP, hD⟩ := hJ (W_Work_write kT ad rn rc rv_16 rm_17 bc_18 wn wf wt wv xw xp xr xq xe xh xb) rfl rfl rfl
    exact hret  _ H locs 62 ls ⟨rv_16, rm_17, bc_18, wn, wf, wt, wv, xq, rfl, h⟩ hP rfl hS zd_Work_write_62
  have B18 : ∀  (rv : Nat → Int64) (rm : Nat → Int32) (bc : Nat → Int32) (wn : Int32) (wf : Nat → Int32) (wt : Nat → Int32) (wv : Nat → Int64) (xq : Int32) (y1 : Int32) (y2 : Int32) (y3 : Int64) (H : Heap) (locs : List Loc) (ls : Array Slot), wp_Work_write_18 rn rc xw xp xr xe xh xb rv rm bc wn wf wt wv xq y1 y2 y3 post → va_P D vwCl (W_Work_write kT ad rn rc rv rm bc wn wf wt wv xw xp xr xq xe xh xb) H → va_D A (W_Work_write kT ad rn rc rv rm bc wn wf wt wv xw xp xr xq xe xh xb) → va_S A s.heap H locs → lv_has ls 5 [(0, .ref (ad 32)), (1, .int y1), (2, .int y2), (3, .long y3)] → W p l e ({ frames := 2, cells := 0, slots := 0, locals := 48 }) s m AV below meth c H locs 0 0 QQ (F0 m 18 ls []) := by
    intro rv rm bc wn wf wt wv xq y1 y2 y3 H locs ls h hP hD hS hl
    unfold wp_Work_write_18 at h
    refine lv_aload_n hx hb zd_Work_write_18 rfl (lv_at hl 0 rfl) ?_
    refine va_get (D := D) (ci := 7) (v := .int xp) (C := zR_Work) (T := zF_Work) (N := 14) hx hb ht zi_Work hown hK hP 10 rfl rfl 8 (by decide) (ht _ zw_219) (fun _ h9 => h9) rfl zd_Work_write_19 ?_
    refine lv_if_eq (tgt := 36) hx hb zd_Work_write_22 (by decide) (fun c_4 => ?_) (fun c_4 => ?_)
    · have h := zq_it c_4 h
      refine lv_aload_n hx hb zd_Work_write_36 rfl (lv_at hl 0 rfl) ?_
      refine va_get (D := D) (ci := 7) (v := .int xr) (C := zR_Work) (T := zF_Work) (N := 14) hx hb ht zi_Work hown hK hP 10 rfl rfl 9 (by decide) (ht _ zw_220) (fun _ h9 => h9) rfl zd_Work_write_37 ?_
      refine lv_if_eq (tgt := 52) hx hb zd_Work_write_40 (by decide) (fun c_5 => ?_) (fun c_5 => ?_)
      · have h := zq_it c_5 h
        exact B52 rv rm bc wn wf wt wv xq y1 y2 y3 H locs ls h hP hD hS (lv_sub hl [0, 1, 2, 3] rfl)
      · have h := zq_if c_5 h
        refine lv_aload_n hx hb zd_Work_write_43 rfl (lv_at hl 0 rfl) ?_
        refine va_get (D := D) (ci := 7) (v := .ref (ad 28)) (C := zR_Work) (T := zF_Work) (N := 14) hx hb ht zi_Work hown hK hP 10 rfl rfl 5 (by decide) (ht _ zw_225) (fun _ h9 => h9) rfl zd_Work_write_44 ?_
        refine lv_iload_n hx hb zd_Work_write_47 rfl (lv_at hl 1 rfl) ?_
        refine lv_iload_n hx hb zd_Work_write_48 rfl (lv_at hl 2 rfl) ?_
        refine zq_c_Vv (rest := []) (adl := (A_Work_write ad)) (wr := [(ad 2, .inl (kT 1, 24, .inr (.inl rc))), (ad 32, .inr (7, [.ref (ad 1), .ref (ad 5), .ref (ad 7), .ref (ad 12), .ref (ad 22), .ref (ad 28), .ref (ad 34), .int xw, .int xp, .int xr, .int xq, .int xe, .int xh, .int xb]))]) ⟨hx, hb, hml, hown, ht⟩ (c_Writes_noteReverse l D kT ad rn rv rm bc wn wf wt wv y1 y2 _ h) (cwV 2 ht (zq_gV zw_235 zw_236 zw_237 zw_192 zw_238) rfl rfl rfl zh_Writes_noteReverse ⟨Nat.le_of_ble_eq_true rfl, Nat.le_of_ble_eq_true rfl⟩) hE hP hD hS hA [0, 2, 3, 4, 5, 6, 7, 8, 9] [1, 10] 11 rfl (by decide +kernel) rfl (by decide +kernel) rfl rfl 5 rfl rfl rfl rfl hl.1 (Nat.le_of_ble_eq_true rfl) rfl zd_Work_write_49 ⟨Nat.zero_le _, Nat.zero_le _⟩ (fun w1 H locs hw hJ hS => ?_)
        obtain ⟨wn_6, wf_7, wt_8, wv_9, rfl, h⟩ := hw
        obtain ⟨hP, hD⟩ := hJ (W_Work_write kT ad rn rc rv rm bc wn_6 wf_7 wt_8 wv_9 xw xp xr xq xe xh xb) rfl rfl rfl
        exact B52 rv rm bc wn_6 wf_7 wt_8 wv_9 xq y1 y2 y3 H locs ls h hP hD hS (lv_sub hl [0, 1, 2, 3] rfl)
    · have h := zq_if c_4 h
      refine lv_aload_n hx hb zd_Work_write_25 rfl (lv_at hl 0 rfl) ?_
      refine va_get (D := D) (ci := 7) (v := .ref (ad 28)) (C := zR_Work) (T := zF_Work) (N := 14) hx hb ht zi_Work hown hK hP 10 rfl rfl 5 (by decide) (ht _ zw_225) (fun _ h9 => h9) rfl zd_Work_write_26 ?_
      refine lv_iload_n hx hb zd_Work_write_29 rfl (lv_at hl 1 rfl) ?_
      refine lv_iload_n hx hb zd_Work_write_30 rfl (lv_at hl 2 rfl) ?_
      refine lv_lload_n hx hb zd_Work_write_31 rfl (lv_at hl 3 rfl) ?_
      refine zq_c_Vv (rest := []) (adl := (A_Work_write ad)) (wr := [(ad 1, .inr (0, [.ref (ad 2), .ref (ad 3), .ref (ad 4), .int rn])), (ad 2, .inl (kT 1, 24, .inr (.inl rc))), (ad 3, .inl (kT 1, 24, .inr (.inl rv))), (ad 4, .inl (kT 2, 24, .inl rm)), (ad 5, .inr (1, [.ref (ad 6)])), (ad 6, .inl (kT 3, 4096, .inl bc)), (ad 32, .inr (7, [.ref (ad 1), .ref (ad 5), .ref (ad 7), .ref (ad 12), .ref (ad 22), .ref (ad 28), .ref (ad 34), .int xw, .int xp, .int xr, .int xq, .int xe, .int xh, .int xb]))]) ⟨hx, hb, hml, hown, ht⟩ (c_Writes_note l D kT ad wn wf wt wv y1 y2 y3 _ h) (cwV 3 ht (zq_gV zw_239 zw_190 zw_191 zw_192 zw_193) rfl rfl rfl zh_Writes_note ⟨Nat.le_of_ble_eq_true rfl, Nat.le_of_ble_eq_true rfl⟩) hE hP hD hS hA [6, 7, 8, 9] [0, 1, 2, 3, 4, 5, 10] 11 rfl (by decide +kernel) rfl (by decide +kernel) rfl rfl 0 rfl rfl rfl rfl hl.1 (Nat.le_of_ble_eq_true rfl) rfl zd_Work_write_32 ⟨Nat.zero_le _, Nat.zero_le _⟩ (fun w1 H locs hw hJ hS => ?_)
      obtain ⟨wn_11, wf_12, wt_13, wv_14, rfl, h⟩ := hw
      obtain ⟨hP, hD⟩ := hJ (W_Work_write kT ad rn rc rv rm bc wn_11 wf_12 wt_13 wv_14 xw xp xr xq xe xh xb) rfl rfl rfl
      exact hret  _ H locs 35 ls ⟨rv, rm, bc, wn_11, wf_12, wt_13, wv_14, xq, rfl, h⟩ hP rfl hS zd_Work_write_35
  have B13 : ∀  (rv : Nat → Int64) (rm : Nat → Int32) (bc : Nat → Int32) (wn : Int32) (wf : Nat → Int32) (wt : Nat → Int32) (wv : Nat → Int64) (xq : Int32) (y1 : Int32) (y2 : Int32) (y3 : Int64) (H : Heap) (locs : List Loc) (ls : Array Slot), wp_Work_write_13 rn rc xw xp xr xe xh xb rv rm bc wn wf wt wv xq y1 y2 y3 post → va_P D vwCl (W_Work_write kT ad rn rc rv rm bc wn wf wt wv xw xp xr xq xe xh xb) H → va_D A (W_Work_write kT ad rn rc rv rm bc wn wf wt wv xw xp xr xq xe xh xb) → va_S A s.heap H locs → lv_has ls 5 [(0, .ref (ad 32)), (1, .int y1), (2, .int y2), (3, .long y3)] → W p l e ({ frames := 2, cells := 0, slots := 0, locals := 48 }) s m AV below meth c H locs 0 0 QQ (F0 m 13 ls []) := by
    intro rv rm bc wn wf wt wv xq y1 y2 y3 H locs ls h hP hD hS hl
    refine lv_aload_n hx hb zd_Work_write_13 rfl (lv_at hl 0 rfl) ?_
    refine lv_iconst (v := 1) hx hb zd_Work_write_14 (by decide) ?_
    refine va_put (D := D) (ci := 7) (v := .int 1) (ty := .boolean) (C := zR_Work) (T := zF_Work) (N := 14) hx hb ht zi_Work zt_Work zt_Work_ok zn_Work hown hK hP hD hS 10 rfl rfl 10 (by decide) (ht _ zw_221) (fun _ h9 => h9) rfl (by decide +kernel) rfl rfl (Nat.le_of_ble_eq_true rfl) zd_Work_write_15 (fun H locs hP hD hS => ?_)
    have hP : va_P D vwCl (W_Work_write kT ad rn rc rv rm bc wn wf wt wv xw xp xr 1 xe xh xb) H := hP
    have hD : va_D A (W_Work_write kT ad rn rc rv rm bc wn wf wt wv xw xp xr 1 xe xh xb) := hD
    exact B18 rv rm bc wn wf wt wv 1 y1 y2 y3 H locs ls h hP hD hS (lv_sub hl [0, 1, 2, 3] rfl)
  refine lv_iload_n hx hb zd_Work_write_0 rfl (lv_at hl 2 rfl) ?_
  refine lv_if_ne (tgt := 18) hx hb zd_Work_write_1 (by decide) (fun c_1 => ?_) (fun c_1 => ?_)
  · have h := zq_if c_1 h
    exact B18 rv rm bc wn wf wt wv xq p0 p1 p2 H locs ls h hP hD hS (lv_sub hl [0, 1, 2, 3] rfl)
  · have h := zq_it c_1 h
    refine lv_iload_n hx hb zd_Work_write_4 rfl (lv_at hl 1 rfl) ?_
    refine lv_if_eq (tgt := 13) hx hb zd_Work_write_5 (by decide) (fun c_2 => ?_) (fun c_2 => ?_)
    · have h := zq_it c_2 h
      exact B13 rv rm bc wn wf wt wv xq p0 p1 p2 H locs ls h hP hD hS (lv_sub hl [0, 1, 2, 3] rfl)
    · have h := zq_if c_2 h
      refine lv_iload_n hx hb zd_Work_write_8 rfl (lv_at hl 1 rfl) ?_
      refine lv_iconst (v := 1) hx hb zd_Work_write_9 (by decide) ?_
      refine lv_icmp_ne (tgt := 18) hx hb zd_Work_write_10 (by decide) (fun c_3 => ?_) (fun c_3 => ?_)
      · have h := zq_if c_3 h
        exact B18 rv rm bc wn wf wt wv xq p0 p1 p2 H locs ls h hP hD hS (lv_sub hl [0, 1, 2, 3] rfl)
      · have h := zq_it c_3 h
        exact B13 rv rm bc wn wf wt wv xq p0 p1 p2 H locs ls h hP hD hS (lv_sub hl [0, 1, 2, 3] rfl)
abbrev W_Work_divide (kT : Nat → ClassId) (ad : Nat → Nat) (rn : Int32) (rc : Nat → Int64) (rv : Nat → Int64) (rm : Nat → Int32) (bc : Nat → Int32) (wn : Int32) (wf : Nat → Int32) (wt : Nat → Int32) (wv : Nat → Int64) (xw : Int32) (xp : Int32) (xr : Int32) (xq : Int32) (xe : Int32) (xh : Int32) (xb : Int32) : va_W := [(ad 1, .inr (0, [.ref (ad 2), .ref (ad 3), .ref (ad 4), .int rn])), (ad 2, .inl (kT 1, 24, .inr (.inl rc))), (ad 3, .inl (kT 1, 24, .inr (.inl rv))), (ad 4, .inl (kT 2, 24, .inl rm)), (ad 5, .inr (1, [.ref (ad 6)])), (ad 6, .inl (kT 3, 4096, .inl bc)), (ad 28, .inr (6, [.ref (ad 1), .ref (ad 5), .ref (ad 29), .ref (ad 30), .ref (ad 31), .int wn])), (ad 29, .inl (kT 0, 200, .inl wf)), (ad 30, .inl (kT 0, 200, .inl wt)), (ad 31, .inl (kT 1, 200, .inr (.inl wv))), (ad 32, .inr (7, [.ref (ad 1), .ref (ad 5), .ref (ad 7), .ref (ad 12), .ref (ad 22), .ref (ad 28), .ref (ad 34), .int xw, .int xp, .int xr, .int xq, .int xe, .int xh, .int xb]))]
abbrev A_Work_divide (ad : Nat → Nat) : List Nat := [ad 1, ad 2, ad 3, ad 4, ad 5, ad 6, ad 28, ad 29, ad 30, ad 31, ad 32]
def wp_Work_divide (rn : Int32) (rc : Nat → Int64) (rv : Nat → Int64) (rm : Nat → Int32) (bc : Nat → Int32) (wn : Int32) (wf : Nat → Int32) (wt : Nat → Int32) (wv : Nat → Int64) (xw : Int32) (xp : Int32) (xr : Int32) (xq : Int32) (xe : Int32) (xh : Int32) (xb : Int32) (p0 : Int32) (p1 : Int64) (p2 : Int64) (p3 : Int32) (p4 : Int32) (post : Int32 → (Nat → Int64) → (Nat → Int32) → (Nat → Int32) → Int32 → (Nat → Int32) → (Nat → Int32) → (Nat → Int64) → Int32 → Prop) : Prop := (if p2 = 0 then post 4 rv rm bc wn wf wt wv xq else wp_Work_quotient p1 p2 (fun r_2 => (if p0 = 4 then wp_Work_write rn rc rv rm bc wn wf wt wv xw xp xr xq xe xh xb p4 p3 r_2 (fun rv_13 rm_14 bc_15 wn_16 wf_17 wt_18 wv_19 xq_20 => post 0 rv_13 rm_14 bc_15 wn_16 wf_17 wt_18 wv_19 xq_20) else wp_Work_write rn rc rv rm bc wn wf wt wv xw xp xr xq xe xh xb p4 p3 (p1 - (r_2 * p2)) (fun rv_4 rm_5 bc_6 wn_7 wf_8 wt_9 wv_10 xq_11 => post 0 rv_4 rm_5 bc_6 wn_7 wf_8 wt_9 wv_10 xq_11))))
set_option maxHeartbeats 4000000 in
set_option maxRecDepth 100000 in
theorem c_Work_divide (l : Launch) (D : va_G) (kT : Nat → ClassId) (ad : Nat → Nat) (rn : Int32) (rc : Nat → Int64) (rv : Nat → Int64) (rm : Nat → Int32) (bc : Nat → Int32) (wn : Int32) (wf : Nat → Int32) (wt : Nat → Int32) (wv : Nat → Int64) (xw : Int32) (xp : Int32) (xr : Int32) (xq : Int32) (xe : Int32) (xh : Int32) (xb : Int32) (p0 : Int32) (p1 : Int64) (p2 : Int64) (p3 : Int32) (p4 : Int32) (post : Int32 → (Nat → Int64) → (Nat → Int32) → (Nat → Int32) → Int32 → (Nat → Int32) → (Nat → Int32) → (Nat → Int64) → Int32 → Prop) (h : wp_Work_divide rn rc rv rm bc wn wf wt wv xw xp xr xq xe xh xb p0 p1 p2 p3 p4 post) : zq_Mi l zy_Work_divide zs_Work_divide ({ frames := 3, cells := 0, slots := 0, locals := 72 }) D kT [.ref (ad 32), .int p0, .long p1, .long p2, .int p3, .int p4] (W_Work_divide kT ad rn rc rv rm bc wn wf wt wv xw xp xr xq xe xh xb) (fun r w' => ∃ (rv' : Nat → Int64) (rm' : Nat → Int32) (bc' : Nat → Int32) (wn' : Int32) (wf' : Nat → Int32) (wt' : Nat → Int32) (wv' : Nat → Int64) (xq' : Int32), w' = (W_Work_divide kT ad rn rc rv' rm' bc' wn' wf' wt' wv' xw xp xr xq' xe xh xb) ∧ post r rv' rm' bc' wn' wf' wt' wv' xq') := by
  refine zq_Mi_of (adl := (A_Work_divide ad)) (cc := zb_Work_divide) (maxL := 10) (own := zR_Work) rfl (by decide) rfl rfl (Nat.le_of_ble_eq_true rfl) ?_
  intro p e s m AV below meth c A QQ H locs ls hx hb hml hown ht hE hA hret hP hD hS hl
  have hK := hE.1
  have hl : lv_has ls 10 [(0, .ref (ad 32)), (1, .int p0), (2, .long p1), (4, .long p2), (6, .int p3), (7, .int p4)] := hl
  unfold wp_Work_divide at h
  refine lv_lload hx hb zd_Work_divide_0 (lv_at hl 3 rfl) ?_
  refine lv_lconst (v := 0) hx hb zd_Work_divide_2 (by decide) ?_
  refine W.lcmp hx hb zd_Work_divide_3 ?_
  refine lv_if_ne (tgt := 9) hx hb zd_Work_divide_4 (by decide) (fun c_1 => ?_) (fun c_1 => ?_)
  · have h := zq_if (fun z => c_1 (zq_lc_eq.mpr z)) h
    refine lv_lload_n hx hb zd_Work_divide_9 rfl (lv_at hl 2 rfl) ?_
    refine lv_lload hx hb zd_Work_divide_10 (lv_at hl 3 rfl) ?_
    refine zq_c_Sl (rest := []) (adl := (A_Work_divide ad)) (wr := [(ad 1, .inr (0, [.ref (ad 2), .ref (ad 3), .ref (ad 4), .int rn])), (ad 2, .inl (kT 1, 24, .inr (.inl rc))), (ad 3, .inl (kT 1, 24, .inr (.inl rv))), (ad 4, .inl (kT 2, 24, .inl rm)), (ad 5, .inr (1, [.ref (ad 6)])), (ad 6, .inl (kT 3, 4096, .inl bc)), (ad 28, .inr (6, [.ref (ad 1), .ref (ad 5), .ref (ad 29), .ref (ad 30), .ref (ad 31), .int wn])), (ad 29, .inl (kT 0, 200, .inl wf)), (ad 30, .inl (kT 0, 200, .inl wt)), (ad 31, .inl (kT 1, 200, .inr (.inl wv))), (ad 32, .inr (7, [.ref (ad 1), .ref (ad 5), .ref (ad 7), .ref (ad 12), .ref (ad 22), .ref (ad 28), .ref (ad 34), .int xw, .int xp, .int xr, .int xq, .int xe, .int xh, .int xb]))]) ⟨hx, hb, hml, hown, ht⟩ (c_Work_quotient l D kT ad p1 p2 _ h) (cwS 2 ht (zq_gS zw_241 zw_242 zw_233 zw_243) rfl rfl rfl zh_Work_quotient ⟨Nat.le_of_ble_eq_true rfl, Nat.le_of_ble_eq_true rfl⟩) hE hP hD hS hA [] [0, 1, 2, 3, 4, 5, 6, 7, 8, 9, 10] 11 rfl (by decide +kernel) rfl (by decide +kernel) rfl rfl  rfl hl.1 (Nat.le_of_ble_eq_true rfl) rfl zd_Work_divide_12 ⟨Nat.zero_le _, Nat.zero_le _⟩ (fun r_2 w1 H locs hw hJ hS => ?_)
    obtain ⟨rfl, h⟩ := hw
    obtain ⟨hP, hD⟩ := hJ (W_Work_divide kT ad rn rc rv rm bc wn wf wt wv xw xp xr xq xe xh xb) rfl rfl rfl
    refine lv_lstore (lv' := [(8, .long r_2), (0, .ref (ad 32)), (1, .int p0), (2, .long p1), (4, .long p2), (6, .int p3), (7, .int p4)]) hx hb zd_Work_divide_15 hl (by decide) rfl (fun ls hl => ?_)
    refine lv_aload_n hx hb zd_Work_divide_17 rfl (lv_at hl 1 rfl) ?_
    refine lv_iload hx hb zd_Work_divide_18 (lv_at hl 6 rfl) ?_
    refine lv_iload hx hb zd_Work_divide_20 (lv_at hl 5 rfl) ?_
    refine lv_iload_n hx hb zd_Work_divide_22 rfl (lv_at hl 2 rfl) ?_
    refine lv_iconst (v := 4) hx hb zd_Work_divide_23 (by decide) ?_
    refine lv_icmp_ne (tgt := 32) hx hb zd_Work_divide_24 (by decide) (fun c_3 => ?_) (fun c_3 => ?_)
    · have h := zq_if c_3 h
      refine lv_lload_n hx hb zd_Work_divide_32 rfl (lv_at hl 3 rfl) ?_
      refine lv_lload hx hb zd_Work_divide_33 (lv_at hl 0 rfl) ?_
      refine lv_lload hx hb zd_Work_divide_35 (lv_at hl 4 rfl) ?_
      refine lv_lmul hx hb zd_Work_divide_37 ?_
      refine lv_lsub hx hb zd_Work_divide_38 ?_
      refine zq_c_Vv (rest := []) (adl := (A_Work_divide ad)) (wr := []) ⟨hx, hb, hml, hown, ht⟩ (c_Work_write l D kT ad rn rc rv rm bc wn wf wt wv xw xp xr xq xe xh xb p4 p3 (p1 - (r_2 * p2)) _ h) (cwV 3 ht (zq_gV zw_244 zw_245 zw_246 zw_233 zw_247) rfl rfl rfl zh_Work_write ⟨Nat.le_of_ble_eq_true rfl, Nat.le_of_ble_eq_true rfl⟩) hE hP hD hS hA [0, 1, 2, 3, 4, 5, 6, 7, 8, 9, 10] [] 11 rfl (by decide +kernel) rfl (by decide +kernel) rfl rfl 10 rfl rfl rfl rfl hl.1 (Nat.le_of_ble_eq_true rfl) rfl zd_Work_divide_39 ⟨Nat.zero_le _, Nat.zero_le _⟩ (fun w1 H locs hw hJ hS => ?_)
      obtain ⟨rv_4, rm_5, bc_6, wn_7, wf_8, wt_9, wv_10, xq_11, rfl, h⟩ := hw
      obtain ⟨hP, hD⟩ := hJ (W_Work_divide kT ad rn rc rv_4 rm_5 bc_6 wn_7 wf_8 wt_9 wv_10 xw xp xr xq_11 xe xh xb) rfl rfl rfl
      refine lv_iconst (v := 0) hx hb zd_Work_divide_42 (by decide) ?_
      exact hret 0  _ H locs 43 ls ⟨rv_4, rm_5, bc_6, wn_7, wf_8, wt_9, wv_10, xq_11, rfl, h⟩ hP rfl hS zd_Work_divide_43
    · have h := zq_it c_3 h
      refine lv_lload hx hb zd_Work_divide_27 (lv_at hl 0 rfl) ?_
      refine lv_goto (tgt := 39) hx hb zd_Work_divide_29 (by decide) ?_
      refine zq_c_Vv (rest := []) (adl := (A_Work_divide ad)) (wr := []) ⟨hx, hb, hml, hown, ht⟩ (c_Work_write l D kT ad rn rc rv rm bc wn wf wt wv xw xp xr xq xe xh xb p4 p3 r_2 _ h) (cwV 3 ht (zq_gV zw_244 zw_245 zw_246 zw_233 zw_247) rfl rfl rfl zh_Work_write ⟨Nat.le_of_ble_eq_true rfl, Nat.le_of_ble_eq_true rfl⟩) hE hP hD hS hA [0, 1, 2, 3, 4, 5, 6, 7, 8, 9, 10] [] 11 rfl (by decide +kernel) rfl (by decide +kernel) rfl rfl 10 rfl rfl rfl rfl hl.1 (Nat.le_of_ble_eq_true rfl) rfl zd_Work_divide_39 ⟨Nat.zero_le _, Nat.zero_le _⟩ (fun w1 H locs hw hJ hS => ?_)
      obtain ⟨rv_13, rm_14, bc_15, wn_16, wf_17, wt_18, wv_19, xq_20, rfl, h⟩ := hw
      obtain ⟨hP, hD⟩ := hJ (W_Work_divide kT ad rn rc rv_13 rm_14 bc_15 wn_16 wf_17 wt_18 wv_19 xw xp xr xq_20 xe xh xb) rfl rfl rfl
      refine lv_iconst (v := 0) hx hb zd_Work_divide_42 (by decide) ?_
      exact hret 0  _ H locs 43 ls ⟨rv_13, rm_14, bc_15, wn_16, wf_17, wt_18, wv_19, xq_20, rfl, h⟩ hP rfl hS zd_Work_divide_43
  · have h := zq_it (zq_lc_eq.mp c_1) h
    refine lv_iconst (v := 4) hx hb zd_Work_divide_7 (by decide) ?_
    exact hret 4  _ H locs 8 ls ⟨rv, rm, bc, wn, wf, wt, wv, xq, rfl, h⟩ hP rfl hS zd_Work_divide_8
abbrev W_Work_load (kT : Nat → ClassId) (ad : Nat → Nat) (rn : Int32) (rc : Nat → Int64) (rv : Nat → Int64) (rm : Nat → Int32) (bc : Nat → Int32) (wn : Int32) (wf : Nat → Int32) (wt : Nat → Int32) (wv : Nat → Int64) (xw : Int32) (xp : Int32) (xr : Int32) (xq : Int32) (xe : Int32) (xh : Int32) (xb : Int32) (cn : Nat → Int32) : va_W := [(ad 1, .inr (0, [.ref (ad 2), .ref (ad 3), .ref (ad 4), .int rn])), (ad 2, .inl (kT 1, 24, .inr (.inl rc))), (ad 3, .inl (kT 1, 24, .inr (.inl rv))), (ad 4, .inl (kT 2, 24, .inl rm)), (ad 5, .inr (1, [.ref (ad 6)])), (ad 6, .inl (kT 3, 4096, .inl bc)), (ad 28, .inr (6, [.ref (ad 1), .ref (ad 5), .ref (ad 29), .ref (ad 30), .ref (ad 31), .int wn])), (ad 29, .inl (kT 0, 200, .inl wf)), (ad 30, .inl (kT 0, 200, .inl wt)), (ad 31, .inl (kT 1, 200, .inr (.inl wv))), (ad 32, .inr (7, [.ref (ad 1), .ref (ad 5), .ref (ad 7), .ref (ad 12), .ref (ad 22), .ref (ad 28), .ref (ad 34), .int xw, .int xp, .int xr, .int xq, .int xe, .int xh, .int xb])), (ad 34, .inl (kT 0, 9, .inl cn))]
abbrev A_Work_load (ad : Nat → Nat) : List Nat := [ad 1, ad 2, ad 3, ad 4, ad 5, ad 6, ad 28, ad 29, ad 30, ad 31, ad 32, ad 34]
def wp_Work_load_51 (rn : Int32) (rc : Nat → Int64) (xw : Int32) (xp : Int32) (xr : Int32) (xe : Int32) (xh : Int32) (xb : Int32) (rv : Nat → Int64) (rm : Nat → Int32) (bc : Nat → Int32) (wn : Int32) (wf : Nat → Int32) (wt : Nat → Int32) (wv : Nat → Int64) (xq : Int32) (cn : Nat → Int32) (y1 : Int32) (y4 : Int32) (y5 : Int32) (y6 : Int32) (z0 : Int32) (z1 : Int32) (z2 : Int32) (post : Int32 → (Nat → Int64) → (Nat → Int32) → (Nat → Int32) → Int32 → (Nat → Int32) → (Nat → Int32) → (Nat → Int64) → Int32 → (Nat → Int32) → Prop) : Prop := vp_in z2 9 ∧ (if y1 = 0 then wp_Bytes_byteOf bc y6 (fun r_9 => wp_Work_write rn rc rv rm bc wn wf wt wv xw xp xr xq xe xh xb y5 y4 (zq_j_i2l r_9) (fun rv_10 rm_11 bc_12 wn_13 wf_14 wt_15 wv_16 xq_17 => post 0 rv_10 rm_11 bc_12 wn_13 wf_14 wt_15 wv_16 xq_17 (upd cn z2.toNatClampNeg (z1 + z0)))) else wp_Bytes_wordOf bc y6 (fun r_19 => wp_Work_write rn rc rv rm bc wn wf wt wv xw xp xr xq xe xh xb y5 y4 (zq_j_i2l r_19) (fun rv_20 rm_21 bc_22 wn_23 wf_24 wt_25 wv_26 xq_27 => post 0 rv_20 rm_21 bc_22 wn_23 wf_24 wt_25 wv_26 xq_27 (upd cn z2.toNatClampNeg (z1 + z0)))))
def wp_Work_load_31 (rn : Int32) (rc : Nat → Int64) (xw : Int32) (xp : Int32) (xr : Int32) (xe : Int32) (xh : Int32) (xb : Int32) (rv : Nat → Int64) (rm : Nat → Int32) (bc : Nat → Int32) (wn : Int32) (wf : Nat → Int32) (wt : Nat → Int32) (wv : Nat → Int64) (xq : Int32) (cn : Nat → Int32) (y1 : Int32) (y2 : Int64) (y4 : Int32) (y5 : Int32) (post : Int32 → (Nat → Int64) → (Nat → Int32) → (Nat → Int32) → Int32 → (Nat → Int32) → (Nat → Int32) → (Nat → Int64) → Int32 → (Nat → Int32) → Prop) : Prop := (if y1 = 0 then wp_Work_load_51 rn rc xw xp xr xe xh xb rv rm bc wn wf wt wv xq cn y1 y4 y5 (zq_j_l2i y2) 1 (cn 4) 4 post else wp_Work_load_51 rn rc xw xp xr xe xh xb rv rm bc wn wf wt wv xq cn y1 y4 y5 (zq_j_l2i y2) 2 (cn 4) 4 post)
def wp_Work_load (rn : Int32) (rc : Nat → Int64) (rv : Nat → Int64) (rm : Nat → Int32) (bc : Nat → Int32) (wn : Int32) (wf : Nat → Int32) (wt : Nat → Int32) (wv : Nat → Int64) (xw : Int32) (xp : Int32) (xr : Int32) (xq : Int32) (xe : Int32) (xh : Int32) (xb : Int32) (cn : Nat → Int32) (p0 : Int32) (p1 : Int64) (p2 : Int32) (p3 : Int32) (post : Int32 → (Nat → Int64) → (Nat → Int32) → (Nat → Int32) → Int32 → (Nat → Int32) → (Nat → Int32) → (Nat → Int64) → Int32 → (Nat → Int32) → Prop) : Prop := (if p0 = 0 then wp_Bytes_hasByte p1 (fun r_2 => (if r_2 = 0 then post 3 rv rm bc wn wf wt wv xq cn else wp_Work_load_31 rn rc xw xp xr xe xh xb rv rm bc wn wf wt wv xq cn p0 p1 p2 p3 post)) else wp_Bytes_hasWord p1 (fun r_4 => (if r_4 = 0 then post 3 rv rm bc wn wf wt wv xq cn else wp_Work_load_31 rn rc xw xp xr xe xh xb rv rm bc wn wf wt wv xq cn p0 p1 p2 p3 post)))
set_option maxHeartbeats 4000000 in
set_option maxRecDepth 100000 in
theorem c_Work_load (l : Launch) (D : va_G) (kT : Nat → ClassId) (ad : Nat → Nat) (rn : Int32) (rc : Nat → Int64) (rv : Nat → Int64) (rm : Nat → Int32) (bc : Nat → Int32) (wn : Int32) (wf : Nat → Int32) (wt : Nat → Int32) (wv : Nat → Int64) (xw : Int32) (xp : Int32) (xr : Int32) (xq : Int32) (xe : Int32) (xh : Int32) (xb : Int32) (cn : Nat → Int32) (p0 : Int32) (p1 : Int64) (p2 : Int32) (p3 : Int32) (post : Int32 → (Nat → Int64) → (Nat → Int32) → (Nat → Int32) → Int32 → (Nat → Int32) → (Nat → Int32) → (Nat → Int64) → Int32 → (Nat → Int32) → Prop) (h : wp_Work_load rn rc rv rm bc wn wf wt wv xw xp xr xq xe xh xb cn p0 p1 p2 p3 post) : zq_Mi l zy_Work_load zs_Work_load ({ frames := 3, cells := 0, slots := 0, locals := 72 }) D kT [.ref (ad 32), .int p0, .long p1, .int p2, .int p3] (W_Work_load kT ad rn rc rv rm bc wn wf wt wv xw xp xr xq xe xh xb cn) (fun r w' => ∃ (rv' : Nat → Int64) (rm' : Nat → Int32) (bc' : Nat → Int32) (wn' : Int32) (wf' : Nat → Int32) (wt' : Nat → Int32) (wv' : Nat → Int64) (xq' : Int32) (cn' : Nat → Int32), w' = (W_Work_load kT ad rn rc rv' rm' bc' wn' wf' wt' wv' xw xp xr xq' xe xh xb cn') ∧ post r rv' rm' bc' wn' wf' wt' wv' xq' cn') := by
  refine zq_Mi_of (adl := (A_Work_load ad)) (cc := zb_Work_load) (maxL := 7) (own := zR_Work) rfl (by decide) rfl rfl (Nat.le_of_ble_eq_true rfl) ?_
  intro p e s m AV below meth c A QQ H locs ls hx hb hml hown ht hE hA hret hP hD hS hl
  have hK := hE.1
  have hl : lv_has ls 7 [(0, .ref (ad 32)), (1, .int p0), (2, .long p1), (4, .int p2), (5, .int p3)] := hl
  unfold wp_Work_load at h
  have B51 : ∀  (rv : Nat → Int64) (rm : Nat → Int32) (bc : Nat → Int32) (wn : Int32) (wf : Nat → Int32) (wt : Nat → Int32) (wv : Nat → Int64) (xq : Int32) (cn : Nat → Int32) (y1 : Int32) (y4 : Int32) (y5 : Int32) (y6 : Int32) (z0 : Int32) (z1 : Int32) (z2 : Int32) (H : Heap) (locs : List Loc) (ls : Array Slot), wp_Work_load_51 rn rc xw xp xr xe xh xb rv rm bc wn wf wt wv xq cn y1 y4 y5 y6 z0 z1 z2 post → va_P D vwCl (W_Work_load kT ad rn rc rv rm bc wn wf wt wv xw xp xr xq xe xh xb cn) H → va_D A (W_Work_load kT ad rn rc rv rm bc wn wf wt wv xw xp xr xq xe xh xb cn) → va_S A s.heap H locs → lv_has ls 7 [(0, .ref (ad 32)), (1, .int y1), (4, .int y4), (5, .int y5), (6, .int y6)] → W p l e ({ frames := 3, cells := 0, slots := 0, locals := 72 }) s m AV below meth c H locs 0 0 QQ (F0 m 51 ls [.int z0, .int z1, .int z2, .ref (ad 34)]) := by
    intro rv rm bc wn wf wt wv xq cn y1 y4 y5 y6 z0 z1 z2 H locs ls h hP hD hS hl
    refine lv_iadd hx hb zd_Work_load_51 ?_
    obtain ⟨hi_7, h⟩ := h
    refine zq_a_iast (D := D) hx hb hK hP hD hS 11 0 rfl rfl hi_7 rfl zd_Work_load_52 (fun H locs hP hD hS => ?_)
    have hP : va_P D vwCl (W_Work_load kT ad rn rc rv rm bc wn wf wt wv xw xp xr xq xe xh xb (upd cn z2.toNatClampNeg (z1 + z0))) H := hP
    have hD : va_D A (W_Work_load kT ad rn rc rv rm bc wn wf wt wv xw xp xr xq xe xh xb (upd cn z2.toNatClampNeg (z1 + z0))) := hD
    refine lv_aload_n hx hb zd_Work_load_53 rfl (lv_at hl 0 rfl) ?_
    refine lv_iload hx hb zd_Work_load_54 (lv_at hl 3 rfl) ?_
    refine lv_iload hx hb zd_Work_load_56 (lv_at hl 2 rfl) ?_
    refine lv_iload_n hx hb zd_Work_load_58 rfl (lv_at hl 1 rfl) ?_
    refine lv_if_eq (tgt := 75) hx hb zd_Work_load_59 (by decide) (fun c_8 => ?_) (fun c_8 => ?_)
    · have h := zq_it c_8 h
      refine lv_aload_n hx hb zd_Work_load_75 rfl (lv_at hl 0 rfl) ?_
      refine va_get (D := D) (ci := 7) (v := .ref (ad 5)) (C := zR_Work) (T := zF_Work) (N := 14) hx hb ht zi_Work hown hK hP 10 rfl rfl 1 (by decide) (ht _ zw_248) (fun _ h9 => h9) rfl zd_Work_load_76 ?_
      refine lv_iload hx hb zd_Work_load_79 (lv_at hl 4 rfl) ?_
      refine zq_c_Vi (rest := [.int y4, .int y5, .ref (ad 32)]) (adl := (A_Work_load ad)) (wr := [(ad 1, .inr (0, [.ref (ad 2), .ref (ad 3), .ref (ad 4), .int rn])), (ad 2, .inl (kT 1, 24, .inr (.inl rc))), (ad 3, .inl (kT 1, 24, .inr (.inl rv))), (ad 4, .inl (kT 2, 24, .inl rm)), (ad 28, .inr (6, [.ref (ad 1), .ref (ad 5), .ref (ad 29), .ref (ad 30), .ref (ad 31), .int wn])), (ad 29, .inl (kT 0, 200, .inl wf)), (ad 30, .inl (kT 0, 200, .inl wt)), (ad 31, .inl (kT 1, 200, .inr (.inl wv))), (ad 32, .inr (7, [.ref (ad 1), .ref (ad 5), .ref (ad 7), .ref (ad 12), .ref (ad 22), .ref (ad 28), .ref (ad 34), .int xw, .int xp, .int xr, .int xq, .int xe, .int xh, .int xb])), (ad 34, .inl (kT 0, 9, .inl (upd cn z2.toNatClampNeg (z1 + z0))))]) ⟨hx, hb, hml, hown, ht⟩ (c_Bytes_byteOf l D kT ad bc y6 _ h) (cwV 1 ht (zq_gV zw_255 zw_195 zw_196 zw_134 zw_197) rfl rfl rfl zh_Bytes_byteOf ⟨Nat.le_of_ble_eq_true rfl, Nat.le_of_ble_eq_true rfl⟩) hE hP hD hS hA [4, 5] [0, 1, 2, 3, 6, 7, 8, 9, 10, 11] 12 rfl (by decide +kernel) rfl (by decide +kernel) rfl rfl 0 rfl rfl rfl rfl hl.1 (Nat.le_of_ble_eq_true rfl) rfl zd_Work_load_81 ⟨Nat.zero_le _, Nat.zero_le _⟩ (fun r_9 w1 H locs hw hJ hS => ?_)
      obtain ⟨rfl, h⟩ := hw
      obtain ⟨hP, hD⟩ := hJ (W_Work_load kT ad rn rc rv rm bc wn wf wt wv xw xp xr xq xe xh xb (upd cn z2.toNatClampNeg (z1 + z0))) rfl rfl rfl
      refine lv_i2l (v := (zq_j_i2l r_9)) hx hb zd_Work_load_84 rfl ?_
      refine zq_c_Vv (rest := []) (adl := (A_Work_load ad)) (wr := [(ad 34, .inl (kT 0, 9, .inl (upd cn z2.toNatClampNeg (z1 + z0))))]) ⟨hx, hb, hml, hown, ht⟩ (c_Work_write l D kT ad rn rc rv rm bc wn wf wt wv xw xp xr xq xe xh xb y5 y4 (zq_j_i2l r_9) _ h) (cwV 3 ht (zq_gV zw_244 zw_245 zw_246 zw_233 zw_247) rfl rfl rfl zh_Work_write ⟨Nat.le_of_ble_eq_true rfl, Nat.le_of_ble_eq_true rfl⟩) hE hP hD hS hA [0, 1, 2, 3, 4, 5, 6, 7, 8, 9, 10] [11] 12 rfl (by decide +kernel) rfl (by decide +kernel) rfl rfl 10 rfl rfl rfl rfl hl.1 (Nat.le_of_ble_eq_true rfl) rfl zd_Work_load_85 ⟨Nat.zero_le _, Nat.zero_le _⟩ (fun w1 H locs hw hJ hS => ?_)
      obtain ⟨rv_10, rm_11, bc_12, wn_13, wf_14, wt_15, wv_16, xq_17, rfl, h⟩ := hw
      obtain ⟨hP, hD⟩ := hJ (W_Work_load kT ad rn rc rv_10 rm_11 bc_12 wn_13 wf_14 wt_15 wv_16 xw xp xr xq_17 xe xh xb (upd cn z2.toNatClampNeg (z1 + z0))) rfl rfl rfl
      refine lv_iconst (v := 0) hx hb zd_Work_load_88 (by decide) ?_
      exact hret 0  _ H locs 89 ls ⟨rv_10, rm_11, bc_12, wn_13, wf_14, wt_15, wv_16, xq_17, (upd cn z2.toNatClampNeg (z1 + z0)), rfl, h⟩ hP rfl hS zd_Work_load_89
    · have h := zq_if c_8 h
      refine lv_aload_n hx hb zd_Work_load_62 rfl (lv_at hl 0 rfl) ?_
      refine va_get (D := D) (ci := 7) (v := .ref (ad 5)) (C := zR_Work) (T := zF_Work) (N := 14) hx hb ht zi_Work hown hK hP 10 rfl rfl 1 (by decide) (ht _ zw_248) (fun _ h9 => h9) rfl zd_Work_load_63 ?_
      refine lv_iload hx hb zd_Work_load_66 (lv_at hl 4 rfl) ?_
      refine zq_c_Vi (rest := [.int y4, .int y5, .ref (ad 32)]) (adl := (A_Work_load ad)) (wr := [(ad 1, .inr (0, [.ref (ad 2), .ref (ad 3), .ref (ad 4), .int rn])), (ad 2, .inl (kT 1, 24, .inr (.inl rc))), (ad 3, .inl (kT 1, 24, .inr (.inl rv))), (ad 4, .inl (kT 2, 24, .inl rm)), (ad 28, .inr (6, [.ref (ad 1), .ref (ad 5), .ref (ad 29), .ref (ad 30), .ref (ad 31), .int wn])), (ad 29, .inl (kT 0, 200, .inl wf)), (ad 30, .inl (kT 0, 200, .inl wt)), (ad 31, .inl (kT 1, 200, .inr (.inl wv))), (ad 32, .inr (7, [.ref (ad 1), .ref (ad 5), .ref (ad 7), .ref (ad 12), .ref (ad 22), .ref (ad 28), .ref (ad 34), .int xw, .int xp, .int xr, .int xq, .int xe, .int xh, .int xb])), (ad 34, .inl (kT 0, 9, .inl (upd cn z2.toNatClampNeg (z1 + z0))))]) ⟨hx, hb, hml, hown, ht⟩ (c_Bytes_wordOf l D kT ad bc y6 _ h) (cwV 1 ht (zq_gV zw_256 zw_186 zw_187 zw_134 zw_188) rfl rfl rfl zh_Bytes_wordOf ⟨Nat.le_of_ble_eq_true rfl, Nat.le_of_ble_eq_true rfl⟩) hE hP hD hS hA [4, 5] [0, 1, 2, 3, 6, 7, 8, 9, 10, 11] 12 rfl (by decide +kernel) rfl (by decide +kernel) rfl rfl 0 rfl rfl rfl rfl hl.1 (Nat.le_of_ble_eq_true rfl) rfl zd_Work_load_68 ⟨Nat.zero_le _, Nat.zero_le _⟩ (fun r_19 w1 H locs hw hJ hS => ?_)
      obtain ⟨rfl, h⟩ := hw
      obtain ⟨hP, hD⟩ := hJ (W_Work_load kT ad rn rc rv rm bc wn wf wt wv xw xp xr xq xe xh xb (upd cn z2.toNatClampNeg (z1 + z0))) rfl rfl rfl
      refine lv_i2l (v := (zq_j_i2l r_19)) hx hb zd_Work_load_71 rfl ?_
      refine lv_goto (tgt := 85) hx hb zd_Work_load_72 (by decide) ?_
      refine zq_c_Vv (rest := []) (adl := (A_Work_load ad)) (wr := [(ad 34, .inl (kT 0, 9, .inl (upd cn z2.toNatClampNeg (z1 + z0))))]) ⟨hx, hb, hml, hown, ht⟩ (c_Work_write l D kT ad rn rc rv rm bc wn wf wt wv xw xp xr xq xe xh xb y5 y4 (zq_j_i2l r_19) _ h) (cwV 3 ht (zq_gV zw_244 zw_245 zw_246 zw_233 zw_247) rfl rfl rfl zh_Work_write ⟨Nat.le_of_ble_eq_true rfl, Nat.le_of_ble_eq_true rfl⟩) hE hP hD hS hA [0, 1, 2, 3, 4, 5, 6, 7, 8, 9, 10] [11] 12 rfl (by decide +kernel) rfl (by decide +kernel) rfl rfl 10 rfl rfl rfl rfl hl.1 (Nat.le_of_ble_eq_true rfl) rfl zd_Work_load_85 ⟨Nat.zero_le _, Nat.zero_le _⟩ (fun w1 H locs hw hJ hS => ?_)
      obtain ⟨rv_20, rm_21, bc_22, wn_23, wf_24, wt_25, wv_26, xq_27, rfl, h⟩ := hw
      obtain ⟨hP, hD⟩ := hJ (W_Work_load kT ad rn rc rv_20 rm_21 bc_22 wn_23 wf_24 wt_25 wv_26 xw xp xr xq_27 xe xh xb (upd cn z2.toNatClampNeg (z1 + z0))) rfl rfl rfl
      refine lv_iconst (v := 0) hx hb zd_Work_load_88 (by decide) ?_
      exact hret 0  _ H locs 89 ls ⟨rv_20, rm_21, bc_22, wn_23, wf_24, wt_25, wv_26, xq_27, (upd cn z2.toNatClampNeg (z1 + z0)), rfl, h⟩ hP rfl hS zd_Work_load_89
  have B31 : ∀  (rv : Nat → Int64) (rm : Nat → Int32) (bc : Nat → Int32) (wn : Int32) (wf : Nat → Int32) (wt : Nat → Int32) (wv : Nat → Int64) (xq : Int32) (cn : Nat → Int32) (y1 : Int32) (y2 : Int64) (y4 : Int32) (y5 : Int32) (H : Heap) (locs : List Loc) (ls : Array Slot), wp_Work_load_31 rn rc xw xp xr xe xh xb rv rm bc wn wf wt wv xq cn y1 y2 y4 y5 post → va_P D vwCl (W_Work_load kT ad rn rc rv rm bc wn wf wt wv xw xp xr xq xe xh xb cn) H → va_D A (W_Work_load kT ad rn rc rv rm bc wn wf wt wv xw xp xr xq xe xh xb cn) → va_S A s.heap H locs → lv_has ls 7 [(0, .ref (ad 32)), (1, .int y1), (2, .long y2), (4, .int y4), (5, .int y5)] → W p l e ({ frames := 3, cells := 0, slots := 0, locals := 72 }) s m AV below meth c H locs 0 0 QQ (F0 m 31 ls []) := by
    intro rv rm bc wn wf wt wv xq cn y1 y2 y4 y5 H locs ls h hP hD hS hl
    unfold wp_Work_load_31 at h
    refine lv_lload_n hx hb zd_Work_load_31 rfl (lv_at hl 2 rfl) ?_
    refine lv_l2i (v := (zq_j_l2i y2)) hx hb zd_Work_load_32 rfl ?_
    refine lv_istore (lv' := [(6, .int (zq_j_l2i y2)), (0, .ref (ad 32)), (1, .int y1), (2, .long y2), (4, .int y4), (5, .int y5)]) hx hb zd_Work_load_33 hl (by decide) rfl (fun ls hl => ?_)
    refine lv_aload_n hx hb zd_Work_load_35 rfl (lv_at hl 1 rfl) ?_
    refine va_get (D := D) (ci := 7) (v := .ref (ad 34)) (C := zR_Work) (T := zF_Work) (N := 14) hx hb ht zi_Work hown hK hP 10 rfl rfl 6 (by decide) (ht _ zw_254) (fun _ h9 => h9) rfl zd_Work_load_36 ?_
    refine lv_iconst (v := 4) hx hb zd_Work_load_39 (by decide) ?_
    refine lv_dup2_11 hx hb zd_Work_load_40 rfl rfl ?_
    refine zq_a_iald (D := D) (j := 4) hx hb hK hP 11 0 rfl rfl (zq_in (by decide)) (by decide) zd_Work_load_41 ?_
    refine lv_iload_n hx hb zd_Work_load_42 rfl (lv_at hl 2 rfl) ?_
    refine lv_if_eq (tgt := 50) hx hb zd_Work_load_43 (by decide) (fun c_6 => ?_) (fun c_6 => ?_)
    · have h := zq_it c_6 h
      refine lv_iconst (v := 1) hx hb zd_Work_load_50 (by decide) ?_
      exact B51 rv rm bc wn wf wt wv xq cn y1 y4 y5 (zq_j_l2i y2) 1 (cn 4) 4 H locs ls h hP hD hS (lv_sub hl [1, 2, 4, 5, 0] rfl)
    · have h := zq_if c_6 h
      refine lv_iconst (v := 2) hx hb zd_Work_load_46 (by decide) ?_
      refine lv_goto (tgt := 51) hx hb zd_Work_load_47 (by decide) ?_
      exact B51 rv rm bc wn wf wt wv xq cn y1 y4 y5 (zq_j_l2i y2) 2 (cn 4) 4 H locs ls h hP hD hS (lv_sub hl [1, 2, 4, 5, 0] rfl)
  refine lv_iload_n hx hb zd_Work_load_0 rfl (lv_at hl 1 rfl) ?_
  refine lv_if_eq (tgt := 18) hx hb zd_Work_load_1 (by decide) (fun c_1 => ?_) (fun c_1 => ?_)
  · have h := zq_it c_1 h
    refine lv_aload_n hx hb zd_Work_load_18 rfl (lv_at hl 0 rfl) ?_
    refine va_get (D := D) (ci := 7) (v := .ref (ad 5)) (C := zR_Work) (T := zF_Work) (N := 14) hx hb ht zi_Work hown hK hP 10 rfl rfl 1 (by decide) (ht _ zw_248) (fun _ h9 => h9) rfl zd_Work_load_19 ?_
    refine lv_lload_n hx hb zd_Work_load_22 rfl (lv_at hl 2 rfl) ?_
    refine zq_c_Vi (rest := []) (adl := (A_Work_load ad)) (wr := [(ad 1, .inr (0, [.ref (ad 2), .ref (ad 3), .ref (ad 4), .int rn])), (ad 2, .inl (kT 1, 24, .inr (.inl rc))), (ad 3, .inl (kT 1, 24, .inr (.inl rv))), (ad 4, .inl (kT 2, 24, .inl rm)), (ad 6, .inl (kT 3, 4096, .inl bc)), (ad 28, .inr (6, [.ref (ad 1), .ref (ad 5), .ref (ad 29), .ref (ad 30), .ref (ad 31), .int wn])), (ad 29, .inl (kT 0, 200, .inl wf)), (ad 30, .inl (kT 0, 200, .inl wt)), (ad 31, .inl (kT 1, 200, .inr (.inl wv))), (ad 32, .inr (7, [.ref (ad 1), .ref (ad 5), .ref (ad 7), .ref (ad 12), .ref (ad 22), .ref (ad 28), .ref (ad 34), .int xw, .int xp, .int xr, .int xq, .int xe, .int xh, .int xb])), (ad 34, .inl (kT 0, 9, .inl cn))]) ⟨hx, hb, hml, hown, ht⟩ (c_Bytes_hasByte l D kT ad p1 _ h) (cwV 1 ht (zq_gV zw_249 zw_132 zw_133 zw_134 zw_135) rfl rfl rfl zh_Bytes_hasByte ⟨Nat.le_of_ble_eq_true rfl, Nat.le_of_ble_eq_true rfl⟩) hE hP hD hS hA [4] [0, 1, 2, 3, 5, 6, 7, 8, 9, 10, 11] 12 rfl (by decide +kernel) rfl (by decide +kernel) rfl rfl 0 rfl rfl rfl rfl hl.1 (Nat.le_of_ble_eq_true rfl) rfl zd_Work_load_23 ⟨Nat.zero_le _, Nat.zero_le _⟩ (fun r_2 w1 H locs hw hJ hS => ?_)
    obtain ⟨rfl, h⟩ := hw
    obtain ⟨hP, hD⟩ := hJ (W_Work_load kT ad rn rc rv rm bc wn wf wt wv xw xp xr xq xe xh xb cn) rfl rfl rfl
    refine lv_if_ne (tgt := 31) hx hb zd_Work_load_26 (by decide) (fun c_3 => ?_) (fun c_3 => ?_)
    · have h := zq_if c_3 h
      exact B31 rv rm bc wn wf wt wv xq cn p0 p1 p2 p3 H locs ls h hP hD hS (lv_sub hl [0, 1, 2, 3, 4] rfl)
    · have h := zq_it c_3 h
      refine lv_iconst (v := 3) hx hb zd_Work_load_29 (by decide) ?_
      exact hret 3  _ H locs 30 ls ⟨rv, rm, bc, wn, wf, wt, wv, xq, cn, rfl, h⟩ hP rfl hS zd_Work_load_30
  · have h := zq_if c_1 h
    refine lv_aload_n hx hb zd_Work_load_4 rfl (lv_at hl 0 rfl) ?_
    refine va_get (D := D) (ci := 7) (v := .ref (ad 5)) (C := zR_Work) (T := zF_Work) (N := 14) hx hb ht zi_Work hown hK hP 10 rfl rfl 1 (by decide) (ht _ zw_248) (fun _ h9 => h9) rfl zd_Work_load_5 ?_
    refine lv_lload_n hx hb zd_Work_load_8 rfl (lv_at hl 2 rfl) ?_
    refine zq_c_Vi (rest := []) (adl := (A_Work_load ad)) (wr := [(ad 1, .inr (0, [.ref (ad 2), .ref (ad 3), .ref (ad 4), .int rn])), (ad 2, .inl (kT 1, 24, .inr (.inl rc))), (ad 3, .inl (kT 1, 24, .inr (.inl rv))), (ad 4, .inl (kT 2, 24, .inl rm)), (ad 6, .inl (kT 3, 4096, .inl bc)), (ad 28, .inr (6, [.ref (ad 1), .ref (ad 5), .ref (ad 29), .ref (ad 30), .ref (ad 31), .int wn])), (ad 29, .inl (kT 0, 200, .inl wf)), (ad 30, .inl (kT 0, 200, .inl wt)), (ad 31, .inl (kT 1, 200, .inr (.inl wv))), (ad 32, .inr (7, [.ref (ad 1), .ref (ad 5), .ref (ad 7), .ref (ad 12), .ref (ad 22), .ref (ad 28), .ref (ad 34), .int xw, .int xp, .int xr, .int xq, .int xe, .int xh, .int xb])), (ad 34, .inl (kT 0, 9, .inl cn))]) ⟨hx, hb, hml, hown, ht⟩ (c_Bytes_hasWord l D kT ad p1 _ h) (cwV 1 ht (zq_gV zw_250 zw_251 zw_252 zw_134 zw_253) rfl rfl rfl zh_Bytes_hasWord ⟨Nat.le_of_ble_eq_true rfl, Nat.le_of_ble_eq_true rfl⟩) hE hP hD hS hA [4] [0, 1, 2, 3, 5, 6, 7, 8, 9, 10, 11] 12 rfl (by decide +kernel) rfl (by decide +kernel) rfl rfl 0 rfl rfl rfl rfl hl.1 (Nat.le_of_ble_eq_true rfl) rfl zd_Work_load_9 ⟨Nat.zero_le _, Nat.zero_le _⟩ (fun r_4 w1 H locs hw hJ hS => ?_)
    obtain ⟨rfl, h⟩ := hw
    obtain ⟨hP, hD⟩ := hJ (W_Work_load kT ad rn rc rv rm bc wn wf wt wv xw xp xr xq xe xh xb cn) rfl rfl rfl
    refine lv_if_ne (tgt := 31) hx hb zd_Work_load_12 (by decide) (fun c_5 => ?_) (fun c_5 => ?_)
    · have h := zq_if c_5 h
      exact B31 rv rm bc wn wf wt wv xq cn p0 p1 p2 p3 H locs ls h hP hD hS (lv_sub hl [0, 1, 2, 3, 4] rfl)
    · have h := zq_it c_5 h
      refine lv_goto (tgt := 29) hx hb zd_Work_load_15 (by decide) ?_
      refine lv_iconst (v := 3) hx hb zd_Work_load_29 (by decide) ?_
      exact hret 3  _ H locs 30 ls ⟨rv, rm, bc, wn, wf, wt, wv, xq, cn, rfl, h⟩ hP rfl hS zd_Work_load_30
abbrev W_Work_store (kT : Nat → ClassId) (ad : Nat → Nat) (rn : Int32) (rc : Nat → Int64) (rv : Nat → Int64) (rm : Nat → Int32) (bc : Nat → Int32) (wn : Int32) (wf : Nat → Int32) (wt : Nat → Int32) (wv : Nat → Int64) (xw : Int32) (xp : Int32) (xr : Int32) (xq : Int32) (xe : Int32) (xh : Int32) (xb : Int32) (cn : Nat → Int32) : va_W := [(ad 1, .inr (0, [.ref (ad 2), .ref (ad 3), .ref (ad 4), .int rn])), (ad 2, .inl (kT 1, 24, .inr (.inl rc))), (ad 3, .inl (kT 1, 24, .inr (.inl rv))), (ad 4, .inl (kT 2, 24, .inl rm)), (ad 5, .inr (1, [.ref (ad 6)])), (ad 6, .inl (kT 3, 4096, .inl bc)), (ad 28, .inr (6, [.ref (ad 1), .ref (ad 5), .ref (ad 29), .ref (ad 30), .ref (ad 31), .int wn])), (ad 29, .inl (kT 0, 200, .inl wf)), (ad 30, .inl (kT 0, 200, .inl wt)), (ad 31, .inl (kT 1, 200, .inr (.inl wv))), (ad 32, .inr (7, [.ref (ad 1), .ref (ad 5), .ref (ad 7), .ref (ad 12), .ref (ad 22), .ref (ad 28), .ref (ad 34), .int xw, .int xp, .int xr, .int xq, .int xe, .int xh, .int xb])), (ad 34, .inl (kT 0, 9, .inl cn))]
abbrev A_Work_store (ad : Nat → Nat) : List Nat := [ad 1, ad 2, ad 3, ad 4, ad 5, ad 6, ad 28, ad 29, ad 30, ad 31, ad 32, ad 34]
def wp_Work_store_59 (rn : Int32) (rc : Nat → Int64) (xw : Int32) (xp : Int32) (xr : Int32) (xe : Int32) (xh : Int32) (xb : Int32) (rv : Nat → Int64) (rm : Nat → Int32) (bc : Nat → Int32) (wn : Int32) (wf : Nat → Int32) (wt : Nat → Int32) (wv : Nat → Int64) (xq : Int32) (cn : Nat → Int32) (y2 : Int64) (y4 : Int64) (z0 : Int32) (post : Int32 → (Nat → Int64) → (Nat → Int32) → (Nat → Int32) → Int32 → (Nat → Int32) → (Nat → Int32) → (Nat → Int64) → Int32 → (Nat → Int32) → Prop) : Prop := wp_Work_write rn rc rv rm bc wn wf wt wv xw xp xr xq xe xh xb z0 (zq_j_l2i y2) y4 (fun rv_9 rm_10 bc_11 wn_12 wf_13 wt_14 wv_15 xq_16 => post 0 rv_9 rm_10 bc_11 wn_12 wf_13 wt_14 wv_15 xq_16 cn)
def wp_Work_store_47 (rn : Int32) (rc : Nat → Int64) (xw : Int32) (xp : Int32) (xr : Int32) (xe : Int32) (xh : Int32) (xb : Int32) (rv : Nat → Int64) (rm : Nat → Int32) (bc : Nat → Int32) (wn : Int32) (wf : Nat → Int32) (wt : Nat → Int32) (wv : Nat → Int64) (xq : Int32) (cn : Nat → Int32) (y1 : Int32) (y2 : Int64) (y4 : Int64) (z0 : Int32) (z1 : Int32) (z2 : Int32) (post : Int32 → (Nat → Int64) → (Nat → Int32) → (Nat → Int32) → Int32 → (Nat → Int32) → (Nat → Int32) → (Nat → Int64) → Int32 → (Nat → Int32) → Prop) : Prop := vp_in z2 9 ∧ (if y1 = 0 then wp_Work_store_59 rn rc xw xp xr xe xh xb rv rm bc wn wf wt wv xq (upd cn z2.toNatClampNeg (z1 + z0)) y2 y4 3 post else wp_Work_store_59 rn rc xw xp xr xe xh xb rv rm bc wn wf wt wv xq (upd cn z2.toNatClampNeg (z1 + z0)) y2 y4 4 post)
def wp_Work_store_31 (rn : Int32) (rc : Nat → Int64) (xw : Int32) (xp : Int32) (xr : Int32) (xe : Int32) (xh : Int32) (xb : Int32) (rv : Nat → Int64) (rm : Nat → Int32) (bc : Nat → Int32) (wn : Int32) (wf : Nat → Int32) (wt : Nat → Int32) (wv : Nat → Int64) (xq : Int32) (cn : Nat → Int32) (y1 : Int32) (y2 : Int64) (y4 : Int64) (post : Int32 → (Nat → Int64) → (Nat → Int32) → (Nat → Int32) → Int32 → (Nat → Int32) → (Nat → Int32) → (Nat → Int64) → Int32 → (Nat → Int32) → Prop) : Prop := (if y1 = 0 then wp_Work_store_47 rn rc xw xp xr xe xh xb rv rm bc wn wf wt wv xq cn y1 y2 y4 1 (cn 5) 5 post else wp_Work_store_47 rn rc xw xp xr xe xh xb rv rm bc wn wf wt wv xq cn y1 y2 y4 2 (cn 5) 5 post)
def wp_Work_store (rn : Int32) (rc : Nat → Int64) (rv : Nat → Int64) (rm : Nat → Int32) (bc : Nat → Int32) (wn : Int32) (wf : Nat → Int32) (wt : Nat → Int32) (wv : Nat → Int64) (xw : Int32) (xp : Int32) (xr : Int32) (xq : Int32) (xe : Int32) (xh : Int32) (xb : Int32) (cn : Nat → Int32) (p0 : Int32) (p1 : Int64) (p2 : Int64) (post : Int32 → (Nat → Int64) → (Nat → Int32) → (Nat → Int32) → Int32 → (Nat → Int32) → (Nat → Int32) → (Nat → Int64) → Int32 → (Nat → Int32) → Prop) : Prop := (if p0 = 0 then wp_Bytes_hasByte p1 (fun r_2 => (if r_2 = 0 then post 3 rv rm bc wn wf wt wv xq cn else wp_Work_store_31 rn rc xw xp xr xe xh xb rv rm bc wn wf wt wv xq cn p0 p1 p2 post)) else wp_Bytes_hasWord p1 (fun r_4 => (if r_4 = 0 then post 3 rv rm bc wn wf wt wv xq cn else wp_Work_store_31 rn rc xw xp xr xe xh xb rv rm bc wn wf wt wv xq cn p0 p1 p2 post)))
set_option maxHeartbeats 4000000 in
set_option maxRecDepth 100000 in
theorem c_Work_store (l : Launch) (D : va_G) (kT : Nat → ClassId) (ad : Nat → Nat) (rn : Int32) (rc : Nat → Int64) (rv : Nat → Int64) (rm : Nat → Int32) (bc : Nat → Int32) (wn : Int32) (wf : Nat → Int32) (wt : Nat → Int32) (wv : Nat → Int64) (xw : Int32) (xp : Int32) (xr : Int32) (xq : Int32) (xe : Int32) (xh : Int32) (xb : Int32) (cn : Nat → Int32) (p0 : Int32) (p1 : Int64) (p2 : Int64) (post : Int32 → (Nat → Int64) → (Nat → Int32) → (Nat → Int32) → Int32 → (Nat → Int32) → (Nat → Int32) → (Nat → Int64) → Int32 → (Nat → Int32) → Prop) (h : wp_Work_store rn rc rv rm bc wn wf wt wv xw xp xr xq xe xh xb cn p0 p1 p2 post) : zq_Mi l zy_Work_store zs_Work_store ({ frames := 3, cells := 0, slots := 0, locals := 72 }) D kT [.ref (ad 32), .int p0, .long p1, .long p2] (W_Work_store kT ad rn rc rv rm bc wn wf wt wv xw xp xr xq xe xh xb cn) (fun r w' => ∃ (rv' : Nat → Int64) (rm' : Nat → Int32) (bc' : Nat → Int32) (wn' : Int32) (wf' : Nat → Int32) (wt' : Nat → Int32) (wv' : Nat → Int64) (xq' : Int32) (cn' : Nat → Int32), w' = (W_Work_store kT ad rn rc rv' rm' bc' wn' wf' wt' wv' xw xp xr xq' xe xh xb cn') ∧ post r rv' rm' bc' wn' wf' wt' wv' xq' cn') := by
  refine zq_Mi_of (adl := (A_Work_store ad)) (cc := zb_Work_store) (maxL := 6) (own := zR_Work) rfl (by decide) rfl rfl (Nat.le_of_ble_eq_true rfl) ?_
  intro p e s m AV below meth c A QQ H locs ls hx hb hml hown ht hE hA hret hP hD hS hl
  have hK := hE.1
  have hl : lv_has ls 6 [(0, .ref (ad 32)), (1, .int p0), (2, .long p1), (4, .long p2)] := hl
  unfold wp_Work_store at h
  have B59 : ∀  (rv : Nat → Int64) (rm : Nat → Int32) (bc : Nat → Int32) (wn : Int32) (wf : Nat → Int32) (wt : Nat → Int32) (wv : Nat → Int64) (xq : Int32) (cn : Nat → Int32) (y2 : Int64) (y4 : Int64) (z0 : Int32) (H : Heap) (locs : List Loc) (ls : Array Slot), wp_Work_store_59 rn rc xw xp xr xe xh xb rv rm bc wn wf wt wv xq cn y2 y4 z0 post → va_P D vwCl (W_Work_store kT ad rn rc rv rm bc wn wf wt wv xw xp xr xq xe xh xb cn) H → va_D A (W_Work_store kT ad rn rc rv rm bc wn wf wt wv xw xp xr xq xe xh xb cn) → va_S A s.heap H locs → lv_has ls 6 [(2, .long y2), (4, .long y4)] → W p l e ({ frames := 3, cells := 0, slots := 0, locals := 72 }) s m AV below meth c H locs 0 0 QQ (F0 m 59 ls [.int z0, .ref (ad 32)]) := by
    intro rv rm bc wn wf wt wv xq cn y2 y4 z0 H locs ls h hP hD hS hl
    refine lv_lload_n hx hb zd_Work_store_59 rfl (lv_at hl 0 rfl) ?_
    refine lv_l2i (v := (zq_j_l2i y2)) hx hb zd_Work_store_60 rfl ?_
    refine lv_lload hx hb zd_Work_store_61 (lv_at hl 1 rfl) ?_
    refine zq_c_Vv (rest := []) (adl := (A_Work_store ad)) (wr := [(ad 34, .inl (kT 0, 9, .inl cn))]) ⟨hx, hb, hml, hown, ht⟩ (c_Work_write l D kT ad rn rc rv rm bc wn wf wt wv xw xp xr xq xe xh xb z0 (zq_j_l2i y2) y4 _ h) (cwV 3 ht (zq_gV zw_244 zw_245 zw_246 zw_233 zw_247) rfl rfl rfl zh_Work_write ⟨Nat.le_of_ble_eq_true rfl, Nat.le_of_ble_eq_true rfl⟩) hE hP hD hS hA [0, 1, 2, 3, 4, 5, 6, 7, 8, 9, 10] [11] 12 rfl (by decide +kernel) rfl (by decide +kernel) rfl rfl 10 rfl rfl rfl rfl hl.1 (Nat.le_of_ble_eq_true rfl) rfl zd_Work_store_63 ⟨Nat.zero_le _, Nat.zero_le _⟩ (fun w1 H locs hw hJ hS => ?_)
    obtain ⟨rv_9, rm_10, bc_11, wn_12, wf_13, wt_14, wv_15, xq_16, rfl, h⟩ := hw
    obtain ⟨hP, hD⟩ := hJ (W_Work_store kT ad rn rc rv_9 rm_10 bc_11 wn_12 wf_13 wt_14 wv_15 xw xp xr xq_16 xe xh xb cn) rfl rfl rfl
    refine lv_iconst (v := 0) hx hb zd_Work_store_66 (by decide) ?_
    exact hret 0  _ H locs 67 ls ⟨rv_9, rm_10, bc_11, wn_12, wf_13, wt_14, wv_15, xq_16, cn, rfl, h⟩ hP rfl hS zd_Work_store_67
  have B47 : ∀  (rv : Nat → Int64) (rm : Nat → Int32) (bc : Nat → Int32) (wn : Int32) (wf : Nat → Int32) (wt : Nat → Int32) (wv : Nat → Int64) (xq : Int32) (cn : Nat → Int32) (y1 : Int32) (y2 : Int64) (y4 : Int64) (z0 : Int32) (z1 : Int32) (z2 : Int32) (H : Heap) (locs : List Loc) (ls : Array Slot), wp_Work_store_47 rn rc xw xp xr xe xh xb rv rm bc wn wf wt wv xq cn y1 y2 y4 z0 z1 z2 post → va_P D vwCl (W_Work_store kT ad rn rc rv rm bc wn wf wt wv xw xp xr xq xe xh xb cn) H → va_D A (W_Work_store kT ad rn rc rv rm bc wn wf wt wv xw xp xr xq xe xh xb cn) → va_S A s.heap H locs → lv_has ls 6 [(0, .ref (ad 32)), (1, .int y1), (2, .long y2), (4, .long y4)] → W p l e ({ frames := 3, cells := 0, slots := 0, locals := 72 }) s m AV below meth c H locs 0 0 QQ (F0 m 47 ls [.int z0, .int z1, .int z2, .ref (ad 34)]) := by
    intro rv rm bc wn wf wt wv xq cn y1 y2 y4 z0 z1 z2 H locs ls h hP hD hS hl
    refine lv_iadd hx hb zd_Work_store_47 ?_
    obtain ⟨hi_7, h⟩ := h
    refine zq_a_iast (D := D) hx hb hK hP hD hS 11 0 rfl rfl hi_7 rfl zd_Work_store_48 (fun H locs hP hD hS => ?_)
    have hP : va_P D vwCl (W_Work_store kT ad rn rc rv rm bc wn wf wt wv xw xp xr xq xe xh xb (upd cn z2.toNatClampNeg (z1 + z0))) H := hP
    have hD : va_D A (W_Work_store kT ad rn rc rv rm bc wn wf wt wv xw xp xr xq xe xh xb (upd cn z2.toNatClampNeg (z1 + z0))) := hD
    refine lv_aload_n hx hb zd_Work_store_49 rfl (lv_at hl 0 rfl) ?_
    refine lv_iload_n hx hb zd_Work_store_50 rfl (lv_at hl 1 rfl) ?_
    refine lv_if_eq (tgt := 58) hx hb zd_Work_store_51 (by decide) (fun c_8 => ?_) (fun c_8 => ?_)
    · have h := zq_it c_8 h
      refine lv_iconst (v := 3) hx hb zd_Work_store_58 (by decide) ?_
      exact B59 rv rm bc wn wf wt wv xq (upd cn z2.toNatClampNeg (z1 + z0)) y2 y4 3 H locs ls h hP hD hS (lv_sub hl [2, 3] rfl)
    · have h := zq_if c_8 h
      refine lv_iconst (v := 4) hx hb zd_Work_store_54 (by decide) ?_
      refine lv_goto (tgt := 59) hx hb zd_Work_store_55 (by decide) ?_
      exact B59 rv rm bc wn wf wt wv xq (upd cn z2.toNatClampNeg (z1 + z0)) y2 y4 4 H locs ls h hP hD hS (lv_sub hl [2, 3] rfl)
  have B31 : ∀  (rv : Nat → Int64) (rm : Nat → Int32) (bc : Nat → Int32) (wn : Int32) (wf : Nat → Int32) (wt : Nat → Int32) (wv : Nat → Int64) (xq : Int32) (cn : Nat → Int32) (y1 : Int32) (y2 : Int64) (y4 : Int64) (H : Heap) (locs : List Loc) (ls : Array Slot), wp_Work_store_31 rn rc xw xp xr xe xh xb rv rm bc wn wf wt wv xq cn y1 y2 y4 post → va_P D vwCl (W_Work_store kT ad rn rc rv rm bc wn wf wt wv xw xp xr xq xe xh xb cn) H → va_D A (W_Work_store kT ad rn rc rv rm bc wn wf wt wv xw xp xr xq xe xh xb cn) → va_S A s.heap H locs → lv_has ls 6 [(0, .ref (ad 32)), (1, .int y1), (2, .long y2), (4, .long y4)] → W p l e ({ frames := 3, cells := 0, slots := 0, locals := 72 }) s m AV below meth c H locs 0 0 QQ (F0 m 31 ls []) := by
    intro rv rm bc wn wf wt wv xq cn y1 y2 y4 H locs ls h hP hD hS hl
    unfold wp_Work_store_31 at h
    refine lv_aload_n hx hb zd_Work_store_31 rfl (lv_at hl 0 rfl) ?_
    refine va_get (D := D) (ci := 7) (v := .ref (ad 34)) (C := zR_Work) (T := zF_Work) (N := 14) hx hb ht zi_Work hown hK hP 10 rfl rfl 6 (by decide) (ht _ zw_254) (fun _ h9 => h9) rfl zd_Work_store_32 ?_
    refine lv_iconst (v := 5) hx hb zd_Work_store_35 (by decide) ?_
    refine lv_dup2_11 hx hb zd_Work_store_36 rfl rfl ?_
    refine zq_a_iald (D := D) (j := 5) hx hb hK hP 11 0 rfl rfl (zq_in (by decide)) (by decide) zd_Work_store_37 ?_
    refine lv_iload_n hx hb zd_Work_store_38 rfl (lv_at hl 1 rfl) ?_
    refine lv_if_eq (tgt := 46) hx hb zd_Work_store_39 (by decide) (fun c_6 => ?_) (fun c_6 => ?_)
    · have h := zq_it c_6 h
      refine lv_iconst (v := 1) hx hb zd_Work_store_46 (by decide) ?_
      exact B47 rv rm bc wn wf wt wv xq cn y1 y2 y4 1 (cn 5) 5 H locs ls h hP hD hS (lv_sub hl [0, 1, 2, 3] rfl)
    · have h := zq_if c_6 h
      refine lv_iconst (v := 2) hx hb zd_Work_store_42 (by decide) ?_
      refine lv_goto (tgt := 47) hx hb zd_Work_store_43 (by decide) ?_
      exact B47 rv rm bc wn wf wt wv xq cn y1 y2 y4 2 (cn 5) 5 H locs ls h hP hD hS (lv_sub hl [0, 1, 2, 3] rfl)
  refine lv_iload_n hx hb zd_Work_store_0 rfl (lv_at hl 1 rfl) ?_
  refine lv_if_eq (tgt := 18) hx hb zd_Work_store_1 (by decide) (fun c_1 => ?_) (fun c_1 => ?_)
  · have h := zq_it c_1 h
    refine lv_aload_n hx hb zd_Work_store_18 rfl (lv_at hl 0 rfl) ?_
    refine va_get (D := D) (ci := 7) (v := .ref (ad 5)) (C := zR_Work) (T := zF_Work) (N := 14) hx hb ht zi_Work hown hK hP 10 rfl rfl 1 (by decide) (ht _ zw_248) (fun _ h9 => h9) rfl zd_Work_store_19 ?_
    refine lv_lload_n hx hb zd_Work_store_22 rfl (lv_at hl 2 rfl) ?_
    refine zq_c_Vi (rest := []) (adl := (A_Work_store ad)) (wr := [(ad 1, .inr (0, [.ref (ad 2), .ref (ad 3), .ref (ad 4), .int rn])), (ad 2, .inl (kT 1, 24, .inr (.inl rc))), (ad 3, .inl (kT 1, 24, .inr (.inl rv))), (ad 4, .inl (kT 2, 24, .inl rm)), (ad 6, .inl (kT 3, 4096, .inl bc)), (ad 28, .inr (6, [.ref (ad 1), .ref (ad 5), .ref (ad 29), .ref (ad 30), .ref (ad 31), .int wn])), (ad 29, .inl (kT 0, 200, .inl wf)), (ad 30, .inl (kT 0, 200, .inl wt)), (ad 31, .inl (kT 1, 200, .inr (.inl wv))), (ad 32, .inr (7, [.ref (ad 1), .ref (ad 5), .ref (ad 7), .ref (ad 12), .ref (ad 22), .ref (ad 28), .ref (ad 34), .int xw, .int xp, .int xr, .int xq, .int xe, .int xh, .int xb])), (ad 34, .inl (kT 0, 9, .inl cn))]) ⟨hx, hb, hml, hown, ht⟩ (c_Bytes_hasByte l D kT ad p1 _ h) (cwV 1 ht (zq_gV zw_249 zw_132 zw_133 zw_134 zw_135) rfl rfl rfl zh_Bytes_hasByte ⟨Nat.le_of_ble_eq_true rfl, Nat.le_of_ble_eq_true rfl⟩) hE hP hD hS hA [4] [0, 1, 2, 3, 5, 6, 7, 8, 9, 10, 11] 12 rfl (by decide +kernel) rfl (by decide +kernel) rfl rfl 0 rfl rfl rfl rfl hl.1 (Nat.le_of_ble_eq_true rfl) rfl zd_Work_store_23 ⟨Nat.zero_le _, Nat.zero_le _⟩ (fun r_2 w1 H locs hw hJ hS => ?_)
    obtain ⟨rfl, h⟩ := hw
    obtain ⟨hP, hD⟩ := hJ (W_Work_store kT ad rn rc rv rm bc wn wf wt wv xw xp xr xq xe xh xb cn) rfl rfl rfl
    refine lv_if_ne (tgt := 31) hx hb zd_Work_store_26 (by decide) (fun c_3 => ?_) (fun c_3 => ?_)
    · have h := zq_if c_3 h
      exact B31 rv rm bc wn wf wt wv xq cn p0 p1 p2 H locs ls h hP hD hS (lv_sub hl [0, 1, 2, 3] rfl)
    · have h := zq_it c_3 h
      refine lv_iconst (v := 3) hx hb zd_Work_store_29 (by decide) ?_
      exact hret 3  _ H locs 30 ls ⟨rv, rm, bc, wn, wf, wt, wv, xq, cn, rfl, h⟩ hP rfl hS zd_Work_store_30
  · have h := zq_if c_1 h
    refine lv_aload_n hx hb zd_Work_store_4 rfl (lv_at hl 0 rfl) ?_
    refine va_get (D := D) (ci := 7) (v := .ref (ad 5)) (C := zR_Work) (T := zF_Work) (N := 14) hx hb ht zi_Work hown hK hP 10 rfl rfl 1 (by decide) (ht _ zw_248) (fun _ h9 => h9) rfl zd_Work_store_5 ?_
    refine lv_lload_n hx hb zd_Work_store_8 rfl (lv_at hl 2 rfl) ?_
    refine zq_c_Vi (rest := []) (adl := (A_Work_store ad)) (wr := [(ad 1, .inr (0, [.ref (ad 2), .ref (ad 3), .ref (ad 4), .int rn])), (ad 2, .inl (kT 1, 24, .inr (.inl rc))), (ad 3, .inl (kT 1, 24, .inr (.inl rv))), (ad 4, .inl (kT 2, 24, .inl rm)), (ad 6, .inl (kT 3, 4096, .inl bc)), (ad 28, .inr (6, [.ref (ad 1), .ref (ad 5), .ref (ad 29), .ref (ad 30), .ref (ad 31), .int wn])), (ad 29, .inl (kT 0, 200, .inl wf)), (ad 30, .inl (kT 0, 200, .inl wt)), (ad 31, .inl (kT 1, 200, .inr (.inl wv))), (ad 32, .inr (7, [.ref (ad 1), .ref (ad 5), .ref (ad 7), .ref (ad 12), .ref (ad 22), .ref (ad 28), .ref (ad 34), .int xw, .int xp, .int xr, .int xq, .int xe, .int xh, .int xb])), (ad 34, .inl (kT 0, 9, .inl cn))]) ⟨hx, hb, hml, hown, ht⟩ (c_Bytes_hasWord l D kT ad p1 _ h) (cwV 1 ht (zq_gV zw_250 zw_251 zw_252 zw_134 zw_253) rfl rfl rfl zh_Bytes_hasWord ⟨Nat.le_of_ble_eq_true rfl, Nat.le_of_ble_eq_true rfl⟩) hE hP hD hS hA [4] [0, 1, 2, 3, 5, 6, 7, 8, 9, 10, 11] 12 rfl (by decide +kernel) rfl (by decide +kernel) rfl rfl 0 rfl rfl rfl rfl hl.1 (Nat.le_of_ble_eq_true rfl) rfl zd_Work_store_9 ⟨Nat.zero_le _, Nat.zero_le _⟩ (fun r_4 w1 H locs hw hJ hS => ?_)
    obtain ⟨rfl, h⟩ := hw
    obtain ⟨hP, hD⟩ := hJ (W_Work_store kT ad rn rc rv rm bc wn wf wt wv xw xp xr xq xe xh xb cn) rfl rfl rfl
    refine lv_if_ne (tgt := 31) hx hb zd_Work_store_12 (by decide) (fun c_5 => ?_) (fun c_5 => ?_)
    · have h := zq_if c_5 h
      exact B31 rv rm bc wn wf wt wv xq cn p0 p1 p2 H locs ls h hP hD hS (lv_sub hl [0, 1, 2, 3] rfl)
    · have h := zq_it c_5 h
      refine lv_goto (tgt := 29) hx hb zd_Work_store_15 (by decide) ?_
      refine lv_iconst (v := 3) hx hb zd_Work_store_29 (by decide) ?_
      exact hret 3  _ H locs 30 ls ⟨rv, rm, bc, wn, wf, wt, wv, xq, cn, rfl, h⟩ hP rfl hS zd_Work_store_30
abbrev W_Work_goBack (kT : Nat → ClassId) (ad : Nat → Nat) (rn : Int32) (rc : Nat → Int64) (rv : Nat → Int64) (rm : Nat → Int32) (bc : Nat → Int32) (kn : Int32) (kv : Int32) (kp : Nat → Int32) (kl : Nat → Int32) (wn : Int32) (wf : Nat → Int32) (wt : Nat → Int32) (wv : Nat → Int64) (xw : Int32) (xp : Int32) (xr : Int32) (xq : Int32) (xe : Int32) (xh : Int32) (xb : Int32) : va_W := [(ad 1, .inr (0, [.ref (ad 2), .ref (ad 3), .ref (ad 4), .int rn])), (ad 2, .inl (kT 1, 24, .inr (.inl rc))), (ad 3, .inl (kT 1, 24, .inr (.inl rv))), (ad 4, .inl (kT 2, 24, .inl rm)), (ad 5, .inr (1, [.ref (ad 6)])), (ad 6, .inl (kT 3, 4096, .inl bc)), (ad 22, .inr (4, [.ref (ad 23), .ref (ad 24), .int kn, .int kv])), (ad 23, .inl (kT 0, 8, .inl kp)), (ad 24, .inl (kT 0, 8, .inl kl)), (ad 28, .inr (6, [.ref (ad 1), .ref (ad 5), .ref (ad 29), .ref (ad 30), .ref (ad 31), .int wn])), (ad 29, .inl (kT 0, 200, .inl wf)), (ad 30, .inl (kT 0, 200, .inl wt)), (ad 31, .inl (kT 1, 200, .inr (.inl wv))), (ad 32, .inr (7, [.ref (ad 1), .ref (ad 5), .ref (ad 7), .ref (ad 12), .ref (ad 22), .ref (ad 28), .ref (ad 34), .int xw, .int xp, .int xr, .int xq, .int xe, .int xh, .int xb]))]
abbrev A_Work_goBack (ad : Nat → Nat) : List Nat := [ad 1, ad 2, ad 3, ad 4, ad 5, ad 6, ad 22, ad 23, ad 24, ad 28, ad 29, ad 30, ad 31, ad 32]
def wp_Work_goBack (rn : Int32) (rc : Nat → Int64) (rv : Nat → Int64) (rm : Nat → Int32) (bc : Nat → Int32) (kn : Int32) (kv : Int32) (kp : Nat → Int32) (kl : Nat → Int32) (wn : Int32) (wf : Nat → Int32) (wt : Nat → Int32) (wv : Nat → Int64) (xw : Int32) (xp : Int32) (xr : Int32) (xq : Int32) (xe : Int32) (xh : Int32) (xb : Int32)  (post : Int32 → (Nat → Int64) → (Nat → Int32) → (Nat → Int32) → Int32 → Int32 → Int32 → (Nat → Int32) → (Nat → Int32) → (Nat → Int64) → Int32 → Int32 → Prop) : Prop := wp_Kept_goBack kn kv kp kl (fun r_3 kn_1 kv_2 => (if r_3 = (-1) then post 6 rv rm bc kn_1 kv_2 wn wf wt wv xq xb else (if xp = 0 then wp_Work_write rn rc rv rm bc wn wf wt wv xw xp xr xq xe xh xb 0 0 (zq_j_i2l r_3) (fun rv_6 rm_7 bc_8 wn_9 wf_10 wt_11 wv_12 xq_13 => post 0 rv_6 rm_7 bc_8 kn_1 kv_2 wn_9 wf_10 wt_11 wv_12 xq_13 xb) else post 0 rv rm bc kn_1 kv_2 wn wf wt wv 1 r_3)))
set_option maxHeartbeats 4000000 in
set_option maxRecDepth 100000 in
theorem c_Work_goBack (l : Launch) (D : va_G) (kT : Nat → ClassId) (ad : Nat → Nat) (rn : Int32) (rc : Nat → Int64) (rv : Nat → Int64) (rm : Nat → Int32) (bc : Nat → Int32) (kn : Int32) (kv : Int32) (kp : Nat → Int32) (kl : Nat → Int32) (wn : Int32) (wf : Nat → Int32) (wt : Nat → Int32) (wv : Nat → Int64) (xw : Int32) (xp : Int32) (xr : Int32) (xq : Int32) (xe : Int32) (xh : Int32) (xb : Int32)  (post : Int32 → (Nat → Int64) → (Nat → Int32) → (Nat → Int32) → Int32 → Int32 → Int32 → (Nat → Int32) → (Nat → Int32) → (Nat → Int64) → Int32 → Int32 → Prop) (h : wp_Work_goBack rn rc rv rm bc kn kv kp kl wn wf wt wv xw xp xr xq xe xh xb  post) : zq_Mi l zy_Work_goBack zs_Work_goBack ({ frames := 3, cells := 0, slots := 0, locals := 72 }) D kT [.ref (ad 32)] (W_Work_goBack kT ad rn rc rv rm bc kn kv kp kl wn wf wt wv xw xp xr xq xe xh xb) (fun r w' => ∃ (rv' : Nat → Int64) (rm' : Nat → Int32) (bc' : Nat → Int32) (kn' : Int32) (kv' : Int32) (wn' : Int32) (wf' : Nat → Int32) (wt' : Nat → Int32) (wv' : Nat → Int64) (xq' : Int32) (xb' : Int32), w' = (W_Work_goBack kT ad rn rc rv' rm' bc' kn' kv' kp kl wn' wf' wt' wv' xw xp xr xq' xe xh xb') ∧ post r rv' rm' bc' kn' kv' wn' wf' wt' wv' xq' xb') := by
  refine zq_Mi_of (adl := (A_Work_goBack ad)) (cc := zb_Work_goBack) (maxL := 2) (own := zR_Work) rfl (by decide) rfl rfl (Nat.le_of_ble_eq_true rfl) ?_
  intro p e s m AV below meth c A QQ H locs ls hx hb hml hown ht hE hA hret hP hD hS hl
  have hK := hE.1
  have hl : lv_has ls 2 [(0, .ref (ad 32))] := hl
  refine lv_aload_n hx hb zd_Work_goBack_0 rfl (lv_at hl 0 rfl) ?_
  refine va_get (D := D) (ci := 7) (v := .ref (ad 22)) (C := zR_Work) (T := zF_Work) (N := 14) hx hb ht zi_Work hown hK hP 13 rfl rfl 4 (by decide) (ht _ zw_257) (fun _ h9 => h9) rfl zd_Work_goBack_1 ?_
  refine zq_c_Vi (rest := []) (adl := (A_Work_goBack ad)) (wr := [(ad 1, .inr (0, [.ref (ad 2), .ref (ad 3), .ref (ad 4), .int rn])), (ad 2, .inl (kT 1, 24, .inr (.inl rc))), (ad 3, .inl (kT 1, 24, .inr (.inl rv))), (ad 4, .inl (kT 2, 24, .inl rm)), (ad 5, .inr (1, [.ref (ad 6)])), (ad 6, .inl (kT 3, 4096, .inl bc)), (ad 28, .inr (6, [.ref (ad 1), .ref (ad 5), .ref (ad 29), .ref (ad 30), .ref (ad 31), .int wn])), (ad 29, .inl (kT 0, 200, .inl wf)), (ad 30, .inl (kT 0, 200, .inl wt)), (ad 31, .inl (kT 1, 200, .inr (.inl wv))), (ad 32, .inr (7, [.ref (ad 1), .ref (ad 5), .ref (ad 7), .ref (ad 12), .ref (ad 22), .ref (ad 28), .ref (ad 34), .int xw, .int xp, .int xr, .int xq, .int xe, .int xh, .int xb]))]) ⟨hx, hb, hml, hown, ht⟩ (c_Kept_goBack l D kT ad kn kv kp kl _ h) (cwV 0 ht (zq_gV zw_258 zw_259 zw_260 zw_261 zw_262) rfl rfl rfl zh_Kept_goBack ⟨Nat.le_of_ble_eq_true rfl, Nat.le_of_ble_eq_true rfl⟩) hE hP hD hS hA [6, 7, 8] [0, 1, 2, 3, 4, 5, 9, 10, 11, 12, 13] 14 rfl (by decide +kernel) rfl (by decide +kernel) rfl rfl 0 rfl rfl rfl rfl hl.1 (Nat.le_of_ble_eq_true rfl) rfl zd_Work_goBack_4 ⟨Nat.zero_le _, Nat.zero_le _⟩ (fun r_3 w1 H locs hw hJ hS => ?_)
  obtain ⟨kn_1, kv_2, rfl, h⟩ := hw
  obtain ⟨hP, hD⟩ := hJ (W_Work_goBack kT ad rn rc rv rm bc kn_1 kv_2 kp kl wn wf wt wv xw xp xr xq xe xh xb) rfl rfl rfl
  refine lv_istore_n (lv' := [(1, .int r_3), (0, .ref (ad 32))]) hx hb zd_Work_goBack_7 rfl hl (by decide) rfl (fun ls hl => ?_)
  refine lv_iload_n hx hb zd_Work_goBack_8 rfl (lv_at hl 0 rfl) ?_
  refine lv_iconst (v := (-1)) hx hb zd_Work_goBack_9 (by decide) ?_
  refine lv_icmp_ne (tgt := 16) hx hb zd_Work_goBack_10 (by decide) (fun c_4 => ?_) (fun c_4 => ?_)
  · have h := zq_if c_4 h
    refine lv_aload_n hx hb zd_Work_goBack_16 rfl (lv_at hl 1 rfl) ?_
    refine va_get (D := D) (ci := 7) (v := .int xp) (C := zR_Work) (T := zF_Work) (N := 14) hx hb ht zi_Work hown hK hP 13 rfl rfl 8 (by decide) (ht _ zw_219) (fun _ h9 => h9) rfl zd_Work_goBack_17 ?_
    refine lv_if_eq (tgt := 36) hx hb zd_Work_goBack_20 (by decide) (fun c_5 => ?_) (fun c_5 => ?_)
    · have h := zq_it c_5 h
      refine lv_aload_n hx hb zd_Work_goBack_36 rfl (lv_at hl 1 rfl) ?_
      refine lv_iconst (v := 0) hx hb zd_Work_goBack_37 (by decide) ?_
      refine lv_iconst (v := 0) hx hb zd_Work_goBack_38 (by decide) ?_
      refine lv_iload_n hx hb zd_Work_goBack_39 rfl (lv_at hl 0 rfl) ?_
      refine lv_i2l (v := (zq_j_i2l r_3)) hx hb zd_Work_goBack_40 rfl ?_
      refine zq_c_Vv (rest := []) (adl := (A_Work_goBack ad)) (wr := [(ad 22, .inr (4, [.ref (ad 23), .ref (ad 24), .int kn_1, .int kv_2])), (ad 23, .inl (kT 0, 8, .inl kp)), (ad 24, .inl (kT 0, 8, .inl kl))]) ⟨hx, hb, hml, hown, ht⟩ (c_Work_write l D kT ad rn rc rv rm bc wn wf wt wv xw xp xr xq xe xh xb 0 0 (zq_j_i2l r_3) _ h) (cwV 3 ht (zq_gV zw_244 zw_245 zw_246 zw_233 zw_247) rfl rfl rfl zh_Work_write ⟨Nat.le_of_ble_eq_true rfl, Nat.le_of_ble_eq_true rfl⟩) hE hP hD hS hA [0, 1, 2, 3, 4, 5, 9, 10, 11, 12, 13] [6, 7, 8] 14 rfl (by decide +kernel) rfl (by decide +kernel) rfl rfl 10 rfl rfl rfl rfl hl.1 (Nat.le_of_ble_eq_true rfl) rfl zd_Work_goBack_41 ⟨Nat.zero_le _, Nat.zero_le _⟩ (fun w1 H locs hw hJ hS => ?_)
      obtain ⟨rv_6, rm_7, bc_8, wn_9, wf_10, wt_11, wv_12, xq_13, rfl, h⟩ := hw
      obtain ⟨hP, hD⟩ := hJ (W_Work_goBack kT ad rn rc rv_6 rm_7 bc_8 kn_1 kv_2 kp kl wn_9 wf_10 wt_11 wv_12 xw xp xr xq_13 xe xh xb) rfl rfl rfl
      refine lv_iconst (v := 0) hx hb zd_Work_goBack_44 (by decide) ?_
      exact hret 0  _ H locs 45 ls ⟨rv_6, rm_7, bc_8, kn_1, kv_2, wn_9, wf_10, wt_11, wv_12, xq_13, xb, rfl, h⟩ hP rfl hS zd_Work_goBack_45
    · have h := zq_if c_5 h
      refine lv_aload_n hx hb zd_Work_goBack_23 rfl (lv_at hl 1 rfl) ?_
      refine lv_iload_n hx hb zd_Work_goBack_24 rfl (lv_at hl 0 rfl) ?_
      refine va_put (D := D) (ci := 7) (v := .int r_3) (ty := .int) (C := zR_Work) (T := zF_Work) (N := 14) hx hb ht zi_Work zt_Work zt_Work_ok zn_Work hown hK hP hD hS 13 rfl rfl 13 (by decide) (ht _ zw_224) (fun _ h9 => h9) rfl (by decide +kernel) rfl rfl (Nat.le_of_ble_eq_true rfl) zd_Work_goBack_25 (fun H locs hP hD hS => ?_)
      have hP : va_P D vwCl (W_Work_goBack kT ad rn rc rv rm bc kn_1 kv_2 kp kl wn wf wt wv xw xp xr xq xe xh r_3) H := hP
      have hD : va_D A (W_Work_goBack kT ad rn rc rv rm bc kn_1 kv_2 kp kl wn wf wt wv xw xp xr xq xe xh r_3) := hD
      refine lv_aload_n hx hb zd_Work_goBack_28 rfl (lv_at hl 1 rfl) ?_
      refine lv_iconst (v := 1) hx hb zd_Work_goBack_29 (by decide) ?_
      refine va_put (D := D) (ci := 7) (v := .int 1) (ty := .boolean) (C := zR_Work) (T := zF_Work) (N := 14) hx hb ht zi_Work zt_Work zt_Work_ok zn_Work hown hK hP hD hS 13 rfl rfl 10 (by decide) (ht _ zw_221) (fun _ h9 => h9) rfl (by decide +kernel) rfl rfl (Nat.le_of_ble_eq_true rfl) zd_Work_goBack_30 (fun H locs hP hD hS => ?_)
      have hP : va_P D vwCl (W_Work_goBack kT ad rn rc rv rm bc kn_1 kv_2 kp kl wn wf wt wv xw xp xr 1 xe xh r_3) H := hP
      have hD : va_D A (W_Work_goBack kT ad rn rc rv rm bc kn_1 kv_2 kp kl wn wf wt wv xw xp xr 1 xe xh r_3) := hD
      refine lv_goto (tgt := 44) hx hb zd_Work_goBack_33 (by decide) ?_
      refine lv_iconst (v := 0) hx hb zd_Work_goBack_44 (by decide) ?_
      exact hret 0  _ H locs 45 ls ⟨rv, rm, bc, kn_1, kv_2, wn, wf, wt, wv, 1, r_3, rfl, h⟩ hP rfl hS zd_Work_goBack_45
  · have h := zq_it c_4 h
    refine lv_bipush (v := 6) hx hb zd_Work_goBack_13 (by decide) ?_
    exact hret 6  _ H locs 15 ls ⟨rv, rm, bc, kn_1, kv_2, wn, wf, wt, wv, xq, xb, rfl, h⟩ hP rfl hS zd_Work_goBack_15
def wp_Work_result  (p0 : Int32) (p1 : Int64) (p2 : Int64) (post : Int64 → Prop) : Prop := (if p0 = 1 then post (p1 + p2)  else (if p0 = 2 then post (p1 - p2)  else (if p0 = 3 then post (p1 * p2)  else (if p0 = 4 then post p1  else (if p0 = 5 then post p1  else (if p0 = 6 then post (p1 &&& p2)  else (if p0 = 7 then post (p1 ||| p2)  else (if p0 = 8 then post (p1 ^^^ p2)  else (if p0 = 9 then (if p2 < 0 then post 0  else (if 63 < p2 then post 0  else post (zq_j_lshl p1 (zq_j_l2i p2)) )) else (if p0 = 10 then (if p2 < 0 then post 0  else (if 63 < p2 then post 0  else post (zq_j_lushr p1 (zq_j_l2i p2)) )) else (if p0 = 11 then wp_Work_isBelow p1 p2 (fun r_5 => (if r_5 = 0 then post 0  else post 1 )) else (if p0 = 12 then (if p1 = p2 then post 1  else post 0 ) else post p1 ))))))))))))
set_option maxHeartbeats 4000000 in
set_option maxRecDepth 100000 in
theorem c_Work_result (l : Launch) (D : va_G) (kT : Nat → ClassId) (ad : Nat → Nat)  (p0 : Int32) (p1 : Int64) (p2 : Int64) (post : Int64 → Prop) (h : wp_Work_result  p0 p1 p2 post) : zq_Ml l zy_Work_result zs_Work_result ({ frames := 1, cells := 0, slots := 0, locals := 23 }) D kT [.int p0, .long p1, .long p2] [] (fun r w' => w' = [] ∧ post r ) := by
  refine zq_Ml_of (adl := []) (cc := zb_Work_result) (maxL := 5) (own := zR_Work) rfl (by decide) rfl rfl (Nat.le_of_ble_eq_true rfl) ?_
  intro p e s m AV below meth c A QQ H locs ls hx hb hml hown ht hE hA hret hP hD hS hl
  have hK := hE.1
  have hl : lv_has ls 5 [(0, .int p0), (1, .long p1), (3, .long p2)] := hl
  unfold wp_Work_result at h
  refine lv_iload_n hx hb zd_Work_result_0 rfl (lv_at hl 0 rfl) ?_
  by_cases k0 : p0 = 1
  · have h := zq_it k0 h
    refine lv_tableIn (off := 63) (tgt := 64) hx hb zd_Work_result_1 (by rw [k0]; decide) (by rw [k0]; decide) (by rw [k0]; rfl) (by decide) ?_
    refine lv_lload_n hx hb zd_Work_result_64 rfl (lv_at hl 1 rfl) ?_
    refine lv_lload_n hx hb zd_Work_result_65 rfl (lv_at hl 2 rfl) ?_
    refine lv_ladd hx hb zd_Work_result_66 ?_
    exact hret (p1 + p2)  _ H locs 67 ls ⟨rfl, h⟩ hP rfl hS zd_Work_result_67
  · have h := zq_if k0 h
    by_cases k1 : p0 = 2
    · have h := zq_it k1 h
      refine lv_tableIn (off := 67) (tgt := 68) hx hb zd_Work_result_1 (by rw [k1]; decide) (by rw [k1]; decide) (by rw [k1]; rfl) (by decide) ?_
      refine lv_lload_n hx hb zd_Work_result_68 rfl (lv_at hl 1 rfl) ?_
      refine lv_lload_n hx hb zd_Work_result_69 rfl (lv_at hl 2 rfl) ?_
      refine lv_lsub hx hb zd_Work_result_70 ?_
      exact hret (p1 - p2)  _ H locs 71 ls ⟨rfl, h⟩ hP rfl hS zd_Work_result_71
    · have h := zq_if k1 h
      by_cases k2 : p0 = 3
      · have h := zq_it k2 h
        refine lv_tableIn (off := 71) (tgt := 72) hx hb zd_Work_result_1 (by rw [k2]; decide) (by rw [k2]; decide) (by rw [k2]; rfl) (by decide) ?_
        refine lv_lload_n hx hb zd_Work_result_72 rfl (lv_at hl 1 rfl) ?_
        refine lv_lload_n hx hb zd_Work_result_73 rfl (lv_at hl 2 rfl) ?_
        refine lv_lmul hx hb zd_Work_result_74 ?_
        exact hret (p1 * p2)  _ H locs 75 ls ⟨rfl, h⟩ hP rfl hS zd_Work_result_75
      · have h := zq_if k2 h
        by_cases k3 : p0 = 4
        · have h := zq_it k3 h
          refine lv_tableIn (off := 159) (tgt := 160) hx hb zd_Work_result_1 (by rw [k3]; decide) (by rw [k3]; decide) (by rw [k3]; rfl) (by decide) ?_
          refine lv_lload_n hx hb zd_Work_result_160 rfl (lv_at hl 1 rfl) ?_
          exact hret p1  _ H locs 161 ls ⟨rfl, h⟩ hP rfl hS zd_Work_result_161
        · have h := zq_if k3 h
          by_cases k4 : p0 = 5
          · have h := zq_it k4 h
            refine lv_tableIn (off := 159) (tgt := 160) hx hb zd_Work_result_1 (by rw [k4]; decide) (by rw [k4]; decide) (by rw [k4]; rfl) (by decide) ?_
            refine lv_lload_n hx hb zd_Work_result_160 rfl (lv_at hl 1 rfl) ?_
            exact hret p1  _ H locs 161 ls ⟨rfl, h⟩ hP rfl hS zd_Work_result_161
          · have h := zq_if k4 h
            by_cases k5 : p0 = 6
            · have h := zq_it k5 h
              refine lv_tableIn (off := 75) (tgt := 76) hx hb zd_Work_result_1 (by rw [k5]; decide) (by rw [k5]; decide) (by rw [k5]; rfl) (by decide) ?_
              refine lv_lload_n hx hb zd_Work_result_76 rfl (lv_at hl 1 rfl) ?_
              refine lv_lload_n hx hb zd_Work_result_77 rfl (lv_at hl 2 rfl) ?_
              refine lv_land hx hb zd_Work_result_78 ?_
              exact hret (p1 &&& p2)  _ H locs 79 ls ⟨rfl, h⟩ hP rfl hS zd_Work_result_79
            · have h := zq_if k5 h
              by_cases k6 : p0 = 7
              · have h := zq_it k6 h
                refine lv_tableIn (off := 79) (tgt := 80) hx hb zd_Work_result_1 (by rw [k6]; decide) (by rw [k6]; decide) (by rw [k6]; rfl) (by decide) ?_
                refine lv_lload_n hx hb zd_Work_result_80 rfl (lv_at hl 1 rfl) ?_
                refine lv_lload_n hx hb zd_Work_result_81 rfl (lv_at hl 2 rfl) ?_
                refine lv_lor hx hb zd_Work_result_82 ?_
                exact hret (p1 ||| p2)  _ H locs 83 ls ⟨rfl, h⟩ hP rfl hS zd_Work_result_83
              · have h := zq_if k6 h
                by_cases k7 : p0 = 8
                · have h := zq_it k7 h
                  refine lv_tableIn (off := 83) (tgt := 84) hx hb zd_Work_result_1 (by rw [k7]; decide) (by rw [k7]; decide) (by rw [k7]; rfl) (by decide) ?_
                  refine lv_lload_n hx hb zd_Work_result_84 rfl (lv_at hl 1 rfl) ?_
                  refine lv_lload_n hx hb zd_Work_result_85 rfl (lv_at hl 2 rfl) ?_
                  refine lv_lxor hx hb zd_Work_result_86 ?_
                  exact hret (p1 ^^^ p2)  _ H locs 87 ls ⟨rfl, h⟩ hP rfl hS zd_Work_result_87
                · have h := zq_if k7 h
                  by_cases k8 : p0 = 9
                  · have h := zq_it k8 h
                    refine lv_tableIn (off := 87) (tgt := 88) hx hb zd_Work_result_1 (by rw [k8]; decide) (by rw [k8]; decide) (by rw [k8]; rfl) (by decide) ?_
                    refine lv_lload_n hx hb zd_Work_result_88 rfl (lv_at hl 2 rfl) ?_
                    refine lv_lconst (v := 0) hx hb zd_Work_result_89 (by decide) ?_
                    refine W.lcmp hx hb zd_Work_result_90 ?_
                    refine lv_if_lt (tgt := 109) hx hb zd_Work_result_91 (by decide) (fun c_1 => ?_) (fun c_1 => ?_)
                    · have h := zq_it (zq_lc_lt.mp c_1) h
                      refine lv_lconst (v := 0) hx hb zd_Work_result_109 (by decide) ?_
                      exact hret 0  _ H locs 110 ls ⟨rfl, h⟩ hP rfl hS zd_Work_result_110
                    · have h := zq_if (fun z => c_1 (zq_lc_lt.mpr z)) h
                      refine lv_lload_n hx hb zd_Work_result_94 rfl (lv_at hl 2 rfl) ?_
                      refine W.ldc2 (v := 63) hx hb hown (ht _ zw_263) rfl zd_Work_result_95 ?_
                      refine W.eq (g2 := F0 m 98 ls [.long 63, .long p2]) rfl ?_
                      refine W.lcmp hx hb zd_Work_result_98 ?_
                      refine lv_if_gt (tgt := 109) hx hb zd_Work_result_99 (by decide) (fun c_2 => ?_) (fun c_2 => ?_)
                      · have h := zq_it (zq_lc_gt.mp c_2) h
                        refine lv_lconst (v := 0) hx hb zd_Work_result_109 (by decide) ?_
                        exact hret 0  _ H locs 110 ls ⟨rfl, h⟩ hP rfl hS zd_Work_result_110
                      · have h := zq_if (fun z => c_2 (zq_lc_gt.mpr z)) h
                        refine lv_lload_n hx hb zd_Work_result_102 rfl (lv_at hl 1 rfl) ?_
                        refine lv_lload_n hx hb zd_Work_result_103 rfl (lv_at hl 2 rfl) ?_
                        refine lv_l2i (v := (zq_j_l2i p2)) hx hb zd_Work_result_104 rfl ?_
                        refine lv_lshl (v := (zq_j_lshl p1 (zq_j_l2i p2))) hx hb zd_Work_result_105 rfl ?_
                        refine lv_goto (tgt := 110) hx hb zd_Work_result_106 (by decide) ?_
                        exact hret (zq_j_lshl p1 (zq_j_l2i p2))  _ H locs 110 ls ⟨rfl, h⟩ hP rfl hS zd_Work_result_110
                  · have h := zq_if k8 h
                    by_cases k9 : p0 = 10
                    · have h := zq_it k9 h
                      refine lv_tableIn (off := 110) (tgt := 111) hx hb zd_Work_result_1 (by rw [k9]; decide) (by rw [k9]; decide) (by rw [k9]; rfl) (by decide) ?_
                      refine lv_lload_n hx hb zd_Work_result_111 rfl (lv_at hl 2 rfl) ?_
                      refine lv_lconst (v := 0) hx hb zd_Work_result_112 (by decide) ?_
                      refine W.lcmp hx hb zd_Work_result_113 ?_
                      refine lv_if_lt (tgt := 132) hx hb zd_Work_result_114 (by decide) (fun c_3 => ?_) (fun c_3 => ?_)
                      · have h := zq_it (zq_lc_lt.mp c_3) h
                        refine lv_lconst (v := 0) hx hb zd_Work_result_132 (by decide) ?_
                        exact hret 0  _ H locs 133 ls ⟨rfl, h⟩ hP rfl hS zd_Work_result_133
                      · have h := zq_if (fun z => c_3 (zq_lc_lt.mpr z)) h
                        refine lv_lload_n hx hb zd_Work_result_117 rfl (lv_at hl 2 rfl) ?_
                        refine W.ldc2 (v := 63) hx hb hown (ht _ zw_263) rfl zd_Work_result_118 ?_
                        refine W.eq (g2 := F0 m 121 ls [.long 63, .long p2]) rfl ?_
                        refine W.lcmp hx hb zd_Work_result_121 ?_
                        refine lv_if_gt (tgt := 132) hx hb zd_Work_result_122 (by decide) (fun c_4 => ?_) (fun c_4 => ?_)
                        · have h := zq_it (zq_lc_gt.mp c_4) h
                          refine lv_lconst (v := 0) hx hb zd_Work_result_132 (by decide) ?_
                          exact hret 0  _ H locs 133 ls ⟨rfl, h⟩ hP rfl hS zd_Work_result_133
                        · have h := zq_if (fun z => c_4 (zq_lc_gt.mpr z)) h
                          refine lv_lload_n hx hb zd_Work_result_125 rfl (lv_at hl 1 rfl) ?_
                          refine lv_lload_n hx hb zd_Work_result_126 rfl (lv_at hl 2 rfl) ?_
                          refine lv_l2i (v := (zq_j_l2i p2)) hx hb zd_Work_result_127 rfl ?_
                          refine lv_lushr (v := (zq_j_lushr p1 (zq_j_l2i p2))) hx hb zd_Work_result_128 rfl ?_
                          refine lv_goto (tgt := 133) hx hb zd_Work_result_129 (by decide) ?_
                          exact hret (zq_j_lushr p1 (zq_j_l2i p2))  _ H locs 133 ls ⟨rfl, h⟩ hP rfl hS zd_Work_result_133
                    · have h := zq_if k9 h
                      by_cases k10 : p0 = 11
                      · have h := zq_it k10 h
                        refine lv_tableIn (off := 133) (tgt := 134) hx hb zd_Work_result_1 (by rw [k10]; decide) (by rw [k10]; decide) (by rw [k10]; rfl) (by decide) ?_
                        refine lv_lload_n hx hb zd_Work_result_134 rfl (lv_at hl 1 rfl) ?_
                        refine lv_lload_n hx hb zd_Work_result_135 rfl (lv_at hl 2 rfl) ?_
                        refine zq_c_Si (rest := []) (adl := []) (wr := []) ⟨hx, hb, hml, hown, ht⟩ (c_Work_isBelow l D kT ad p1 p2 _ h) (cwS 2 ht (zq_gS zw_231 zw_232 zw_233 zw_234) rfl rfl rfl zh_Work_isBelow ⟨Nat.le_of_ble_eq_true rfl, Nat.le_of_ble_eq_true rfl⟩) hE hP hD hS hA [] [] 0 rfl (by decide +kernel) rfl (by decide +kernel) rfl rfl  rfl hl.1 (Nat.le_of_ble_eq_true rfl) rfl zd_Work_result_136 ⟨Nat.zero_le _, Nat.zero_le _⟩ (fun r_5 w1 H locs hw hJ hS => ?_)
                        obtain ⟨rfl, h⟩ := hw
                        obtain ⟨hP, hD⟩ := hJ [] rfl rfl rfl
                        refine lv_if_eq (tgt := 146) hx hb zd_Work_result_139 (by decide) (fun c_6 => ?_) (fun c_6 => ?_)
                        · have h := zq_it c_6 h
                          refine lv_lconst (v := 0) hx hb zd_Work_result_146 (by decide) ?_
                          exact hret 0  _ H locs 147 ls ⟨rfl, h⟩ hP rfl hS zd_Work_result_147
                        · have h := zq_if c_6 h
                          refine lv_lconst (v := 1) hx hb zd_Work_result_142 (by decide) ?_
                          refine lv_goto (tgt := 147) hx hb zd_Work_result_143 (by decide) ?_
                          exact hret 1  _ H locs 147 ls ⟨rfl, h⟩ hP rfl hS zd_Work_result_147
                      · have h := zq_if k10 h
                        by_cases k11 : p0 = 12
                        · have h := zq_it k11 h
                          refine lv_tableIn (off := 147) (tgt := 148) hx hb zd_Work_result_1 (by rw [k11]; decide) (by rw [k11]; decide) (by rw [k11]; rfl) (by decide) ?_
                          refine lv_lload_n hx hb zd_Work_result_148 rfl (lv_at hl 1 rfl) ?_
                          refine lv_lload_n hx hb zd_Work_result_149 rfl (lv_at hl 2 rfl) ?_
                          refine W.lcmp hx hb zd_Work_result_150 ?_
                          refine lv_if_ne (tgt := 158) hx hb zd_Work_result_151 (by decide) (fun c_7 => ?_) (fun c_7 => ?_)
                          · have h := zq_if (fun z => c_7 (zq_lc_eq.mpr z)) h
                            refine lv_lconst (v := 0) hx hb zd_Work_result_158 (by decide) ?_
                            exact hret 0  _ H locs 159 ls ⟨rfl, h⟩ hP rfl hS zd_Work_result_159
                          · have h := zq_it (zq_lc_eq.mp c_7) h
                            refine lv_lconst (v := 1) hx hb zd_Work_result_154 (by decide) ?_
                            refine lv_goto (tgt := 159) hx hb zd_Work_result_155 (by decide) ?_
                            exact hret 1  _ H locs 159 ls ⟨rfl, h⟩ hP rfl hS zd_Work_result_159
                        · have h := zq_if k11 h
                          refine lv_tableOut (tgt := 160) hx hb zd_Work_result_1 (by have q0 := lv_neT k0 (a := 1) (by decide); have q1 := lv_neT k1 (a := 2) (by decide); have q2 := lv_neT k2 (a := 3) (by decide); have q3 := lv_neT k3 (a := 4) (by decide); have q4 := lv_neT k4 (a := 5) (by decide); have q5 := lv_neT k5 (a := 6) (by decide); have q6 := lv_neT k6 (a := 7) (by decide); have q7 := lv_neT k7 (a := 8) (by decide); have q8 := lv_neT k8 (a := 9) (by decide); have q9 := lv_neT k9 (a := 10) (by decide); have q10 := lv_neT k10 (a := 11) (by decide); have q11 := lv_neT k11 (a := 12) (by decide); omega) (by decide) ?_
                          refine lv_lload_n hx hb zd_Work_result_160 rfl (lv_at hl 1 rfl) ?_
                          exact hret p1  _ H locs 161 ls ⟨rfl, h⟩ hP rfl hS zd_Work_result_161
