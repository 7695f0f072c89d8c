abbrev W_M_thrown (kT : Nat → ClassId) (ad : Nat → Nat) (gthr : Int32) (greg : Int32) (gcon : Int32) (gfld : Int32) (gtrn : Int32) (gins : Int32) (glev : Int32) (gkep : Int32) (glvs : Int32) (gkps : Int32) (gwrd : Int32) (gsta : Int32) (gflt : Int32) (gend : Int32) (ghal : Int32) (gwro : Int32) (gwai : Int32) (gwpl : Int64) (gwrs : Int32) (ghlt : Int32) (glat : Int32) (glpl : Int32) : va_W := [(ad 0, .inr (10, [.int gthr, .int greg, .ref (ad 1), .ref (ad 2), .ref (ad 3), .ref (ad 4), .ref (ad 5), .ref (ad 6), .ref (ad 7), .ref (ad 8), .ref (ad 9), .int gcon, .int gfld, .int gtrn, .int gins, .ref (ad 10), .ref (ad 11), .ref (ad 12), .ref (ad 13), .ref (ad 14), .ref (ad 15), .ref (ad 16), .ref (ad 17), .ref (ad 18), .ref (ad 19), .ref (ad 20), .ref (ad 21), .ref (ad 22), .ref (ad 23), .int glev, .int gkep, .int glvs, .int gkps, .ref (ad 24), .ref (ad 25), .int gwrd, .int gsta, .int gflt, .int gend, .int ghal, .int gwro, .int gwai, .long gwpl, .int gwrs, .ref (ad 26), .ref (ad 27), .ref (ad 28), .ref (ad 29), .int ghlt, .int glat, .int glpl, .ref (ad 30)]))]
abbrev A_M_thrown (ad : Nat → Nat) : List Nat := [ad 0]
def wp_M_thrown (gthr : Int32) (greg : Int32) (gcon : Int32) (gfld : Int32) (gtrn : Int32) (gins : Int32) (glev : Int32) (gkep : Int32) (glvs : Int32) (gkps : Int32) (gwrd : Int32) (gsta : Int32) (gflt : Int32) (gend : Int32) (ghal : Int32) (gwro : Int32) (gwai : Int32) (gwpl : Int64) (gwrs : Int32) (ghlt : Int32) (glat : Int32) (glpl : Int32)  (post : Int32 → Prop) : Prop := post gthr 
set_option maxHeartbeats 4000000 in
set_option maxRecDepth 100000 in
theorem c_M_thrown (l : Launch) (D : va_G) (kT : Nat → ClassId) (ad : Nat → Nat) (gthr : Int32) (greg : Int32) (gcon : Int32) (gfld : Int32) (gtrn : Int32) (gins : Int32) (glev : Int32) (gkep : Int32) (glvs : Int32) (gkps : Int32) (gwrd : Int32) (gsta : Int32) (gflt : Int32) (gend : Int32) (ghal : Int32) (gwro : Int32) (gwai : Int32) (gwpl : Int64) (gwrs : Int32) (ghlt : Int32) (glat : Int32) (glpl : Int32)  (post : Int32 → Prop) (h : wp_M_thrown gthr greg gcon gfld gtrn gins glev gkep glvs gkps gwrd gsta gflt gend ghal gwro gwai gwpl gwrs ghlt glat glpl  post) : zq_Mi l zy_M_thrown zs_M_thrown ({ frames := 0, cells := 0, slots := 0, locals := 0 }) D kT [.ref (ad 0)] (W_M_thrown kT ad gthr greg gcon gfld gtrn gins glev gkep glvs gkps gwrd gsta gflt gend ghal gwro gwai gwpl gwrs ghlt glat glpl) (fun r w' => w' = (W_M_thrown kT ad gthr greg gcon gfld gtrn gins glev gkep glvs gkps gwrd gsta gflt gend ghal gwro gwai gwpl gwrs ghlt glat glpl) ∧ post r ) := by
  refine zq_Mi_of (adl := (A_M_thrown ad)) (cc := zb_M_thrown) (maxL := 1) (own := zR_M) rfl (by decide) rfl rfl (Nat.le_of_ble_eq_true rfl) ?_
  intro p e s m AV below meth c A QQ H locs ls hx hb hml hown ht hE hA hret hP hD hS hl
  have hK := hE.1
  have hl : lv_has ls 1 [(0, .ref (ad 0))] := hl
  refine lv_aload_n hx hb zd_M_thrown_0 rfl (lv_at hl 0 rfl) ?_
  refine va_get (D := D) (ci := 10) (v := .int gthr) (C := zR_M) (T := zF_M) (N := 52) hx hb ht zi_M hown hK hP 0 rfl rfl 0 (by decide) (ht _ zw_388) (fun _ h9 => h9) rfl zd_M_thrown_1 ?_
  exact hret gthr  _ H locs 4 ls ⟨rfl, h⟩ hP rfl hS zd_M_thrown_4
def wp_M_in  (p0 : Int64) (p1 : Int64) (p2 : Int64) (post : Int32 → Prop) : Prop := (if p0 < p1 then post 0  else (if p2 < p0 then post 0  else post 1 ))
set_option maxHeartbeats 4000000 in
set_option maxRecDepth 100000 in
theorem c_M_in (l : Launch) (D : va_G) (kT : Nat → ClassId) (ad : Nat → Nat)  (p0 : Int64) (p1 : Int64) (p2 : Int64) (post : Int32 → Prop) (h : wp_M_in  p0 p1 p2 post) : zq_Mi l zy_M_in zs_M_in ({ frames := 0, cells := 0, slots := 0, locals := 0 }) D kT [.long p0, .long p1, .long p2] [] (fun r w' => w' = [] ∧ post r ) := by
  refine zq_Mz_of (adl := []) (cc := zb_M_in) (maxL := 6) (own := zR_M) rfl (by decide) rfl rfl (Nat.le_of_ble_eq_true rfl) ?_
  intro p e s m AV below meth c A QQ H locs ls hx hb hml hown ht hE hA hret hP hD hS hl
  have hK := hE.1
  have hl : lv_has ls 6 [(0, .long p0), (2, .long p1), (4, .long p2)] := hl
  unfold wp_M_in at h
  refine lv_lload_n hx hb zd_M_in_0 rfl (lv_at hl 0 rfl) ?_
  refine lv_lload_n hx hb zd_M_in_1 rfl (lv_at hl 1 rfl) ?_
  refine W.lcmp hx hb zd_M_in_2 ?_
  refine lv_if_lt (tgt := 17) hx hb zd_M_in_3 (by decide) (fun c_1 => ?_) (fun c_1 => ?_)
  · have h := zq_it (zq_lc_lt.mp c_1) h
    refine lv_iconst (v := 0) hx hb zd_M_in_17 (by decide) ?_
    exact hret 0 rfl _ H locs 18 ls ⟨rfl, h⟩ hP rfl hS zd_M_in_18
  · have h := zq_if (fun z => c_1 (zq_lc_lt.mpr z)) h
    refine lv_lload_n hx hb zd_M_in_6 rfl (lv_at hl 0 rfl) ?_
    refine lv_lload hx hb zd_M_in_7 (lv_at hl 2 rfl) ?_
    refine W.lcmp hx hb zd_M_in_9 ?_
    refine lv_if_gt (tgt := 17) hx hb zd_M_in_10 (by decide) (fun c_2 => ?_) (fun c_2 => ?_)
    · have h := zq_it (zq_lc_gt.mp c_2) h
      refine lv_iconst (v := 0) hx hb zd_M_in_17 (by decide) ?_
      exact hret 0 rfl _ H locs 18 ls ⟨rfl, h⟩ hP rfl hS zd_M_in_18
    · have h := zq_if (fun z => c_2 (zq_lc_gt.mpr z)) h
      refine lv_iconst (v := 1) hx hb zd_M_in_13 (by decide) ?_
      refine lv_goto (tgt := 18) hx hb zd_M_in_14 (by decide) ?_
      exact hret 1 rfl _ H locs 18 ls ⟨rfl, h⟩ hP rfl hS zd_M_in_18
abbrev W_M_goes (kT : Nat → ClassId) (ad : Nat → Nat) (gthr : Int32) (greg : Int32) (gcon : Int32) (gfld : Int32) (gtrn : Int32) (gins : Int32) (glev : Int32) (gkep : Int32) (glvs : Int32) (gkps : Int32) (gwrd : Int32) (gsta : Int32) (gflt : Int32) (gend : Int32) (ghal : Int32) (gwro : Int32) (gwai : Int32) (gwpl : Int64) (gwrs : Int32) (ghlt : Int32) (glat : Int32) (glpl : Int32) : va_W := [(ad 0, .inr (10, [.int gthr, .int greg, .ref (ad 1), .ref (ad 2), .ref (ad 3), .ref (ad 4), .ref (ad 5), .ref (ad 6), .ref (ad 7), .ref (ad 8), .ref (ad 9), .int gcon, .int gfld, .int gtrn, .int gins, .ref (ad 10), .ref (ad 11), .ref (ad 12), .ref (ad 13), .ref (ad 14), .ref (ad 15), .ref (ad 16), .ref (ad 17), .ref (ad 18), .ref (ad 19), .ref (ad 20), .ref (ad 21), .ref (ad 22), .ref (ad 23), .int glev, .int gkep, .int glvs, .int gkps, .ref (ad 24), .ref (ad 25), .int gwrd, .int gsta, .int gflt, .int gend, .int ghal, .int gwro, .int gwai, .long gwpl, .int gwrs, .ref (ad 26), .ref (ad 27), .ref (ad 28), .ref (ad 29), .int ghlt, .int glat, .int glpl, .ref (ad 30)]))]
abbrev A_M_goes (ad : Nat → Nat) : List Nat := [ad 0]
def wp_M_goes_18 (greg : Int32) (gcon : Int32) (gfld : Int32) (gtrn : Int32) (gins : Int32) (glev : Int32) (gkep : Int32) (glvs : Int32) (gkps : Int32) (gwrd : Int32) (gsta : Int32) (gflt : Int32) (gend : Int32) (ghal : Int32) (gwro : Int32) (gwai : Int32) (gwpl : Int64) (gwrs : Int32) (ghlt : Int32) (glat : Int32) (glpl : Int32) (gthr : Int32) (z0 : Int32) (post : Int32 → Int32 → Prop) : Prop := (if z0 = 0 then post 1 z0 else post 0 z0)
def wp_M_goes (gthr : Int32) (greg : Int32) (gcon : Int32) (gfld : Int32) (gtrn : Int32) (gins : Int32) (glev : Int32) (gkep : Int32) (glvs : Int32) (gkps : Int32) (gwrd : Int32) (gsta : Int32) (gflt : Int32) (gend : Int32) (ghal : Int32) (gwro : Int32) (gwai : Int32) (gwpl : Int64) (gwrs : Int32) (ghlt : Int32) (glat : Int32) (glpl : Int32) (p0 : Int32) (p1 : Int32) (post : Int32 → Int32 → Prop) : Prop := (if p0 = 0 then wp_M_goes_18 greg gcon gfld gtrn gins glev gkep glvs gkps gwrd gsta gflt gend ghal gwro gwai gwpl gwrs ghlt glat glpl gthr 1 post else (if p1 = 0 then wp_M_goes_18 greg gcon gfld gtrn gins glev gkep glvs gkps gwrd gsta gflt gend ghal gwro gwai gwpl gwrs ghlt glat glpl gthr 2 post else wp_M_goes_18 greg gcon gfld gtrn gins glev gkep glvs gkps gwrd gsta gflt gend ghal gwro gwai gwpl gwrs ghlt glat glpl gthr 0 post))
set_option maxHeartbeats 4000000 in
set_option maxRecDepth 100000 in
theorem c_M_goes (l : Launch) (D : va_G) (kT : Nat → ClassId) (ad : Nat → Nat) (gthr : Int32) (greg : Int32) (gcon : Int32) (gfld : Int32) (gtrn : Int32) (gins : Int32) (glev : Int32) (gkep : Int32) (glvs : Int32) (gkps : Int32) (gwrd : Int32) (gsta : Int32) (gflt : Int32) (gend : Int32) (ghal : Int32) (gwro : Int32) (gwai : Int32) (gwpl : Int64) (gwrs : Int32) (ghlt : Int32) (glat : Int32) (glpl : Int32) (p0 : Int32) (p1 : Int32) (post : Int32 → Int32 → Prop) (h : wp_M_goes gthr greg gcon gfld gtrn gins glev gkep glvs gkps gwrd gsta gflt gend ghal gwro gwai gwpl gwrs ghlt glat glpl p0 p1 post) : zq_Mi l zy_M_goes zs_M_goes ({ frames := 0, cells := 0, slots := 0, locals := 0 }) D kT [.ref (ad 0), .int p0, .int p1] (W_M_goes kT ad gthr greg gcon gfld gtrn gins glev gkep glvs gkps gwrd gsta gflt gend ghal gwro gwai gwpl gwrs ghlt glat glpl) (fun r w' => ∃ (gthr' : Int32), w' = (W_M_goes kT ad gthr' greg gcon gfld gtrn gins glev gkep glvs gkps gwrd gsta gflt gend ghal gwro gwai gwpl gwrs ghlt glat glpl) ∧ post r gthr') := by
  refine zq_Mz_of (adl := (A_M_goes ad)) (cc := zb_M_goes) (maxL := 3) (own := zR_M) rfl (by decide) rfl rfl (Nat.le_of_ble_eq_true rfl) ?_
  intro p e s m AV below meth c A QQ H locs ls hx hb hml hown ht hE hA hret hP hD hS hl
  have hK := hE.1
  have hl : lv_has ls 3 [(0, .ref (ad 0)), (1, .int p0), (2, .int p1)] := hl
  unfold wp_M_goes at h
  have B18 : ∀  (gthr : Int32) (z0 : Int32) (H : Heap) (locs : List Loc) (ls : Array Slot), wp_M_goes_18 greg gcon gfld gtrn gins glev gkep glvs gkps gwrd gsta gflt gend ghal gwro gwai gwpl gwrs ghlt glat glpl gthr z0 post → va_P D vwCl (W_M_goes kT ad gthr greg gcon gfld gtrn gins glev gkep glvs gkps gwrd gsta gflt gend ghal gwro gwai gwpl gwrs ghlt glat glpl) H → va_D A (W_M_goes kT ad gthr greg gcon gfld gtrn gins glev gkep glvs gkps gwrd gsta gflt gend ghal gwro gwai gwpl gwrs ghlt glat glpl) → va_S A s.heap H locs → lv_has ls 3 [(0, .ref (ad 0))] → W p l e ({ frames := 0, cells := 0, slots := 0, locals := 0 }) s m AV below meth c H locs 0 0 QQ (F0 m 18 ls [.int z0, .ref (ad 0)]) := by
    intro gthr z0 H locs ls h hP hD hS hl
    unfold wp_M_goes_18 at h
    refine va_put (D := D) (ci := 10) (v := .int z0) (ty := .int) (C := zR_M) (T := zF_M) (N := 52) hx hb ht zi_M zt_M zt_M_ok zn_M hown hK hP hD hS 0 rfl rfl 0 (by decide) (ht _ zw_388) (fun _ h9 => h9) rfl (by decide +kernel) rfl rfl (Nat.le_of_ble_eq_true rfl) zd_M_goes_18 (fun H locs hP hD hS => ?_)
    have hP : va_P D vwCl (W_M_goes kT ad z0 greg gcon gfld gtrn gins glev gkep glvs gkps gwrd gsta gflt gend ghal gwro gwai gwpl gwrs ghlt glat glpl) H := hP
    have hD : va_D A (W_M_goes kT ad z0 greg gcon gfld gtrn gins glev gkep glvs gkps gwrd gsta gflt gend ghal gwro gwai gwpl gwrs ghlt glat glpl) := hD
    refine lv_aload_n hx hb zd_M_goes_21 rfl (lv_at hl 0 rfl) ?_
    refine va_get (D := D) (ci := 10) (v := .int z0) (C := zR_M) (T := zF_M) (N := 52) hx hb ht zi_M hown hK hP 0 rfl rfl 0 (by decide) (ht _ zw_388) (fun _ h9 => h9) rfl zd_M_goes_22 ?_
    refine lv_if_ne (tgt := 32) hx hb zd_M_goes_25 (by decide) (fun c_3 => ?_) (fun c_3 => ?_)
    · have h := zq_if c_3 h
      refine lv_iconst (v := 0) hx hb zd_M_goes_32 (by decide) ?_
      exact hret 0 rfl _ H locs 33 ls ⟨z0, rfl, h⟩ hP rfl hS zd_M_goes_33
    · have h := zq_it c_3 h
      refine lv_iconst (v := 1) hx hb zd_M_goes_28 (by decide) ?_
      refine lv_goto (tgt := 33) hx hb zd_M_goes_29 (by decide) ?_
      exact hret 1 rfl _ H locs 33 ls ⟨z0, rfl, h⟩ hP rfl hS zd_M_goes_33
  refine lv_aload_n hx hb zd_M_goes_0 rfl (lv_at hl 0 rfl) ?_
  refine lv_iload_n hx hb zd_M_goes_1 rfl (lv_at hl 1 rfl) ?_
  refine lv_if_ne (tgt := 9) hx hb zd_M_goes_2 (by decide) (fun c_1 => ?_) (fun c_1 => ?_)
  · have h := zq_if c_1 h
    refine lv_iload_n hx hb zd_M_goes_9 rfl (lv_at hl 2 rfl) ?_
    refine lv_if_ne (tgt := 17) hx hb zd_M_goes_10 (by decide) (fun c_2 => ?_) (fun c_2 => ?_)
    · have h := zq_if c_2 h
      refine lv_iconst (v := 0) hx hb zd_M_goes_17 (by decide) ?_
      exact B18 gthr 0 H locs ls h hP hD hS (lv_sub hl [0] rfl)
    · have h := zq_it c_2 h
      refine lv_iconst (v := 2) hx hb zd_M_goes_13 (by decide) ?_
      refine lv_goto (tgt := 18) hx hb zd_M_goes_14 (by decide) ?_
      exact B18 gthr 2 H locs ls h hP hD hS (lv_sub hl [0] rfl)
  · have h := zq_it c_1 h
    refine lv_iconst (v := 1) hx hb zd_M_goes_5 (by decide) ?_
    refine lv_goto (tgt := 18) hx hb zd_M_goes_6 (by decide) ?_
    exact B18 gthr 1 H locs ls h hP hD hS (lv_sub hl [0] rfl)
abbrev W_M_cut (kT : Nat → ClassId) (ad : Nat → Nat) (gthr : Int32) (greg : Int32) (gcon : Int32) (gfld : Int32) (gtrn : Int32) (gins : Int32) (glev : Int32) (gkep : Int32) (glvs : Int32) (gkps : Int32) (gwrd : Int32) (gsta : Int32) (gflt : Int32) (gend : Int32) (ghal : Int32) (gwro : Int32) (gwai : Int32) (gwpl : Int64) (gwrs : Int32) (ghlt : Int32) (glat : Int32) (glpl : Int32) (awid : Nat → Int32) : va_W := [(ad 0, .inr (10, [.int gthr, .int greg, .ref (ad 1), .ref (ad 2), .ref (ad 3), .ref (ad 4), .ref (ad 5), .ref (ad 6), .ref (ad 7), .ref (ad 8), .ref (ad 9), .int gcon, .int gfld, .int gtrn, .int gins, .ref (ad 10), .ref (ad 11), .ref (ad 12), .ref (ad 13), .ref (ad 14), .ref (ad 15), .ref (ad 16), .ref (ad 17), .ref (ad 18), .ref (ad 19), .ref (ad 20), .ref (ad 21), .ref (ad 22), .ref (ad 23), .int glev, .int gkep, .int glvs, .int gkps, .ref (ad 24), .ref (ad 25), .int gwrd, .int gsta, .int gflt, .int gend, .int ghal, .int gwro, .int gwai, .long gwpl, .int gwrs, .ref (ad 26), .ref (ad 27), .ref (ad 28), .ref (ad 29), .int ghlt, .int glat, .int glpl, .ref (ad 30)])), (ad 1, .inl (kT 0, 24, .inl awid))]
abbrev A_M_cut (ad : Nat → Nat) : List Nat := [ad 0, ad 1]
def wp_M_cut (gthr : Int32) (greg : Int32) (gcon : Int32) (gfld : Int32) (gtrn : Int32) (gins : Int32) (glev : Int32) (gkep : Int32) (glvs : Int32) (gkps : Int32) (gwrd : Int32) (gsta : Int32) (gflt : Int32) (gend : Int32) (ghal : Int32) (gwro : Int32) (gwai : Int32) (gwpl : Int64) (gwrs : Int32) (ghlt : Int32) (glat : Int32) (glpl : Int32) (awid : Nat → Int32) (p0 : Int32) (p1 : Int64) (post : Int64 → Prop) : Prop := vp_in p0 24 ∧ (if (awid p0.toNatClampNeg) = 64 then post p1  else vp_in p0 24 ∧ post (p1 &&& ((zq_j_lshl 1 (awid p0.toNatClampNeg)) - 1)) )
set_option maxHeartbeats 4000000 in
set_option maxRecDepth 100000 in
theorem c_M_cut (l : Launch) (D : va_G) (kT : Nat → ClassId) (ad : Nat → Nat) (gthr : Int32) (greg : Int32) (gcon : Int32) (gfld : Int32) (gtrn : Int32) (gins : Int32) (glev : Int32) (gkep : Int32) (glvs : Int32) (gkps : Int32) (gwrd : Int32) (gsta : Int32) (gflt : Int32) (gend : Int32) (ghal : Int32) (gwro : Int32) (gwai : Int32) (gwpl : Int64) (gwrs : Int32) (ghlt : Int32) (glat : Int32) (glpl : Int32) (awid : Nat → Int32) (p0 : Int32) (p1 : Int64) (post : Int64 → Prop) (h : wp_M_cut gthr greg gcon gfld gtrn gins glev gkep glvs gkps gwrd gsta gflt gend ghal gwro gwai gwpl gwrs ghlt glat glpl awid p0 p1 post) : zq_Ml l zy_M_cut zs_M_cut ({ frames := 0, cells := 0, slots := 0, locals := 0 }) D kT [.ref (ad 0), .int p0, .long p1] (W_M_cut kT ad gthr greg gcon gfld gtrn gins glev gkep glvs gkps gwrd gsta gflt gend ghal gwro gwai gwpl gwrs ghlt glat glpl awid) (fun r w' => w' = (W_M_cut kT ad gthr greg gcon gfld gtrn gins glev gkep glvs gkps gwrd gsta gflt gend ghal gwro gwai gwpl gwrs ghlt glat glpl awid) ∧ post r ) := by
  refine zq_Ml_of (adl := (A_M_cut ad)) (cc := zb_M_cut) (maxL := 4) (own := zR_M) rfl (by decide) rfl rfl (Nat.le_of_ble_eq_true rfl) ?_
  intro p e s m AV below meth c A QQ H locs ls hx hb hml hown ht hE hA hret hP hD hS hl
  have hK := hE.1
  have hl : lv_has ls 4 [(0, .ref (ad 0)), (1, .int p0), (2, .long p1)] := hl
  refine lv_aload_n hx hb zd_M_cut_0 rfl (lv_at hl 0 rfl) ?_
  refine va_get (D := D) (ci := 10) (v := .ref (ad 1)) (C := zR_M) (T := zF_M) (N := 52) hx hb ht zi_M hown hK hP 0 rfl rfl 2 (by decide) (ht _ zw_389) (fun _ h9 => h9) rfl zd_M_cut_1 ?_
  refine lv_iload_n hx hb zd_M_cut_4 rfl (lv_at hl 1 rfl) ?_
  obtain ⟨hi_1, h⟩ := h
  refine zq_a_iald (D := D) hx hb hK hP 1 0 rfl rfl hi_1 rfl zd_M_cut_5 ?_
  refine lv_bipush (v := 64) hx hb zd_M_cut_6 (by decide) ?_
  refine lv_icmp_ne (tgt := 15) hx hb zd_M_cut_8 (by decide) (fun c_2 => ?_) (fun c_2 => ?_)
  · have h := zq_if c_2 h
    refine lv_lload_n hx hb zd_M_cut_15 rfl (lv_at hl 2 rfl) ?_
    refine lv_lconst (v := 1) hx hb zd_M_cut_16 (by decide) ?_
    refine lv_aload_n hx hb zd_M_cut_17 rfl (lv_at hl 0 rfl) ?_
    refine va_get (D := D) (ci := 10) (v := .ref (ad 1)) (C := zR_M) (T := zF_M) (N := 52) hx hb ht zi_M hown hK hP 0 rfl rfl 2 (by decide) (ht _ zw_389) (fun _ h9 => h9) rfl zd_M_cut_18 ?_
    refine lv_iload_n hx hb zd_M_cut_21 rfl (lv_at hl 1 rfl) ?_
    obtain ⟨hi_3, h⟩ := h
    refine zq_a_iald (D := D) hx hb hK hP 1 0 rfl rfl hi_3 rfl zd_M_cut_22 ?_
    refine lv_lshl (v := (zq_j_lshl 1 (awid p0.toNatClampNeg))) hx hb zd_M_cut_23 rfl ?_
    refine lv_lconst (v := 1) hx hb zd_M_cut_24 (by decide) ?_
    refine lv_lsub hx hb zd_M_cut_25 ?_
    refine lv_land hx hb zd_M_cut_26 ?_
    exact hret (p1 &&& ((zq_j_lshl 1 (awid p0.toNatClampNeg)) - 1))  _ H locs 27 ls ⟨rfl, h⟩ hP rfl hS zd_M_cut_27
  · have h := zq_it c_2 h
    refine lv_lload_n hx hb zd_M_cut_11 rfl (lv_at hl 2 rfl) ?_
    refine lv_goto (tgt := 27) hx hb zd_M_cut_12 (by decide) ?_
    exact hret p1  _ H locs 27 ls ⟨rfl, h⟩ hP rfl hS zd_M_cut_27
abbrev W_M_register (kT : Nat → ClassId) (ad : Nat → Nat) (gthr : Int32) (greg : Int32) (gcon : Int32) (gfld : Int32) (gtrn : Int32) (gins : Int32) (glev : Int32) (gkep : Int32) (glvs : Int32) (gkps : Int32) (gwrd : Int32) (gsta : Int32) (gflt : Int32) (gend : Int32) (ghal : Int32) (gwro : Int32) (gwai : Int32) (gwpl : Int64) (gwrs : Int32) (ghlt : Int32) (glat : Int32) (glpl : Int32) (awid : Nat → Int32) (aval : Nat → Int64) (amrk : Nat → Int32) : va_W := [(ad 0, .inr (10, [.int gthr, .int greg, .ref (ad 1), .ref (ad 2), .ref (ad 3), .ref (ad 4), .ref (ad 5), .ref (ad 6), .ref (ad 7), .ref (ad 8), .ref (ad 9), .int gcon, .int gfld, .int gtrn, .int gins, .ref (ad 10), .ref (ad 11), .ref (ad 12), .ref (ad 13), .ref (ad 14), .ref (ad 15), .ref (ad 16), .ref (ad 17), .ref (ad 18), .ref (ad 19), .ref (ad 20), .ref (ad 21), .ref (ad 22), .ref (ad 23), .int glev, .int gkep, .int glvs, .int gkps, .ref (ad 24), .ref (ad 25), .int gwrd, .int gsta, .int gflt, .int gend, .int ghal, .int gwro, .int gwai, .long gwpl, .int gwrs, .ref (ad 26), .ref (ad 27), .ref (ad 28), .ref (ad 29), .int ghlt, .int glat, .int glpl, .ref (ad 30)])), (ad 1, .inl (kT 0, 24, .inl awid)), (ad 2, .inl (kT 1, 24, .inr (.inl aval))), (ad 5, .inl (kT 2, 24, .inl amrk))]
abbrev A_M_register (ad : Nat → Nat) : List Nat := [ad 0, ad 1, ad 2, ad 5]
def wp_M_register_24 (gcon : Int32) (gfld : Int32) (gtrn : Int32) (gins : Int32) (glev : Int32) (gkep : Int32) (glvs : Int32) (gkps : Int32) (gwrd : Int32) (gsta : Int32) (gflt : Int32) (gend : Int32) (ghal : Int32) (gwro : Int32) (gwai : Int32) (gwpl : Int64) (gwrs : Int32) (ghlt : Int32) (glat : Int32) (glpl : Int32) (gthr : Int32) (greg : Int32) (awid : Nat → Int32) (aval : Nat → Int64) (amrk : Nat → Int32) (y1 : Int32) (z0 : Int32) (z1 : Int32) (post : Int32 → Int32 → Int32 → (Nat → Int32) → (Nat → Int64) → (Nat → Int32) → Prop) : Prop := wp_M_goes gthr greg gcon gfld gtrn gins glev gkep glvs gkps gwrd gsta gflt gend ghal gwro gwai gwpl gwrs ghlt glat glpl z1 z0 (fun r_4 gthr_3 => (if r_4 = 0 then post 0 gthr_3 greg awid aval amrk else vp_in greg 24 ∧ vp_in greg 24 ∧ vp_in greg 24 ∧ post ((greg + 1) - 1) gthr_3 (greg + 1) (upd awid greg.toNatClampNeg y1) (vp_updL aval greg.toNatClampNeg 0) (upd amrk greg.toNatClampNeg (vp_nar .boolean 1))))
def wp_M_register (gthr : Int32) (greg : Int32) (gcon : Int32) (gfld : Int32) (gtrn : Int32) (gins : Int32) (glev : Int32) (gkep : Int32) (glvs : Int32) (gkps : Int32) (gwrd : Int32) (gsta : Int32) (gflt : Int32) (gend : Int32) (ghal : Int32) (gwro : Int32) (gwai : Int32) (gwpl : Int64) (gwrs : Int32) (ghlt : Int32) (glat : Int32) (glpl : Int32) (awid : Nat → Int32) (aval : Nat → Int64) (amrk : Nat → Int32) (p0 : Int32) (post : Int32 → Int32 → Int32 → (Nat → Int32) → (Nat → Int64) → (Nat → Int32) → Prop) : Prop := wp_M_in (zq_j_i2l p0) 1 64 (fun r_1 => (if 24 ≤ greg then wp_M_register_24 gcon gfld gtrn gins glev gkep glvs gkps gwrd gsta gflt gend ghal gwro gwai gwpl gwrs ghlt glat glpl gthr greg awid aval amrk p0 0 r_1 post else wp_M_register_24 gcon gfld gtrn gins glev gkep glvs gkps gwrd gsta gflt gend ghal gwro gwai gwpl gwrs ghlt glat glpl gthr greg awid aval amrk p0 1 r_1 post))
set_option maxHeartbeats 4000000 in
set_option maxRecDepth 100000 in
theorem c_M_register (l : Launch) (D : va_G) (kT : Nat → ClassId) (ad : Nat → Nat) (gthr : Int32) (greg : Int32) (gcon : Int32) (gfld : Int32) (gtrn : Int32) (gins : Int32) (glev : Int32) (gkep : Int32) (glvs : Int32) (gkps : Int32) (gwrd : Int32) (gsta : Int32) (gflt : Int32) (gend : Int32) (ghal : Int32) (gwro : Int32) (gwai : Int32) (gwpl : Int64) (gwrs : Int32) (ghlt : Int32) (glat : Int32) (glpl : Int32) (awid : Nat → Int32) (aval : Nat → Int64) (amrk : Nat → Int32) (p0 : Int32) (post : Int32 → Int32 → Int32 → (Nat → Int32) → (Nat → Int64) → (Nat → Int32) → Prop) (h : wp_M_register gthr greg gcon gfld gtrn gins glev gkep glvs gkps gwrd gsta gflt gend ghal gwro gwai gwpl gwrs ghlt glat glpl awid aval amrk p0 post) : zq_Mi l zy_M_register zs_M_register ({ frames := 1, cells := 0, slots := 0, locals := 25 }) D kT [.ref (ad 0), .int p0] (W_M_register kT ad gthr greg gcon gfld gtrn gins glev gkep glvs gkps gwrd gsta gflt gend ghal gwro gwai gwpl gwrs ghlt glat glpl awid aval amrk) (fun r w' => ∃ (gthr' : Int32) (greg' : Int32) (awid' : Nat → Int32) (aval' : Nat → Int64) (amrk' : Nat → Int32), w' = (W_M_register kT ad gthr' greg' gcon gfld gtrn gins glev gkep glvs gkps gwrd gsta gflt gend ghal gwro gwai gwpl gwrs ghlt glat glpl awid' aval' amrk') ∧ post r gthr' greg' awid' aval' amrk') := by
  refine zq_Mi_of (adl := (A_M_register ad)) (cc := zb_M_register) (maxL := 2) (own := zR_M) rfl (by decide) rfl rfl (Nat.le_of_ble_eq_true rfl) ?_
  intro p e s m AV below meth c A QQ H locs ls hx hb hml hown ht hE hA hret hP hD hS hl
  have hK := hE.1
  have hl : lv_has ls 2 [(0, .ref (ad 0)), (1, .int p0)] := hl
  have B24 : ∀  (gthr : Int32) (greg : Int32) (awid : Nat → Int32) (aval : Nat → Int64) (amrk : Nat → Int32) (y1 : Int32) (z0 : Int32) (z1 : Int32) (H : Heap) (locs : List Loc) (ls : Array Slot), wp_M_register_24 gcon gfld gtrn gins glev gkep glvs gkps gwrd gsta gflt gend ghal gwro gwai gwpl gwrs ghlt glat glpl gthr greg awid aval amrk y1 z0 z1 post → va_P D vwCl (W_M_register kT ad gthr greg gcon gfld gtrn gins glev gkep glvs gkps gwrd gsta gflt gend ghal gwro gwai gwpl gwrs ghlt glat glpl awid aval amrk) H → va_D A (W_M_register kT ad gthr greg gcon gfld gtrn gins glev gkep glvs gkps gwrd gsta gflt gend ghal gwro gwai gwpl gwrs ghlt glat glpl awid aval amrk) → va_S A s.heap H locs → lv_has ls 2 [(0, .ref (ad 0)), (1, .int y1)] → W p l e ({ frames := 1, cells := 0, slots := 0, locals := 25 }) s m AV below meth c H locs 0 0 QQ (F0 m 24 ls [.int z0, .int z1, .ref (ad 0)]) := by
    intro gthr greg awid aval amrk y1 z0 z1 H locs ls h hP hD hS hl
    refine zq_c_Vi (rest := []) (adl := (A_M_register ad)) (wr := [(ad 1, .inl (kT 0, 24, .inl awid)), (ad 2, .inl (kT 1, 24, .inr (.inl aval))), (ad 5, .inl (kT 2, 24, .inl amrk))]) ⟨hx, hb, hml, hown, ht⟩ (c_M_goes l D kT ad gthr greg gcon gfld gtrn gins glev gkep glvs gkps gwrd gsta gflt gend ghal gwro gwai gwpl gwrs ghlt glat glpl z1 z0 _ h) (cwV 2 ht (zq_gV zw_396 zw_397 zw_398 zw_393 zw_399) rfl rfl rfl zh_M_goes ⟨Nat.le_of_ble_eq_true rfl, Nat.le_of_ble_eq_true rfl⟩) hE hP hD hS hA [0] [1, 2, 3] 4 rfl (by decide +kernel) rfl (by decide +kernel) rfl rfl 0 rfl rfl rfl rfl hl.1 (Nat.le_of_ble_eq_true rfl) rfl zd_M_register_24 ⟨Nat.zero_le _, Nat.zero_le _⟩ (fun r_4 w1 H locs hw hJ hS => ?_)
    obtain ⟨gthr_3, rfl, h⟩ := hw
    obtain ⟨hP, hD⟩ := hJ (W_M_register kT ad gthr_3 greg gcon gfld gtrn gins glev gkep glvs gkps gwrd gsta gflt gend ghal gwro gwai gwpl gwrs ghlt glat glpl awid aval amrk) rfl rfl rfl
    refine lv_if_ne (tgt := 32) hx hb zd_M_register_27 (by decide) (fun c_5 => ?_) (fun c_5 => ?_)
    · have h := zq_if c_5 h
      refine lv_aload_n hx hb zd_M_register_32 rfl (lv_at hl 0 rfl) ?_
      refine va_get (D := D) (ci := 10) (v := .ref (ad 1)) (C := zR_M) (T := zF_M) (N := 52) hx hb ht zi_M hown hK hP 0 rfl rfl 2 (by decide) (ht _ zw_389) (fun _ h9 => h9) rfl zd_M_register_33 ?_
      refine lv_aload_n hx hb zd_M_register_36 rfl (lv_at hl 0 rfl) ?_
      refine va_get (D := D) (ci := 10) (v := .int greg) (C := zR_M) (T := zF_M) (N := 52) hx hb ht zi_M hown hK hP 0 rfl rfl 1 (by decide) (ht _ zw_395) (fun _ h9 => h9) rfl zd_M_register_37 ?_
      refine lv_iload_n hx hb zd_M_register_40 rfl (lv_at hl 1 rfl) ?_
      obtain ⟨hi_6, h⟩ := h
      refine zq_a_iast (D := D) hx hb hK hP hD hS 1 0 rfl rfl hi_6 rfl zd_M_register_41 (fun H locs hP hD hS => ?_)
      have hP : va_P D vwCl (W_M_register kT ad gthr_3 greg gcon gfld gtrn gins glev gkep glvs gkps gwrd gsta gflt gend ghal gwro gwai gwpl gwrs ghlt glat glpl (upd awid greg.toNatClampNeg y1) aval amrk) H := hP
      have hD : va_D A (W_M_register kT ad gthr_3 greg gcon gfld gtrn gins glev gkep glvs gkps gwrd gsta gflt gend ghal gwro gwai gwpl gwrs ghlt glat glpl (upd awid greg.toNatClampNeg y1) aval amrk) := hD
      refine lv_aload_n hx hb zd_M_register_42 rfl (lv_at hl 0 rfl) ?_
      refine va_get (D := D) (ci := 10) (v := .ref (ad 2)) (C := zR_M) (T := zF_M) (N := 52) hx hb ht zi_M hown hK hP 0 rfl rfl 3 (by decide) (ht _ zw_400) (fun _ h9 => h9) rfl zd_M_register_43 ?_
      refine lv_aload_n hx hb zd_M_register_46 rfl (lv_at hl 0 rfl) ?_
      refine va_get (D := D) (ci := 10) (v := .int greg) (C := zR_M) (T := zF_M) (N := 52) hx hb ht zi_M hown hK hP 0 rfl rfl 1 (by decide) (ht _ zw_395) (fun _ h9 => h9) rfl zd_M_register_47 ?_
      refine lv_lconst (v := 0) hx hb zd_M_register_50 (by decide) ?_
      obtain ⟨hi_7, h⟩ := h
      refine zq_a_last (D := D) hx hb hK hP hD hS 2 1 rfl rfl hi_7 rfl zd_M_register_51 (fun H locs hP hD hS => ?_)
      have hP : va_P D vwCl (W_M_register kT ad gthr_3 greg gcon gfld gtrn gins glev gkep glvs gkps gwrd gsta gflt gend ghal gwro gwai gwpl gwrs ghlt glat glpl (upd awid greg.toNatClampNeg y1) (vp_updL aval greg.toNatClampNeg 0) amrk) H := hP
      have hD : va_D A (W_M_register kT ad gthr_3 greg gcon gfld gtrn gins glev gkep glvs gkps gwrd gsta gflt gend ghal gwro gwai gwpl gwrs ghlt glat glpl (upd awid greg.toNatClampNeg y1) (vp_updL aval greg.toNatClampNeg 0) amrk) := hD
      refine lv_aload_n hx hb zd_M_register_52 rfl (lv_at hl 0 rfl) ?_
      refine va_get (D := D) (ci := 10) (v := .ref (ad 5)) (C := zR_M) (T := zF_M) (N := 52) hx hb ht zi_M hown hK hP 0 rfl rfl 6 (by decide) (ht _ zw_401) (fun _ h9 => h9) rfl zd_M_register_53 ?_
      refine lv_aload_n hx hb zd_M_register_56 rfl (lv_at hl 0 rfl) ?_
      refine va_get (D := D) (ci := 10) (v := .int greg) (C := zR_M) (T := zF_M) (N := 52) hx hb ht zi_M hown hK hP 0 rfl rfl 1 (by decide) (ht _ zw_395) (fun _ h9 => h9) rfl zd_M_register_57 ?_
      refine lv_iconst (v := 1) hx hb zd_M_register_60 (by decide) ?_
      obtain ⟨hi_8, h⟩ := h
      refine zq_a_zast (D := D) hx hb hK hP hD hS 3 2 rfl rfl hi_8 rfl zd_M_register_61 (fun H locs hP hD hS => ?_)
      have hP : va_P D vwCl (W_M_register kT ad gthr_3 greg gcon gfld gtrn gins glev gkep glvs gkps gwrd gsta gflt gend ghal gwro gwai gwpl gwrs ghlt glat glpl (upd awid greg.toNatClampNeg y1) (vp_updL aval greg.toNatClampNeg 0) (upd amrk greg.toNatClampNeg (vp_nar .boolean 1))) H := hP
      have hD : va_D A (W_M_register kT ad gthr_3 greg gcon gfld gtrn gins glev gkep glvs gkps gwrd gsta gflt gend ghal gwro gwai gwpl gwrs ghlt glat glpl (upd awid greg.toNatClampNeg y1) (vp_updL aval greg.toNatClampNeg 0) (upd amrk greg.toNatClampNeg (vp_nar .boolean 1))) := hD
      refine lv_aload_n hx hb zd_M_register_62 rfl (lv_at hl 0 rfl) ?_
      refine lv_dup hx hb zd_M_register_63 rfl ?_
      refine va_get (D := D) (ci := 10) (v := .int greg) (C := zR_M) (T := zF_M) (N := 52) hx hb ht zi_M hown hK hP 0 rfl rfl 1 (by decide) (ht _ zw_395) (fun _ h9 => h9) rfl zd_M_register_64 ?_
      refine lv_iconst (v := 1) hx hb zd_M_register_67 (by decide) ?_
      refine lv_iadd hx hb zd_M_register_68 ?_
      refine va_put (D := D) (ci := 10) (v := .int (greg + 1)) (ty := .int) (C := zR_M) (T := zF_M) (N := 52) hx hb ht zi_M zt_M zt_M_ok zn_M hown hK hP hD hS 0 rfl rfl 1 (by decide) (ht _ zw_395) (fun _ h9 => h9) rfl (by decide +kernel) rfl rfl (Nat.le_of_ble_eq_true rfl) zd_M_register_69 (fun H locs hP hD hS => ?_)
      have hP : va_P D vwCl (W_M_register kT ad gthr_3 (greg + 1) gcon gfld gtrn gins glev gkep glvs gkps gwrd gsta gflt gend ghal gwro gwai gwpl gwrs ghlt glat glpl (upd awid greg.toNatClampNeg y1) (vp_updL aval greg.toNatClampNeg 0) (upd amrk greg.toNatClampNeg (vp_nar .boolean 1))) H := hP
      have hD : va_D A (W_M_register kT ad gthr_3 (greg + 1) gcon gfld gtrn gins glev gkep glvs gkps gwrd gsta gflt gend ghal gwro gwai gwpl gwrs ghlt glat glpl (upd awid greg.toNatClampNeg y1) (vp_updL aval greg.toNatClampNeg 0) (upd amrk greg.toNatClampNeg (vp_nar .boolean 1))) := hD
      refine lv_aload_n hx hb zd_M_register_72 rfl (lv_at hl 0 rfl) ?_
      refine va_get (D := D) (ci := 10) (v := .int (greg + 1)) (C := zR_M) (T := zF_M) (N := 52) hx hb ht zi_M hown hK hP 0 rfl rfl 1 (by decide) (ht _ zw_395) (fun _ h9 => h9) rfl zd_M_register_73 ?_
      refine lv_iconst (v := 1) hx hb zd_M_register_76 (by decide) ?_
      refine lv_isub hx hb zd_M_register_77 ?_
      exact hret ((greg + 1) - 1)  _ H locs 78 ls ⟨gthr_3, (greg + 1), (upd awid greg.toNatClampNeg y1), (vp_updL aval greg.toNatClampNeg 0), (upd amrk greg.toNatClampNeg (vp_nar .boolean 1)), rfl, h⟩ hP rfl hS zd_M_register_78
    · have h := zq_it c_5 h
      refine lv_iconst (v := 0) hx hb zd_M_register_30 (by decide) ?_
      exact hret 0  _ H locs 31 ls ⟨gthr_3, greg, awid, aval, amrk, rfl, h⟩ hP rfl hS zd_M_register_31
  refine lv_aload_n hx hb zd_M_register_0 rfl (lv_at hl 0 rfl) ?_
  refine lv_iload_n hx hb zd_M_register_1 rfl (lv_at hl 1 rfl) ?_
  refine lv_i2l (v := (zq_j_i2l p0)) hx hb zd_M_register_2 rfl ?_
  refine lv_lconst (v := 1) hx hb zd_M_register_3 (by decide) ?_
  refine W.ldc2 (v := 64) hx hb hown (ht _ zw_390) rfl zd_M_register_4 ?_
  refine W.eq (g2 := F0 m 7 ls [.long 64, .long 1, .long (zq_j_i2l p0), .ref (ad 0)]) rfl ?_
  refine zq_c_Si (rest := [.ref (ad 0)]) (adl := (A_M_register ad)) (wr := [(ad 0, .inr (10, [.int gthr, .int greg, .ref (ad 1), .ref (ad 2), .ref (ad 3), .ref (ad 4), .ref (ad 5), .ref (ad 6), .ref (ad 7), .ref (ad 8), .ref (ad 9), .int gcon, .int gfld, .int gtrn, .int gins, .ref (ad 10), .ref (ad 11), .ref (ad 12), .ref (ad 13), .ref (ad 14), .ref (ad 15), .ref (ad 16), .ref (ad 17), .ref (ad 18), .ref (ad 19), .ref (ad 20), .ref (ad 21), .ref (ad 22), .ref (ad 23), .int glev, .int gkep, .int glvs, .int gkps, .ref (ad 24), .ref (ad 25), .int gwrd, .int gsta, .int gflt, .int gend, .int ghal, .int gwro, .int gwai, .long gwpl, .int gwrs, .ref (ad 26), .ref (ad 27), .ref (ad 28), .ref (ad 29), .int ghlt, .int glat, .int glpl, .ref (ad 30)])), (ad 1, .inl (kT 0, 24, .inl awid)), (ad 2, .inl (kT 1, 24, .inr (.inl aval))), (ad 5, .inl (kT 2, 24, .inl amrk))]) ⟨hx, hb, hml, hown, ht⟩ (c_M_in l D kT ad (zq_j_i2l p0) 1 64 _ h) (cwS 3 ht (zq_gS zw_391 zw_392 zw_393 zw_394) rfl rfl rfl zh_M_in ⟨Nat.le_of_ble_eq_true rfl, Nat.le_of_ble_eq_true rfl⟩) hE hP hD hS hA [] [0, 1, 2, 3] 4 rfl (by decide +kernel) rfl (by decide +kernel) rfl rfl  rfl hl.1 (Nat.le_of_ble_eq_true rfl) rfl zd_M_register_7 ⟨Nat.zero_le _, Nat.zero_le _⟩ (fun r_1 w1 H locs hw hJ hS => ?_)
  obtain ⟨rfl, h⟩ := hw
  obtain ⟨hP, hD⟩ := hJ (W_M_register kT ad gthr greg gcon gfld gtrn gins glev gkep glvs gkps gwrd gsta gflt gend ghal gwro gwai gwpl gwrs ghlt glat glpl awid aval amrk) rfl rfl rfl
  refine lv_aload_n hx hb zd_M_register_10 rfl (lv_at hl 0 rfl) ?_
  refine va_get (D := D) (ci := 10) (v := .int greg) (C := zR_M) (T := zF_M) (N := 52) hx hb ht zi_M hown hK hP 0 rfl rfl 1 (by decide) (ht _ zw_395) (fun _ h9 => h9) rfl zd_M_register_11 ?_
  refine lv_bipush (v := 24) hx hb zd_M_register_14 (by decide) ?_
  refine lv_icmp_ge (tgt := 23) hx hb zd_M_register_16 (by decide) (fun c_2 => ?_) (fun c_2 => ?_)
  · have h := zq_it c_2 h
    refine lv_iconst (v := 0) hx hb zd_M_register_23 (by decide) ?_
    exact B24 gthr greg awid aval amrk p0 0 r_1 H locs ls h hP hD hS (lv_sub hl [0, 1] rfl)
  · have h := zq_if c_2 h
    refine lv_iconst (v := 1) hx hb zd_M_register_19 (by decide) ?_
    refine lv_goto (tgt := 24) hx hb zd_M_register_20 (by decide) ?_
    exact B24 gthr greg awid aval amrk p0 1 r_1 H locs ls h hP hD hS (lv_sub hl [0, 1] rfl)
abbrev W_M_constant (kT : Nat → ClassId) (ad : Nat → Nat) (gthr : Int32) (greg : Int32) (gcon : Int32) (gfld : Int32) (gtrn : Int32) (gins : Int32) (glev : Int32) (gkep : Int32) (glvs : Int32) (gkps : Int32) (gwrd : Int32) (gsta : Int32) (gflt : Int32) (gend : Int32) (ghal : Int32) (gwro : Int32) (gwai : Int32) (gwpl : Int64) (gwrs : Int32) (ghlt : Int32) (glat : Int32) (glpl : Int32) (acst : Nat → Int64) : va_W := [(ad 0, .inr (10, [.int gthr, .int greg, .ref (ad 1), .ref (ad 2), .ref (ad 3), .ref (ad 4), .ref (ad 5), .ref (ad 6), .ref (ad 7), .ref (ad 8), .ref (ad 9), .int gcon, .int gfld, .int gtrn, .int gins, .ref (ad 10), .ref (ad 11), .ref (ad 12), .ref (ad 13), .ref (ad 14), .ref (ad 15), .ref (ad 16), .ref (ad 17), .ref (ad 18), .ref (ad 19), .ref (ad 20), .ref (ad 21), .ref (ad 22), .ref (ad 23), .int glev, .int gkep, .int glvs, .int gkps, .ref (ad 24), .ref (ad 25), .int gwrd, .int gsta, .int gflt, .int gend, .int ghal, .int gwro, .int gwai, .long gwpl, .int gwrs, .ref (ad 26), .ref (ad 27), .ref (ad 28), .ref (ad 29), .int ghlt, .int glat, .int glpl, .ref (ad 30)])), (ad 10, .inl (kT 1, 16, .inr (.inl acst)))]
abbrev A_M_constant (ad : Nat → Nat) : List Nat := [ad 0, ad 10]
def wp_M_constant_15 (greg : Int32) (gfld : Int32) (gtrn : Int32) (gins : Int32) (glev : Int32) (gkep : Int32) (glvs : Int32) (gkps : Int32) (gwrd : Int32) (gsta : Int32) (gflt : Int32) (gend : Int32) (ghal : Int32) (gwro : Int32) (gwai : Int32) (gwpl : Int64) (gwrs : Int32) (ghlt : Int32) (glat : Int32) (glpl : Int32) (gthr : Int32) (gcon : Int32) (acst : Nat → Int64) (y1 : Int64) (z0 : Int32) (post : Int32 → Int32 → Int32 → (Nat → Int64) → Prop) : Prop := wp_M_goes gthr greg gcon gfld gtrn gins glev gkep glvs gkps gwrd gsta gflt gend ghal gwro gwai gwpl gwrs ghlt glat glpl z0 1 (fun r_3 gthr_2 => (if r_3 = 0 then post 0 gthr_2 gcon acst else vp_in gcon 16 ∧ post (31 + (gcon + 1)) gthr_2 (gcon + 1) (vp_updL acst gcon.toNatClampNeg y1)))
def wp_M_constant (gthr : Int32) (greg : Int32) (gcon : Int32) (gfld : Int32) (gtrn : Int32) (gins : Int32) (glev : Int32) (gkep : Int32) (glvs : Int32) (gkps : Int32) (gwrd : Int32) (gsta : Int32) (gflt : Int32) (gend : Int32) (ghal : Int32) (gwro : Int32) (gwai : Int32) (gwpl : Int64) (gwrs : Int32) (ghlt : Int32) (glat : Int32) (glpl : Int32) (acst : Nat → Int64) (p0 : Int64) (post : Int32 → Int32 → Int32 → (Nat → Int64) → Prop) : Prop := (if 16 ≤ gcon then wp_M_constant_15 greg gfld gtrn gins glev gkep glvs gkps gwrd gsta gflt gend ghal gwro gwai gwpl gwrs ghlt glat glpl gthr gcon acst p0 0 post else wp_M_constant_15 greg gfld gtrn gins glev gkep glvs gkps gwrd gsta gflt gend ghal gwro gwai gwpl gwrs ghlt glat glpl gthr gcon acst p0 1 post)
set_option maxHeartbeats 4000000 in
set_option maxRecDepth 100000 in
theorem c_M_constant (l : Launch) (D : va_G) (kT : Nat → ClassId) (ad : Nat → Nat) (gthr : Int32) (greg : Int32) (gcon : Int32) (gfld : Int32) (gtrn : Int32) (gins : Int32) (glev : Int32) (gkep : Int32) (glvs : Int32) (gkps : Int32) (gwrd : Int32) (gsta : Int32) (gflt : Int32) (gend : Int32) (ghal : Int32) (gwro : Int32) (gwai : Int32) (gwpl : Int64) (gwrs : Int32) (ghlt : Int32) (glat : Int32) (glpl : Int32) (acst : Nat → Int64) (p0 : Int64) (post : Int32 → Int32 → Int32 → (Nat → Int64) → Prop) (h : wp_M_constant gthr greg gcon gfld gtrn gins glev gkep glvs gkps gwrd gsta gflt gend ghal gwro gwai gwpl gwrs ghlt glat glpl acst p0 post) : zq_Mi l zy_M_constant zs_M_constant ({ frames := 1, cells := 0, slots := 0, locals := 22 }) D kT [.ref (ad 0), .long p0] (W_M_constant kT ad gthr greg gcon gfld gtrn gins glev gkep glvs gkps gwrd gsta gflt gend ghal gwro gwai gwpl gwrs ghlt glat glpl acst) (fun r w' => ∃ (gthr' : Int32) (gcon' : Int32) (acst' : Nat → Int64), w' = (W_M_constant kT ad gthr' greg gcon' gfld gtrn gins glev gkep glvs gkps gwrd gsta gflt gend ghal gwro gwai gwpl gwrs ghlt glat glpl acst') ∧ post r gthr' gcon' acst') := by
  refine zq_Mi_of (adl := (A_M_constant ad)) (cc := zb_M_constant) (maxL := 3) (own := zR_M) rfl (by decide) rfl rfl (Nat.le_of_ble_eq_true rfl) ?_
  intro p e s m AV below meth c A QQ H locs ls hx hb hml hown ht hE hA hret hP hD hS hl
  have hK := hE.1
  have hl : lv_has ls 3 [(0, .ref (ad 0)), (1, .long p0)] := hl
  unfold wp_M_constant at h
  have B15 : ∀  (gthr : Int32) (gcon : Int32) (acst : Nat → Int64) (y1 : Int64) (z0 : Int32) (H : Heap) (locs : List Loc) (ls : Array Slot), wp_M_constant_15 greg gfld gtrn gins glev gkep glvs gkps gwrd gsta gflt gend ghal gwro gwai gwpl gwrs ghlt glat glpl gthr gcon acst y1 z0 post → va_P D vwCl (W_M_constant kT ad gthr greg gcon gfld gtrn gins glev gkep glvs gkps gwrd gsta gflt gend ghal gwro gwai gwpl gwrs ghlt glat glpl acst) H → va_D A (W_M_constant kT ad gthr greg gcon gfld gtrn gins glev gkep glvs gkps gwrd gsta gflt gend ghal gwro gwai gwpl gwrs ghlt glat glpl acst) → va_S A s.heap H locs → lv_has ls 3 [(0, .ref (ad 0)), (1, .long y1)] → W p l e ({ frames := 1, cells := 0, slots := 0, locals := 22 }) s m AV below meth c H locs 0 0 QQ (F0 m 15 ls [.int z0, .ref (ad 0)]) := by
    intro gthr gcon acst y1 z0 H locs ls h hP hD hS hl
    refine lv_iconst (v := 1) hx hb zd_M_constant_15 (by decide) ?_
    refine zq_c_Vi (rest := []) (adl := (A_M_constant ad)) (wr := [(ad 10, .inl (kT 1, 16, .inr (.inl acst)))]) ⟨hx, hb, hml, hown, ht⟩ (c_M_goes l D kT ad gthr greg gcon gfld gtrn gins glev gkep glvs gkps gwrd gsta gflt gend ghal gwro gwai gwpl gwrs ghlt glat glpl z0 1 _ h) (cwV 2 ht (zq_gV zw_396 zw_397 zw_398 zw_393 zw_399) rfl rfl rfl zh_M_goes ⟨Nat.le_of_ble_eq_true rfl, Nat.le_of_ble_eq_true rfl⟩) hE hP hD hS hA [0] [1] 2 rfl (by decide +kernel) rfl (by decide +kernel) rfl rfl 0 rfl rfl rfl rfl hl.1 (Nat.le_of_ble_eq_true rfl) rfl zd_M_constant_16 ⟨Nat.zero_le _, Nat.zero_le _⟩ (fun r_3 w1 H locs hw hJ hS => ?_)
    obtain ⟨gthr_2, rfl, h⟩ := hw
    obtain ⟨hP, hD⟩ := hJ (W_M_constant kT ad gthr_2 greg gcon gfld gtrn gins glev gkep glvs gkps gwrd gsta gflt gend ghal gwro gwai gwpl gwrs ghlt glat glpl acst) rfl rfl rfl
    refine lv_if_ne (tgt := 24) hx hb zd_M_constant_19 (by decide) (fun c_4 => ?_) (fun c_4 => ?_)
    · have h := zq_if c_4 h
      refine lv_aload_n hx hb zd_M_constant_24 rfl (lv_at hl 0 rfl) ?_
      refine va_get (D := D) (ci := 10) (v := .ref (ad 10)) (C := zR_M) (T := zF_M) (N := 52) hx hb ht zi_M hown hK hP 0 rfl rfl 15 (by decide) (ht _ zw_403) (fun _ h9 => h9) rfl zd_M_constant_25 ?_
      refine lv_aload_n hx hb zd_M_constant_28 rfl (lv_at hl 0 rfl) ?_
      refine va_get (D := D) (ci := 10) (v := .int gcon) (C := zR_M) (T := zF_M) (N := 52) hx hb ht zi_M hown hK hP 0 rfl rfl 11 (by decide) (ht _ zw_402) (fun _ h9 => h9) rfl zd_M_constant_29 ?_
      refine lv_lload_n hx hb zd_M_constant_32 rfl (lv_at hl 1 rfl) ?_
      obtain ⟨hi_5, h⟩ := h
      refine zq_a_last (D := D) hx hb hK hP hD hS 1 1 rfl rfl hi_5 rfl zd_M_constant_33 (fun H locs hP hD hS => ?_)
      have hP : va_P D vwCl (W_M_constant kT ad gthr_2 greg gcon gfld gtrn gins glev gkep glvs gkps gwrd gsta gflt gend ghal gwro gwai gwpl gwrs ghlt glat glpl (vp_updL acst gcon.toNatClampNeg y1)) H := hP
      have hD : va_D A (W_M_constant kT ad gthr_2 greg gcon gfld gtrn gins glev gkep glvs gkps gwrd gsta gflt gend ghal gwro gwai gwpl gwrs ghlt glat glpl (vp_updL acst gcon.toNatClampNeg y1)) := hD
      refine lv_aload_n hx hb zd_M_constant_34 rfl (lv_at hl 0 rfl) ?_
      refine lv_dup hx hb zd_M_constant_35 rfl ?_
      refine va_get (D := D) (ci := 10) (v := .int gcon) (C := zR_M) (T := zF_M) (N := 52) hx hb ht zi_M hown hK hP 0 rfl rfl 11 (by decide) (ht _ zw_402) (fun _ h9 => h9) rfl zd_M_constant_36 ?_
      refine lv_iconst (v := 1) hx hb zd_M_constant_39 (by decide) ?_
      refine lv_iadd hx hb zd_M_constant_40 ?_
      refine va_put (D := D) (ci := 10) (v := .int (gcon + 1)) (ty := .int) (C := zR_M) (T := zF_M) (N := 52) hx hb ht zi_M zt_M zt_M_ok zn_M hown hK hP hD hS 0 rfl rfl 11 (by decide) (ht _ zw_402) (fun _ h9 => h9) rfl (by decide +kernel) rfl rfl (Nat.le_of_ble_eq_true rfl) zd_M_constant_41 (fun H locs hP hD hS => ?_)
      have hP : va_P D vwCl (W_M_constant kT ad gthr_2 greg (gcon + 1) gfld gtrn gins glev gkep glvs gkps gwrd gsta gflt gend ghal gwro gwai gwpl gwrs ghlt glat glpl (vp_updL acst gcon.toNatClampNeg y1)) H := hP
      have hD : va_D A (W_M_constant kT ad gthr_2 greg (gcon + 1) gfld gtrn gins glev gkep glvs gkps gwrd gsta gflt gend ghal gwro gwai gwpl gwrs ghlt glat glpl (vp_updL acst gcon.toNatClampNeg y1)) := hD
      refine lv_bipush (v := 31) hx hb zd_M_constant_44 (by decide) ?_
      refine lv_aload_n hx hb zd_M_constant_46 rfl (lv_at hl 0 rfl) ?_
      refine va_get (D := D) (ci := 10) (v := .int (gcon + 1)) (C := zR_M) (T := zF_M) (N := 52) hx hb ht zi_M hown hK hP 0 rfl rfl 11 (by decide) (ht _ zw_402) (fun _ h9 => h9) rfl zd_M_constant_47 ?_
      refine lv_iadd hx hb zd_M_constant_50 ?_
      exact hret (31 + (gcon + 1))  _ H locs 51 ls ⟨gthr_2, (gcon + 1), (vp_updL acst gcon.toNatClampNeg y1), rfl, h⟩ hP rfl hS zd_M_constant_51
    · have h := zq_it c_4 h
      refine lv_iconst (v := 0) hx hb zd_M_constant_22 (by decide) ?_
      exact hret 0  _ H locs 23 ls ⟨gthr_2, gcon, acst, rfl, h⟩ hP rfl hS zd_M_constant_23
  refine lv_aload_n hx hb zd_M_constant_0 rfl (lv_at hl 0 rfl) ?_
  refine lv_aload_n hx hb zd_M_constant_1 rfl (lv_at hl 0 rfl) ?_
  refine va_get (D := D) (ci := 10) (v := .int gcon) (C := zR_M) (T := zF_M) (N := 52) hx hb ht zi_M hown hK hP 0 rfl rfl 11 (by decide) (ht _ zw_402) (fun _ h9 => h9) rfl zd_M_constant_2 ?_
  refine lv_bipush (v := 16) hx hb zd_M_constant_5 (by decide) ?_
  refine lv_icmp_ge (tgt := 14) hx hb zd_M_constant_7 (by decide) (fun c_1 => ?_) (fun c_1 => ?_)
  · have h := zq_it c_1 h
    refine lv_iconst (v := 0) hx hb zd_M_constant_14 (by decide) ?_
    exact B15 gthr gcon acst p0 0 H locs ls h hP hD hS (lv_sub hl [0, 1] rfl)
  · have h := zq_if c_1 h
    refine lv_iconst (v := 1) hx hb zd_M_constant_10 (by decide) ?_
    refine lv_goto (tgt := 15) hx hb zd_M_constant_11 (by decide) ?_
    exact B15 gthr gcon acst p0 1 H locs ls h hP hD hS (lv_sub hl [0, 1] rfl)
abbrev W_M_field (kT : Nat → ClassId) (ad : Nat → Nat) (gthr : Int32) (greg : Int32) (gcon : Int32) (gfld : Int32) (gtrn : Int32) (gins : Int32) (glev : Int32) (gkep : Int32) (glvs : Int32) (gkps : Int32) (gwrd : Int32) (gsta : Int32) (gflt : Int32) (gend : Int32) (ghal : Int32) (gwro : Int32) (gwai : Int32) (gwpl : Int64) (gwrs : Int32) (ghlt : Int32) (glat : Int32) (glpl : Int32) (afrm : Nat → Int32) (atoo : Nat → Int32) (asgn : Nat → Int32) : va_W := [(ad 0, .inr (10, [.int gthr, .int greg, .ref (ad 1), .ref (ad 2), .ref (ad 3), .ref (ad 4), .ref (ad 5), .ref (ad 6), .ref (ad 7), .ref (ad 8), .ref (ad 9), .int gcon, .int gfld, .int gtrn, .int gins, .ref (ad 10), .ref (ad 11), .ref (ad 12), .ref (ad 13), .ref (ad 14), .ref (ad 15), .ref (ad 16), .ref (ad 17), .ref (ad 18), .ref (ad 19), .ref (ad 20), .ref (ad 21), .ref (ad 22), .ref (ad 23), .int glev, .int gkep, .int glvs, .int gkps, .ref (ad 24), .ref (ad 25), .int gwrd, .int gsta, .int gflt, .int gend, .int ghal, .int gwro, .int gwai, .long gwpl, .int gwrs, .ref (ad 26), .ref (ad 27), .ref (ad 28), .ref (ad 29), .int ghlt, .int glat, .int glpl, .ref (ad 30)])), (ad 11, .inl (kT 0, 16, .inl afrm)), (ad 12, .inl (kT 0, 16, .inl atoo)), (ad 13, .inl (kT 2, 16, .inl asgn))]
abbrev A_M_field (ad : Nat → Nat) : List Nat := [ad 0, ad 11, ad 12, ad 13]
def wp_M_field_45 (greg : Int32) (gcon : Int32) (gtrn : Int32) (gins : Int32) (glev : Int32) (gkep : Int32) (glvs : Int32) (gkps : Int32) (gwrd : Int32) (gsta : Int32) (gflt : Int32) (gend : Int32) (ghal : Int32) (gwro : Int32) (gwai : Int32) (gwpl : Int64) (gwrs : Int32) (ghlt : Int32) (glat : Int32) (glpl : Int32) (gthr : Int32) (gfld : Int32) (afrm : Nat → Int32) (atoo : Nat → Int32) (asgn : Nat → Int32) (y1 : Int32) (y2 : Int32) (y3 : Int32) (z0 : Int32) (z1 : Int32) (post : Int32 → Int32 → Int32 → (Nat → Int32) → (Nat → Int32) → (Nat → Int32) → Prop) : Prop := wp_M_goes gthr greg gcon gfld gtrn gins glev gkep glvs gkps gwrd gsta gflt gend ghal gwro gwai gwpl gwrs ghlt glat glpl z1 z0 (fun r_7 gthr_6 => (if r_7 = 0 then post 0 gthr_6 gfld afrm atoo asgn else vp_in gfld 16 ∧ vp_in gfld 16 ∧ vp_in gfld 16 ∧ post (63 + (gfld + 1)) gthr_6 (gfld + 1) (upd afrm gfld.toNatClampNeg y1) (upd atoo gfld.toNatClampNeg y2) (upd asgn gfld.toNatClampNeg (vp_nar .boolean y3))))
def wp_M_field_31 (greg : Int32) (gcon : Int32) (gtrn : Int32) (gins : Int32) (glev : Int32) (gkep : Int32) (glvs : Int32) (gkps : Int32) (gwrd : Int32) (gsta : Int32) (gflt : Int32) (gend : Int32) (ghal : Int32) (gwro : Int32) (gwai : Int32) (gwpl : Int64) (gwrs : Int32) (ghlt : Int32) (glat : Int32) (glpl : Int32) (gthr : Int32) (gfld : Int32) (afrm : Nat → Int32) (atoo : Nat → Int32) (asgn : Nat → Int32) (y1 : Int32) (y2 : Int32) (y3 : Int32) (z0 : Int32) (post : Int32 → Int32 → Int32 → (Nat → Int32) → (Nat → Int32) → (Nat → Int32) → Prop) : Prop := (if 16 ≤ gfld then wp_M_field_45 greg gcon gtrn gins glev gkep glvs gkps gwrd gsta gflt gend ghal gwro gwai gwpl gwrs ghlt glat glpl gthr gfld afrm atoo asgn y1 y2 y3 0 z0 post else wp_M_field_45 greg gcon gtrn gins glev gkep glvs gkps gwrd gsta gflt gend ghal gwro gwai gwpl gwrs ghlt glat glpl gthr gfld afrm atoo asgn y1 y2 y3 1 z0 post)
def wp_M_field_30 (greg : Int32) (gcon : Int32) (gtrn : Int32) (gins : Int32) (glev : Int32) (gkep : Int32) (glvs : Int32) (gkps : Int32) (gwrd : Int32) (gsta : Int32) (gflt : Int32) (gend : Int32) (ghal : Int32) (gwro : Int32) (gwai : Int32) (gwpl : Int64) (gwrs : Int32) (ghlt : Int32) (glat : Int32) (glpl : Int32) (gthr : Int32) (gfld : Int32) (afrm : Nat → Int32) (atoo : Nat → Int32) (asgn : Nat → Int32) (y1 : Int32) (y2 : Int32) (y3 : Int32) (post : Int32 → Int32 → Int32 → (Nat → Int32) → (Nat → Int32) → (Nat → Int32) → Prop) : Prop := wp_M_field_31 greg gcon gtrn gins glev gkep glvs gkps gwrd gsta gflt gend ghal gwro gwai gwpl gwrs ghlt glat glpl gthr gfld afrm atoo asgn y1 y2 y3 0 post
def wp_M_field (gthr : Int32) (greg : Int32) (gcon : Int32) (gfld : Int32) (gtrn : Int32) (gins : Int32) (glev : Int32) (gkep : Int32) (glvs : Int32) (gkps : Int32) (gwrd : Int32) (gsta : Int32) (gflt : Int32) (gend : Int32) (ghal : Int32) (gwro : Int32) (gwai : Int32) (gwpl : Int64) (gwrs : Int32) (ghlt : Int32) (glat : Int32) (glpl : Int32) (afrm : Nat → Int32) (atoo : Nat → Int32) (asgn : Nat → Int32) (p0 : Int32) (p1 : Int32) (p2 : Int32) (post : Int32 → Int32 → Int32 → (Nat → Int32) → (Nat → Int32) → (Nat → Int32) → Prop) : Prop := wp_M_in (zq_j_i2l p0) 0 15 (fun r_1 => (if r_1 = 0 then wp_M_field_30 greg gcon gtrn gins glev gkep glvs gkps gwrd gsta gflt gend ghal gwro gwai gwpl gwrs ghlt glat glpl gthr gfld afrm atoo asgn p0 p1 p2 post else wp_M_in (zq_j_i2l p1) (zq_j_i2l p0) 15 (fun r_3 => (if r_3 = 0 then wp_M_field_30 greg gcon gtrn gins glev gkep glvs gkps gwrd gsta gflt gend ghal gwro gwai gwpl gwrs ghlt glat glpl gthr gfld afrm atoo asgn p0 p1 p2 post else wp_M_field_31 greg gcon gtrn gins glev gkep glvs gkps gwrd gsta gflt gend ghal gwro gwai gwpl gwrs ghlt glat glpl gthr gfld afrm atoo asgn p0 p1 p2 1 post))))
set_option maxHeartbeats 4000000 in
set_option maxRecDepth 100000 in
theorem c_M_field (l : Launch) (D : va_G) (kT : Nat → ClassId) (ad : Nat → Nat) (gthr : Int32) (greg : Int32) (gcon : Int32) (gfld : Int32) (gtrn : Int32) (gins : Int32) (glev : Int32) (gkep : Int32) (glvs : Int32) (gkps : Int32) (gwrd : Int32) (gsta : Int32) (gflt : Int32) (gend : Int32) (ghal : Int32) (gwro : Int32) (gwai : Int32) (gwpl : Int64) (gwrs : Int32) (ghlt : Int32) (glat : Int32) (glpl : Int32) (afrm : Nat → Int32) (atoo : Nat → Int32) (asgn : Nat → Int32) (p0 : Int32) (p1 : Int32) (p2 : Int32) (post : Int32 → Int32 → Int32 → (Nat → Int32) → (Nat → Int32) → (Nat → Int32) → Prop) (h : wp_M_field gthr greg gcon gfld gtrn gins glev gkep glvs gkps gwrd gsta gflt gend ghal gwro gwai gwpl gwrs ghlt glat glpl afrm atoo asgn p0 p1 p2 post) : zq_Mi l zy_M_field zs_M_field ({ frames := 1, cells := 0, slots := 0, locals := 25 }) D kT [.ref (ad 0), .int p0, .int p1, .int p2] (W_M_field kT ad gthr greg gcon gfld gtrn gins glev gkep glvs gkps gwrd gsta gflt gend ghal gwro gwai gwpl gwrs ghlt glat glpl afrm atoo asgn) (fun r w' => ∃ (gthr' : Int32) (gfld' : Int32) (afrm' : Nat → Int32) (atoo' : Nat → Int32) (asgn' : Nat → Int32), w' = (W_M_field kT ad gthr' greg gcon gfld' gtrn gins glev gkep glvs gkps gwrd gsta gflt gend ghal gwro gwai gwpl gwrs ghlt glat glpl afrm' atoo' asgn') ∧ post r gthr' gfld' afrm' atoo' asgn') := by
  refine zq_Mi_of (adl := (A_M_field ad)) (cc := zb_M_field) (maxL := 4) (own := zR_M) rfl (by decide) rfl rfl (Nat.le_of_ble_eq_true rfl) ?_
  intro p e s m AV below meth c A QQ H locs ls hx hb hml hown ht hE hA hret hP hD hS hl
  have hK := hE.1
  have hl : lv_has ls 4 [(0, .ref (ad 0)), (1, .int p0), (2, .int p1), (3, .int p2)] := hl
  have B45 : ∀  (gthr : Int32) (gfld : Int32) (afrm : Nat → Int32) (atoo : Nat → Int32) (asgn : Nat → Int32) (y1 : Int32) (y2 : Int32) (y3 : Int32) (z0 : Int32) (z1 : Int32) (H : Heap) (locs : List Loc) (ls : Array Slot), wp_M_field_45 greg gcon gtrn gins glev gkep glvs gkps gwrd gsta gflt gend ghal gwro gwai gwpl gwrs ghlt glat glpl gthr gfld afrm atoo asgn y1 y2 y3 z0 z1 post → va_P D vwCl (W_M_field kT ad gthr greg gcon gfld gtrn gins glev gkep glvs gkps gwrd gsta gflt gend ghal gwro gwai gwpl gwrs ghlt glat glpl afrm atoo asgn) H → va_D A (W_M_field kT ad gthr greg gcon gfld gtrn gins glev gkep glvs gkps gwrd gsta gflt gend ghal gwro gwai gwpl gwrs ghlt glat glpl afrm atoo asgn) → va_S A s.heap H locs → lv_has ls 4 [(0, .ref (ad 0)), (1, .int y1), (2, .int y2), (3, .int y3)] → W p l e ({ frames := 1, cells := 0, slots := 0, locals := 25 }) s m AV below meth c H locs 0 0 QQ (F0 m 45 ls [.int z0, .int z1, .ref (ad 0)]) := by
    intro gthr gfld afrm atoo asgn y1 y2 y3 z0 z1 H locs ls h hP hD hS hl
    refine zq_c_Vi (rest := []) (adl := (A_M_field ad)) (wr := [(ad 11, .inl (kT 0, 16, .inl afrm)), (ad 12, .inl (kT 0, 16, .inl atoo)), (ad 13, .inl (kT 2, 16, .inl asgn))]) ⟨hx, hb, hml, hown, ht⟩ (c_M_goes l D kT ad gthr greg gcon gfld gtrn gins glev gkep glvs gkps gwrd gsta gflt gend ghal gwro gwai gwpl gwrs ghlt glat glpl z1 z0 _ h) (cwV 2 ht (zq_gV zw_396 zw_397 zw_398 zw_393 zw_399) rfl rfl rfl zh_M_goes ⟨Nat.le_of_ble_eq_true rfl, Nat.le_of_ble_eq_true rfl⟩) hE hP hD hS hA [0] [1, 2, 3] 4 rfl (by decide +kernel) rfl (by decide +kernel) rfl rfl 0 rfl rfl rfl rfl hl.1 (Nat.le_of_ble_eq_true rfl) rfl zd_M_field_45 ⟨Nat.zero_le _, Nat.zero_le _⟩ (fun r_7 w1 H locs hw hJ hS => ?_)
    obtain ⟨gthr_6, rfl, h⟩ := hw
    obtain ⟨hP, hD⟩ := hJ (W_M_field kT ad gthr_6 greg gcon gfld gtrn gins glev gkep glvs gkps gwrd gsta gflt gend ghal gwro gwai gwpl gwrs ghlt glat glpl afrm atoo asgn) rfl rfl rfl
    refine lv_if_ne (tgt := 53) hx hb zd_M_field_48 (by decide) (fun c_8 => ?_) (fun c_8 => ?_)
    · have h := zq_if c_8 h
      refine lv_aload_n hx hb zd_M_field_53 rfl (lv_at hl 0 rfl) ?_
      refine va_get (D := D) (ci := 10) (v := .ref (ad 11)) (C := zR_M) (T := zF_M) (N := 52) hx hb ht zi_M hown hK hP 0 rfl rfl 16 (by decide) (ht _ zw_406) (fun _ h9 => h9) rfl zd_M_field_54 ?_
      refine lv_aload_n hx hb zd_M_field_57 rfl (lv_at hl 0 rfl) ?_
      refine va_get (D := D) (ci := 10) (v := .int gfld) (C := zR_M) (T := zF_M) (N := 52) hx hb ht zi_M hown hK hP 0 rfl rfl 12 (by decide) (ht _ zw_405) (fun _ h9 => h9) rfl zd_M_field_58 ?_
      refine lv_iload_n hx hb zd_M_field_61 rfl (lv_at hl 1 rfl) ?_
      obtain ⟨hi_9, h⟩ := h
      refine zq_a_iast (D := D) hx hb hK hP hD hS 1 0 rfl rfl hi_9 rfl zd_M_field_62 (fun H locs hP hD hS => ?_)
      have hP : va_P D vwCl (W_M_field kT ad gthr_6 greg gcon gfld gtrn gins glev gkep glvs gkps gwrd gsta gflt gend ghal gwro gwai gwpl gwrs ghlt glat glpl (upd afrm gfld.toNatClampNeg y1) atoo asgn) H := hP
      have hD : va_D A (W_M_field kT ad gthr_6 greg gcon gfld gtrn gins glev gkep glvs gkps gwrd gsta gflt gend ghal gwro gwai gwpl gwrs ghlt glat glpl (upd afrm gfld.toNatClampNeg y1) atoo asgn) := hD
      refine lv_aload_n hx hb zd_M_field_63 rfl (lv_at hl 0 rfl) ?_
      refine va_get (D := D) (ci := 10) (v := .ref (ad 12)) (C := zR_M) (T := zF_M) (N := 52) hx hb ht zi_M hown hK hP 0 rfl rfl 17 (by decide) (ht _ zw_407) (fun _ h9 => h9) rfl zd_M_field_64 ?_
      refine lv_aload_n hx hb zd_M_field_67 rfl (lv_at hl 0 rfl) ?_
      refine va_get (D := D) (ci := 10) (v := .int gfld) (C := zR_M) (T := zF_M) (N := 52) hx hb ht zi_M hown hK hP 0 rfl rfl 12 (by decide) (ht _ zw_405) (fun _ h9 => h9) rfl zd_M_field_68 ?_
      refine lv_iload_n hx hb zd_M_field_71 rfl (lv_at hl 2 rfl) ?_
      obtain ⟨hi_10, h⟩ := h
      refine zq_a_iast (D := D) hx hb hK hP hD hS 2 0 rfl rfl hi_10 rfl zd_M_field_72 (fun H locs hP hD hS => ?_)
      have hP : va_P D vwCl (W_M_field kT ad gthr_6 greg gcon gfld gtrn gins glev gkep glvs gkps gwrd gsta gflt gend ghal gwro gwai gwpl gwrs ghlt glat glpl (upd afrm gfld.toNatClampNeg y1) (upd atoo gfld.toNatClampNeg y2) asgn) H := hP
      have hD : va_D A (W_M_field kT ad gthr_6 greg gcon gfld gtrn gins glev gkep glvs gkps gwrd gsta gflt gend ghal gwro gwai gwpl gwrs ghlt glat glpl (upd afrm gfld.toNatClampNeg y1) (upd atoo gfld.toNatClampNeg y2) asgn) := hD
      refine lv_aload_n hx hb zd_M_field_73 rfl (lv_at hl 0 rfl) ?_
      refine va_get (D := D) (ci := 10) (v := .ref (ad 13)) (C := zR_M) (T := zF_M) (N := 52) hx hb ht zi_M hown hK hP 0 rfl rfl 18 (by decide) (ht _ zw_408) (fun _ h9 => h9) rfl zd_M_field_74 ?_
      refine lv_aload_n hx hb zd_M_field_77 rfl (lv_at hl 0 rfl) ?_
      refine va_get (D := D) (ci := 10) (v := .int gfld) (C := zR_M) (T := zF_M) (N := 52) hx hb ht zi_M hown hK hP 0 rfl rfl 12 (by decide) (ht _ zw_405) (fun _ h9 => h9) rfl zd_M_field_78 ?_
      refine lv_iload_n hx hb zd_M_field_81 rfl (lv_at hl 3 rfl) ?_
      obtain ⟨hi_11, h⟩ := h
      refine zq_a_zast (D := D) hx hb hK hP hD hS 3 2 rfl rfl hi_11 rfl zd_M_field_82 (fun H locs hP hD hS => ?_)
      have hP : va_P D vwCl (W_M_field kT ad gthr_6 greg gcon gfld gtrn gins glev gkep glvs gkps gwrd gsta gflt gend ghal gwro gwai gwpl gwrs ghlt glat glpl (upd afrm gfld.toNatClampNeg y1) (upd atoo gfld.toNatClampNeg y2) (upd asgn gfld.toNatClampNeg (vp_nar .boolean y3))) H := hP
      have hD : va_D A (W_M_field kT ad gthr_6 greg gcon gfld gtrn gins glev gkep glvs gkps gwrd gsta gflt gend ghal gwro gwai gwpl gwrs ghlt glat glpl (upd afrm gfld.toNatClampNeg y1) (upd atoo gfld.toNatClampNeg y2) (upd asgn gfld.toNatClampNeg (vp_nar .boolean y3))) := hD
      refine lv_aload_n hx hb zd_M_field_83 rfl (lv_at hl 0 rfl) ?_
      refine lv_dup hx hb zd_M_field_84 rfl ?_
      refine va_get (D := D) (ci := 10) (v := .int gfld) (C := zR_M) (T := zF_M) (N := 52) hx hb ht zi_M hown hK hP 0 rfl rfl 12 (by decide) (ht _ zw_405) (fun _ h9 => h9) rfl zd_M_field_85 ?_
      refine lv_iconst (v := 1) hx hb zd_M_field_88 (by decide) ?_
      refine lv_iadd hx hb zd_M_field_89 ?_
      refine va_put (D := D) (ci := 10) (v := .int (gfld + 1)) (ty := .int) (C := zR_M) (T := zF_M) (N := 52) hx hb ht zi_M zt_M zt_M_ok zn_M hown hK hP hD hS 0 rfl rfl 12 (by decide) (ht _ zw_405) (fun _ h9 => h9) rfl (by decide +kernel) rfl rfl (Nat.le_of_ble_eq_true rfl) zd_M_field_90 (fun H locs hP hD hS => ?_)
      have hP : va_P D vwCl (W_M_field kT ad gthr_6 greg gcon (gfld + 1) gtrn gins glev gkep glvs gkps gwrd gsta gflt gend ghal gwro gwai gwpl gwrs ghlt glat glpl (upd afrm gfld.toNatClampNeg y1) (upd atoo gfld.toNatClampNeg y2) (upd asgn gfld.toNatClampNeg (vp_nar .boolean y3))) H := hP
      have hD : va_D A (W_M_field kT ad gthr_6 greg gcon (gfld + 1) gtrn gins glev gkep glvs gkps gwrd gsta gflt gend ghal gwro gwai gwpl gwrs ghlt glat glpl (upd afrm gfld.toNatClampNeg y1) (upd atoo gfld.toNatClampNeg y2) (upd asgn gfld.toNatClampNeg (vp_nar .boolean y3))) := hD
      refine lv_bipush (v := 63) hx hb zd_M_field_93 (by decide) ?_
      refine lv_aload_n hx hb zd_M_field_95 rfl (lv_at hl 0 rfl) ?_
      refine va_get (D := D) (ci := 10) (v := .int (gfld + 1)) (C := zR_M) (T := zF_M) (N := 52) hx hb ht zi_M hown hK hP 0 rfl rfl 12 (by decide) (ht _ zw_405) (fun _ h9 => h9) rfl zd_M_field_96 ?_
      refine lv_iadd hx hb zd_M_field_99 ?_
      exact hret (63 + (gfld + 1))  _ H locs 100 ls ⟨gthr_6, (gfld + 1), (upd afrm gfld.toNatClampNeg y1), (upd atoo gfld.toNatClampNeg y2), (upd asgn gfld.toNatClampNeg (vp_nar .boolean y3)), rfl, h⟩ hP rfl hS zd_M_field_100
    · have h := zq_it c_8 h
      refine lv_iconst (v := 0) hx hb zd_M_field_51 (by decide) ?_
      exact hret 0  _ H locs 52 ls ⟨gthr_6, gfld, afrm, atoo, asgn, rfl, h⟩ hP rfl hS zd_M_field_52
  have B31 : ∀  (gthr : Int32) (gfld : Int32) (afrm : Nat → Int32) (atoo : Nat → Int32) (asgn : Nat → Int32) (y1 : Int32) (y2 : Int32) (y3 : Int32) (z0 : Int32) (H : Heap) (locs : List Loc) (ls : Array Slot), wp_M_field_31 greg gcon gtrn gins glev gkep glvs gkps gwrd gsta gflt gend ghal gwro gwai gwpl gwrs ghlt glat glpl gthr gfld afrm atoo asgn y1 y2 y3 z0 post → va_P D vwCl (W_M_field kT ad gthr greg gcon gfld gtrn gins glev gkep glvs gkps gwrd gsta gflt gend ghal gwro gwai gwpl gwrs ghlt glat glpl afrm atoo asgn) H → va_D A (W_M_field kT ad gthr greg gcon gfld gtrn gins glev gkep glvs gkps gwrd gsta gflt gend ghal gwro gwai gwpl gwrs ghlt glat glpl afrm atoo asgn) → va_S A s.heap H locs → lv_has ls 4 [(0, .ref (ad 0)), (1, .int y1), (2, .int y2), (3, .int y3)] → W p l e ({ frames := 1, cells := 0, slots := 0, locals := 25 }) s m AV below meth c H locs 0 0 QQ (F0 m 31 ls [.int z0, .ref (ad 0)]) := by
    intro gthr gfld afrm atoo asgn y1 y2 y3 z0 H locs ls h hP hD hS hl
    unfold wp_M_field_31 at h
    refine lv_aload_n hx hb zd_M_field_31 rfl (lv_at hl 0 rfl) ?_
    refine va_get (D := D) (ci := 10) (v := .int gfld) (C := zR_M) (T := zF_M) (N := 52) hx hb ht zi_M hown hK hP 0 rfl rfl 12 (by decide) (ht _ zw_405) (fun _ h9 => h9) rfl zd_M_field_32 ?_
    refine lv_bipush (v := 16) hx hb zd_M_field_35 (by decide) ?_
    refine lv_icmp_ge (tgt := 44) hx hb zd_M_field_37 (by decide) (fun c_5 => ?_) (fun c_5 => ?_)
    · have h := zq_it c_5 h
      refine lv_iconst (v := 0) hx hb zd_M_field_44 (by decide) ?_
      exact B45 gthr gfld afrm atoo asgn y1 y2 y3 0 z0 H locs ls h hP hD hS (lv_sub hl [0, 1, 2, 3] rfl)
    · have h := zq_if c_5 h
      refine lv_iconst (v := 1) hx hb zd_M_field_40 (by decide) ?_
      refine lv_goto (tgt := 45) hx hb zd_M_field_41 (by decide) ?_
      exact B45 gthr gfld afrm atoo asgn y1 y2 y3 1 z0 H locs ls h hP hD hS (lv_sub hl [0, 1, 2, 3] rfl)
  have B30 : ∀  (gthr : Int32) (gfld : Int32) (afrm : Nat → Int32) (atoo : Nat → Int32) (asgn : Nat → Int32) (y1 : Int32) (y2 : Int32) (y3 : Int32) (H : Heap) (locs : List Loc) (ls : Array Slot), wp_M_field_30 greg gcon gtrn gins glev gkep glvs gkps gwrd gsta gflt gend ghal gwro gwai gwpl gwrs ghlt glat glpl gthr gfld afrm atoo asgn y1 y2 y3 post → va_P D vwCl (W_M_field kT ad gthr greg gcon gfld gtrn gins glev gkep glvs gkps gwrd gsta gflt gend ghal gwro gwai gwpl gwrs ghlt glat glpl afrm atoo asgn) H → va_D A (W_M_field kT ad gthr greg gcon gfld gtrn gins glev gkep glvs gkps gwrd gsta gflt gend ghal gwro gwai gwpl gwrs ghlt glat glpl afrm atoo asgn) → va_S A s.heap H locs → lv_has ls 4 [(0, .ref (ad 0)), (1, .int y1), (2, .int y2), (3, .int y3)] → W p l e ({ frames := 1, cells := 0, slots := 0, locals := 25 }) s m AV below meth c H locs 0 0 QQ (F0 m 30 ls [.ref (ad 0)]) := by
    intro gthr gfld afrm atoo asgn y1 y2 y3 H locs ls h hP hD hS hl
    refine lv_iconst (v := 0) hx hb zd_M_field_30 (by decide) ?_
    exact B31 gthr gfld afrm atoo asgn y1 y2 y3 0 H locs ls h hP hD hS (lv_sub hl [0, 1, 2, 3] rfl)
  refine lv_aload_n hx hb zd_M_field_0 rfl (lv_at hl 0 rfl) ?_
  refine lv_iload_n hx hb zd_M_field_1 rfl (lv_at hl 1 rfl) ?_
  refine lv_i2l (v := (zq_j_i2l p0)) hx hb zd_M_field_2 rfl ?_
  refine lv_lconst (v := 0) hx hb zd_M_field_3 (by decide) ?_
  refine W.ldc2 (v := 15) hx hb hown (ht _ zw_404) rfl zd_M_field_4 ?_
  refine W.eq (g2 := F0 m 7 ls [.long 15, .long 0, .long (zq_j_i2l p0), .ref (ad 0)]) rfl ?_
  refine zq_c_Si (rest := [.ref (ad 0)]) (adl := (A_M_field ad)) (wr := [(ad 0, .inr (10, [.int gthr, .int greg, .ref (ad 1), .ref (ad 2), .ref (ad 3), .ref (ad 4), .ref (ad 5), .ref (ad 6), .ref (ad 7), .ref (ad 8), .ref (ad 9), .int gcon, .int gfld, .int gtrn, .int gins, .ref (ad 10), .ref (ad 11), .ref (ad 12), .ref (ad 13), .ref (ad 14), .ref (ad 15), .ref (ad 16), .ref (ad 17), .ref (ad 18), .ref (ad 19), .ref (ad 20), .ref (ad 21), .ref (ad 22), .ref (ad 23), .int glev, .int gkep, .int glvs, .int gkps, .ref (ad 24), .ref (ad 25), .int gwrd, .int gsta, .int gflt, .int gend, .int ghal, .int gwro, .int gwai, .long gwpl, .int gwrs, .ref (ad 26), .ref (ad 27), .ref (ad 28), .ref (ad 29), .int ghlt, .int glat, .int glpl, .ref (ad 30)])), (ad 11, .inl (kT 0, 16, .inl afrm)), (ad 12, .inl (kT 0, 16, .inl atoo)), (ad 13, .inl (kT 2, 16, .inl asgn))]) ⟨hx, hb, hml, hown, ht⟩ (c_M_in l D kT ad (zq_j_i2l p0) 0 15 _ h) (cwS 3 ht (zq_gS zw_391 zw_392 zw_393 zw_394) rfl rfl rfl zh_M_in ⟨Nat.le_of_ble_eq_true rfl, Nat.le_of_ble_eq_true rfl⟩) hE hP hD hS hA [] [0, 1, 2, 3] 4 rfl (by decide +kernel) rfl (by decide +kernel) rfl rfl  rfl hl.1 (Nat.le_of_ble_eq_true rfl) rfl zd_M_field_7 ⟨Nat.zero_le _, Nat.zero_le _⟩ (fun r_1 w1 H locs hw hJ hS => ?_)
  obtain ⟨rfl, h⟩ := hw
  obtain ⟨hP, hD⟩ := hJ (W_M_field kT ad gthr greg gcon gfld gtrn gins glev gkep glvs gkps gwrd gsta gflt gend ghal gwro gwai gwpl gwrs ghlt glat glpl afrm atoo asgn) rfl rfl rfl
  refine lv_if_eq (tgt := 30) hx hb zd_M_field_10 (by decide) (fun c_2 => ?_) (fun c_2 => ?_)
  · have h := zq_it c_2 h
    exact B30 gthr gfld afrm atoo asgn p0 p1 p2 H locs ls h hP hD hS (lv_sub hl [0, 1, 2, 3] rfl)
  · have h := zq_if c_2 h
    refine lv_iload_n hx hb zd_M_field_13 rfl (lv_at hl 2 rfl) ?_
    refine lv_i2l (v := (zq_j_i2l p1)) hx hb zd_M_field_14 rfl ?_
    refine lv_iload_n hx hb zd_M_field_15 rfl (lv_at hl 1 rfl) ?_
    refine lv_i2l (v := (zq_j_i2l p0)) hx hb zd_M_field_16 rfl ?_
    refine W.ldc2 (v := 15) hx hb hown (ht _ zw_404) rfl zd_M_field_17 ?_
    refine W.eq (g2 := F0 m 20 ls [.long 15, .long (zq_j_i2l p0), .long (zq_j_i2l p1), .ref (ad 0)]) rfl ?_
    refine zq_c_Si (rest := [.ref (ad 0)]) (adl := (A_M_field ad)) (wr := [(ad 0, .inr (10, [.int gthr, .int greg, .ref (ad 1), .ref (ad 2), .ref (ad 3), .ref (ad 4), .ref (ad 5), .ref (ad 6), .ref (ad 7), .ref (ad 8), .ref (ad 9), .int gcon, .int gfld, .int gtrn, .int gins, .ref (ad 10), .ref (ad 11), .ref (ad 12), .ref (ad 13), .ref (ad 14), .ref (ad 15), .ref (ad 16), .ref (ad 17), .ref (ad 18), .ref (ad 19), .ref (ad 20), .ref (ad 21), .ref (ad 22), .ref (ad 23), .int glev, .int gkep, .int glvs, .int gkps, .ref (ad 24), .ref (ad 25), .int gwrd, .int gsta, .int gflt, .int gend, .int ghal, .int gwro, .int gwai, .long gwpl, .int gwrs, .ref (ad 26), .ref (ad 27), .ref (ad 28), .ref (ad 29), .int ghlt, .int glat, .int glpl, .ref (ad 30)])), (ad 11, .inl (kT 0, 16, .inl afrm)), (ad 12, .inl (kT 0, 16, .inl atoo)), (ad 13, .inl (kT 2, 16, .inl asgn))]) ⟨hx, hb, hml, hown, ht⟩ (c_M_in l D kT ad (zq_j_i2l p1) (zq_j_i2l p0) 15 _ h) (cwS 3 ht (zq_gS zw_391 zw_392 zw_393 zw_394) rfl rfl rfl zh_M_in ⟨Nat.le_of_ble_eq_true rfl, Nat.le_of_ble_eq_true rfl⟩) hE hP hD hS hA [] [0, 1, 2, 3] 4 rfl (by decide +kernel) rfl (by decide +kernel) rfl rfl  rfl hl.1 (Nat.le_of_ble_eq_true rfl) rfl zd_M_field_20 ⟨Nat.zero_le _, Nat.zero_le _⟩ (fun r_3 w1 H locs hw hJ hS => ?_)
    obtain ⟨rfl, h⟩ := hw
    obtain ⟨hP, hD⟩ := hJ (W_M_field kT ad gthr greg gcon gfld gtrn gins glev gkep glvs gkps gwrd gsta gflt gend ghal gwro gwai gwpl gwrs ghlt glat glpl afrm atoo asgn) rfl rfl rfl
    refine lv_if_eq (tgt := 30) hx hb zd_M_field_23 (by decide) (fun c_4 => ?_) (fun c_4 => ?_)
    · have h := zq_it c_4 h
      exact B30 gthr gfld afrm atoo asgn p0 p1 p2 H locs ls h hP hD hS (lv_sub hl [0, 1, 2, 3] rfl)
    · have h := zq_if c_4 h
      refine lv_iconst (v := 1) hx hb zd_M_field_26 (by decide) ?_
      refine lv_goto (tgt := 31) hx hb zd_M_field_27 (by decide) ?_
      exact B31 gthr gfld afrm atoo asgn p0 p1 p2 1 H locs ls h hP hD hS (lv_sub hl [0, 1, 2, 3] rfl)
abbrev W_M_isOperand (kT : Nat → ClassId) (ad : Nat → Nat) (gthr : Int32) (greg : Int32) (gcon : Int32) (gfld : Int32) (gtrn : Int32) (gins : Int32) (glev : Int32) (gkep : Int32) (glvs : Int32) (gkps : Int32) (gwrd : Int32) (gsta : Int32) (gflt : Int32) (gend : Int32) (ghal : Int32) (gwro : Int32) (gwai : Int32) (gwpl : Int64) (gwrs : Int32) (ghlt : Int32) (glat : Int32) (glpl : Int32) : va_W := [(ad 0, .inr (10, [.int gthr, .int greg, .ref (ad 1), .ref (ad 2), .ref (ad 3), .ref (ad 4), .ref (ad 5), .ref (ad 6), .ref (ad 7), .ref (ad 8), .ref (ad 9), .int gcon, .int gfld, .int gtrn, .int gins, .ref (ad 10), .ref (ad 11), .ref (ad 12), .ref (ad 13), .ref (ad 14), .ref (ad 15), .ref (ad 16), .ref (ad 17), .ref (ad 18), .ref (ad 19), .ref (ad 20), .ref (ad 21), .ref (ad 22), .ref (ad 23), .int glev, .int gkep, .int glvs, .int gkps, .ref (ad 24), .ref (ad 25), .int gwrd, .int gsta, .int gflt, .int gend, .int ghal, .int gwro, .int gwai, .long gwpl, .int gwrs, .ref (ad 26), .ref (ad 27), .ref (ad 28), .ref (ad 29), .int ghlt, .int glat, .int glpl, .ref (ad 30)]))]
abbrev A_M_isOperand (ad : Nat → Nat) : List Nat := [ad 0]
def wp_M_isOperand (gthr : Int32) (greg : Int32) (gcon : Int32) (gfld : Int32) (gtrn : Int32) (gins : Int32) (glev : Int32) (gkep : Int32) (glvs : Int32) (gkps : Int32) (gwrd : Int32) (gsta : Int32) (gflt : Int32) (gend : Int32) (ghal : Int32) (gwro : Int32) (gwai : Int32) (gwpl : Int64) (gwrs : Int32) (ghlt : Int32) (glat : Int32) (glpl : Int32) (p0 : Int32) (post : Int32 → Prop) : Prop := wp_M_in (zq_j_i2l p0) 0 (zq_j_i2l (greg - 1)) (fun r_1 => (if r_1 = 0 then wp_M_in (zq_j_i2l p0) 32 (zq_j_i2l (31 + gcon)) (fun r_3 => (if r_3 = 0 then wp_M_in (zq_j_i2l p0) 64 (zq_j_i2l (63 + gfld)) (fun r_5 => (if r_5 = 0 then post 0  else post 1 )) else post 1 )) else post 1 ))
set_option maxHeartbeats 4000000 in
set_option maxRecDepth 100000 in
theorem c_M_isOperand (l : Launch) (D : va_G) (kT : Nat → ClassId) (ad : Nat → Nat) (gthr : Int32) (greg : Int32) (gcon : Int32) (gfld : Int32) (gtrn : Int32) (gins : Int32) (glev : Int32) (gkep : Int32) (glvs : Int32) (gkps : Int32) (gwrd : Int32) (gsta : Int32) (gflt : Int32) (gend : Int32) (ghal : Int32) (gwro : Int32) (gwai : Int32) (gwpl : Int64) (gwrs : Int32) (ghlt : Int32) (glat : Int32) (glpl : Int32) (p0 : Int32) (post : Int32 → Prop) (h : wp_M_isOperand gthr greg gcon gfld gtrn gins glev gkep glvs gkps gwrd gsta gflt gend ghal gwro gwai gwpl gwrs ghlt glat glpl p0 post) : zq_Mi l zy_M_isOperand zs_M_isOperand ({ frames := 1, cells := 0, slots := 0, locals := 25 }) D kT [.ref (ad 0), .int p0] (W_M_isOperand kT ad gthr greg gcon gfld gtrn gins glev gkep glvs gkps gwrd gsta gflt gend ghal gwro gwai gwpl gwrs ghlt glat glpl) (fun r w' => w' = (W_M_isOperand kT ad gthr greg gcon gfld gtrn gins glev gkep glvs gkps gwrd gsta gflt gend ghal gwro gwai gwpl gwrs ghlt glat glpl) ∧ post r ) := by
  refine zq_Mz_of (adl := (A_M_isOperand ad)) (cc := zb_M_isOperand) (maxL := 2) (own := zR_M) rfl (by decide) rfl rfl (Nat.le_of_ble_eq_true rfl) ?_
  intro p e s m AV below meth c A QQ H locs ls hx hb hml hown ht hE hA hret hP hD hS hl
  have hK := hE.1
  have hl : lv_has ls 2 [(0, .ref (ad 0)), (1, .int p0)] := hl
  refine lv_iload_n hx hb zd_M_isOperand_0 rfl (lv_at hl 1 rfl) ?_
  refine lv_i2l (v := (zq_j_i2l p0)) hx hb zd_M_isOperand_1 rfl ?_
  refine lv_lconst (v := 0) hx hb zd_M_isOperand_2 (by decide) ?_
  refine lv_aload_n hx hb zd_M_isOperand_3 rfl (lv_at hl 0 rfl) ?_
  refine va_get (D := D) (ci := 10) (v := .int greg) (C := zR_M) (T := zF_M) (N := 52) hx hb ht zi_M hown hK hP 0 rfl rfl 1 (by decide) (ht _ zw_395) (fun _ h9 => h9) rfl zd_M_isOperand_4 ?_
  refine lv_iconst (v := 1) hx hb zd_M_isOperand_7 (by decide) ?_
  refine lv_isub hx hb zd_M_isOperand_8 ?_
  refine lv_i2l (v := (zq_j_i2l (greg - 1))) hx hb zd_M_isOperand_9 rfl ?_
  refine zq_c_Si (rest := []) (adl := (A_M_isOperand ad)) (wr := [(ad 0, .inr (10, [.int gthr, .int greg, .ref (ad 1), .ref (ad 2), .ref (ad 3), .ref (ad 4), .ref (ad 5), .ref (ad 6), .ref (ad 7), .ref (ad 8), .ref (ad 9), .int gcon, .int gfld, .int gtrn, .int gins, .ref (ad 10), .ref (ad 11), .ref (ad 12), .ref (ad 13), .ref (ad 14), .ref (ad 15), .ref (ad 16), .ref (ad 17), .ref (ad 18), .ref (ad 19), .ref (ad 20), .ref (ad 21), .ref (ad 22), .ref (ad 23), .int glev, .int gkep, .int glvs, .int gkps, .ref (ad 24), .ref (ad 25), .int gwrd, .int gsta, .int gflt, .int gend, .int ghal, .int gwro, .int gwai, .long gwpl, .int gwrs, .ref (ad 26), .ref (ad 27), .ref (ad 28), .ref (ad 29), .int ghlt, .int glat, .int glpl, .ref (ad 30)]))]) ⟨hx, hb, hml, hown, ht⟩ (c_M_in l D kT ad (zq_j_i2l p0) 0 (zq_j_i2l (greg - 1)) _ h) (cwS 3 ht (zq_gS zw_391 zw_392 zw_393 zw_394) rfl rfl rfl zh_M_in ⟨Nat.le_of_ble_eq_true rfl, Nat.le_of_ble_eq_true rfl⟩) hE hP hD hS hA [] [0] 1 rfl (by decide +kernel) rfl (by decide +kernel) rfl rfl  rfl hl.1 (Nat.le_of_ble_eq_true rfl) rfl zd_M_isOperand_10 ⟨Nat.zero_le _, Nat.zero_le _⟩ (fun r_1 w1 H locs hw hJ hS => ?_)
  obtain ⟨rfl, h⟩ := hw
  obtain ⟨hP, hD⟩ := hJ (W_M_isOperand kT ad gthr greg gcon gfld gtrn gins glev gkep glvs gkps gwrd gsta gflt gend ghal gwro gwai gwpl gwrs ghlt glat glpl) rfl rfl rfl
  refine lv_if_ne (tgt := 54) hx hb zd_M_isOperand_13 (by decide) (fun c_2 => ?_) (fun c_2 => ?_)
  · have h := zq_if c_2 h
    refine lv_iconst (v := 1) hx hb zd_M_isOperand_54 (by decide) ?_
    refine lv_goto (tgt := 59) hx hb zd_M_isOperand_55 (by decide) ?_
    exact hret 1 rfl _ H locs 59 ls ⟨rfl, h⟩ hP rfl hS zd_M_isOperand_59
  · have h := zq_it c_2 h
    refine lv_iload_n hx hb zd_M_isOperand_16 rfl (lv_at hl 1 rfl) ?_
    refine lv_i2l (v := (zq_j_i2l p0)) hx hb zd_M_isOperand_17 rfl ?_
    refine W.ldc2 (v := 32) hx hb hown (ht _ zw_409) rfl zd_M_isOperand_18 ?_
    refine W.eq (g2 := F0 m 21 ls [.long 32, .long (zq_j_i2l p0)]) rfl ?_
    refine lv_bipush (v := 31) hx hb zd_M_isOperand_21 (by decide) ?_
    refine lv_aload_n hx hb zd_M_isOperand_23 rfl (lv_at hl 0 rfl) ?_
    refine va_get (D := D) (ci := 10) (v := .int gcon) (C := zR_M) (T := zF_M) (N := 52) hx hb ht zi_M hown hK hP 0 rfl rfl 11 (by decide) (ht _ zw_402) (fun _ h9 => h9) rfl zd_M_isOperand_24 ?_
    refine lv_iadd hx hb zd_M_isOperand_27 ?_
    refine lv_i2l (v := (zq_j_i2l (31 + gcon))) hx hb zd_M_isOperand_28 rfl ?_
    refine zq_c_Si (rest := []) (adl := (A_M_isOperand ad)) (wr := [(ad 0, .inr (10, [.int gthr, .int greg, .ref (ad 1), .ref (ad 2), .ref (ad 3), .ref (ad 4), .ref (ad 5), .ref (ad 6), .ref (ad 7), .ref (ad 8), .ref (ad 9), .int gcon, .int gfld, .int gtrn, .int gins, .ref (ad 10), .ref (ad 11), .ref (ad 12), .ref (ad 13), .ref (ad 14), .ref (ad 15), .ref (ad 16), .ref (ad 17), .ref (ad 18), .ref (ad 19), .ref (ad 20), .ref (ad 21), .ref (ad 22), .ref (ad 23), .int glev, .int gkep, .int glvs, .int gkps, .ref (ad 24), .ref (ad 25), .int gwrd, .int gsta, .int gflt, .int gend, .int ghal, .int gwro, .int gwai, .long gwpl, .int gwrs, .ref (ad 26), .ref (ad 27), .ref (ad 28), .ref (ad 29), .int ghlt, .int glat, .int glpl, .ref (ad 30)]))]) ⟨hx, hb, hml, hown, ht⟩ (c_M_in l D kT ad (zq_j_i2l p0) 32 (zq_j_i2l (31 + gcon)) _ h) (cwS 3 ht (zq_gS zw_391 zw_392 zw_393 zw_394) rfl rfl rfl zh_M_in ⟨Nat.le_of_ble_eq_true rfl, Nat.le_of_ble_eq_true rfl⟩) hE hP hD hS hA [] [0] 1 rfl (by decide +kernel) rfl (by decide +kernel) rfl rfl  rfl hl.1 (Nat.le_of_ble_eq_true rfl) rfl zd_M_isOperand_29 ⟨Nat.zero_le _, Nat.zero_le _⟩ (fun r_3 w1 H locs hw hJ hS => ?_)
    obtain ⟨rfl, h⟩ := hw
    obtain ⟨hP, hD⟩ := hJ (W_M_isOperand kT ad gthr greg gcon gfld gtrn gins glev gkep glvs gkps gwrd gsta gflt gend ghal gwro gwai gwpl gwrs ghlt glat glpl) rfl rfl rfl
    refine lv_if_ne (tgt := 54) hx hb zd_M_isOperand_32 (by decide) (fun c_4 => ?_) (fun c_4 => ?_)
    · have h := zq_if c_4 h
      refine lv_iconst (v := 1) hx hb zd_M_isOperand_54 (by decide) ?_
      refine lv_goto (tgt := 59) hx hb zd_M_isOperand_55 (by decide) ?_
      exact hret 1 rfl _ H locs 59 ls ⟨rfl, h⟩ hP rfl hS zd_M_isOperand_59
    · have h := zq_it c_4 h
      refine lv_iload_n hx hb zd_M_isOperand_35 rfl (lv_at hl 1 rfl) ?_
      refine lv_i2l (v := (zq_j_i2l p0)) hx hb zd_M_isOperand_36 rfl ?_
      refine W.ldc2 (v := 64) hx hb hown (ht _ zw_390) rfl zd_M_isOperand_37 ?_
      refine W.eq (g2 := F0 m 40 ls [.long 64, .long (zq_j_i2l p0)]) rfl ?_
      refine lv_bipush (v := 63) hx hb zd_M_isOperand_40 (by decide) ?_
      refine lv_aload_n hx hb zd_M_isOperand_42 rfl (lv_at hl 0 rfl) ?_
      refine va_get (D := D) (ci := 10) (v := .int gfld) (C := zR_M) (T := zF_M) (N := 52) hx hb ht zi_M hown hK hP 0 rfl rfl 12 (by decide) (ht _ zw_405) (fun _ h9 => h9) rfl zd_M_isOperand_43 ?_
      refine lv_iadd hx hb zd_M_isOperand_46 ?_
      refine lv_i2l (v := (zq_j_i2l (63 + gfld))) hx hb zd_M_isOperand_47 rfl ?_
      refine zq_c_Si (rest := []) (adl := (A_M_isOperand ad)) (wr := [(ad 0, .inr (10, [.int gthr, .int greg, .ref (ad 1), .ref (ad 2), .ref (ad 3), .ref (ad 4), .ref (ad 5), .ref (ad 6), .ref (ad 7), .ref (ad 8), .ref (ad 9), .int gcon, .int gfld, .int gtrn, .int gins, .ref (ad 10), .ref (ad 11), .ref (ad 12), .ref (ad 13), .ref (ad 14), .ref (ad 15), .ref (ad 16), .ref (ad 17), .ref (ad 18), .ref (ad 19), .ref (ad 20), .ref (ad 21), .ref (ad 22), .ref (ad 23), .int glev, .int gkep, .int glvs, .int gkps, .ref (ad 24), .ref (ad 25), .int gwrd, .int gsta, .int gflt, .int gend, .int ghal, .int gwro, .int gwai, .long gwpl, .int gwrs, .ref (ad 26), .ref (ad 27), .ref (ad 28), .ref (ad 29), .int ghlt, .int glat, .int glpl, .ref (ad 30)]))]) ⟨hx, hb, hml, hown, ht⟩ (c_M_in l D kT ad (zq_j_i2l p0) 64 (zq_j_i2l (63 + gfld)) _ h) (cwS 3 ht (zq_gS zw_391 zw_392 zw_393 zw_394) rfl rfl rfl zh_M_in ⟨Nat.le_of_ble_eq_true rfl, Nat.le_of_ble_eq_true rfl⟩) hE hP hD hS hA [] [0] 1 rfl (by decide +kernel) rfl (by decide +kernel) rfl rfl  rfl hl.1 (Nat.le_of_ble_eq_true rfl) rfl zd_M_isOperand_48 ⟨Nat.zero_le _, Nat.zero_le _⟩ (fun r_5 w1 H locs hw hJ hS => ?_)
      obtain ⟨rfl, h⟩ := hw
      obtain ⟨hP, hD⟩ := hJ (W_M_isOperand kT ad gthr greg gcon gfld gtrn gins glev gkep glvs gkps gwrd gsta gflt gend ghal gwro gwai gwpl gwrs ghlt glat glpl) rfl rfl rfl
      refine lv_if_eq (tgt := 58) hx hb zd_M_isOperand_51 (by decide) (fun c_6 => ?_) (fun c_6 => ?_)
      · have h := zq_it c_6 h
        refine lv_iconst (v := 0) hx hb zd_M_isOperand_58 (by decide) ?_
        exact hret 0 rfl _ H locs 59 ls ⟨rfl, h⟩ hP rfl hS zd_M_isOperand_59
      · have h := zq_if c_6 h
        refine lv_iconst (v := 1) hx hb zd_M_isOperand_54 (by decide) ?_
        refine lv_goto (tgt := 59) hx hb zd_M_isOperand_55 (by decide) ?_
        exact hret 1 rfl _ H locs 59 ls ⟨rfl, h⟩ hP rfl hS zd_M_isOperand_59
