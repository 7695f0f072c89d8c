abbrev W_M_setMemory (kT : Nat → ClassId) (ad : Nat → Nat) (gthr : Int32) (greg : Int32) (gcon : Int32) (gfld : Int32) (gtrn : Int32) (gins : Int32) (glev : Int32) (gkep : Int32) (glvs : Int32) (gkps : Int32) (gwrd : Int32) (gsta : Int32) (gflt : Int32) (gend : Int32) (ghal : Int32) (gwro : Int32) (gwai : Int32) (gwpl : Int64) (gwrs : Int32) (ghlt : Int32) (glat : Int32) (glpl : Int32) (amem : Nat → Int32) : va_W := [(ad 0, .inr (10, [.int gthr, .int greg, .ref (ad 1), .ref (ad 2), .ref (ad 3), .ref (ad 4), .ref (ad 5), .ref (ad 6), .ref (ad 7), .ref (ad 8), .ref (ad 9), .int gcon, .int gfld, .int gtrn, .int gins, .ref (ad 10), .ref (ad 11), .ref (ad 12), .ref (ad 13), .ref (ad 14), .ref (ad 15), .ref (ad 16), .ref (ad 17), .ref (ad 18), .ref (ad 19), .ref (ad 20), .ref (ad 21), .ref (ad 22), .ref (ad 23), .int glev, .int gkep, .int glvs, .int gkps, .ref (ad 24), .ref (ad 25), .int gwrd, .int gsta, .int gflt, .int gend, .int ghal, .int gwro, .int gwai, .long gwpl, .int gwrs, .ref (ad 26), .ref (ad 27), .ref (ad 28), .ref (ad 29), .int ghlt, .int glat, .int glpl, .ref (ad 30)])), (ad 8, .inl (kT 3, 4096, .inl amem))]
abbrev A_M_setMemory (ad : Nat → Nat) : List Nat := [ad 0, ad 8]
def wp_M_setMemory (gthr : Int32) (greg : Int32) (gcon : Int32) (gfld : Int32) (gtrn : Int32) (gins : Int32) (glev : Int32) (gkep : Int32) (glvs : Int32) (gkps : Int32) (gwrd : Int32) (gsta : Int32) (gflt : Int32) (gend : Int32) (ghal : Int32) (gwro : Int32) (gwai : Int32) (gwpl : Int64) (gwrs : Int32) (ghlt : Int32) (glat : Int32) (glpl : Int32) (amem : Nat → Int32) (p0 : Int32) (p1 : Int64) (p2 : Int32) (post : (Nat → Int32) → Prop) : Prop := vp_in p0 4096 ∧ (if p2 = 2 then vp_in (p0 + 1) 4096 ∧ post  (upd (upd amem p0.toNatClampNeg (vp_nar .byte (zq_j_i2b (zq_j_l2i p1)))) ((p0 + 1)).toNatClampNeg (vp_nar .byte (zq_j_i2b (zq_j_l2i (zq_j_lshr p1 8))))) else post  (upd amem p0.toNatClampNeg (vp_nar .byte (zq_j_i2b (zq_j_l2i p1)))))
set_option maxHeartbeats 4000000 in
set_option maxRecDepth 100000 in
theorem c_M_setMemory (l : Launch) (D : va_G) (kT : Nat → ClassId) (ad : Nat → Nat) (gthr : Int32) (greg : Int32) (gcon : Int32) (gfld : Int32) (gtrn : Int32) (gins : Int32) (glev : Int32) (gkep : Int32) (glvs : Int32) (gkps : Int32) (gwrd : Int32) (gsta : Int32) (gflt : Int32) (gend : Int32) (ghal : Int32) (gwro : Int32) (gwai : Int32) (gwpl : Int64) (gwrs : Int32) (ghlt : Int32) (glat : Int32) (glpl : Int32) (amem : Nat → Int32) (p0 : Int32) (p1 : Int64) (p2 : Int32) (post : (Nat → Int32) → Prop) (h : wp_M_setMemory gthr greg gcon gfld gtrn gins glev gkep glvs gkps gwrd gsta gflt gend ghal gwro gwai gwpl gwrs ghlt glat glpl amem p0 p1 p2 post) : zq_Mv l zy_M_setMemory zs_M_setMemory ({ frames := 0, cells := 0, slots := 0, locals := 0 }) D kT [.ref (ad 0), .int p0, .long p1, .int p2] (W_M_setMemory kT ad gthr greg gcon gfld gtrn gins glev gkep glvs gkps gwrd gsta gflt gend ghal gwro gwai gwpl gwrs ghlt glat glpl amem) (fun w' => ∃ (amem' : Nat → Int32), w' = (W_M_setMemory kT ad gthr greg gcon gfld gtrn gins glev gkep glvs gkps gwrd gsta gflt gend ghal gwro gwai gwpl gwrs ghlt glat glpl amem') ∧ post  amem') := by
  refine zq_Mv_of (adl := (A_M_setMemory ad)) (cc := zb_M_setMemory) (maxL := 5) (own := zR_M) rfl (by decide) rfl rfl (Nat.le_of_ble_eq_true rfl) ?_
  intro p e s m AV below meth c A QQ H locs ls hx hb hml hown ht hE hA hret hP hD hS hl
  have hK := hE.1
  have hl : lv_has ls 5 [(0, .ref (ad 0)), (1, .int p0), (2, .long p1), (4, .int p2)] := hl
  refine lv_aload_n hx hb zd_M_setMemory_0 rfl (lv_at hl 0 rfl) ?_
  refine va_get (D := D) (ci := 10) (v := .ref (ad 8)) (C := zR_M) (T := zF_M) (N := 52) hx hb ht zi_M hown hK hP 0 rfl rfl 9 (by decide) (ht _ zw_429) (fun _ h9 => h9) rfl zd_M_setMemory_1 ?_
  refine lv_iload_n hx hb zd_M_setMemory_4 rfl (lv_at hl 1 rfl) ?_
  refine lv_lload_n hx hb zd_M_setMemory_5 rfl (lv_at hl 2 rfl) ?_
  refine lv_l2i (v := (zq_j_l2i p1)) hx hb zd_M_setMemory_6 rfl ?_
  refine lv_i2b (v := (zq_j_i2b (zq_j_l2i p1))) hx hb zd_M_setMemory_7 rfl ?_
  obtain ⟨hi_1, h⟩ := h
  refine zq_a_bast (D := D) hx hb hK hP hD hS 1 3 rfl rfl hi_1 rfl zd_M_setMemory_8 (fun H locs hP hD hS => ?_)
  have hP : va_P D vwCl (W_M_setMemory kT ad gthr greg gcon gfld gtrn gins glev gkep glvs gkps gwrd gsta gflt gend ghal gwro gwai gwpl gwrs ghlt glat glpl (upd amem p0.toNatClampNeg (vp_nar .byte (zq_j_i2b (zq_j_l2i p1))))) H := hP
  have hD : va_D A (W_M_setMemory kT ad gthr greg gcon gfld gtrn gins glev gkep glvs gkps gwrd gsta gflt gend ghal gwro gwai gwpl gwrs ghlt glat glpl (upd amem p0.toNatClampNeg (vp_nar .byte (zq_j_i2b (zq_j_l2i p1))))) := hD
  refine lv_iload hx hb zd_M_setMemory_9 (lv_at hl 3 rfl) ?_
  refine lv_iconst (v := 2) hx hb zd_M_setMemory_11 (by decide) ?_
  refine lv_icmp_ne (tgt := 29) hx hb zd_M_setMemory_12 (by decide) (fun c_2 => ?_) (fun c_2 => ?_)
  · have h := zq_if c_2 h
    exact hret  _ H locs 29 ls ⟨(upd amem p0.toNatClampNeg (vp_nar .byte (zq_j_i2b (zq_j_l2i p1)))), rfl, h⟩ hP rfl hS zd_M_setMemory_29
  · have h := zq_it c_2 h
    refine lv_aload_n hx hb zd_M_setMemory_15 rfl (lv_at hl 0 rfl) ?_
    refine va_get (D := D) (ci := 10) (v := .ref (ad 8)) (C := zR_M) (T := zF_M) (N := 52) hx hb ht zi_M hown hK hP 0 rfl rfl 9 (by decide) (ht _ zw_429) (fun _ h9 => h9) rfl zd_M_setMemory_16 ?_
    refine lv_iload_n hx hb zd_M_setMemory_19 rfl (lv_at hl 1 rfl) ?_
    refine lv_iconst (v := 1) hx hb zd_M_setMemory_20 (by decide) ?_
    refine lv_iadd hx hb zd_M_setMemory_21 ?_
    refine lv_lload_n hx hb zd_M_setMemory_22 rfl (lv_at hl 2 rfl) ?_
    refine lv_bipush (v := 8) hx hb zd_M_setMemory_23 (by decide) ?_
    refine lv_lshr (v := (zq_j_lshr p1 8)) hx hb zd_M_setMemory_25 rfl ?_
    refine lv_l2i (v := (zq_j_l2i (zq_j_lshr p1 8))) hx hb zd_M_setMemory_26 rfl ?_
    refine lv_i2b (v := (zq_j_i2b (zq_j_l2i (zq_j_lshr p1 8)))) hx hb zd_M_setMemory_27 rfl ?_
    obtain ⟨hi_3, h⟩ := h
    refine zq_a_bast (D := D) hx hb hK hP hD hS 1 3 rfl rfl hi_3 rfl zd_M_setMemory_28 (fun H locs hP hD hS => ?_)
    have hP : va_P D vwCl (W_M_setMemory kT ad gthr greg gcon gfld gtrn gins glev gkep glvs gkps gwrd gsta gflt gend ghal gwro gwai gwpl gwrs ghlt glat glpl (upd (upd amem p0.toNatClampNeg (vp_nar .byte (zq_j_i2b (zq_j_l2i p1)))) ((p0 + 1)).toNatClampNeg (vp_nar .byte (zq_j_i2b (zq_j_l2i (zq_j_lshr p1 8)))))) H := hP
    have hD : va_D A (W_M_setMemory kT ad gthr greg gcon gfld gtrn gins glev gkep glvs gkps gwrd gsta gflt gend ghal gwro gwai gwpl gwrs ghlt glat glpl (upd (upd amem p0.toNatClampNeg (vp_nar .byte (zq_j_i2b (zq_j_l2i p1)))) ((p0 + 1)).toNatClampNeg (vp_nar .byte (zq_j_i2b (zq_j_l2i (zq_j_lshr p1 8)))))) := hD
    exact hret  _ H locs 29 ls ⟨(upd (upd amem p0.toNatClampNeg (vp_nar .byte (zq_j_i2b (zq_j_l2i p1)))) ((p0 + 1)).toNatClampNeg (vp_nar .byte (zq_j_i2b (zq_j_l2i (zq_j_lshr p1 8))))), rfl, h⟩ hP rfl hS zd_M_setMemory_29
abbrev W_M_later (kT : Nat → ClassId) (ad : Nat → Nat) (gthr : Int32) (greg : Int32) (gcon : Int32) (gfld : Int32) (gtrn : Int32) (gins : Int32) (glev : Int32) (gkep : Int32) (glvs : Int32) (gkps : Int32) (gwrd : Int32) (gsta : Int32) (gflt : Int32) (gend : Int32) (ghal : Int32) (gwro : Int32) (gwai : Int32) (gwpl : Int64) (gwrs : Int32) (ghlt : Int32) (glat : Int32) (glpl : Int32) (awto : Nat → Int32) (awat : Nat → Int32) (awvl : Nat → Int64) (awmk : Nat → Int32) : va_W := [(ad 0, .inr (10, [.int gthr, .int greg, .ref (ad 1), .ref (ad 2), .ref (ad 3), .ref (ad 4), .ref (ad 5), .ref (ad 6), .ref (ad 7), .ref (ad 8), .ref (ad 9), .int gcon, .int gfld, .int gtrn, .int gins, .ref (ad 10), .ref (ad 11), .ref (ad 12), .ref (ad 13), .ref (ad 14), .ref (ad 15), .ref (ad 16), .ref (ad 17), .ref (ad 18), .ref (ad 19), .ref (ad 20), .ref (ad 21), .ref (ad 22), .ref (ad 23), .int glev, .int gkep, .int glvs, .int gkps, .ref (ad 24), .ref (ad 25), .int gwrd, .int gsta, .int gflt, .int gend, .int ghal, .int gwro, .int gwai, .long gwpl, .int gwrs, .ref (ad 26), .ref (ad 27), .ref (ad 28), .ref (ad 29), .int ghlt, .int glat, .int glpl, .ref (ad 30)])), (ad 26, .inl (kT 0, 200, .inl awto)), (ad 27, .inl (kT 0, 200, .inl awat)), (ad 28, .inl (kT 1, 200, .inr (.inl awvl))), (ad 29, .inl (kT 2, 200, .inl awmk))]
abbrev A_M_later (ad : Nat → Nat) : List Nat := [ad 0, ad 26, ad 27, ad 28, ad 29]
def wp_M_later (gthr : Int32) (greg : Int32) (gcon : Int32) (gfld : Int32) (gtrn : Int32) (gins : Int32) (glev : Int32) (gkep : Int32) (glvs : Int32) (gkps : Int32) (gwrd : Int32) (gsta : Int32) (gflt : Int32) (gend : Int32) (ghal : Int32) (gwro : Int32) (gwai : Int32) (gwpl : Int64) (gwrs : Int32) (ghlt : Int32) (glat : Int32) (glpl : Int32) (awto : Nat → Int32) (awat : Nat → Int32) (awvl : Nat → Int64) (awmk : Nat → Int32) (p0 : Int32) (p1 : Int32) (p2 : Int64) (p3 : Int32) (post : Int32 → (Nat → Int32) → (Nat → Int32) → (Nat → Int64) → (Nat → Int32) → Prop) : Prop := vp_in gwrs 200 ∧ vp_in gwrs 200 ∧ vp_in gwrs 200 ∧ vp_in gwrs 200 ∧ post  (gwrs + 1) (upd awto gwrs.toNatClampNeg p0) (upd awat gwrs.toNatClampNeg p1) (vp_updL awvl gwrs.toNatClampNeg p2) (upd awmk gwrs.toNatClampNeg (vp_nar .boolean p3))
set_option maxHeartbeats 4000000 in
set_option maxRecDepth 100000 in
theorem c_M_later (l : Launch) (D : va_G) (kT : Nat → ClassId) (ad : Nat → Nat) (gthr : Int32) (greg : Int32) (gcon : Int32) (gfld : Int32) (gtrn : Int32) (gins : Int32) (glev : Int32) (gkep : Int32) (glvs : Int32) (gkps : Int32) (gwrd : Int32) (gsta : Int32) (gflt : Int32) (gend : Int32) (ghal : Int32) (gwro : Int32) (gwai : Int32) (gwpl : Int64) (gwrs : Int32) (ghlt : Int32) (glat : Int32) (glpl : Int32) (awto : Nat → Int32) (awat : Nat → Int32) (awvl : Nat → Int64) (awmk : Nat → Int32) (p0 : Int32) (p1 : Int32) (p2 : Int64) (p3 : Int32) (post : Int32 → (Nat → Int32) → (Nat → Int32) → (Nat → Int64) → (Nat → Int32) → Prop) (h : wp_M_later gthr greg gcon gfld gtrn gins glev gkep glvs gkps gwrd gsta gflt gend ghal gwro gwai gwpl gwrs ghlt glat glpl awto awat awvl awmk p0 p1 p2 p3 post) : zq_Mv l zy_M_later zs_M_later ({ frames := 0, cells := 0, slots := 0, locals := 0 }) D kT [.ref (ad 0), .int p0, .int p1, .long p2, .int p3] (W_M_later kT ad gthr greg gcon gfld gtrn gins glev gkep glvs gkps gwrd gsta gflt gend ghal gwro gwai gwpl gwrs ghlt glat glpl awto awat awvl awmk) (fun w' => ∃ (gwrs' : Int32) (awto' : Nat → Int32) (awat' : Nat → Int32) (awvl' : Nat → Int64) (awmk' : Nat → Int32), w' = (W_M_later kT ad gthr greg gcon gfld gtrn gins glev gkep glvs gkps gwrd gsta gflt gend ghal gwro gwai gwpl gwrs' ghlt glat glpl awto' awat' awvl' awmk') ∧ post  gwrs' awto' awat' awvl' awmk') := by
  refine zq_Mv_of (adl := (A_M_later ad)) (cc := zb_M_later) (maxL := 6) (own := zR_M) rfl (by decide) rfl rfl (Nat.le_of_ble_eq_true rfl) ?_
  intro p e s m AV below meth c A QQ H locs ls hx hb hml hown ht hE hA hret hP hD hS hl
  have hK := hE.1
  have hl : lv_has ls 6 [(0, .ref (ad 0)), (1, .int p0), (2, .int p1), (3, .long p2), (5, .int p3)] := hl
  refine lv_aload_n hx hb zd_M_later_0 rfl (lv_at hl 0 rfl) ?_
  refine va_get (D := D) (ci := 10) (v := .ref (ad 26)) (C := zR_M) (T := zF_M) (N := 52) hx hb ht zi_M hown hK hP 0 rfl rfl 44 (by decide) (ht _ zw_455) (fun _ h9 => h9) rfl zd_M_later_1 ?_
  refine lv_aload_n hx hb zd_M_later_4 rfl (lv_at hl 0 rfl) ?_
  refine va_get (D := D) (ci := 10) (v := .int gwrs) (C := zR_M) (T := zF_M) (N := 52) hx hb ht zi_M hown hK hP 0 rfl rfl 43 (by decide) (ht _ zw_456) (fun _ h9 => h9) rfl zd_M_later_5 ?_
  refine lv_iload_n hx hb zd_M_later_8 rfl (lv_at hl 1 rfl) ?_
  obtain ⟨hi_1, h⟩ := h
  refine zq_a_iast (D := D) hx hb hK hP hD hS 1 0 rfl rfl hi_1 rfl zd_M_later_9 (fun H locs hP hD hS => ?_)
  have hP : va_P D vwCl (W_M_later kT ad gthr greg gcon gfld gtrn gins glev gkep glvs gkps gwrd gsta gflt gend ghal gwro gwai gwpl gwrs ghlt glat glpl (upd awto gwrs.toNatClampNeg p0) awat awvl awmk) H := hP
  have hD : va_D A (W_M_later kT ad gthr greg gcon gfld gtrn gins glev gkep glvs gkps gwrd gsta gflt gend ghal gwro gwai gwpl gwrs ghlt glat glpl (upd awto gwrs.toNatClampNeg p0) awat awvl awmk) := hD
  refine lv_aload_n hx hb zd_M_later_10 rfl (lv_at hl 0 rfl) ?_
  refine va_get (D := D) (ci := 10) (v := .ref (ad 27)) (C := zR_M) (T := zF_M) (N := 52) hx hb ht zi_M hown hK hP 0 rfl rfl 45 (by decide) (ht _ zw_457) (fun _ h9 => h9) rfl zd_M_later_11 ?_
  refine lv_aload_n hx hb zd_M_later_14 rfl (lv_at hl 0 rfl) ?_
  refine va_get (D := D) (ci := 10) (v := .int gwrs) (C := zR_M) (T := zF_M) (N := 52) hx hb ht zi_M hown hK hP 0 rfl rfl 43 (by decide) (ht _ zw_456) (fun _ h9 => h9) rfl zd_M_later_15 ?_
  refine lv_iload_n hx hb zd_M_later_18 rfl (lv_at hl 2 rfl) ?_
  obtain ⟨hi_2, h⟩ := h
  refine zq_a_iast (D := D) hx hb hK hP hD hS 2 0 rfl rfl hi_2 rfl zd_M_later_19 (fun H locs hP hD hS => ?_)
  have hP : va_P D vwCl (W_M_later kT ad gthr greg gcon gfld gtrn gins glev gkep glvs gkps gwrd gsta gflt gend ghal gwro gwai gwpl gwrs ghlt glat glpl (upd awto gwrs.toNatClampNeg p0) (upd awat gwrs.toNatClampNeg p1) awvl awmk) H := hP
  have hD : va_D A (W_M_later kT ad gthr greg gcon gfld gtrn gins glev gkep glvs gkps gwrd gsta gflt gend ghal gwro gwai gwpl gwrs ghlt glat glpl (upd awto gwrs.toNatClampNeg p0) (upd awat gwrs.toNatClampNeg p1) awvl awmk) := hD
  refine lv_aload_n hx hb zd_M_later_20 rfl (lv_at hl 0 rfl) ?_
  refine va_get (D := D) (ci := 10) (v := .ref (ad 28)) (C := zR_M) (T := zF_M) (N := 52) hx hb ht zi_M hown hK hP 0 rfl rfl 46 (by decide) (ht _ zw_458) (fun _ h9 => h9) rfl zd_M_later_21 ?_
  refine lv_aload_n hx hb zd_M_later_24 rfl (lv_at hl 0 rfl) ?_
  refine va_get (D := D) (ci := 10) (v := .int gwrs) (C := zR_M) (T := zF_M) (N := 52) hx hb ht zi_M hown hK hP 0 rfl rfl 43 (by decide) (ht _ zw_456) (fun _ h9 => h9) rfl zd_M_later_25 ?_
  refine lv_lload_n hx hb zd_M_later_28 rfl (lv_at hl 3 rfl) ?_
  obtain ⟨hi_3, h⟩ := h
  refine zq_a_last (D := D) hx hb hK hP hD hS 3 1 rfl rfl hi_3 rfl zd_M_later_29 (fun H locs hP hD hS => ?_)
  have hP : va_P D vwCl (W_M_later kT ad gthr greg gcon gfld gtrn gins glev gkep glvs gkps gwrd gsta gflt gend ghal gwro gwai gwpl gwrs ghlt glat glpl (upd awto gwrs.toNatClampNeg p0) (upd awat gwrs.toNatClampNeg p1) (vp_updL awvl gwrs.toNatClampNeg p2) awmk) H := hP
  have hD : va_D A (W_M_later kT ad gthr greg gcon gfld gtrn gins glev gkep glvs gkps gwrd gsta gflt gend ghal gwro gwai gwpl gwrs ghlt glat glpl (upd awto gwrs.toNatClampNeg p0) (upd awat gwrs.toNatClampNeg p1) (vp_updL awvl gwrs.toNatClampNeg p2) awmk) := hD
  refine lv_aload_n hx hb zd_M_later_30 rfl (lv_at hl 0 rfl) ?_
  refine va_get (D := D) (ci := 10) (v := .ref (ad 29)) (C := zR_M) (T := zF_M) (N := 52) hx hb ht zi_M hown hK hP 0 rfl rfl 47 (by decide) (ht _ zw_459) (fun _ h9 => h9) rfl zd_M_later_31 ?_
  refine lv_aload_n hx hb zd_M_later_34 rfl (lv_at hl 0 rfl) ?_
  refine va_get (D := D) (ci := 10) (v := .int gwrs) (C := zR_M) (T := zF_M) (N := 52) hx hb ht zi_M hown hK hP 0 rfl rfl 43 (by decide) (ht _ zw_456) (fun _ h9 => h9) rfl zd_M_later_35 ?_
  refine lv_iload hx hb zd_M_later_38 (lv_at hl 4 rfl) ?_
  obtain ⟨hi_4, h⟩ := h
  refine zq_a_zast (D := D) hx hb hK hP hD hS 4 2 rfl rfl hi_4 rfl zd_M_later_40 (fun H locs hP hD hS => ?_)
  have hP : va_P D vwCl (W_M_later kT ad gthr greg gcon gfld gtrn gins glev gkep glvs gkps gwrd gsta gflt gend ghal gwro gwai gwpl gwrs ghlt glat glpl (upd awto gwrs.toNatClampNeg p0) (upd awat gwrs.toNatClampNeg p1) (vp_updL awvl gwrs.toNatClampNeg p2) (upd awmk gwrs.toNatClampNeg (vp_nar .boolean p3))) H := hP
  have hD : va_D A (W_M_later kT ad gthr greg gcon gfld gtrn gins glev gkep glvs gkps gwrd gsta gflt gend ghal gwro gwai gwpl gwrs ghlt glat glpl (upd awto gwrs.toNatClampNeg p0) (upd awat gwrs.toNatClampNeg p1) (vp_updL awvl gwrs.toNatClampNeg p2) (upd awmk gwrs.toNatClampNeg (vp_nar .boolean p3))) := hD
  refine lv_aload_n hx hb zd_M_later_41 rfl (lv_at hl 0 rfl) ?_
  refine lv_dup hx hb zd_M_later_42 rfl ?_
  refine va_get (D := D) (ci := 10) (v := .int gwrs) (C := zR_M) (T := zF_M) (N := 52) hx hb ht zi_M hown hK hP 0 rfl rfl 43 (by decide) (ht _ zw_456) (fun _ h9 => h9) rfl zd_M_later_43 ?_
  refine lv_iconst (v := 1) hx hb zd_M_later_46 (by decide) ?_
  refine lv_iadd hx hb zd_M_later_47 ?_
  refine va_put (D := D) (ci := 10) (v := .int (gwrs + 1)) (ty := .int) (C := zR_M) (T := zF_M) (N := 52) hx hb ht zi_M zt_M zt_M_ok zn_M hown hK hP hD hS 0 rfl rfl 43 (by decide) (ht _ zw_456) (fun _ h9 => h9) rfl (by decide +kernel) rfl rfl (Nat.le_of_ble_eq_true rfl) zd_M_later_48 (fun H locs hP hD hS => ?_)
  have hP : va_P D vwCl (W_M_later kT ad gthr greg gcon gfld gtrn gins glev gkep glvs gkps gwrd gsta gflt gend ghal gwro gwai gwpl (gwrs + 1) ghlt glat glpl (upd awto gwrs.toNatClampNeg p0) (upd awat gwrs.toNatClampNeg p1) (vp_updL awvl gwrs.toNatClampNeg p2) (upd awmk gwrs.toNatClampNeg (vp_nar .boolean p3))) H := hP
  have hD : va_D A (W_M_later kT ad gthr greg gcon gfld gtrn gins glev gkep glvs gkps gwrd gsta gflt gend ghal gwro gwai gwpl (gwrs + 1) ghlt glat glpl (upd awto gwrs.toNatClampNeg p0) (upd awat gwrs.toNatClampNeg p1) (vp_updL awvl gwrs.toNatClampNeg p2) (upd awmk gwrs.toNatClampNeg (vp_nar .boolean p3))) := hD
  exact hret  _ H locs 51 ls ⟨(gwrs + 1), (upd awto gwrs.toNatClampNeg p0), (upd awat gwrs.toNatClampNeg p1), (vp_updL awvl gwrs.toNatClampNeg p2), (upd awmk gwrs.toNatClampNeg (vp_nar .boolean p3)), rfl, h⟩ hP rfl hS zd_M_later_51
abbrev W_M_result (kT : Nat → ClassId) (ad : Nat → Nat) (gthr : Int32) (greg : Int32) (gcon : Int32) (gfld : Int32) (gtrn : Int32) (gins : Int32) (glev : Int32) (gkep : Int32) (glvs : Int32) (gkps : Int32) (gwrd : Int32) (gsta : Int32) (gflt : Int32) (gend : Int32) (ghal : Int32) (gwro : Int32) (gwai : Int32) (gwpl : Int64) (gwrs : Int32) (ghlt : Int32) (glat : Int32) (glpl : Int32) (awid : Nat → Int32) (aval : Nat → Int64) (amrk : Nat → Int32) (atgt : Nat → Int32) (ahow : Nat → Int32) (awto : Nat → Int32) (awat : Nat → Int32) (awvl : Nat → Int64) (awmk : Nat → Int32) : va_W := [(ad 0, .inr (10, [.int gthr, .int greg, .ref (ad 1), .ref (ad 2), .ref (ad 3), .ref (ad 4), .ref (ad 5), .ref (ad 6), .ref (ad 7), .ref (ad 8), .ref (ad 9), .int gcon, .int gfld, .int gtrn, .int gins, .ref (ad 10), .ref (ad 11), .ref (ad 12), .ref (ad 13), .ref (ad 14), .ref (ad 15), .ref (ad 16), .ref (ad 17), .ref (ad 18), .ref (ad 19), .ref (ad 20), .ref (ad 21), .ref (ad 22), .ref (ad 23), .int glev, .int gkep, .int glvs, .int gkps, .ref (ad 24), .ref (ad 25), .int gwrd, .int gsta, .int gflt, .int gend, .int ghal, .int gwro, .int gwai, .long gwpl, .int gwrs, .ref (ad 26), .ref (ad 27), .ref (ad 28), .ref (ad 29), .int ghlt, .int glat, .int glpl, .ref (ad 30)])), (ad 1, .inl (kT 0, 24, .inl awid)), (ad 2, .inl (kT 1, 24, .inr (.inl aval))), (ad 5, .inl (kT 2, 24, .inl amrk)), (ad 17, .inl (kT 0, 200, .inl atgt)), (ad 20, .inl (kT 0, 40, .inl ahow)), (ad 26, .inl (kT 0, 200, .inl awto)), (ad 27, .inl (kT 0, 200, .inl awat)), (ad 28, .inl (kT 1, 200, .inr (.inl awvl))), (ad 29, .inl (kT 2, 200, .inl awmk))]
abbrev A_M_result (ad : Nat → Nat) : List Nat := [ad 0, ad 1, ad 2, ad 5, ad 17, ad 20, ad 26, ad 27, ad 28, ad 29]
def wp_M_result (gthr : Int32) (greg : Int32) (gcon : Int32) (gfld : Int32) (gtrn : Int32) (gins : Int32) (glev : Int32) (gkep : Int32) (glvs : Int32) (gkps : Int32) (gwrd : Int32) (gsta : Int32) (gflt : Int32) (gend : Int32) (ghal : Int32) (gwro : Int32) (gwai : Int32) (gwpl : Int64) (gwrs : Int32) (ghlt : Int32) (glat : Int32) (glpl : Int32) (awid : Nat → Int32) (aval : Nat → Int64) (amrk : Nat → Int32) (atgt : Nat → Int32) (ahow : Nat → Int32) (awto : Nat → Int32) (awat : Nat → Int32) (awvl : Nat → Int64) (awmk : Nat → Int32) (p0 : Int32) (p1 : Int32) (p2 : Int64) (p3 : Int32) (post : Int32 → Int32 → (Nat → Int64) → (Nat → Int32) → (Nat → Int32) → (Nat → Int32) → (Nat → Int64) → (Nat → Int32) → Prop) : Prop := vp_in p1 200 ∧ wp_M_cut gthr greg gcon gfld gtrn gins glev gkep glvs gkps gwrd gsta gflt gend ghal gwro gwai gwpl gwrs ghlt glat glpl awid (atgt p1.toNatClampNeg) p2 (fun r_2 => wp_M_isParallel gthr greg gcon gfld gtrn gins glev gkep glvs gkps gwrd gsta gflt gend ghal gwro gwai gwpl gwrs ghlt glat glpl ahow p0 (fun r_3 => (if r_3 = 0 then vp_in p1 200 ∧ wp_M_setRegister gthr greg gcon gfld gtrn gins glev gkep glvs gkps gwrd gsta gflt gend ghal gwro gwai gwpl gwrs ghlt glat glpl aval amrk (atgt p1.toNatClampNeg) r_2 p3 (fun gwro_6 aval_7 amrk_8 => post  gwro_6 gwrs aval_7 amrk_8 awto awat awvl awmk) else vp_in p1 200 ∧ wp_M_later gthr greg gcon gfld gtrn gins glev gkep glvs gkps gwrd gsta gflt gend ghal gwro gwai gwpl gwrs ghlt glat glpl awto awat awvl awmk (atgt p1.toNatClampNeg) 0 r_2 p3 (fun gwrs_11 awto_12 awat_13 awvl_14 awmk_15 => post  gwro gwrs_11 aval amrk awto_12 awat_13 awvl_14 awmk_15))))
set_option maxHeartbeats 4000000 in
set_option maxRecDepth 100000 in
theorem c_M_result (l : Launch) (D : va_G) (kT : Nat → ClassId) (ad : Nat → Nat) (gthr : Int32) (greg : Int32) (gcon : Int32) (gfld : Int32) (gtrn : Int32) (gins : Int32) (glev : Int32) (gkep : Int32) (glvs : Int32) (gkps : Int32) (gwrd : Int32) (gsta : Int32) (gflt : Int32) (gend : Int32) (ghal : Int32) (gwro : Int32) (gwai : Int32) (gwpl : Int64) (gwrs : Int32) (ghlt : Int32) (glat : Int32) (glpl : Int32) (awid : Nat → Int32) (aval : Nat → Int64) (amrk : Nat → Int32) (atgt : Nat → Int32) (ahow : Nat → Int32) (awto : Nat → Int32) (awat : Nat → Int32) (awvl : Nat → Int64) (awmk : Nat → Int32) (p0 : Int32) (p1 : Int32) (p2 : Int64) (p3 : Int32) (post : Int32 → Int32 → (Nat → Int64) → (Nat → Int32) → (Nat → Int32) → (Nat → Int32) → (Nat → Int64) → (Nat → Int32) → Prop) (h : wp_M_result gthr greg gcon gfld gtrn gins glev gkep glvs gkps gwrd gsta gflt gend ghal gwro gwai gwpl gwrs ghlt glat glpl awid aval amrk atgt ahow awto awat awvl awmk p0 p1 p2 p3 post) : zq_Mv l zy_M_result zs_M_result ({ frames := 1, cells := 0, slots := 0, locals := 25 }) D kT [.ref (ad 0), .int p0, .int p1, .long p2, .int p3] (W_M_result kT ad gthr greg gcon gfld gtrn gins glev gkep glvs gkps gwrd gsta gflt gend ghal gwro gwai gwpl gwrs ghlt glat glpl awid aval amrk atgt ahow awto awat awvl awmk) (fun w' => ∃ (gwro' : Int32) (gwrs' : Int32) (aval' : Nat → Int64) (amrk' : Nat → Int32) (awto' : Nat → Int32) (awat' : Nat → Int32) (awvl' : Nat → Int64) (awmk' : Nat → Int32), w' = (W_M_result kT ad gthr greg gcon gfld gtrn gins glev gkep glvs gkps gwrd gsta gflt gend ghal gwro' gwai gwpl gwrs' ghlt glat glpl awid aval' amrk' atgt ahow awto' awat' awvl' awmk') ∧ post  gwro' gwrs' aval' amrk' awto' awat' awvl' awmk') := by
  refine zq_Mv_of (adl := (A_M_result ad)) (cc := zb_M_result) (maxL := 8) (own := zR_M) rfl (by decide) rfl rfl (Nat.le_of_ble_eq_true rfl) ?_
  intro p e s m AV below meth c A QQ H locs ls hx hb hml hown ht hE hA hret hP hD hS hl
  have hK := hE.1
  have hl : lv_has ls 8 [(0, .ref (ad 0)), (1, .int p0), (2, .int p1), (3, .long p2), (5, .int p3)] := hl
  refine lv_aload_n hx hb zd_M_result_0 rfl (lv_at hl 0 rfl) ?_
  refine lv_aload_n hx hb zd_M_result_1 rfl (lv_at hl 0 rfl) ?_
  refine va_get (D := D) (ci := 10) (v := .ref (ad 17)) (C := zR_M) (T := zF_M) (N := 52) hx hb ht zi_M hown hK hP 0 rfl rfl 22 (by decide) (ht _ zw_419) (fun _ h9 => h9) rfl zd_M_result_2 ?_
  refine lv_iload_n hx hb zd_M_result_5 rfl (lv_at hl 2 rfl) ?_
  obtain ⟨hi_1, h⟩ := h
  refine zq_a_iald (D := D) hx hb hK hP 4 0 rfl rfl hi_1 rfl zd_M_result_6 ?_
  refine lv_lload_n hx hb zd_M_result_7 rfl (lv_at hl 3 rfl) ?_
  refine zq_c_Vl (rest := []) (adl := (A_M_result ad)) (wr := [(ad 2, .inl (kT 1, 24, .inr (.inl aval))), (ad 5, .inl (kT 2, 24, .inl amrk)), (ad 17, .inl (kT 0, 200, .inl atgt)), (ad 20, .inl (kT 0, 40, .inl ahow)), (ad 26, .inl (kT 0, 200, .inl awto)), (ad 27, .inl (kT 0, 200, .inl awat)), (ad 28, .inl (kT 1, 200, .inr (.inl awvl))), (ad 29, .inl (kT 2, 200, .inl awmk))]) ⟨hx, hb, hml, hown, ht⟩ (c_M_cut l D kT ad gthr greg gcon gfld gtrn gins glev gkep glvs gkps gwrd gsta gflt gend ghal gwro gwai gwpl gwrs ghlt glat glpl awid (atgt p1.toNatClampNeg) p2 _ h) (cwV 2 ht (zq_gV zw_460 zw_461 zw_462 zw_393 zw_463) rfl rfl rfl zh_M_cut ⟨Nat.le_of_ble_eq_true rfl, Nat.le_of_ble_eq_true rfl⟩) hE hP hD hS hA [0, 1] [2, 3, 4, 5, 6, 7, 8, 9] 10 rfl (by decide +kernel) rfl (by decide +kernel) rfl rfl 0 rfl rfl rfl rfl hl.1 (Nat.le_of_ble_eq_true rfl) rfl zd_M_result_8 ⟨Nat.zero_le _, Nat.zero_le _⟩ (fun r_2 w1 H locs hw hJ hS => ?_)
  obtain ⟨rfl, h⟩ := hw
  obtain ⟨hP, hD⟩ := hJ (W_M_result kT ad gthr greg gcon gfld gtrn gins glev gkep glvs gkps gwrd gsta gflt gend ghal gwro gwai gwpl gwrs ghlt glat glpl awid aval amrk atgt ahow awto awat awvl awmk) rfl rfl rfl
  refine lv_lstore (lv' := [(6, .long r_2), (0, .ref (ad 0)), (1, .int p0), (2, .int p1), (3, .long p2), (5, .int p3)]) hx hb zd_M_result_11 hl (by decide) rfl (fun ls hl => ?_)
  refine lv_aload_n hx hb zd_M_result_13 rfl (lv_at hl 1 rfl) ?_
  refine lv_iload_n hx hb zd_M_result_14 rfl (lv_at hl 2 rfl) ?_
  refine zq_c_Vi (rest := []) (adl := (A_M_result ad)) (wr := [(ad 1, .inl (kT 0, 24, .inl awid)), (ad 2, .inl (kT 1, 24, .inr (.inl aval))), (ad 5, .inl (kT 2, 24, .inl amrk)), (ad 17, .inl (kT 0, 200, .inl atgt)), (ad 26, .inl (kT 0, 200, .inl awto)), (ad 27, .inl (kT 0, 200, .inl awat)), (ad 28, .inl (kT 1, 200, .inr (.inl awvl))), (ad 29, .inl (kT 2, 200, .inl awmk))]) ⟨hx, hb, hml, hown, ht⟩ (c_M_isParallel l D kT ad gthr greg gcon gfld gtrn gins glev gkep glvs gkps gwrd gsta gflt gend ghal gwro gwai gwpl gwrs ghlt glat glpl ahow p0 _ h) (cwV 1 ht (zq_gV zw_447 zw_448 zw_449 zw_393 zw_450) rfl rfl rfl zh_M_isParallel ⟨Nat.le_of_ble_eq_true rfl, Nat.le_of_ble_eq_true rfl⟩) hE hP hD hS hA [0, 5] [1, 2, 3, 4, 6, 7, 8, 9] 10 rfl (by decide +kernel) rfl (by decide +kernel) rfl rfl 0 rfl rfl rfl rfl hl.1 (Nat.le_of_ble_eq_true rfl) rfl zd_M_result_15 ⟨Nat.zero_le _, Nat.zero_le _⟩ (fun r_3 w1 H locs hw hJ hS => ?_)
  obtain ⟨rfl, h⟩ := hw
  obtain ⟨hP, hD⟩ := hJ (W_M_result kT ad gthr greg gcon gfld gtrn gins glev gkep glvs gkps gwrd gsta gflt gend ghal gwro gwai gwpl gwrs ghlt glat glpl awid aval amrk atgt ahow awto awat awvl awmk) rfl rfl rfl
  refine lv_if_eq (tgt := 39) hx hb zd_M_result_18 (by decide) (fun c_4 => ?_) (fun c_4 => ?_)
  · have h := zq_it c_4 h
    refine lv_aload_n hx hb zd_M_result_39 rfl (lv_at hl 1 rfl) ?_
    refine lv_aload_n hx hb zd_M_result_40 rfl (lv_at hl 1 rfl) ?_
    refine va_get (D := D) (ci := 10) (v := .ref (ad 17)) (C := zR_M) (T := zF_M) (N := 52) hx hb ht zi_M hown hK hP 0 rfl rfl 22 (by decide) (ht _ zw_419) (fun _ h9 => h9) rfl zd_M_result_41 ?_
    refine lv_iload_n hx hb zd_M_result_44 rfl (lv_at hl 3 rfl) ?_
    obtain ⟨hi_5, h⟩ := h
    refine zq_a_iald (D := D) hx hb hK hP 4 0 rfl rfl hi_5 rfl zd_M_result_45 ?_
    refine lv_lload hx hb zd_M_result_46 (lv_at hl 0 rfl) ?_
    refine lv_iload hx hb zd_M_result_48 (lv_at hl 5 rfl) ?_
    refine zq_c_Vv (rest := []) (adl := (A_M_result ad)) (wr := [(ad 1, .inl (kT 0, 24, .inl awid)), (ad 17, .inl (kT 0, 200, .inl atgt)), (ad 20, .inl (kT 0, 40, .inl ahow)), (ad 26, .inl (kT 0, 200, .inl awto)), (ad 27, .inl (kT 0, 200, .inl awat)), (ad 28, .inl (kT 1, 200, .inr (.inl awvl))), (ad 29, .inl (kT 2, 200, .inl awmk))]) ⟨hx, hb, hml, hown, ht⟩ (c_M_setRegister l D kT ad gthr greg gcon gfld gtrn gins glev gkep glvs gkps gwrd gsta gflt gend ghal gwro gwai gwpl gwrs ghlt glat glpl aval amrk (atgt p1.toNatClampNeg) r_2 p3 _ h) (cwV 3 ht (zq_gV zw_464 zw_465 zw_466 zw_393 zw_467) rfl rfl rfl zh_M_setRegister ⟨Nat.le_of_ble_eq_true rfl, Nat.le_of_ble_eq_true rfl⟩) hE hP hD hS hA [0, 2, 3] [1, 4, 5, 6, 7, 8, 9] 10 rfl (by decide +kernel) rfl (by decide +kernel) rfl rfl 0 rfl rfl rfl rfl hl.1 (Nat.le_of_ble_eq_true rfl) rfl zd_M_result_50 ⟨Nat.zero_le _, Nat.zero_le _⟩ (fun w1 H locs hw hJ hS => ?_)
    obtain ⟨gwro_6, aval_7, amrk_8, rfl, h⟩ := hw
    obtain ⟨hP, hD⟩ := hJ (W_M_result kT ad gthr greg gcon gfld gtrn gins glev gkep glvs gkps gwrd gsta gflt gend ghal gwro_6 gwai gwpl gwrs ghlt glat glpl awid aval_7 amrk_8 atgt ahow awto awat awvl awmk) rfl rfl rfl
    exact hret  _ H locs 53 ls ⟨gwro_6, gwrs, aval_7, amrk_8, awto, awat, awvl, awmk, rfl, h⟩ hP rfl hS zd_M_result_53
  · have h := zq_if c_4 h
    refine lv_aload_n hx hb zd_M_result_21 rfl (lv_at hl 1 rfl) ?_
    refine lv_aload_n hx hb zd_M_result_22 rfl (lv_at hl 1 rfl) ?_
    refine va_get (D := D) (ci := 10) (v := .ref (ad 17)) (C := zR_M) (T := zF_M) (N := 52) hx hb ht zi_M hown hK hP 0 rfl rfl 22 (by decide) (ht _ zw_419) (fun _ h9 => h9) rfl zd_M_result_23 ?_
    refine lv_iload_n hx hb zd_M_result_26 rfl (lv_at hl 3 rfl) ?_
    obtain ⟨hi_10, h⟩ := h
    refine zq_a_iald (D := D) hx hb hK hP 4 0 rfl rfl hi_10 rfl zd_M_result_27 ?_
    refine lv_iconst (v := 0) hx hb zd_M_result_28 (by decide) ?_
    refine lv_lload hx hb zd_M_result_29 (lv_at hl 0 rfl) ?_
    refine lv_iload hx hb zd_M_result_31 (lv_at hl 5 rfl) ?_
    refine zq_c_Vv (rest := []) (adl := (A_M_result ad)) (wr := [(ad 1, .inl (kT 0, 24, .inl awid)), (ad 2, .inl (kT 1, 24, .inr (.inl aval))), (ad 5, .inl (kT 2, 24, .inl amrk)), (ad 17, .inl (kT 0, 200, .inl atgt)), (ad 20, .inl (kT 0, 40, .inl ahow))]) ⟨hx, hb, hml, hown, ht⟩ (c_M_later l D kT ad gthr greg gcon gfld gtrn gins glev gkep glvs gkps gwrd gsta gflt gend ghal gwro gwai gwpl gwrs ghlt glat glpl awto awat awvl awmk (atgt p1.toNatClampNeg) 0 r_2 p3 _ h) (cwV 4 ht (zq_gV zw_468 zw_469 zw_470 zw_393 zw_471) rfl rfl rfl zh_M_later ⟨Nat.le_of_ble_eq_true rfl, Nat.le_of_ble_eq_true rfl⟩) hE hP hD hS hA [0, 6, 7, 8, 9] [1, 2, 3, 4, 5] 10 rfl (by decide +kernel) rfl (by decide +kernel) rfl rfl 0 rfl rfl rfl rfl hl.1 (Nat.le_of_ble_eq_true rfl) rfl zd_M_result_33 ⟨Nat.zero_le _, Nat.zero_le _⟩ (fun w1 H locs hw hJ hS => ?_)
    obtain ⟨gwrs_11, awto_12, awat_13, awvl_14, awmk_15, rfl, h⟩ := hw
    obtain ⟨hP, hD⟩ := hJ (W_M_result kT ad gthr greg gcon gfld gtrn gins glev gkep glvs gkps gwrd gsta gflt gend ghal gwro gwai gwpl gwrs_11 ghlt glat glpl awid aval amrk atgt ahow awto_12 awat_13 awvl_14 awmk_15) rfl rfl rfl
    refine lv_goto (tgt := 53) hx hb zd_M_result_36 (by decide) ?_
    exact hret  _ H locs 53 ls ⟨gwro, gwrs_11, aval, amrk, awto_12, awat_13, awvl_14, awmk_15, rfl, h⟩ hP rfl hS zd_M_result_53
abbrev W_M_markOnly (kT : Nat → ClassId) (ad : Nat → Nat) (gthr : Int32) (greg : Int32) (gcon : Int32) (gfld : Int32) (gtrn : Int32) (gins : Int32) (glev : Int32) (gkep : Int32) (glvs : Int32) (gkps : Int32) (gwrd : Int32) (gsta : Int32) (gflt : Int32) (gend : Int32) (ghal : Int32) (gwro : Int32) (gwai : Int32) (gwpl : Int64) (gwrs : Int32) (ghlt : Int32) (glat : Int32) (glpl : Int32) (amrk : Nat → Int32) (ahow : Nat → Int32) (awto : Nat → Int32) (awat : Nat → Int32) (awvl : Nat → Int64) (awmk : Nat → Int32) : va_W := [(ad 0, .inr (10, [.int gthr, .int greg, .ref (ad 1), .ref (ad 2), .ref (ad 3), .ref (ad 4), .ref (ad 5), .ref (ad 6), .ref (ad 7), .ref (ad 8), .ref (ad 9), .int gcon, .int gfld, .int gtrn, .int gins, .ref (ad 10), .ref (ad 11), .ref (ad 12), .ref (ad 13), .ref (ad 14), .ref (ad 15), .ref (ad 16), .ref (ad 17), .ref (ad 18), .ref (ad 19), .ref (ad 20), .ref (ad 21), .ref (ad 22), .ref (ad 23), .int glev, .int gkep, .int glvs, .int gkps, .ref (ad 24), .ref (ad 25), .int gwrd, .int gsta, .int gflt, .int gend, .int ghal, .int gwro, .int gwai, .long gwpl, .int gwrs, .ref (ad 26), .ref (ad 27), .ref (ad 28), .ref (ad 29), .int ghlt, .int glat, .int glpl, .ref (ad 30)])), (ad 5, .inl (kT 2, 24, .inl amrk)), (ad 20, .inl (kT 0, 40, .inl ahow)), (ad 26, .inl (kT 0, 200, .inl awto)), (ad 27, .inl (kT 0, 200, .inl awat)), (ad 28, .inl (kT 1, 200, .inr (.inl awvl))), (ad 29, .inl (kT 2, 200, .inl awmk))]
abbrev A_M_markOnly (ad : Nat → Nat) : List Nat := [ad 0, ad 5, ad 20, ad 26, ad 27, ad 28, ad 29]
def wp_M_markOnly (gthr : Int32) (greg : Int32) (gcon : Int32) (gfld : Int32) (gtrn : Int32) (gins : Int32) (glev : Int32) (gkep : Int32) (glvs : Int32) (gkps : Int32) (gwrd : Int32) (gsta : Int32) (gflt : Int32) (gend : Int32) (ghal : Int32) (gwro : Int32) (gwai : Int32) (gwpl : Int64) (gwrs : Int32) (ghlt : Int32) (glat : Int32) (glpl : Int32) (amrk : Nat → Int32) (ahow : Nat → Int32) (awto : Nat → Int32) (awat : Nat → Int32) (awvl : Nat → Int64) (awmk : Nat → Int32) (p0 : Int32) (p1 : Int32) (post : Int32 → (Nat → Int32) → (Nat → Int32) → (Nat → Int32) → (Nat → Int64) → (Nat → Int32) → Prop) : Prop := wp_M_isParallel gthr greg gcon gfld gtrn gins glev gkep glvs gkps gwrd gsta gflt gend ghal gwro gwai gwpl gwrs ghlt glat glpl ahow p0 (fun r_1 => (if r_1 = 0 then vp_in p1 24 ∧ post  gwrs (upd amrk p1.toNatClampNeg (vp_nar .boolean 1)) awto awat awvl awmk else wp_M_later gthr greg gcon gfld gtrn gins glev gkep glvs gkps gwrd gsta gflt gend ghal gwro gwai gwpl gwrs ghlt glat glpl awto awat awvl awmk (26 + p1) 0 0 1 (fun gwrs_4 awto_5 awat_6 awvl_7 awmk_8 => post  gwrs_4 amrk awto_5 awat_6 awvl_7 awmk_8)))
set_option maxHeartbeats 4000000 in
set_option maxRecDepth 100000 in
theorem c_M_markOnly (l : Launch) (D : va_G) (kT : Nat → ClassId) (ad : Nat → Nat) (gthr : Int32) (greg : Int32) (gcon : Int32) (gfld : Int32) (gtrn : Int32) (gins : Int32) (glev : Int32) (gkep : Int32) (glvs : Int32) (gkps : Int32) (gwrd : Int32) (gsta : Int32) (gflt : Int32) (gend : Int32) (ghal : Int32) (gwro : Int32) (gwai : Int32) (gwpl : Int64) (gwrs : Int32) (ghlt : Int32) (glat : Int32) (glpl : Int32) (amrk : Nat → Int32) (ahow : Nat → Int32) (awto : Nat → Int32) (awat : Nat → Int32) (awvl : Nat → Int64) (awmk : Nat → Int32) (p0 : Int32) (p1 : Int32) (post : Int32 → (Nat → Int32) → (Nat → Int32) → (Nat → Int32) → (Nat → Int64) → (Nat → Int32) → Prop) (h : wp_M_markOnly gthr greg gcon gfld gtrn gins glev gkep glvs gkps gwrd gsta gflt gend ghal gwro gwai gwpl gwrs ghlt glat glpl amrk ahow awto awat awvl awmk p0 p1 post) : zq_Mv l zy_M_markOnly zs_M_markOnly ({ frames := 1, cells := 0, slots := 0, locals := 25 }) D kT [.ref (ad 0), .int p0, .int p1] (W_M_markOnly kT ad gthr greg gcon gfld gtrn gins glev gkep glvs gkps gwrd gsta gflt gend ghal gwro gwai gwpl gwrs ghlt glat glpl amrk ahow awto awat awvl awmk) (fun w' => ∃ (gwrs' : Int32) (amrk' : Nat → Int32) (awto' : Nat → Int32) (awat' : Nat → Int32) (awvl' : Nat → Int64) (awmk' : Nat → Int32), w' = (W_M_markOnly kT ad gthr greg gcon gfld gtrn gins glev gkep glvs gkps gwrd gsta gflt gend ghal gwro gwai gwpl gwrs' ghlt glat glpl amrk' ahow awto' awat' awvl' awmk') ∧ post  gwrs' amrk' awto' awat' awvl' awmk') := by
  refine zq_Mv_of (adl := (A_M_markOnly ad)) (cc := zb_M_markOnly) (maxL := 3) (own := zR_M) rfl (by decide) rfl rfl (Nat.le_of_ble_eq_true rfl) ?_
  intro p e s m AV below meth c A QQ H locs ls hx hb hml hown ht hE hA hret hP hD hS hl
  have hK := hE.1
  have hl : lv_has ls 3 [(0, .ref (ad 0)), (1, .int p0), (2, .int p1)] := hl
  refine lv_aload_n hx hb zd_M_markOnly_0 rfl (lv_at hl 0 rfl) ?_
  refine lv_iload_n hx hb zd_M_markOnly_1 rfl (lv_at hl 1 rfl) ?_
  refine zq_c_Vi (rest := []) (adl := (A_M_markOnly ad)) (wr := [(ad 5, .inl (kT 2, 24, .inl amrk)), (ad 26, .inl (kT 0, 200, .inl awto)), (ad 27, .inl (kT 0, 200, .inl awat)), (ad 28, .inl (kT 1, 200, .inr (.inl awvl))), (ad 29, .inl (kT 2, 200, .inl awmk))]) ⟨hx, hb, hml, hown, ht⟩ (c_M_isParallel l D kT ad gthr greg gcon gfld gtrn gins glev gkep glvs gkps gwrd gsta gflt gend ghal gwro gwai gwpl gwrs ghlt glat glpl ahow p0 _ h) (cwV 1 ht (zq_gV zw_447 zw_448 zw_449 zw_393 zw_450) rfl rfl rfl zh_M_isParallel ⟨Nat.le_of_ble_eq_true rfl, Nat.le_of_ble_eq_true rfl⟩) hE hP hD hS hA [0, 2] [1, 3, 4, 5, 6] 7 rfl (by decide +kernel) rfl (by decide +kernel) rfl rfl 0 rfl rfl rfl rfl hl.1 (Nat.le_of_ble_eq_true rfl) rfl zd_M_markOnly_2 ⟨Nat.zero_le _, Nat.zero_le _⟩ (fun r_1 w1 H locs hw hJ hS => ?_)
  obtain ⟨rfl, h⟩ := hw
  obtain ⟨hP, hD⟩ := hJ (W_M_markOnly kT ad gthr greg gcon gfld gtrn gins glev gkep glvs gkps gwrd gsta gflt gend ghal gwro gwai gwpl gwrs ghlt glat glpl amrk ahow awto awat awvl awmk) rfl rfl rfl
  refine lv_if_eq (tgt := 22) hx hb zd_M_markOnly_5 (by decide) (fun c_2 => ?_) (fun c_2 => ?_)
  · have h := zq_it c_2 h
    refine lv_aload_n hx hb zd_M_markOnly_22 rfl (lv_at hl 0 rfl) ?_
    refine va_get (D := D) (ci := 10) (v := .ref (ad 5)) (C := zR_M) (T := zF_M) (N := 52) hx hb ht zi_M hown hK hP 0 rfl rfl 6 (by decide) (ht _ zw_401) (fun _ h9 => h9) rfl zd_M_markOnly_23 ?_
    refine lv_iload_n hx hb zd_M_markOnly_26 rfl (lv_at hl 2 rfl) ?_
    refine lv_iconst (v := 1) hx hb zd_M_markOnly_27 (by decide) ?_
    obtain ⟨hi_3, h⟩ := h
    refine zq_a_zast (D := D) hx hb hK hP hD hS 1 2 rfl rfl hi_3 rfl zd_M_markOnly_28 (fun H locs hP hD hS => ?_)
    have hP : va_P D vwCl (W_M_markOnly kT ad gthr greg gcon gfld gtrn gins glev gkep glvs gkps gwrd gsta gflt gend ghal gwro gwai gwpl gwrs ghlt glat glpl (upd amrk p1.toNatClampNeg (vp_nar .boolean 1)) ahow awto awat awvl awmk) H := hP
    have hD : va_D A (W_M_markOnly kT ad gthr greg gcon gfld gtrn gins glev gkep glvs gkps gwrd gsta gflt gend ghal gwro gwai gwpl gwrs ghlt glat glpl (upd amrk p1.toNatClampNeg (vp_nar .boolean 1)) ahow awto awat awvl awmk) := hD
    exact hret  _ H locs 29 ls ⟨gwrs, (upd amrk p1.toNatClampNeg (vp_nar .boolean 1)), awto, awat, awvl, awmk, rfl, h⟩ hP rfl hS zd_M_markOnly_29
  · have h := zq_if c_2 h
    refine lv_aload_n hx hb zd_M_markOnly_8 rfl (lv_at hl 0 rfl) ?_
    refine lv_bipush (v := 26) hx hb zd_M_markOnly_9 (by decide) ?_
    refine lv_iload_n hx hb zd_M_markOnly_11 rfl (lv_at hl 2 rfl) ?_
    refine lv_iadd hx hb zd_M_markOnly_12 ?_
    refine lv_iconst (v := 0) hx hb zd_M_markOnly_13 (by decide) ?_
    refine lv_lconst (v := 0) hx hb zd_M_markOnly_14 (by decide) ?_
    refine lv_iconst (v := 1) hx hb zd_M_markOnly_15 (by decide) ?_
    refine zq_c_Vv (rest := []) (adl := (A_M_markOnly ad)) (wr := [(ad 5, .inl (kT 2, 24, .inl amrk)), (ad 20, .inl (kT 0, 40, .inl ahow))]) ⟨hx, hb, hml, hown, ht⟩ (c_M_later l D kT ad gthr greg gcon gfld gtrn gins glev gkep glvs gkps gwrd gsta gflt gend ghal gwro gwai gwpl gwrs ghlt glat glpl awto awat awvl awmk (26 + p1) 0 0 1 _ h) (cwV 4 ht (zq_gV zw_468 zw_469 zw_470 zw_393 zw_471) rfl rfl rfl zh_M_later ⟨Nat.le_of_ble_eq_true rfl, Nat.le_of_ble_eq_true rfl⟩) hE hP hD hS hA [0, 3, 4, 5, 6] [1, 2] 7 rfl (by decide +kernel) rfl (by decide +kernel) rfl rfl 0 rfl rfl rfl rfl hl.1 (Nat.le_of_ble_eq_true rfl) rfl zd_M_markOnly_16 ⟨Nat.zero_le _, Nat.zero_le _⟩ (fun w1 H locs hw hJ hS => ?_)
    obtain ⟨gwrs_4, awto_5, awat_6, awvl_7, awmk_8, rfl, h⟩ := hw
    obtain ⟨hP, hD⟩ := hJ (W_M_markOnly kT ad gthr greg gcon gfld gtrn gins glev gkep glvs gkps gwrd gsta gflt gend ghal gwro gwai gwpl gwrs_4 ghlt glat glpl amrk ahow awto_5 awat_6 awvl_7 awmk_8) rfl rfl rfl
    refine lv_goto (tgt := 29) hx hb zd_M_markOnly_19 (by decide) ?_
    exact hret  _ H locs 29 ls ⟨gwrs_4, amrk, awto_5, awat_6, awvl_7, awmk_8, rfl, h⟩ hP rfl hS zd_M_markOnly_29
abbrev W_M_writeAll (kT : Nat → ClassId) (ad : Nat → Nat) (gthr : Int32) (greg : Int32) (gcon : Int32) (gfld : Int32) (gtrn : Int32) (gins : Int32) (glev : Int32) (gkep : Int32) (glvs : Int32) (gkps : Int32) (gwrd : Int32) (gsta : Int32) (gflt : Int32) (gend : Int32) (ghal : Int32) (gwro : Int32) (gwai : Int32) (gwpl : Int64) (gwrs : Int32) (ghlt : Int32) (glat : Int32) (glpl : Int32) (aval : Nat → Int64) (amrk : Nat → Int32) (amem : Nat → Int32) (awto : Nat → Int32) (awat : Nat → Int32) (awvl : Nat → Int64) (awmk : Nat → Int32) : va_W := [(ad 0, .inr (10, [.int gthr, .int greg, .ref (ad 1), .ref (ad 2), .ref (ad 3), .ref (ad 4), .ref (ad 5), .ref (ad 6), .ref (ad 7), .ref (ad 8), .ref (ad 9), .int gcon, .int gfld, .int gtrn, .int gins, .ref (ad 10), .ref (ad 11), .ref (ad 12), .ref (ad 13), .ref (ad 14), .ref (ad 15), .ref (ad 16), .ref (ad 17), .ref (ad 18), .ref (ad 19), .ref (ad 20), .ref (ad 21), .ref (ad 22), .ref (ad 23), .int glev, .int gkep, .int glvs, .int gkps, .ref (ad 24), .ref (ad 25), .int gwrd, .int gsta, .int gflt, .int gend, .int ghal, .int gwro, .int gwai, .long gwpl, .int gwrs, .ref (ad 26), .ref (ad 27), .ref (ad 28), .ref (ad 29), .int ghlt, .int glat, .int glpl, .ref (ad 30)])), (ad 2, .inl (kT 1, 24, .inr (.inl aval))), (ad 5, .inl (kT 2, 24, .inl amrk)), (ad 8, .inl (kT 3, 4096, .inl amem)), (ad 26, .inl (kT 0, 200, .inl awto)), (ad 27, .inl (kT 0, 200, .inl awat)), (ad 28, .inl (kT 1, 200, .inr (.inl awvl))), (ad 29, .inl (kT 2, 200, .inl awmk))]
abbrev A_M_writeAll (ad : Nat → Nat) : List Nat := [ad 0, ad 2, ad 5, ad 8, ad 26, ad 27, ad 28, ad 29]
def wp_M_writeAll_2 (gthr : Int32) (greg : Int32) (gcon : Int32) (gfld : Int32) (gtrn : Int32) (gins : Int32) (glev : Int32) (gkep : Int32) (glvs : Int32) (gkps : Int32) (gwrd : Int32) (gsta : Int32) (gflt : Int32) (gend : Int32) (ghal : Int32) (gwai : Int32) (gwpl : Int64) (gwrs : Int32) (ghlt : Int32) (glat : Int32) (glpl : Int32) (awto : Nat → Int32) (awat : Nat → Int32) (awvl : Nat → Int64) (awmk : Nat → Int32) (post : Int32 → (Nat → Int64) → (Nat → Int32) → (Nat → Int32) → Prop) : Nat → (Int32) → (Nat → Int64) → (Nat → Int32) → (Nat → Int32) → Int32 → Prop
  | 0 => fun _ _ _ _ _ => False
  | n + 1 => fun gwro aval amrk amem y1 => (if gwrs ≤ y1 then post  gwro aval amrk amem else vp_in y1 200 ∧ (if 24 ≤ (awto y1.toNatClampNeg) then (if 26 ≤ (awto y1.toNatClampNeg) then vp_in ((awto y1.toNatClampNeg) - 26) 24 ∧ wp_M_writeAll_2 gthr greg gcon gfld gtrn gins glev gkep glvs gkps gwrd gsta gflt gend ghal gwai gwpl gwrs ghlt glat glpl awto awat awvl awmk post n gwro aval (upd amrk (((awto y1.toNatClampNeg) - 26)).toNatClampNeg (vp_nar .boolean 1)) amem (y1 + 1) else vp_in y1 200 ∧ vp_in y1 200 ∧ wp_M_setMemory gthr greg gcon gfld gtrn gins glev gkep glvs gkps gwrd gsta gflt gend ghal gwro gwai gwpl gwrs ghlt glat glpl amem (awat y1.toNatClampNeg) (awvl y1.toNatClampNeg) ((awto y1.toNatClampNeg) - 23) (fun amem_8 => wp_M_writeAll_2 gthr greg gcon gfld gtrn gins glev gkep glvs gkps gwrd gsta gflt gend ghal gwai gwpl gwrs ghlt glat glpl awto awat awvl awmk post n gwro aval amrk amem_8 (y1 + 1))) else vp_in y1 200 ∧ vp_in y1 200 ∧ wp_M_setRegister gthr greg gcon gfld gtrn gins glev gkep glvs gkps gwrd gsta gflt gend ghal gwro gwai gwpl gwrs ghlt glat glpl aval amrk (awto y1.toNatClampNeg) (awvl y1.toNatClampNeg) (awmk y1.toNatClampNeg) (fun gwro_12 aval_13 amrk_14 => wp_M_writeAll_2 gthr greg gcon gfld gtrn gins glev gkep glvs gkps gwrd gsta gflt gend ghal gwai gwpl gwrs ghlt glat glpl awto awat awvl awmk post n gwro_12 aval_13 amrk_14 amem (y1 + 1))))
def wp_M_writeAll (gthr : Int32) (greg : Int32) (gcon : Int32) (gfld : Int32) (gtrn : Int32) (gins : Int32) (glev : Int32) (gkep : Int32) (glvs : Int32) (gkps : Int32) (gwrd : Int32) (gsta : Int32) (gflt : Int32) (gend : Int32) (ghal : Int32) (gwro : Int32) (gwai : Int32) (gwpl : Int64) (gwrs : Int32) (ghlt : Int32) (glat : Int32) (glpl : Int32) (aval : Nat → Int64) (amrk : Nat → Int32) (amem : Nat → Int32) (awto : Nat → Int32) (awat : Nat → Int32) (awvl : Nat → Int64) (awmk : Nat → Int32)  (post : Int32 → (Nat → Int64) → (Nat → Int32) → (Nat → Int32) → Prop) : Prop := ∃ n, wp_M_writeAll_2 gthr greg gcon gfld gtrn gins glev gkep glvs gkps gwrd gsta gflt gend ghal gwai gwpl gwrs ghlt glat glpl awto awat awvl awmk post n gwro aval amrk amem 0
set_option maxHeartbeats 4000000 in
set_option maxRecDepth 100000 in
theorem c_M_writeAll (l : Launch) (D : va_G) (kT : Nat → ClassId) (ad : Nat → Nat) (gthr : Int32) (greg : Int32) (gcon : Int32) (gfld : Int32) (gtrn : Int32) (gins : Int32) (glev : Int32) (gkep : Int32) (glvs : Int32) (gkps : Int32) (gwrd : Int32) (gsta : Int32) (gflt : Int32) (gend : Int32) (ghal : Int32) (gwro : Int32) (gwai : Int32) (gwpl : Int64) (gwrs : Int32) (ghlt : Int32) (glat : Int32) (glpl : Int32) (aval : Nat → Int64) (amrk : Nat → Int32) (amem : Nat → Int32) (awto : Nat → Int32) (awat : Nat → Int32) (awvl : Nat → Int64) (awmk : Nat → Int32)  (post : Int32 → (Nat → Int64) → (Nat → Int32) → (Nat → Int32) → Prop) (h : wp_M_writeAll gthr greg gcon gfld gtrn gins glev gkep glvs gkps gwrd gsta gflt gend ghal gwro gwai gwpl gwrs ghlt glat glpl aval amrk amem awto awat awvl awmk  post) : zq_Mv l zy_M_writeAll zs_M_writeAll ({ frames := 1, cells := 0, slots := 0, locals := 24 }) D kT [.ref (ad 0)] (W_M_writeAll kT ad gthr greg gcon gfld gtrn gins glev gkep glvs gkps gwrd gsta gflt gend ghal gwro gwai gwpl gwrs ghlt glat glpl aval amrk amem awto awat awvl awmk) (fun w' => ∃ (gwro' : Int32) (aval' : Nat → Int64) (amrk' : Nat → Int32) (amem' : Nat → Int32), w' = (W_M_writeAll kT ad gthr greg gcon gfld gtrn gins glev gkep glvs gkps gwrd gsta gflt gend ghal gwro' gwai gwpl gwrs ghlt glat glpl aval' amrk' amem' awto awat awvl awmk) ∧ post  gwro' aval' amrk' amem') := by
  refine zq_Mv_of (adl := (A_M_writeAll ad)) (cc := zb_M_writeAll) (maxL := 3) (own := zR_M) rfl (by decide) rfl rfl (Nat.le_of_ble_eq_true rfl) ?_
  intro p e s m AV below meth c A QQ H locs ls hx hb hml hown ht hE hA hret hP hD hS hl
  have hK := hE.1
  have hl : lv_has ls 3 [(0, .ref (ad 0))] := hl
  have B2 : ∀ (n : Nat) (gwro : Int32) (aval : Nat → Int64) (amrk : Nat → Int32) (amem : Nat → Int32) (y1 : Int32) (H : Heap) (locs : List Loc) (ls : Array Slot), wp_M_writeAll_2 gthr greg gcon gfld gtrn gins glev gkep glvs gkps gwrd gsta gflt gend ghal gwai gwpl gwrs ghlt glat glpl awto awat awvl awmk post n gwro aval amrk amem y1 → va_P D vwCl (W_M_writeAll kT ad gthr greg gcon gfld gtrn gins glev gkep glvs gkps gwrd gsta gflt gend ghal gwro gwai gwpl gwrs ghlt glat glpl aval amrk amem awto awat awvl awmk) H → va_D A (W_M_writeAll kT ad gthr greg gcon gfld gtrn gins glev gkep glvs gkps gwrd gsta gflt gend ghal gwro gwai gwpl gwrs ghlt glat glpl aval amrk amem awto awat awvl awmk) → va_S A s.heap H locs → lv_has ls 3 [(0, .ref (ad 0)), (1, .int y1)] → W p l e ({ frames := 1, cells := 0, slots := 0, locals := 24 }) s m AV below meth c H locs 0 0 QQ (F0 m 2 ls []) := by
    intro n
    induction n with
    | zero =>
      intro gwro aval amrk amem y1 H locs ls h
      exact h.elim
    | succ n ih =>
      intro gwro aval amrk amem y1 H locs ls h hP hD hS hl
      refine lv_iload_n hx hb zd_M_writeAll_2 rfl (lv_at hl 1 rfl) ?_
      refine lv_aload_n hx hb zd_M_writeAll_3 rfl (lv_at hl 0 rfl) ?_
      refine va_get (D := D) (ci := 10) (v := .int gwrs) (C := zR_M) (T := zF_M) (N := 52) hx hb ht zi_M hown hK hP 0 rfl rfl 43 (by decide) (ht _ zw_456) (fun _ h9 => h9) rfl zd_M_writeAll_4 ?_
      refine lv_icmp_ge (tgt := 88) hx hb zd_M_writeAll_7 (by decide) (fun c_1 => ?_) (fun c_1 => ?_)
      · have h := zq_it c_1 h
        exact hret  _ H locs 88 ls ⟨gwro, aval, amrk, amem, rfl, h⟩ hP rfl hS zd_M_writeAll_88
      · have h := zq_if c_1 h
        refine lv_aload_n hx hb zd_M_writeAll_10 rfl (lv_at hl 0 rfl) ?_
        refine va_get (D := D) (ci := 10) (v := .ref (ad 26)) (C := zR_M) (T := zF_M) (N := 52) hx hb ht zi_M hown hK hP 0 rfl rfl 44 (by decide) (ht _ zw_455) (fun _ h9 => h9) rfl zd_M_writeAll_11 ?_
        refine lv_iload_n hx hb zd_M_writeAll_14 rfl (lv_at hl 1 rfl) ?_
        obtain ⟨hi_2, h⟩ := h
        refine zq_a_iald (D := D) hx hb hK hP 4 0 rfl rfl hi_2 rfl zd_M_writeAll_15 ?_
        refine lv_istore_n (lv' := [(2, .int (awto y1.toNatClampNeg)), (0, .ref (ad 0)), (1, .int y1)]) hx hb zd_M_writeAll_16 rfl hl (by decide) rfl (fun ls hl => ?_)
        refine lv_iload_n hx hb zd_M_writeAll_17 rfl (lv_at hl 0 rfl) ?_
        refine lv_bipush (v := 24) hx hb zd_M_writeAll_18 (by decide) ?_
        refine lv_icmp_ge (tgt := 43) hx hb zd_M_writeAll_20 (by decide) (fun c_3 => ?_) (fun c_3 => ?_)
        · have h := zq_it c_3 h
          refine lv_iload_n hx hb zd_M_writeAll_43 rfl (lv_at hl 0 rfl) ?_
          refine lv_bipush (v := 26) hx hb zd_M_writeAll_44 (by decide) ?_
          refine lv_icmp_ge (tgt := 72) hx hb zd_M_writeAll_46 (by decide) (fun c_4 => ?_) (fun c_4 => ?_)
          · have h := zq_it c_4 h
            refine lv_aload_n hx hb zd_M_writeAll_72 rfl (lv_at hl 1 rfl) ?_
            refine va_get (D := D) (ci := 10) (v := .ref (ad 5)) (C := zR_M) (T := zF_M) (N := 52) hx hb ht zi_M hown hK hP 0 rfl rfl 6 (by decide) (ht _ zw_401) (fun _ h9 => h9) rfl zd_M_writeAll_73 ?_
            refine lv_iload_n hx hb zd_M_writeAll_76 rfl (lv_at hl 0 rfl) ?_
            refine lv_bipush (v := 26) hx hb zd_M_writeAll_77 (by decide) ?_
            refine lv_isub hx hb zd_M_writeAll_79 ?_
            refine lv_iconst (v := 1) hx hb zd_M_writeAll_80 (by decide) ?_
            obtain ⟨hi_5, h⟩ := h
            refine zq_a_zast (D := D) hx hb hK hP hD hS 2 2 rfl rfl hi_5 rfl zd_M_writeAll_81 (fun H locs hP hD hS => ?_)
            have hP : va_P D vwCl (W_M_writeAll kT ad gthr greg gcon gfld gtrn gins glev gkep glvs gkps gwrd gsta gflt gend ghal gwro gwai gwpl gwrs ghlt glat glpl aval (upd amrk (((awto y1.toNatClampNeg) - 26)).toNatClampNeg (vp_nar .boolean 1)) amem awto awat awvl awmk) H := hP
            have hD : va_D A (W_M_writeAll kT ad gthr greg gcon gfld gtrn gins glev gkep glvs gkps gwrd gsta gflt gend ghal gwro gwai gwpl gwrs ghlt glat glpl aval (upd amrk (((awto y1.toNatClampNeg) - 26)).toNatClampNeg (vp_nar .boolean 1)) amem awto awat awvl awmk) := hD
            refine lv_iinc (v := (y1 + 1)) (lv' := [(1, .int (y1 + 1)), (2, .int (awto y1.toNatClampNeg)), (0, .ref (ad 0))]) hx hb zd_M_writeAll_82 hl (k := 2) rfl rfl (by decide) rfl (fun ls hl => ?_)
            refine lv_goto (tgt := 2) hx hb zd_M_writeAll_85 (by decide) ?_
            exact ih gwro aval (upd amrk (((awto y1.toNatClampNeg) - 26)).toNatClampNeg (vp_nar .boolean 1)) amem (y1 + 1) H locs ls h hP hD hS (lv_sub hl [2, 0] rfl)
          · have h := zq_if c_4 h
            refine lv_aload_n hx hb zd_M_writeAll_49 rfl (lv_at hl 1 rfl) ?_
            refine lv_aload_n hx hb zd_M_writeAll_50 rfl (lv_at hl 1 rfl) ?_
            refine va_get (D := D) (ci := 10) (v := .ref (ad 27)) (C := zR_M) (T := zF_M) (N := 52) hx hb ht zi_M hown hK hP 0 rfl rfl 45 (by decide) (ht _ zw_457) (fun _ h9 => h9) rfl zd_M_writeAll_51 ?_
            refine lv_iload_n hx hb zd_M_writeAll_54 rfl (lv_at hl 2 rfl) ?_
            obtain ⟨hi_6, h⟩ := h
            refine zq_a_iald (D := D) hx hb hK hP 5 0 rfl rfl hi_6 rfl zd_M_writeAll_55 ?_
            refine lv_aload_n hx hb zd_M_writeAll_56 rfl (lv_at hl 1 rfl) ?_
            refine va_get (D := D) (ci := 10) (v := .ref (ad 28)) (C := zR_M) (T := zF_M) (N := 52) hx hb ht zi_M hown hK hP 0 rfl rfl 46 (by decide) (ht _ zw_458) (fun _ h9 => h9) rfl zd_M_writeAll_57 ?_
            refine lv_iload_n hx hb zd_M_writeAll_60 rfl (lv_at hl 2 rfl) ?_
            obtain ⟨hi_7, h⟩ := h
            refine zq_a_lald (D := D) hx hb hK hP 6 1 rfl rfl hi_7 rfl zd_M_writeAll_61 ?_
            refine lv_iload_n hx hb zd_M_writeAll_62 rfl (lv_at hl 0 rfl) ?_
            refine lv_bipush (v := 23) hx hb zd_M_writeAll_63 (by decide) ?_
            refine lv_isub hx hb zd_M_writeAll_65 ?_
            refine zq_c_Vv (rest := []) (adl := (A_M_writeAll ad)) (wr := [(ad 2, .inl (kT 1, 24, .inr (.inl aval))), (ad 5, .inl (kT 2, 24, .inl amrk)), (ad 26, .inl (kT 0, 200, .inl awto)), (ad 27, .inl (kT 0, 200, .inl awat)), (ad 28, .inl (kT 1, 200, .inr (.inl awvl))), (ad 29, .inl (kT 2, 200, .inl awmk))]) ⟨hx, hb, hml, hown, ht⟩ (c_M_setMemory l D kT ad gthr greg gcon gfld gtrn gins glev gkep glvs gkps gwrd gsta gflt gend ghal gwro gwai gwpl gwrs ghlt glat glpl amem (awat y1.toNatClampNeg) (awvl y1.toNatClampNeg) ((awto y1.toNatClampNeg) - 23) _ h) (cwV 3 ht (zq_gV zw_472 zw_473 zw_474 zw_393 zw_475) rfl rfl rfl zh_M_setMemory ⟨Nat.le_of_ble_eq_true rfl, Nat.le_of_ble_eq_true rfl⟩) hE hP hD hS hA [0, 3] [1, 2, 4, 5, 6, 7] 8 rfl (by decide +kernel) rfl (by decide +kernel) rfl rfl 0 rfl rfl rfl rfl hl.1 (Nat.le_of_ble_eq_true rfl) rfl zd_M_writeAll_66 ⟨Nat.zero_le _, Nat.zero_le _⟩ (fun w1 H locs hw hJ hS => ?_)
            obtain ⟨amem_8, rfl, h⟩ := hw
            obtain ⟨hP, hD⟩ := hJ (W_M_writeAll kT ad gthr greg gcon gfld gtrn gins glev gkep glvs gkps gwrd gsta gflt gend ghal gwro gwai gwpl gwrs ghlt glat glpl aval amrk amem_8 awto awat awvl awmk) rfl rfl rfl
            refine lv_goto (tgt := 82) hx hb zd_M_writeAll_69 (by decide) ?_
            refine lv_iinc (v := (y1 + 1)) (lv' := [(1, .int (y1 + 1)), (2, .int (awto y1.toNatClampNeg)), (0, .ref (ad 0))]) hx hb zd_M_writeAll_82 hl (k := 2) rfl rfl (by decide) rfl (fun ls hl => ?_)
            refine lv_goto (tgt := 2) hx hb zd_M_writeAll_85 (by decide) ?_
            exact ih gwro aval amrk amem_8 (y1 + 1) H locs ls h hP hD hS (lv_sub hl [2, 0] rfl)
        · have h := zq_if c_3 h
          refine lv_aload_n hx hb zd_M_writeAll_23 rfl (lv_at hl 1 rfl) ?_
          refine lv_iload_n hx hb zd_M_writeAll_24 rfl (lv_at hl 0 rfl) ?_
          refine lv_aload_n hx hb zd_M_writeAll_25 rfl (lv_at hl 1 rfl) ?_
          refine va_get (D := D) (ci := 10) (v := .ref (ad 28)) (C := zR_M) (T := zF_M) (N := 52) hx hb ht zi_M hown hK hP 0 rfl rfl 46 (by decide) (ht _ zw_458) (fun _ h9 => h9) rfl zd_M_writeAll_26 ?_
          refine lv_iload_n hx hb zd_M_writeAll_29 rfl (lv_at hl 2 rfl) ?_
          obtain ⟨hi_10, h⟩ := h
          refine zq_a_lald (D := D) hx hb hK hP 6 1 rfl rfl hi_10 rfl zd_M_writeAll_30 ?_
          refine lv_aload_n hx hb zd_M_writeAll_31 rfl (lv_at hl 1 rfl) ?_
          refine va_get (D := D) (ci := 10) (v := .ref (ad 29)) (C := zR_M) (T := zF_M) (N := 52) hx hb ht zi_M hown hK hP 0 rfl rfl 47 (by decide) (ht _ zw_459) (fun _ h9 => h9) rfl zd_M_writeAll_32 ?_
          refine lv_iload_n hx hb zd_M_writeAll_35 rfl (lv_at hl 2 rfl) ?_
          obtain ⟨hi_11, h⟩ := h
          refine zq_a_zald (D := D) hx hb hK hP 7 2 rfl rfl hi_11 rfl zd_M_writeAll_36 ?_
          refine zq_c_Vv (rest := []) (adl := (A_M_writeAll ad)) (wr := [(ad 8, .inl (kT 3, 4096, .inl amem)), (ad 26, .inl (kT 0, 200, .inl awto)), (ad 27, .inl (kT 0, 200, .inl awat)), (ad 28, .inl (kT 1, 200, .inr (.inl awvl))), (ad 29, .inl (kT 2, 200, .inl awmk))]) ⟨hx, hb, hml, hown, ht⟩ (c_M_setRegister l D kT ad gthr greg gcon gfld gtrn gins glev gkep glvs gkps gwrd gsta gflt gend ghal gwro gwai gwpl gwrs ghlt glat glpl aval amrk (awto y1.toNatClampNeg) (awvl y1.toNatClampNeg) (awmk y1.toNatClampNeg) _ h) (cwV 3 ht (zq_gV zw_464 zw_465 zw_466 zw_393 zw_467) rfl rfl rfl zh_M_setRegister ⟨Nat.le_of_ble_eq_true rfl, Nat.le_of_ble_eq_true rfl⟩) hE hP hD hS hA [0, 1, 2] [3, 4, 5, 6, 7] 8 rfl (by decide +kernel) rfl (by decide +kernel) rfl rfl 0 rfl rfl rfl rfl hl.1 (Nat.le_of_ble_eq_true rfl) rfl zd_M_writeAll_37 ⟨Nat.zero_le _, Nat.zero_le _⟩ (fun w1 H locs hw hJ hS => ?_)
          obtain ⟨gwro_12, aval_13, amrk_14, rfl, h⟩ := hw
          obtain ⟨hP, hD⟩ := hJ (W_M_writeAll kT ad gthr greg gcon gfld gtrn gins glev gkep glvs gkps gwrd gsta gflt gend ghal gwro_12 gwai gwpl gwrs ghlt glat glpl aval_13 amrk_14 amem awto awat awvl awmk) rfl rfl rfl
          refine lv_goto (tgt := 82) hx hb zd_M_writeAll_40 (by decide) ?_
          refine lv_iinc (v := (y1 + 1)) (lv' := [(1, .int (y1 + 1)), (2, .int (awto y1.toNatClampNeg)), (0, .ref (ad 0))]) hx hb zd_M_writeAll_82 hl (k := 2) rfl rfl (by decide) rfl (fun ls hl => ?_)
          refine lv_goto (tgt := 2) hx hb zd_M_writeAll_85 (by decide) ?_
          exact ih gwro_12 aval_13 amrk_14 amem (y1 + 1) H locs ls h hP hD hS (lv_sub hl [2, 0] rfl)
  refine lv_iconst (v := 0) hx hb zd_M_writeAll_0 (by decide) ?_
  refine lv_istore_n (lv' := [(1, .int 0), (0, .ref (ad 0))]) hx hb zd_M_writeAll_1 rfl hl (by decide) rfl (fun ls hl => ?_)
  obtain ⟨n, h⟩ := h
  exact B2 n gwro aval amrk amem 0 H locs ls h hP hD hS (lv_sub hl [1, 0] rfl)
def wp_M_isLess  (p0 : Int64) (p1 : Int64) (post : Int32 → Prop) : Prop := (if (p1 + zq_min) ≤ (p0 + zq_min) then post 0  else post 1 )
set_option maxHeartbeats 4000000 in
set_option maxRecDepth 100000 in
theorem c_M_isLess (l : Launch) (D : va_G) (kT : Nat → ClassId) (ad : Nat → Nat)  (p0 : Int64) (p1 : Int64) (post : Int32 → Prop) (h : wp_M_isLess  p0 p1 post) : zq_Mi l zy_M_isLess zs_M_isLess ({ frames := 0, cells := 0, slots := 0, locals := 0 }) D kT [.long p0, .long p1] [] (fun r w' => w' = [] ∧ post r ) := by
  refine zq_Mz_of (adl := []) (cc := zb_M_isLess) (maxL := 4) (own := zR_M) rfl (by decide) rfl rfl (Nat.le_of_ble_eq_true rfl) ?_
  intro p e s m AV below meth c A QQ H locs ls hx hb hml hown ht hE hA hret hP hD hS hl
  have hK := hE.1
  have hl : lv_has ls 4 [(0, .long p0), (2, .long p1)] := hl
  unfold wp_M_isLess at h
  refine lv_lload_n hx hb zd_M_isLess_0 rfl (lv_at hl 0 rfl) ?_
  refine W.ldc2 (v := zq_min) hx hb hown (by rw [zq_min_eq]; exact (ht _ zw_476)) rfl zd_M_isLess_1 ?_
  refine W.eq (g2 := F0 m 4 ls [.long zq_min, .long p0]) rfl ?_
  refine lv_ladd hx hb zd_M_isLess_4 ?_
  refine lv_lload_n hx hb zd_M_isLess_5 rfl (lv_at hl 1 rfl) ?_
  refine W.ldc2 (v := zq_min) hx hb hown (by rw [zq_min_eq]; exact (ht _ zw_476)) rfl zd_M_isLess_6 ?_
  refine W.eq (g2 := F0 m 9 ls [.long zq_min, .long p1, .long (p0 + zq_min)]) rfl ?_
  refine lv_ladd hx hb zd_M_isLess_9 ?_
  refine W.lcmp hx hb zd_M_isLess_10 ?_
  refine lv_if_ge (tgt := 18) hx hb zd_M_isLess_11 (by decide) (fun c_1 => ?_) (fun c_1 => ?_)
  · have h := zq_it (zq_lc_ge.mp c_1) h
    refine lv_iconst (v := 0) hx hb zd_M_isLess_18 (by decide) ?_
    exact hret 0 rfl _ H locs 19 ls ⟨rfl, h⟩ hP rfl hS zd_M_isLess_19
  · have h := zq_if (fun z => c_1 (zq_lc_ge.mpr z)) h
    refine lv_iconst (v := 1) hx hb zd_M_isLess_14 (by decide) ?_
    refine lv_goto (tgt := 19) hx hb zd_M_isLess_15 (by decide) ?_
    exact hret 1 rfl _ H locs 19 ls ⟨rfl, h⟩ hP rfl hS zd_M_isLess_19
def wp_M_quotient  (p0 : Int64) (p1 : Int64) (post : Int64 → Prop) : Prop := (if 0 ≤ p1 then ¬ p1 = 0 ∧ wp_M_isLess (p0 - ((zq_j_lshl ((zq_j_lushr p0 1) / p1) 1) * p1)) p1 (fun r_3 => (if r_3 = 0 then post ((zq_j_lshl ((zq_j_lushr p0 1) / p1) 1) + 1)  else post (zq_j_lshl ((zq_j_lushr p0 1) / p1) 1) )) else wp_M_isLess p0 p1 (fun r_5 => (if r_5 = 0 then post 1  else post 0 )))
set_option maxHeartbeats 4000000 in
set_option maxRecDepth 100000 in
theorem c_M_quotient (l : Launch) (D : va_G) (kT : Nat → ClassId) (ad : Nat → Nat)  (p0 : Int64) (p1 : Int64) (post : Int64 → Prop) (h : wp_M_quotient  p0 p1 post) : zq_Ml l zy_M_quotient zs_M_quotient ({ frames := 1, cells := 0, slots := 0, locals := 23 }) D kT [.long p0, .long p1] [] (fun r w' => w' = [] ∧ post r ) := by
  refine zq_Ml_of (adl := []) (cc := zb_M_quotient) (maxL := 8) (own := zR_M) rfl (by decide) rfl rfl (Nat.le_of_ble_eq_true rfl) ?_
  intro p e s m AV below meth c A QQ H locs ls hx hb hml hown ht hE hA hret hP hD hS hl
  have hK := hE.1
  have hl : lv_has ls 8 [(0, .long p0), (2, .long p1)] := hl
  unfold wp_M_quotient at h
  refine lv_lload_n hx hb zd_M_quotient_0 rfl (lv_at hl 1 rfl) ?_
  refine lv_lconst (v := 0) hx hb zd_M_quotient_1 (by decide) ?_
  refine W.lcmp hx hb zd_M_quotient_2 ?_
  refine lv_if_ge (tgt := 20) hx hb zd_M_quotient_3 (by decide) (fun c_1 => ?_) (fun c_1 => ?_)
  · have h := zq_it (zq_lc_ge.mp c_1) h
    refine lv_lload_n hx hb zd_M_quotient_20 rfl (lv_at hl 0 rfl) ?_
    refine lv_iconst (v := 1) hx hb zd_M_quotient_21 (by decide) ?_
    refine lv_lushr (v := (zq_j_lushr p0 1)) hx hb zd_M_quotient_22 rfl ?_
    refine lv_lload_n hx hb zd_M_quotient_23 rfl (lv_at hl 1 rfl) ?_
    obtain ⟨hz_2, h⟩ := h
    refine lv_ldiv hx hb zd_M_quotient_24 hz_2 ?_
    refine lv_iconst (v := 1) hx hb zd_M_quotient_25 (by decide) ?_
    refine lv_lshl (v := (zq_j_lshl ((zq_j_lushr p0 1) / p1) 1)) hx hb zd_M_quotient_26 rfl ?_
    refine lv_lstore (lv' := [(4, .long (zq_j_lshl ((zq_j_lushr p0 1) / p1) 1)), (0, .long p0), (2, .long p1)]) hx hb zd_M_quotient_27 hl (by decide) rfl (fun ls hl => ?_)
    refine lv_lload_n hx hb zd_M_quotient_29 rfl (lv_at hl 1 rfl) ?_
    refine lv_lload hx hb zd_M_quotient_30 (lv_at hl 0 rfl) ?_
    refine lv_lload_n hx hb zd_M_quotient_32 rfl (lv_at hl 2 rfl) ?_
    refine lv_lmul hx hb zd_M_quotient_33 ?_
    refine lv_lsub hx hb zd_M_quotient_34 ?_
    refine lv_lstore (lv' := [(6, .long (p0 - ((zq_j_lshl ((zq_j_lushr p0 1) / p1) 1) * p1))), (4, .long (zq_j_lshl ((zq_j_lushr p0 1) / p1) 1)), (0, .long p0), (2, .long p1)]) hx hb zd_M_quotient_35 hl (by decide) rfl (fun ls hl => ?_)
    refine lv_lload hx hb zd_M_quotient_37 (lv_at hl 0 rfl) ?_
    refine lv_lload_n hx hb zd_M_quotient_39 rfl (lv_at hl 3 rfl) ?_
    refine zq_c_Si (rest := []) (adl := []) (wr := []) ⟨hx, hb, hml, hown, ht⟩ (c_M_isLess l D kT ad (p0 - ((zq_j_lshl ((zq_j_lushr p0 1) / p1) 1) * p1)) p1 _ h) (cwS 2 ht (zq_gS zw_477 zw_478 zw_393 zw_479) rfl rfl rfl zh_M_isLess ⟨Nat.le_of_ble_eq_true rfl, Nat.le_of_ble_eq_true rfl⟩) hE hP hD hS hA [] [] 0 rfl (by decide +kernel) rfl (by decide +kernel) rfl rfl  rfl hl.1 (Nat.le_of_ble_eq_true rfl) rfl zd_M_quotient_40 ⟨Nat.zero_le _, Nat.zero_le _⟩ (fun r_3 w1 H locs hw hJ hS => ?_)
    obtain ⟨rfl, h⟩ := hw
    obtain ⟨hP, hD⟩ := hJ [] rfl rfl rfl
    refine lv_if_eq (tgt := 51) hx hb zd_M_quotient_43 (by decide) (fun c_4 => ?_) (fun c_4 => ?_)
    · have h := zq_it c_4 h
      refine lv_lload hx hb zd_M_quotient_51 (lv_at hl 1 rfl) ?_
      refine lv_lconst (v := 1) hx hb zd_M_quotient_53 (by decide) ?_
      refine lv_ladd hx hb zd_M_quotient_54 ?_
      exact hret ((zq_j_lshl ((zq_j_lushr p0 1) / p1) 1) + 1)  _ H locs 55 ls ⟨rfl, h⟩ hP rfl hS zd_M_quotient_55
    · have h := zq_if c_4 h
      refine lv_lload hx hb zd_M_quotient_46 (lv_at hl 1 rfl) ?_
      refine lv_goto (tgt := 55) hx hb zd_M_quotient_48 (by decide) ?_
      exact hret (zq_j_lshl ((zq_j_lushr p0 1) / p1) 1)  _ H locs 55 ls ⟨rfl, h⟩ hP rfl hS zd_M_quotient_55
  · have h := zq_if (fun z => c_1 (zq_lc_ge.mpr z)) h
    refine lv_lload_n hx hb zd_M_quotient_6 rfl (lv_at hl 0 rfl) ?_
    refine lv_lload_n hx hb zd_M_quotient_7 rfl (lv_at hl 1 rfl) ?_
    refine zq_c_Si (rest := []) (adl := []) (wr := []) ⟨hx, hb, hml, hown, ht⟩ (c_M_isLess l D kT ad p0 p1 _ h) (cwS 2 ht (zq_gS zw_477 zw_478 zw_393 zw_479) rfl rfl rfl zh_M_isLess ⟨Nat.le_of_ble_eq_true rfl, Nat.le_of_ble_eq_true rfl⟩) hE hP hD hS hA [] [] 0 rfl (by decide +kernel) rfl (by decide +kernel) rfl rfl  rfl hl.1 (Nat.le_of_ble_eq_true rfl) rfl zd_M_quotient_8 ⟨Nat.zero_le _, Nat.zero_le _⟩ (fun r_5 w1 H locs hw hJ hS => ?_)
    obtain ⟨rfl, h⟩ := hw
    obtain ⟨hP, hD⟩ := hJ [] rfl rfl rfl
    refine lv_if_eq (tgt := 18) hx hb zd_M_quotient_11 (by decide) (fun c_6 => ?_) (fun c_6 => ?_)
    · have h := zq_it c_6 h
      refine lv_lconst (v := 1) hx hb zd_M_quotient_18 (by decide) ?_
      exact hret 1  _ H locs 19 ls ⟨rfl, h⟩ hP rfl hS zd_M_quotient_19
    · have h := zq_if c_6 h
      refine lv_lconst (v := 0) hx hb zd_M_quotient_14 (by decide) ?_
      refine lv_goto (tgt := 19) hx hb zd_M_quotient_15 (by decide) ?_
      exact hret 0  _ H locs 19 ls ⟨rfl, h⟩ hP rfl hS zd_M_quotient_19
def wp_M_simple  (p0 : Int32) (p1 : Int64) (p2 : Int64) (post : Int64 → Prop) : Prop := (if p0 = 0 then post p1  else (if p0 = 1 then post (p1 + p2)  else (if p0 = 2 then post (p1 - p2)  else (if p0 = 3 then post (p1 * p2)  else (if p0 = 4 then wp_M_quotient p1 p2 (fun r_1 => post r_1 ) else (if p0 = 5 then wp_M_quotient p1 p2 (fun r_2 => post (p1 - (r_2 * p2)) ) else (if p0 = 6 then post (p1 &&& p2)  else (if p0 = 7 then post (p1 ||| p2)  else (if p0 = 8 then post (p1 ^^^ p2)  else (if p0 = 9 then wp_M_in p2 0 63 (fun r_3 => (if r_3 = 0 then post 0  else post (zq_j_lshl p1 (zq_j_l2i p2)) )) else (if p0 = 10 then wp_M_in p2 0 63 (fun r_5 => (if r_5 = 0 then post 0  else post (zq_j_lushr p1 (zq_j_l2i p2)) )) else (if p0 = 11 then wp_M_isLess p1 p2 (fun r_7 => (if r_7 = 0 then post 0  else post 1 )) else (if p1 = p2 then post 1  else post 0 )))))))))))))
set_option maxHeartbeats 4000000 in
set_option maxRecDepth 100000 in
theorem c_M_simple (l : Launch) (D : va_G) (kT : Nat → ClassId) (ad : Nat → Nat)  (p0 : Int32) (p1 : Int64) (p2 : Int64) (post : Int64 → Prop) (h : wp_M_simple  p0 p1 p2 post) : zq_Ml l zy_M_simple zs_M_simple ({ frames := 2, cells := 0, slots := 0, locals := 50 }) D kT [.int p0, .long p1, .long p2] [] (fun r w' => w' = [] ∧ post r ) := by
  refine zq_Ml_of (adl := []) (cc := zb_M_simple) (maxL := 5) (own := zR_M) rfl (by decide) rfl rfl (Nat.le_of_ble_eq_true rfl) ?_
  intro p e s m AV below meth c A QQ H locs ls hx hb hml hown ht hE hA hret hP hD hS hl
  have hK := hE.1
  have hl : lv_has ls 5 [(0, .int p0), (1, .long p1), (3, .long p2)] := hl
  unfold wp_M_simple at h
  refine lv_iload_n hx hb zd_M_simple_0 rfl (lv_at hl 0 rfl) ?_
  by_cases k0 : p0 = 0
  · have h := zq_it k0 h
    refine lv_tableIn (off := 63) (tgt := 64) hx hb zd_M_simple_1 (by rw [k0]; decide) (by rw [k0]; decide) (by rw [k0]; rfl) (by decide) ?_
    refine lv_lload_n hx hb zd_M_simple_64 rfl (lv_at hl 1 rfl) ?_
    exact hret p1  _ H locs 65 ls ⟨rfl, h⟩ hP rfl hS zd_M_simple_65
  · have h := zq_if k0 h
    by_cases k1 : p0 = 1
    · have h := zq_it k1 h
      refine lv_tableIn (off := 65) (tgt := 66) hx hb zd_M_simple_1 (by rw [k1]; decide) (by rw [k1]; decide) (by rw [k1]; rfl) (by decide) ?_
      refine lv_lload_n hx hb zd_M_simple_66 rfl (lv_at hl 1 rfl) ?_
      refine lv_lload_n hx hb zd_M_simple_67 rfl (lv_at hl 2 rfl) ?_
      refine lv_ladd hx hb zd_M_simple_68 ?_
      exact hret (p1 + p2)  _ H locs 69 ls ⟨rfl, h⟩ hP rfl hS zd_M_simple_69
    · have h := zq_if k1 h
      by_cases k2 : p0 = 2
      · have h := zq_it k2 h
        refine lv_tableIn (off := 69) (tgt := 70) hx hb zd_M_simple_1 (by rw [k2]; decide) (by rw [k2]; decide) (by rw [k2]; rfl) (by decide) ?_
        refine lv_lload_n hx hb zd_M_simple_70 rfl (lv_at hl 1 rfl) ?_
        refine lv_lload_n hx hb zd_M_simple_71 rfl (lv_at hl 2 rfl) ?_
        refine lv_lsub hx hb zd_M_simple_72 ?_
        exact hret (p1 - p2)  _ H locs 73 ls ⟨rfl, h⟩ hP rfl hS zd_M_simple_73
      · have h := zq_if k2 h
        by_cases k3 : p0 = 3
        · have h := zq_it k3 h
          refine lv_tableIn (off := 73) (tgt := 74) hx hb zd_M_simple_1 (by rw [k3]; decide) (by rw [k3]; decide) (by rw [k3]; rfl) (by decide) ?_
          refine lv_lload_n hx hb zd_M_simple_74 rfl (lv_at hl 1 rfl) ?_
          refine lv_lload_n hx hb zd_M_simple_75 rfl (lv_at hl 2 rfl) ?_
          refine lv_lmul hx hb zd_M_simple_76 ?_
          exact hret (p1 * p2)  _ H locs 77 ls ⟨rfl, h⟩ hP rfl hS zd_M_simple_77
        · have h := zq_if k3 h
          by_cases k4 : p0 = 4
          · have h := zq_it k4 h
            refine lv_tableIn (off := 77) (tgt := 78) hx hb zd_M_simple_1 (by rw [k4]; decide) (by rw [k4]; decide) (by rw [k4]; rfl) (by decide) ?_
            refine lv_lload_n hx hb zd_M_simple_78 rfl (lv_at hl 1 rfl) ?_
            refine lv_lload_n hx hb zd_M_simple_79 rfl (lv_at hl 2 rfl) ?_
            refine zq_c_Sl (rest := []) (adl := []) (wr := []) ⟨hx, hb, hml, hown, ht⟩ (c_M_quotient l D kT ad p1 p2 _ h) (cwS 2 ht (zq_gS zw_480 zw_481 zw_393 zw_482) rfl rfl rfl zh_M_quotient ⟨Nat.le_of_ble_eq_true rfl, Nat.le_of_ble_eq_true rfl⟩) hE hP hD hS hA [] [] 0 rfl (by decide +kernel) rfl (by decide +kernel) rfl rfl  rfl hl.1 (Nat.le_of_ble_eq_true rfl) rfl zd_M_simple_80 ⟨Nat.zero_le _, Nat.zero_le _⟩ (fun r_1 w1 H locs hw hJ hS => ?_)
            obtain ⟨rfl, h⟩ := hw
            obtain ⟨hP, hD⟩ := hJ [] rfl rfl rfl
            exact hret r_1  _ H locs 83 ls ⟨rfl, h⟩ hP rfl hS zd_M_simple_83
          · have h := zq_if k4 h
            by_cases k5 : p0 = 5
            · have h := zq_it k5 h
              refine lv_tableIn (off := 83) (tgt := 84) hx hb zd_M_simple_1 (by rw [k5]; decide) (by rw [k5]; decide) (by rw [k5]; rfl) (by decide) ?_
              refine lv_lload_n hx hb zd_M_simple_84 rfl (lv_at hl 1 rfl) ?_
              refine lv_lload_n hx hb zd_M_simple_85 rfl (lv_at hl 1 rfl) ?_
              refine lv_lload_n hx hb zd_M_simple_86 rfl (lv_at hl 2 rfl) ?_
              refine zq_c_Sl (rest := [.long p1]) (adl := []) (wr := []) ⟨hx, hb, hml, hown, ht⟩ (c_M_quotient l D kT ad p1 p2 _ h) (cwS 2 ht (zq_gS zw_480 zw_481 zw_393 zw_482) rfl rfl rfl zh_M_quotient ⟨Nat.le_of_ble_eq_true rfl, Nat.le_of_ble_eq_true rfl⟩) hE hP hD hS hA [] [] 0 rfl (by decide +kernel) rfl (by decide +kernel) rfl rfl  rfl hl.1 (Nat.le_of_ble_eq_true rfl) rfl zd_M_simple_87 ⟨Nat.zero_le _, Nat.zero_le _⟩ (fun r_2 w1 H locs hw hJ hS => ?_)
              obtain ⟨rfl, h⟩ := hw
              obtain ⟨hP, hD⟩ := hJ [] rfl rfl rfl
              refine lv_lload_n hx hb zd_M_simple_90 rfl (lv_at hl 2 rfl) ?_
              refine lv_lmul hx hb zd_M_simple_91 ?_
              refine lv_lsub hx hb zd_M_simple_92 ?_
              exact hret (p1 - (r_2 * p2))  _ H locs 93 ls ⟨rfl, h⟩ hP rfl hS zd_M_simple_93
            · have h := zq_if k5 h
              by_cases k6 : p0 = 6
              · have h := zq_it k6 h
                refine lv_tableIn (off := 93) (tgt := 94) hx hb zd_M_simple_1 (by rw [k6]; decide) (by rw [k6]; decide) (by rw [k6]; rfl) (by decide) ?_
                refine lv_lload_n hx hb zd_M_simple_94 rfl (lv_at hl 1 rfl) ?_
                refine lv_lload_n hx hb zd_M_simple_95 rfl (lv_at hl 2 rfl) ?_
                refine lv_land hx hb zd_M_simple_96 ?_
                exact hret (p1 &&& p2)  _ H locs 97 ls ⟨rfl, h⟩ hP rfl hS zd_M_simple_97
              · have h := zq_if k6 h
                by_cases k7 : p0 = 7
                · have h := zq_it k7 h
                  refine lv_tableIn (off := 97) (tgt := 98) hx hb zd_M_simple_1 (by rw [k7]; decide) (by rw [k7]; decide) (by rw [k7]; rfl) (by decide) ?_
                  refine lv_lload_n hx hb zd_M_simple_98 rfl (lv_at hl 1 rfl) ?_
                  refine lv_lload_n hx hb zd_M_simple_99 rfl (lv_at hl 2 rfl) ?_
                  refine lv_lor hx hb zd_M_simple_100 ?_
                  exact hret (p1 ||| p2)  _ H locs 101 ls ⟨rfl, h⟩ hP rfl hS zd_M_simple_101
                · have h := zq_if k7 h
                  by_cases k8 : p0 = 8
                  · have h := zq_it k8 h
                    refine lv_tableIn (off := 101) (tgt := 102) hx hb zd_M_simple_1 (by rw [k8]; decide) (by rw [k8]; decide) (by rw [k8]; rfl) (by decide) ?_
                    refine lv_lload_n hx hb zd_M_simple_102 rfl (lv_at hl 1 rfl) ?_
                    refine lv_lload_n hx hb zd_M_simple_103 rfl (lv_at hl 2 rfl) ?_
                    refine lv_lxor hx hb zd_M_simple_104 ?_
                    exact hret (p1 ^^^ p2)  _ H locs 105 ls ⟨rfl, h⟩ hP rfl hS zd_M_simple_105
                  · have h := zq_if k8 h
                    by_cases k9 : p0 = 9
                    · have h := zq_it k9 h
                      refine lv_tableIn (off := 105) (tgt := 106) hx hb zd_M_simple_1 (by rw [k9]; decide) (by rw [k9]; decide) (by rw [k9]; rfl) (by decide) ?_
                      refine lv_lload_n hx hb zd_M_simple_106 rfl (lv_at hl 2 rfl) ?_
                      refine lv_lconst (v := 0) hx hb zd_M_simple_107 (by decide) ?_
                      refine W.ldc2 (v := 63) hx hb hown (ht _ zw_483) rfl zd_M_simple_108 ?_
                      refine W.eq (g2 := F0 m 111 ls [.long 63, .long 0, .long p2]) rfl ?_
                      refine zq_c_Si (rest := []) (adl := []) (wr := []) ⟨hx, hb, hml, hown, ht⟩ (c_M_in l D kT ad p2 0 63 _ h) (cwS 3 ht (zq_gS zw_391 zw_392 zw_393 zw_394) rfl rfl rfl zh_M_in ⟨Nat.le_of_ble_eq_true rfl, Nat.le_of_ble_eq_true rfl⟩) hE hP hD hS hA [] [] 0 rfl (by decide +kernel) rfl (by decide +kernel) rfl rfl  rfl hl.1 (Nat.le_of_ble_eq_true rfl) rfl zd_M_simple_111 ⟨Nat.zero_le _, Nat.zero_le _⟩ (fun r_3 w1 H locs hw hJ hS => ?_)
                      obtain ⟨rfl, h⟩ := hw
                      obtain ⟨hP, hD⟩ := hJ [] rfl rfl rfl
                      refine lv_if_eq (tgt := 124) hx hb zd_M_simple_114 (by decide) (fun c_4 => ?_) (fun c_4 => ?_)
                      · have h := zq_it c_4 h
                        refine lv_lconst (v := 0) hx hb zd_M_simple_124 (by decide) ?_
                        exact hret 0  _ H locs 125 ls ⟨rfl, h⟩ hP rfl hS zd_M_simple_125
                      · have h := zq_if c_4 h
                        refine lv_lload_n hx hb zd_M_simple_117 rfl (lv_at hl 1 rfl) ?_
                        refine lv_lload_n hx hb zd_M_simple_118 rfl (lv_at hl 2 rfl) ?_
                        refine lv_l2i (v := (zq_j_l2i p2)) hx hb zd_M_simple_119 rfl ?_
                        refine lv_lshl (v := (zq_j_lshl p1 (zq_j_l2i p2))) hx hb zd_M_simple_120 rfl ?_
                        refine lv_goto (tgt := 125) hx hb zd_M_simple_121 (by decide) ?_
                        exact hret (zq_j_lshl p1 (zq_j_l2i p2))  _ H locs 125 ls ⟨rfl, h⟩ hP rfl hS zd_M_simple_125
                    · have h := zq_if k9 h
                      by_cases k10 : p0 = 10
                      · have h := zq_it k10 h
                        refine lv_tableIn (off := 125) (tgt := 126) hx hb zd_M_simple_1 (by rw [k10]; decide) (by rw [k10]; decide) (by rw [k10]; rfl) (by decide) ?_
                        refine lv_lload_n hx hb zd_M_simple_126 rfl (lv_at hl 2 rfl) ?_
                        refine lv_lconst (v := 0) hx hb zd_M_simple_127 (by decide) ?_
                        refine W.ldc2 (v := 63) hx hb hown (ht _ zw_483) rfl zd_M_simple_128 ?_
                        refine W.eq (g2 := F0 m 131 ls [.long 63, .long 0, .long p2]) rfl ?_
                        refine zq_c_Si (rest := []) (adl := []) (wr := []) ⟨hx, hb, hml, hown, ht⟩ (c_M_in l D kT ad p2 0 63 _ h) (cwS 3 ht (zq_gS zw_391 zw_392 zw_393 zw_394) rfl rfl rfl zh_M_in ⟨Nat.le_of_ble_eq_true rfl, Nat.le_of_ble_eq_true rfl⟩) hE hP hD hS hA [] [] 0 rfl (by decide +kernel) rfl (by decide +kernel) rfl rfl  rfl hl.1 (Nat.le_of_ble_eq_true rfl) rfl zd_M_simple_131 ⟨Nat.zero_le _, Nat.zero_le _⟩ (fun r_5 w1 H locs hw hJ hS => ?_)
                        obtain ⟨rfl, h⟩ := hw
                        obtain ⟨hP, hD⟩ := hJ [] rfl rfl rfl
                        refine lv_if_eq (tgt := 144) hx hb zd_M_simple_134 (by decide) (fun c_6 => ?_) (fun c_6 => ?_)
                        · have h := zq_it c_6 h
                          refine lv_lconst (v := 0) hx hb zd_M_simple_144 (by decide) ?_
                          exact hret 0  _ H locs 145 ls ⟨rfl, h⟩ hP rfl hS zd_M_simple_145
                        · have h := zq_if c_6 h
                          refine lv_lload_n hx hb zd_M_simple_137 rfl (lv_at hl 1 rfl) ?_
                          refine lv_lload_n hx hb zd_M_simple_138 rfl (lv_at hl 2 rfl) ?_
                          refine lv_l2i (v := (zq_j_l2i p2)) hx hb zd_M_simple_139 rfl ?_
                          refine lv_lushr (v := (zq_j_lushr p1 (zq_j_l2i p2))) hx hb zd_M_simple_140 rfl ?_
                          refine lv_goto (tgt := 145) hx hb zd_M_simple_141 (by decide) ?_
                          exact hret (zq_j_lushr p1 (zq_j_l2i p2))  _ H locs 145 ls ⟨rfl, h⟩ hP rfl hS zd_M_simple_145
                      · have h := zq_if k10 h
                        by_cases k11 : p0 = 11
                        · have h := zq_it k11 h
                          refine lv_tableIn (off := 145) (tgt := 146) hx hb zd_M_simple_1 (by rw [k11]; decide) (by rw [k11]; decide) (by rw [k11]; rfl) (by decide) ?_
                          refine lv_lload_n hx hb zd_M_simple_146 rfl (lv_at hl 1 rfl) ?_
                          refine lv_lload_n hx hb zd_M_simple_147 rfl (lv_at hl 2 rfl) ?_
                          refine zq_c_Si (rest := []) (adl := []) (wr := []) ⟨hx, hb, hml, hown, ht⟩ (c_M_isLess l D kT ad p1 p2 _ h) (cwS 2 ht (zq_gS zw_477 zw_478 zw_393 zw_479) rfl rfl rfl zh_M_isLess ⟨Nat.le_of_ble_eq_true rfl, Nat.le_of_ble_eq_true rfl⟩) hE hP hD hS hA [] [] 0 rfl (by decide +kernel) rfl (by decide +kernel) rfl rfl  rfl hl.1 (Nat.le_of_ble_eq_true rfl) rfl zd_M_simple_148 ⟨Nat.zero_le _, Nat.zero_le _⟩ (fun r_7 w1 H locs hw hJ hS => ?_)
                          obtain ⟨rfl, h⟩ := hw
                          obtain ⟨hP, hD⟩ := hJ [] rfl rfl rfl
                          refine lv_if_eq (tgt := 158) hx hb zd_M_simple_151 (by decide) (fun c_8 => ?_) (fun c_8 => ?_)
                          · have h := zq_it c_8 h
                            refine lv_lconst (v := 0) hx hb zd_M_simple_158 (by decide) ?_
                            exact hret 0  _ H locs 159 ls ⟨rfl, h⟩ hP rfl hS zd_M_simple_159
                          · have h := zq_if c_8 h
                            refine lv_lconst (v := 1) hx hb zd_M_simple_154 (by decide) ?_
                            refine lv_goto (tgt := 159) hx hb zd_M_simple_155 (by decide) ?_
                            exact hret 1  _ H locs 159 ls ⟨rfl, h⟩ hP rfl hS zd_M_simple_159
                        · have h := zq_if k11 h
                          refine lv_tableOut (tgt := 160) hx hb zd_M_simple_1 (by have q0 := lv_neT k0 (a := 0) (by decide); have q1 := lv_neT k1 (a := 1) (by decide); have q2 := lv_neT k2 (a := 2) (by decide); have q3 := lv_neT k3 (a := 3) (by decide); have q4 := lv_neT k4 (a := 4) (by decide); have q5 := lv_neT k5 (a := 5) (by decide); have q6 := lv_neT k6 (a := 6) (by decide); have q7 := lv_neT k7 (a := 7) (by decide); have q8 := lv_neT k8 (a := 8) (by decide); have q9 := lv_neT k9 (a := 9) (by decide); have q10 := lv_neT k10 (a := 10) (by decide); have q11 := lv_neT k11 (a := 11) (by decide); omega) (by decide) ?_
                          refine lv_lload_n hx hb zd_M_simple_160 rfl (lv_at hl 1 rfl) ?_
                          refine lv_lload_n hx hb zd_M_simple_161 rfl (lv_at hl 2 rfl) ?_
                          refine W.lcmp hx hb zd_M_simple_162 ?_
                          refine lv_if_ne (tgt := 170) hx hb zd_M_simple_163 (by decide) (fun c_9 => ?_) (fun c_9 => ?_)
                          · have h := zq_if (fun z => c_9 (zq_lc_eq.mpr z)) h
                            refine lv_lconst (v := 0) hx hb zd_M_simple_170 (by decide) ?_
                            exact hret 0  _ H locs 171 ls ⟨rfl, h⟩ hP rfl hS zd_M_simple_171
                          · have h := zq_it (zq_lc_eq.mp c_9) h
                            refine lv_lconst (v := 1) hx hb zd_M_simple_166 (by decide) ?_
                            refine lv_goto (tgt := 171) hx hb zd_M_simple_167 (by decide) ?_
                            exact hret 1  _ H locs 171 ls ⟨rfl, h⟩ hP rfl hS zd_M_simple_171
