abbrev W_M_keep (kT : Nat → ClassId) (ad : Nat → Nat) (gthr : Int32) (greg : Int32) (gcon : Int32) (gfld : Int32) (gtrn : Int32) (gins : Int32) (glev : Int32) (gkep : Int32) (glvs : Int32) (gkps : Int32) (gwrd : Int32) (gsta : Int32) (gflt : Int32) (gend : Int32) (ghal : Int32) (gwro : Int32) (gwai : Int32) (gwpl : Int64) (gwrs : Int32) (ghlt : Int32) (glat : Int32) (glpl : Int32) (aval : Nat → Int64) (amrk : Nat → Int32) (akpl : Nat → Int32) (aklv : Nat → Int32) : va_W := [(ad 0, .inr (10, [.int gthr, .int greg, .ref (ad 1), .ref (ad 2), .ref (ad 3), .ref (ad 4), .ref (ad 5), .ref (ad 6), .ref (ad 7), .ref (ad 8), .ref (ad 9), .int gcon, .int gfld, .int gtrn, .int gins, .ref (ad 10), .ref (ad 11), .ref (ad 12), .ref (ad 13), .ref (ad 14), .ref (ad 15), .ref (ad 16), .ref (ad 17), .ref (ad 18), .ref (ad 19), .ref (ad 20), .ref (ad 21), .ref (ad 22), .ref (ad 23), .int glev, .int gkep, .int glvs, .int gkps, .ref (ad 24), .ref (ad 25), .int gwrd, .int gsta, .int gflt, .int gend, .int ghal, .int gwro, .int gwai, .long gwpl, .int gwrs, .ref (ad 26), .ref (ad 27), .ref (ad 28), .ref (ad 29), .int ghlt, .int glat, .int glpl, .ref (ad 30)])), (ad 2, .inl (kT 1, 24, .inr (.inl aval))), (ad 5, .inl (kT 2, 24, .inl amrk)), (ad 24, .inl (kT 0, 8, .inl akpl)), (ad 25, .inl (kT 0, 8, .inl aklv))]
abbrev A_M_keep (ad : Nat → Nat) : List Nat := [ad 0, ad 2, ad 5, ad 24, ad 25]
def wp_M_keep (gthr : Int32) (greg : Int32) (gcon : Int32) (gfld : Int32) (gtrn : Int32) (gins : Int32) (glev : Int32) (gkep : Int32) (glvs : Int32) (gkps : Int32) (gwrd : Int32) (gsta : Int32) (gflt : Int32) (gend : Int32) (ghal : Int32) (gwro : Int32) (gwai : Int32) (gwpl : Int64) (gwrs : Int32) (ghlt : Int32) (glat : Int32) (glpl : Int32) (aval : Nat → Int64) (amrk : Nat → Int32) (akpl : Nat → Int32) (aklv : Nat → Int32) (p0 : Int32) (p1 : Int32) (p2 : Int32) (post : Int32 → Int32 → Int32 → Int32 → (Nat → Int64) → (Nat → Int32) → (Nat → Int32) → (Nat → Int32) → Prop) : Prop := (if gkep = 8 then post 0 glev gkep 2 (vp_updL aval 0 (zq_j_i2l p0)) amrk akpl aklv else vp_in gkep 8 ∧ vp_in gkep 8 ∧ post 1 p1 (gkep + 1) ghlt (vp_updL aval 0 (zq_j_i2l p2)) (upd amrk 0 (vp_nar .boolean 0)) (upd akpl gkep.toNatClampNeg p0) (upd aklv gkep.toNatClampNeg glev))
set_option maxHeartbeats 4000000 in
set_option maxRecDepth 100000 in
theorem c_M_keep (l : Launch) (D : va_G) (kT : Nat → ClassId) (ad : Nat → Nat) (gthr : Int32) (greg : Int32) (gcon : Int32) (gfld : Int32) (gtrn : Int32) (gins : Int32) (glev : Int32) (gkep : Int32) (glvs : Int32) (gkps : Int32) (gwrd : Int32) (gsta : Int32) (gflt : Int32) (gend : Int32) (ghal : Int32) (gwro : Int32) (gwai : Int32) (gwpl : Int64) (gwrs : Int32) (ghlt : Int32) (glat : Int32) (glpl : Int32) (aval : Nat → Int64) (amrk : Nat → Int32) (akpl : Nat → Int32) (aklv : Nat → Int32) (p0 : Int32) (p1 : Int32) (p2 : Int32) (post : Int32 → Int32 → Int32 → Int32 → (Nat → Int64) → (Nat → Int32) → (Nat → Int32) → (Nat → Int32) → Prop) (h : wp_M_keep gthr greg gcon gfld gtrn gins glev gkep glvs gkps gwrd gsta gflt gend ghal gwro gwai gwpl gwrs ghlt glat glpl aval amrk akpl aklv p0 p1 p2 post) : zq_Mi l zy_M_keep zs_M_keep ({ frames := 0, cells := 0, slots := 0, locals := 0 }) D kT [.ref (ad 0), .int p0, .int p1, .int p2] (W_M_keep kT ad gthr greg gcon gfld gtrn gins glev gkep glvs gkps gwrd gsta gflt gend ghal gwro gwai gwpl gwrs ghlt glat glpl aval amrk akpl aklv) (fun r w' => ∃ (glev' : Int32) (gkep' : Int32) (ghlt' : Int32) (aval' : Nat → Int64) (amrk' : Nat → Int32) (akpl' : Nat → Int32) (aklv' : Nat → Int32), w' = (W_M_keep kT ad gthr greg gcon gfld gtrn gins glev' gkep' glvs gkps gwrd gsta gflt gend ghal gwro gwai gwpl gwrs ghlt' glat glpl aval' amrk' akpl' aklv') ∧ post r glev' gkep' ghlt' aval' amrk' akpl' aklv') := by
  refine zq_Mz_of (adl := (A_M_keep ad)) (cc := zb_M_keep) (maxL := 4) (own := zR_M) rfl (by decide) rfl rfl (Nat.le_of_ble_eq_true rfl) ?_
  intro p e s m AV below meth c A QQ H locs ls hx hb hml hown ht hE hA hret hP hD hS hl
  have hK := hE.1
  have hl : lv_has ls 4 [(0, .ref (ad 0)), (1, .int p0), (2, .int p1), (3, .int p2)] := hl
  unfold wp_M_keep at h
  refine lv_aload_n hx hb zd_M_keep_0 rfl (lv_at hl 0 rfl) ?_
  refine va_get (D := D) (ci := 10) (v := .int gkep) (C := zR_M) (T := zF_M) (N := 52) hx hb ht zi_M hown hK hP 0 rfl rfl 30 (by decide) (ht _ zw_430) (fun _ h9 => h9) rfl zd_M_keep_1 ?_
  refine lv_bipush (v := 8) hx hb zd_M_keep_4 (by decide) ?_
  refine lv_icmp_ne (tgt := 24) hx hb zd_M_keep_6 (by decide) (fun c_1 => ?_) (fun c_1 => ?_)
  · have h := zq_if c_1 h
    refine lv_aload_n hx hb zd_M_keep_24 rfl (lv_at hl 0 rfl) ?_
    refine va_get (D := D) (ci := 10) (v := .ref (ad 24)) (C := zR_M) (T := zF_M) (N := 52) hx hb ht zi_M hown hK hP 0 rfl rfl 33 (by decide) (ht _ zw_431) (fun _ h9 => h9) rfl zd_M_keep_25 ?_
    refine lv_aload_n hx hb zd_M_keep_28 rfl (lv_at hl 0 rfl) ?_
    refine va_get (D := D) (ci := 10) (v := .int gkep) (C := zR_M) (T := zF_M) (N := 52) hx hb ht zi_M hown hK hP 0 rfl rfl 30 (by decide) (ht _ zw_430) (fun _ h9 => h9) rfl zd_M_keep_29 ?_
    refine lv_iload_n hx hb zd_M_keep_32 rfl (lv_at hl 1 rfl) ?_
    obtain ⟨hi_2, h⟩ := h
    refine zq_a_iast (D := D) hx hb hK hP hD hS 3 0 rfl rfl hi_2 rfl zd_M_keep_33 (fun H locs hP hD hS => ?_)
    have hP : va_P D vwCl (W_M_keep kT ad gthr greg gcon gfld gtrn gins glev gkep glvs gkps gwrd gsta gflt gend ghal gwro gwai gwpl gwrs ghlt glat glpl aval amrk (upd akpl gkep.toNatClampNeg p0) aklv) H := hP
    have hD : va_D A (W_M_keep kT ad gthr greg gcon gfld gtrn gins glev gkep glvs gkps gwrd gsta gflt gend ghal gwro gwai gwpl gwrs ghlt glat glpl aval amrk (upd akpl gkep.toNatClampNeg p0) aklv) := hD
    refine lv_aload_n hx hb zd_M_keep_34 rfl (lv_at hl 0 rfl) ?_
    refine va_get (D := D) (ci := 10) (v := .ref (ad 25)) (C := zR_M) (T := zF_M) (N := 52) hx hb ht zi_M hown hK hP 0 rfl rfl 34 (by decide) (ht _ zw_432) (fun _ h9 => h9) rfl zd_M_keep_35 ?_
    refine lv_aload_n hx hb zd_M_keep_38 rfl (lv_at hl 0 rfl) ?_
    refine va_get (D := D) (ci := 10) (v := .int gkep) (C := zR_M) (T := zF_M) (N := 52) hx hb ht zi_M hown hK hP 0 rfl rfl 30 (by decide) (ht _ zw_430) (fun _ h9 => h9) rfl zd_M_keep_39 ?_
    refine lv_aload_n hx hb zd_M_keep_42 rfl (lv_at hl 0 rfl) ?_
    refine va_get (D := D) (ci := 10) (v := .int glev) (C := zR_M) (T := zF_M) (N := 52) hx hb ht zi_M hown hK hP 0 rfl rfl 29 (by decide) (ht _ zw_433) (fun _ h9 => h9) rfl zd_M_keep_43 ?_
    obtain ⟨hi_3, h⟩ := h
    refine zq_a_iast (D := D) hx hb hK hP hD hS 4 0 rfl rfl hi_3 rfl zd_M_keep_46 (fun H locs hP hD hS => ?_)
    have hP : va_P D vwCl (W_M_keep kT ad gthr greg gcon gfld gtrn gins glev gkep glvs gkps gwrd gsta gflt gend ghal gwro gwai gwpl gwrs ghlt glat glpl aval amrk (upd akpl gkep.toNatClampNeg p0) (upd aklv gkep.toNatClampNeg glev)) H := hP
    have hD : va_D A (W_M_keep kT ad gthr greg gcon gfld gtrn gins glev gkep glvs gkps gwrd gsta gflt gend ghal gwro gwai gwpl gwrs ghlt glat glpl aval amrk (upd akpl gkep.toNatClampNeg p0) (upd aklv gkep.toNatClampNeg glev)) := hD
    refine lv_aload_n hx hb zd_M_keep_47 rfl (lv_at hl 0 rfl) ?_
    refine lv_dup hx hb zd_M_keep_48 rfl ?_
    refine va_get (D := D) (ci := 10) (v := .int gkep) (C := zR_M) (T := zF_M) (N := 52) hx hb ht zi_M hown hK hP 0 rfl rfl 30 (by decide) (ht _ zw_430) (fun _ h9 => h9) rfl zd_M_keep_49 ?_
    refine lv_iconst (v := 1) hx hb zd_M_keep_52 (by decide) ?_
    refine lv_iadd hx hb zd_M_keep_53 ?_
    refine va_put (D := D) (ci := 10) (v := .int (gkep + 1)) (ty := .int) (C := zR_M) (T := zF_M) (N := 52) hx hb ht zi_M zt_M zt_M_ok zn_M hown hK hP hD hS 0 rfl rfl 30 (by decide) (ht _ zw_430) (fun _ h9 => h9) rfl (by decide +kernel) rfl rfl (Nat.le_of_ble_eq_true rfl) zd_M_keep_54 (fun H locs hP hD hS => ?_)
    have hP : va_P D vwCl (W_M_keep kT ad gthr greg gcon gfld gtrn gins glev (gkep + 1) glvs gkps gwrd gsta gflt gend ghal gwro gwai gwpl gwrs ghlt glat glpl aval amrk (upd akpl gkep.toNatClampNeg p0) (upd aklv gkep.toNatClampNeg glev)) H := hP
    have hD : va_D A (W_M_keep kT ad gthr greg gcon gfld gtrn gins glev (gkep + 1) glvs gkps gwrd gsta gflt gend ghal gwro gwai gwpl gwrs ghlt glat glpl aval amrk (upd akpl gkep.toNatClampNeg p0) (upd aklv gkep.toNatClampNeg glev)) := hD
    refine lv_aload_n hx hb zd_M_keep_57 rfl (lv_at hl 0 rfl) ?_
    refine lv_iload_n hx hb zd_M_keep_58 rfl (lv_at hl 2 rfl) ?_
    refine va_put (D := D) (ci := 10) (v := .int p1) (ty := .int) (C := zR_M) (T := zF_M) (N := 52) hx hb ht zi_M zt_M zt_M_ok zn_M hown hK hP hD hS 0 rfl rfl 29 (by decide) (ht _ zw_433) (fun _ h9 => h9) rfl (by decide +kernel) rfl rfl (Nat.le_of_ble_eq_true rfl) zd_M_keep_59 (fun H locs hP hD hS => ?_)
    have hP : va_P D vwCl (W_M_keep kT ad gthr greg gcon gfld gtrn gins p1 (gkep + 1) glvs gkps gwrd gsta gflt gend ghal gwro gwai gwpl gwrs ghlt glat glpl aval amrk (upd akpl gkep.toNatClampNeg p0) (upd aklv gkep.toNatClampNeg glev)) H := hP
    have hD : va_D A (W_M_keep kT ad gthr greg gcon gfld gtrn gins p1 (gkep + 1) glvs gkps gwrd gsta gflt gend ghal gwro gwai gwpl gwrs ghlt glat glpl aval amrk (upd akpl gkep.toNatClampNeg p0) (upd aklv gkep.toNatClampNeg glev)) := hD
    refine lv_aload_n hx hb zd_M_keep_62 rfl (lv_at hl 0 rfl) ?_
    refine va_get (D := D) (ci := 10) (v := .ref (ad 2)) (C := zR_M) (T := zF_M) (N := 52) hx hb ht zi_M hown hK hP 0 rfl rfl 3 (by decide) (ht _ zw_400) (fun _ h9 => h9) rfl zd_M_keep_63 ?_
    refine lv_iconst (v := 0) hx hb zd_M_keep_66 (by decide) ?_
    refine lv_iload_n hx hb zd_M_keep_67 rfl (lv_at hl 3 rfl) ?_
    refine lv_i2l (v := (zq_j_i2l p2)) hx hb zd_M_keep_68 rfl ?_
    refine zq_a_last (D := D) (j := 0) hx hb hK hP hD hS 1 1 rfl rfl (zq_in (by decide)) (by decide) zd_M_keep_69 (fun H locs hP hD hS => ?_)
    have hP : va_P D vwCl (W_M_keep kT ad gthr greg gcon gfld gtrn gins p1 (gkep + 1) glvs gkps gwrd gsta gflt gend ghal gwro gwai gwpl gwrs ghlt glat glpl (vp_updL aval 0 (zq_j_i2l p2)) amrk (upd akpl gkep.toNatClampNeg p0) (upd aklv gkep.toNatClampNeg glev)) H := hP
    have hD : va_D A (W_M_keep kT ad gthr greg gcon gfld gtrn gins p1 (gkep + 1) glvs gkps gwrd gsta gflt gend ghal gwro gwai gwpl gwrs ghlt glat glpl (vp_updL aval 0 (zq_j_i2l p2)) amrk (upd akpl gkep.toNatClampNeg p0) (upd aklv gkep.toNatClampNeg glev)) := hD
    refine lv_aload_n hx hb zd_M_keep_70 rfl (lv_at hl 0 rfl) ?_
    refine va_get (D := D) (ci := 10) (v := .ref (ad 5)) (C := zR_M) (T := zF_M) (N := 52) hx hb ht zi_M hown hK hP 0 rfl rfl 6 (by decide) (ht _ zw_401) (fun _ h9 => h9) rfl zd_M_keep_71 ?_
    refine lv_iconst (v := 0) hx hb zd_M_keep_74 (by decide) ?_
    refine lv_iconst (v := 0) hx hb zd_M_keep_75 (by decide) ?_
    refine zq_a_zast (D := D) (j := 0) hx hb hK hP hD hS 2 2 rfl rfl (zq_in (by decide)) (by decide) zd_M_keep_76 (fun H locs hP hD hS => ?_)
    have hP : va_P D vwCl (W_M_keep kT ad gthr greg gcon gfld gtrn gins p1 (gkep + 1) glvs gkps gwrd gsta gflt gend ghal gwro gwai gwpl gwrs ghlt glat glpl (vp_updL aval 0 (zq_j_i2l p2)) (upd amrk 0 (vp_nar .boolean 0)) (upd akpl gkep.toNatClampNeg p0) (upd aklv gkep.toNatClampNeg glev)) H := hP
    have hD : va_D A (W_M_keep kT ad gthr greg gcon gfld gtrn gins p1 (gkep + 1) glvs gkps gwrd gsta gflt gend ghal gwro gwai gwpl gwrs ghlt glat glpl (vp_updL aval 0 (zq_j_i2l p2)) (upd amrk 0 (vp_nar .boolean 0)) (upd akpl gkep.toNatClampNeg p0) (upd aklv gkep.toNatClampNeg glev)) := hD
    refine lv_iconst (v := 1) hx hb zd_M_keep_77 (by decide) ?_
    exact hret 1 rfl _ H locs 78 ls ⟨p1, (gkep + 1), ghlt, (vp_updL aval 0 (zq_j_i2l p2)), (upd amrk 0 (vp_nar .boolean 0)), (upd akpl gkep.toNatClampNeg p0), (upd aklv gkep.toNatClampNeg glev), rfl, h⟩ hP rfl hS zd_M_keep_78
  · have h := zq_it c_1 h
    refine lv_aload_n hx hb zd_M_keep_9 rfl (lv_at hl 0 rfl) ?_
    refine va_get (D := D) (ci := 10) (v := .ref (ad 2)) (C := zR_M) (T := zF_M) (N := 52) hx hb ht zi_M hown hK hP 0 rfl rfl 3 (by decide) (ht _ zw_400) (fun _ h9 => h9) rfl zd_M_keep_10 ?_
    refine lv_iconst (v := 0) hx hb zd_M_keep_13 (by decide) ?_
    refine lv_iload_n hx hb zd_M_keep_14 rfl (lv_at hl 1 rfl) ?_
    refine lv_i2l (v := (zq_j_i2l p0)) hx hb zd_M_keep_15 rfl ?_
    refine zq_a_last (D := D) (j := 0) hx hb hK hP hD hS 1 1 rfl rfl (zq_in (by decide)) (by decide) zd_M_keep_16 (fun H locs hP hD hS => ?_)
    have hP : va_P D vwCl (W_M_keep kT ad gthr greg gcon gfld gtrn gins glev gkep glvs gkps gwrd gsta gflt gend ghal gwro gwai gwpl gwrs ghlt glat glpl (vp_updL aval 0 (zq_j_i2l p0)) amrk akpl aklv) H := hP
    have hD : va_D A (W_M_keep kT ad gthr greg gcon gfld gtrn gins glev gkep glvs gkps gwrd gsta gflt gend ghal gwro gwai gwpl gwrs ghlt glat glpl (vp_updL aval 0 (zq_j_i2l p0)) amrk akpl aklv) := hD
    refine lv_aload_n hx hb zd_M_keep_17 rfl (lv_at hl 0 rfl) ?_
    refine lv_iconst (v := 2) hx hb zd_M_keep_18 (by decide) ?_
    refine va_put (D := D) (ci := 10) (v := .int 2) (ty := .int) (C := zR_M) (T := zF_M) (N := 52) hx hb ht zi_M zt_M zt_M_ok zn_M hown hK hP hD hS 0 rfl rfl 48 (by decide) (ht _ zw_434) (fun _ h9 => h9) rfl (by decide +kernel) rfl rfl (Nat.le_of_ble_eq_true rfl) zd_M_keep_19 (fun H locs hP hD hS => ?_)
    have hP : va_P D vwCl (W_M_keep kT ad gthr greg gcon gfld gtrn gins glev gkep glvs gkps gwrd gsta gflt gend ghal gwro gwai gwpl gwrs 2 glat glpl (vp_updL aval 0 (zq_j_i2l p0)) amrk akpl aklv) H := hP
    have hD : va_D A (W_M_keep kT ad gthr greg gcon gfld gtrn gins glev gkep glvs gkps gwrd gsta gflt gend ghal gwro gwai gwpl gwrs 2 glat glpl (vp_updL aval 0 (zq_j_i2l p0)) amrk akpl aklv) := hD
    refine lv_iconst (v := 0) hx hb zd_M_keep_22 (by decide) ?_
    exact hret 0 rfl _ H locs 23 ls ⟨glev, gkep, 2, (vp_updL aval 0 (zq_j_i2l p0)), amrk, akpl, aklv, rfl, h⟩ hP rfl hS zd_M_keep_23
abbrev W_M_takeFault (kT : Nat → ClassId) (ad : Nat → Nat) (gthr : Int32) (greg : Int32) (gcon : Int32) (gfld : Int32) (gtrn : Int32) (gins : Int32) (glev : Int32) (gkep : Int32) (glvs : Int32) (gkps : Int32) (gwrd : Int32) (gsta : Int32) (gflt : Int32) (gend : Int32) (ghal : Int32) (gwro : Int32) (gwai : Int32) (gwpl : Int64) (gwrs : Int32) (ghlt : Int32) (glat : Int32) (glpl : Int32) (aval : Nat → Int64) (amrk : Nat → Int32) (akpl : Nat → Int32) (aklv : Nat → Int32) (acnt : Nat → Int32) : va_W := [(ad 0, .inr (10, [.int gthr, .int greg, .ref (ad 1), .ref (ad 2), .ref (ad 3), .ref (ad 4), .ref (ad 5), .ref (ad 6), .ref (ad 7), .ref (ad 8), .ref (ad 9), .int gcon, .int gfld, .int gtrn, .int gins, .ref (ad 10), .ref (ad 11), .ref (ad 12), .ref (ad 13), .ref (ad 14), .ref (ad 15), .ref (ad 16), .ref (ad 17), .ref (ad 18), .ref (ad 19), .ref (ad 20), .ref (ad 21), .ref (ad 22), .ref (ad 23), .int glev, .int gkep, .int glvs, .int gkps, .ref (ad 24), .ref (ad 25), .int gwrd, .int gsta, .int gflt, .int gend, .int ghal, .int gwro, .int gwai, .long gwpl, .int gwrs, .ref (ad 26), .ref (ad 27), .ref (ad 28), .ref (ad 29), .int ghlt, .int glat, .int glpl, .ref (ad 30)])), (ad 2, .inl (kT 1, 24, .inr (.inl aval))), (ad 5, .inl (kT 2, 24, .inl amrk)), (ad 24, .inl (kT 0, 8, .inl akpl)), (ad 25, .inl (kT 0, 8, .inl aklv)), (ad 30, .inl (kT 0, 9, .inl acnt))]
abbrev A_M_takeFault (ad : Nat → Nat) : List Nat := [ad 0, ad 2, ad 5, ad 24, ad 25, ad 30]
def wp_M_takeFault (gthr : Int32) (greg : Int32) (gcon : Int32) (gfld : Int32) (gtrn : Int32) (gins : Int32) (glev : Int32) (gkep : Int32) (glvs : Int32) (gkps : Int32) (gwrd : Int32) (gsta : Int32) (gflt : Int32) (gend : Int32) (ghal : Int32) (gwro : Int32) (gwai : Int32) (gwpl : Int64) (gwrs : Int32) (ghlt : Int32) (glat : Int32) (glpl : Int32) (aval : Nat → Int64) (amrk : Nat → Int32) (akpl : Nat → Int32) (aklv : Nat → Int32) (acnt : Nat → Int32) (p0 : Int32) (post : Int32 → Int32 → Int32 → Int32 → Int32 → Int32 → (Nat → Int64) → (Nat → Int32) → (Nat → Int32) → (Nat → Int32) → (Nat → Int32) → Prop) : Prop := wp_M_keep gthr greg gcon gfld gtrn gins glev gkep glvs gkps gwrd gsta gflt gend ghal gwro 0 gwpl gwrs ghlt p0 gsta aval amrk akpl aklv gsta 15 (4 * p0) (fun r_8 glev_1 gkep_2 ghlt_3 aval_4 amrk_5 akpl_6 aklv_7 => post  glev_1 gkep_2 0 ghlt_3 p0 gsta aval_4 amrk_5 akpl_6 aklv_7 (upd acnt 2 ((acnt 2) + 1)))
set_option maxHeartbeats 4000000 in
set_option maxRecDepth 100000 in
theorem c_M_takeFault (l : Launch) (D : va_G) (kT : Nat → ClassId) (ad : Nat → Nat) (gthr : Int32) (greg : Int32) (gcon : Int32) (gfld : Int32) (gtrn : Int32) (gins : Int32) (glev : Int32) (gkep : Int32) (glvs : Int32) (gkps : Int32) (gwrd : Int32) (gsta : Int32) (gflt : Int32) (gend : Int32) (ghal : Int32) (gwro : Int32) (gwai : Int32) (gwpl : Int64) (gwrs : Int32) (ghlt : Int32) (glat : Int32) (glpl : Int32) (aval : Nat → Int64) (amrk : Nat → Int32) (akpl : Nat → Int32) (aklv : Nat → Int32) (acnt : Nat → Int32) (p0 : Int32) (post : Int32 → Int32 → Int32 → Int32 → Int32 → Int32 → (Nat → Int64) → (Nat → Int32) → (Nat → Int32) → (Nat → Int32) → (Nat → Int32) → Prop) (h : wp_M_takeFault gthr greg gcon gfld gtrn gins glev gkep glvs gkps gwrd gsta gflt gend ghal gwro gwai gwpl gwrs ghlt glat glpl aval amrk akpl aklv acnt p0 post) : zq_Mv l zy_M_takeFault zs_M_takeFault ({ frames := 1, cells := 0, slots := 0, locals := 23 }) D kT [.ref (ad 0), .int p0] (W_M_takeFault kT ad gthr greg gcon gfld gtrn gins glev gkep glvs gkps gwrd gsta gflt gend ghal gwro gwai gwpl gwrs ghlt glat glpl aval amrk akpl aklv acnt) (fun w' => ∃ (glev' : Int32) (gkep' : Int32) (gwai' : Int32) (ghlt' : Int32) (glat' : Int32) (glpl' : Int32) (aval' : Nat → Int64) (amrk' : Nat → Int32) (akpl' : Nat → Int32) (aklv' : Nat → Int32) (acnt' : Nat → Int32), w' = (W_M_takeFault kT ad gthr greg gcon gfld gtrn gins glev' gkep' glvs gkps gwrd gsta gflt gend ghal gwro gwai' gwpl gwrs ghlt' glat' glpl' aval' amrk' akpl' aklv' acnt') ∧ post  glev' gkep' gwai' ghlt' glat' glpl' aval' amrk' akpl' aklv' acnt') := by
  refine zq_Mv_of (adl := (A_M_takeFault ad)) (cc := zb_M_takeFault) (maxL := 2) (own := zR_M) rfl (by decide) rfl rfl (Nat.le_of_ble_eq_true rfl) ?_
  intro p e s m AV below meth c A QQ H locs ls hx hb hml hown ht hE hA hret hP hD hS hl
  have hK := hE.1
  have hl : lv_has ls 2 [(0, .ref (ad 0)), (1, .int p0)] := hl
  refine lv_aload_n hx hb zd_M_takeFault_0 rfl (lv_at hl 0 rfl) ?_
  refine va_get (D := D) (ci := 10) (v := .ref (ad 30)) (C := zR_M) (T := zF_M) (N := 52) hx hb ht zi_M hown hK hP 0 rfl rfl 51 (by decide) (ht _ zw_435) (fun _ h9 => h9) rfl zd_M_takeFault_1 ?_
  refine lv_iconst (v := 2) hx hb zd_M_takeFault_4 (by decide) ?_
  refine lv_dup2_11 hx hb zd_M_takeFault_5 rfl rfl ?_
  refine zq_a_iald (D := D) (j := 2) hx hb hK hP 5 0 rfl rfl (zq_in (by decide)) (by decide) zd_M_takeFault_6 ?_
  refine lv_iconst (v := 1) hx hb zd_M_takeFault_7 (by decide) ?_
  refine lv_iadd hx hb zd_M_takeFault_8 ?_
  refine zq_a_iast (D := D) (j := 2) hx hb hK hP hD hS 5 0 rfl rfl (zq_in (by decide)) (by decide) zd_M_takeFault_9 (fun H locs hP hD hS => ?_)
  have hP : va_P D vwCl (W_M_takeFault kT ad gthr greg gcon gfld gtrn gins glev gkep glvs gkps gwrd gsta gflt gend ghal gwro gwai gwpl gwrs ghlt glat glpl aval amrk akpl aklv (upd acnt 2 ((acnt 2) + 1))) H := hP
  have hD : va_D A (W_M_takeFault kT ad gthr greg gcon gfld gtrn gins glev gkep glvs gkps gwrd gsta gflt gend ghal gwro gwai gwpl gwrs ghlt glat glpl aval amrk akpl aklv (upd acnt 2 ((acnt 2) + 1))) := hD
  refine lv_aload_n hx hb zd_M_takeFault_10 rfl (lv_at hl 0 rfl) ?_
  refine lv_iload_n hx hb zd_M_takeFault_11 rfl (lv_at hl 1 rfl) ?_
  refine va_put (D := D) (ci := 10) (v := .int p0) (ty := .int) (C := zR_M) (T := zF_M) (N := 52) hx hb ht zi_M zt_M zt_M_ok zn_M hown hK hP hD hS 0 rfl rfl 49 (by decide) (ht _ zw_436) (fun _ h9 => h9) rfl (by decide +kernel) rfl rfl (Nat.le_of_ble_eq_true rfl) zd_M_takeFault_12 (fun H locs hP hD hS => ?_)
  have hP : va_P D vwCl (W_M_takeFault kT ad gthr greg gcon gfld gtrn gins glev gkep glvs gkps gwrd gsta gflt gend ghal gwro gwai gwpl gwrs ghlt p0 glpl aval amrk akpl aklv (upd acnt 2 ((acnt 2) + 1))) H := hP
  have hD : va_D A (W_M_takeFault kT ad gthr greg gcon gfld gtrn gins glev gkep glvs gkps gwrd gsta gflt gend ghal gwro gwai gwpl gwrs ghlt p0 glpl aval amrk akpl aklv (upd acnt 2 ((acnt 2) + 1))) := hD
  refine lv_aload_n hx hb zd_M_takeFault_15 rfl (lv_at hl 0 rfl) ?_
  refine lv_aload_n hx hb zd_M_takeFault_16 rfl (lv_at hl 0 rfl) ?_
  refine va_get (D := D) (ci := 10) (v := .int gsta) (C := zR_M) (T := zF_M) (N := 52) hx hb ht zi_M hown hK hP 0 rfl rfl 36 (by decide) (ht _ zw_437) (fun _ h9 => h9) rfl zd_M_takeFault_17 ?_
  refine va_put (D := D) (ci := 10) (v := .int gsta) (ty := .int) (C := zR_M) (T := zF_M) (N := 52) hx hb ht zi_M zt_M zt_M_ok zn_M hown hK hP hD hS 0 rfl rfl 50 (by decide) (ht _ zw_438) (fun _ h9 => h9) rfl (by decide +kernel) rfl rfl (Nat.le_of_ble_eq_true rfl) zd_M_takeFault_20 (fun H locs hP hD hS => ?_)
  have hP : va_P D vwCl (W_M_takeFault kT ad gthr greg gcon gfld gtrn gins glev gkep glvs gkps gwrd gsta gflt gend ghal gwro gwai gwpl gwrs ghlt p0 gsta aval amrk akpl aklv (upd acnt 2 ((acnt 2) + 1))) H := hP
  have hD : va_D A (W_M_takeFault kT ad gthr greg gcon gfld gtrn gins glev gkep glvs gkps gwrd gsta gflt gend ghal gwro gwai gwpl gwrs ghlt p0 gsta aval amrk akpl aklv (upd acnt 2 ((acnt 2) + 1))) := hD
  refine lv_aload_n hx hb zd_M_takeFault_23 rfl (lv_at hl 0 rfl) ?_
  refine lv_iconst (v := 0) hx hb zd_M_takeFault_24 (by decide) ?_
  refine va_put (D := D) (ci := 10) (v := .int 0) (ty := .boolean) (C := zR_M) (T := zF_M) (N := 52) hx hb ht zi_M zt_M zt_M_ok zn_M hown hK hP hD hS 0 rfl rfl 41 (by decide) (ht _ zw_439) (fun _ h9 => h9) rfl (by decide +kernel) rfl rfl (Nat.le_of_ble_eq_true rfl) zd_M_takeFault_25 (fun H locs hP hD hS => ?_)
  have hP : va_P D vwCl (W_M_takeFault kT ad gthr greg gcon gfld gtrn gins glev gkep glvs gkps gwrd gsta gflt gend ghal gwro 0 gwpl gwrs ghlt p0 gsta aval amrk akpl aklv (upd acnt 2 ((acnt 2) + 1))) H := hP
  have hD : va_D A (W_M_takeFault kT ad gthr greg gcon gfld gtrn gins glev gkep glvs gkps gwrd gsta gflt gend ghal gwro 0 gwpl gwrs ghlt p0 gsta aval amrk akpl aklv (upd acnt 2 ((acnt 2) + 1))) := hD
  refine lv_aload_n hx hb zd_M_takeFault_28 rfl (lv_at hl 0 rfl) ?_
  refine lv_aload_n hx hb zd_M_takeFault_29 rfl (lv_at hl 0 rfl) ?_
  refine va_get (D := D) (ci := 10) (v := .int gsta) (C := zR_M) (T := zF_M) (N := 52) hx hb ht zi_M hown hK hP 0 rfl rfl 36 (by decide) (ht _ zw_437) (fun _ h9 => h9) rfl zd_M_takeFault_30 ?_
  refine lv_bipush (v := 15) hx hb zd_M_takeFault_33 (by decide) ?_
  refine lv_iconst (v := 4) hx hb zd_M_takeFault_35 (by decide) ?_
  refine lv_iload_n hx hb zd_M_takeFault_36 rfl (lv_at hl 1 rfl) ?_
  refine lv_imul hx hb zd_M_takeFault_37 ?_
  refine zq_c_Vi (rest := []) (adl := (A_M_takeFault ad)) (wr := [(ad 30, .inl (kT 0, 9, .inl (upd acnt 2 ((acnt 2) + 1))))]) ⟨hx, hb, hml, hown, ht⟩ (c_M_keep l D kT ad gthr greg gcon gfld gtrn gins glev gkep glvs gkps gwrd gsta gflt gend ghal gwro 0 gwpl gwrs ghlt p0 gsta aval amrk akpl aklv gsta 15 (4 * p0) _ h) (cwV 3 ht (zq_gV zw_440 zw_441 zw_442 zw_393 zw_443) rfl rfl rfl zh_M_keep ⟨Nat.le_of_ble_eq_true rfl, Nat.le_of_ble_eq_true rfl⟩) hE hP hD hS hA [0, 1, 2, 3, 4] [5] 6 rfl (by decide +kernel) rfl (by decide +kernel) rfl rfl 0 rfl rfl rfl rfl hl.1 (Nat.le_of_ble_eq_true rfl) rfl zd_M_takeFault_38 ⟨Nat.zero_le _, Nat.zero_le _⟩ (fun r_8 w1 H locs hw hJ hS => ?_)
  obtain ⟨glev_1, gkep_2, ghlt_3, aval_4, amrk_5, akpl_6, aklv_7, rfl, h⟩ := hw
  obtain ⟨hP, hD⟩ := hJ (W_M_takeFault kT ad gthr greg gcon gfld gtrn gins glev_1 gkep_2 glvs gkps gwrd gsta gflt gend ghal gwro 0 gwpl gwrs ghlt_3 p0 gsta aval_4 amrk_5 akpl_6 aklv_7 (upd acnt 2 ((acnt 2) + 1))) rfl rfl rfl
  refine lv_pop hx hb zd_M_takeFault_41 rfl ?_
  exact hret  _ H locs 42 ls ⟨glev_1, gkep_2, 0, ghlt_3, p0, gsta, aval_4, amrk_5, akpl_6, aklv_7, (upd acnt 2 ((acnt 2) + 1)), rfl, h⟩ hP rfl hS zd_M_takeFault_42
abbrev W_M_waitingLine (kT : Nat → ClassId) (ad : Nat → Nat) (gthr : Int32) (greg : Int32) (gcon : Int32) (gfld : Int32) (gtrn : Int32) (gins : Int32) (glev : Int32) (gkep : Int32) (glvs : Int32) (gkps : Int32) (gwrd : Int32) (gsta : Int32) (gflt : Int32) (gend : Int32) (ghal : Int32) (gwro : Int32) (gwai : Int32) (gwpl : Int64) (gwrs : Int32) (ghlt : Int32) (glat : Int32) (glpl : Int32) (aonn : Nat → Int32) (arnk : Nat → Int32) : va_W := [(ad 0, .inr (10, [.int gthr, .int greg, .ref (ad 1), .ref (ad 2), .ref (ad 3), .ref (ad 4), .ref (ad 5), .ref (ad 6), .ref (ad 7), .ref (ad 8), .ref (ad 9), .int gcon, .int gfld, .int gtrn, .int gins, .ref (ad 10), .ref (ad 11), .ref (ad 12), .ref (ad 13), .ref (ad 14), .ref (ad 15), .ref (ad 16), .ref (ad 17), .ref (ad 18), .ref (ad 19), .ref (ad 20), .ref (ad 21), .ref (ad 22), .ref (ad 23), .int glev, .int gkep, .int glvs, .int gkps, .ref (ad 24), .ref (ad 25), .int gwrd, .int gsta, .int gflt, .int gend, .int ghal, .int gwro, .int gwai, .long gwpl, .int gwrs, .ref (ad 26), .ref (ad 27), .ref (ad 28), .ref (ad 29), .int ghlt, .int glat, .int glpl, .ref (ad 30)])), (ad 22, .inl (kT 2, 8, .inl aonn)), (ad 23, .inl (kT 0, 8, .inl arnk))]
abbrev A_M_waitingLine (ad : Nat → Nat) : List Nat := [ad 0, ad 22, ad 23]
def wp_M_waitingLine_4 (gthr : Int32) (greg : Int32) (gcon : Int32) (gfld : Int32) (gtrn : Int32) (gins : Int32) (glev : Int32) (gkep : Int32) (glvs : Int32) (gkps : Int32) (gwrd : Int32) (gsta : Int32) (gflt : Int32) (gend : Int32) (ghal : Int32) (gwro : Int32) (gwai : Int32) (gwpl : Int64) (gwrs : Int32) (ghlt : Int32) (glat : Int32) (glpl : Int32) (aonn : Nat → Int32) (arnk : Nat → Int32) (post : Int32 → Prop) : Nat → Int32 → Int32 → Prop
  | 0 => fun _ _ => False
  | n + 1 => fun y1 y2 => (if 8 ≤ y2 then post y1  else vp_in y2 8 ∧ (if (aonn y2.toNatClampNeg) = 0 then wp_M_waitingLine_4 gthr greg gcon gfld gtrn gins glev gkep glvs gkps gwrd gsta gflt gend ghal gwro gwai gwpl gwrs ghlt glat glpl aonn arnk post n y1 (y2 + 1) else vp_in y2 8 ∧ (if (arnk y2.toNatClampNeg) ≤ glev then wp_M_waitingLine_4 gthr greg gcon gfld gtrn gins glev gkep glvs gkps gwrd gsta gflt gend ghal gwro gwai gwpl gwrs ghlt glat glpl aonn arnk post n y1 (y2 + 1) else (if y1 = (-1) then wp_M_waitingLine_4 gthr greg gcon gfld gtrn gins glev gkep glvs gkps gwrd gsta gflt gend ghal gwro gwai gwpl gwrs ghlt glat glpl aonn arnk post n y2 (y2 + 1) else vp_in y2 8 ∧ vp_in y1 8 ∧ (if (arnk y2.toNatClampNeg) ≤ (arnk y1.toNatClampNeg) then wp_M_waitingLine_4 gthr greg gcon gfld gtrn gins glev gkep glvs gkps gwrd gsta gflt gend ghal gwro gwai gwpl gwrs ghlt glat glpl aonn arnk post n y1 (y2 + 1) else wp_M_waitingLine_4 gthr greg gcon gfld gtrn gins glev gkep glvs gkps gwrd gsta gflt gend ghal gwro gwai gwpl gwrs ghlt glat glpl aonn arnk post n y2 (y2 + 1))))))
def wp_M_waitingLine (gthr : Int32) (greg : Int32) (gcon : Int32) (gfld : Int32) (gtrn : Int32) (gins : Int32) (glev : Int32) (gkep : Int32) (glvs : Int32) (gkps : Int32) (gwrd : Int32) (gsta : Int32) (gflt : Int32) (gend : Int32) (ghal : Int32) (gwro : Int32) (gwai : Int32) (gwpl : Int64) (gwrs : Int32) (ghlt : Int32) (glat : Int32) (glpl : Int32) (aonn : Nat → Int32) (arnk : Nat → Int32)  (post : Int32 → Prop) : Prop := ∃ n, wp_M_waitingLine_4 gthr greg gcon gfld gtrn gins glev gkep glvs gkps gwrd gsta gflt gend ghal gwro gwai gwpl gwrs ghlt glat glpl aonn arnk post n (-1) 0
set_option maxHeartbeats 4000000 in
set_option maxRecDepth 100000 in
theorem c_M_waitingLine (l : Launch) (D : va_G) (kT : Nat → ClassId) (ad : Nat → Nat) (gthr : Int32) (greg : Int32) (gcon : Int32) (gfld : Int32) (gtrn : Int32) (gins : Int32) (glev : Int32) (gkep : Int32) (glvs : Int32) (gkps : Int32) (gwrd : Int32) (gsta : Int32) (gflt : Int32) (gend : Int32) (ghal : Int32) (gwro : Int32) (gwai : Int32) (gwpl : Int64) (gwrs : Int32) (ghlt : Int32) (glat : Int32) (glpl : Int32) (aonn : Nat → Int32) (arnk : Nat → Int32)  (post : Int32 → Prop) (h : wp_M_waitingLine gthr greg gcon gfld gtrn gins glev gkep glvs gkps gwrd gsta gflt gend ghal gwro gwai gwpl gwrs ghlt glat glpl aonn arnk  post) : zq_Mi l zy_M_waitingLine zs_M_waitingLine ({ frames := 0, cells := 0, slots := 0, locals := 0 }) D kT [.ref (ad 0)] (W_M_waitingLine kT ad gthr greg gcon gfld gtrn gins glev gkep glvs gkps gwrd gsta gflt gend ghal gwro gwai gwpl gwrs ghlt glat glpl aonn arnk) (fun r w' => w' = (W_M_waitingLine kT ad gthr greg gcon gfld gtrn gins glev gkep glvs gkps gwrd gsta gflt gend ghal gwro gwai gwpl gwrs ghlt glat glpl aonn arnk) ∧ post r ) := by
  refine zq_Mi_of (adl := (A_M_waitingLine ad)) (cc := zb_M_waitingLine) (maxL := 3) (own := zR_M) rfl (by decide) rfl rfl (Nat.le_of_ble_eq_true rfl) ?_
  intro p e s m AV below meth c A QQ H locs ls hx hb hml hown ht hE hA hret hP hD hS hl
  have hK := hE.1
  have hl : lv_has ls 3 [(0, .ref (ad 0))] := hl
  have B4 : ∀ (n : Nat)  (y1 : Int32) (y2 : Int32) (H : Heap) (locs : List Loc) (ls : Array Slot), wp_M_waitingLine_4 gthr greg gcon gfld gtrn gins glev gkep glvs gkps gwrd gsta gflt gend ghal gwro gwai gwpl gwrs ghlt glat glpl aonn arnk post n y1 y2 → va_P D vwCl (W_M_waitingLine kT ad gthr greg gcon gfld gtrn gins glev gkep glvs gkps gwrd gsta gflt gend ghal gwro gwai gwpl gwrs ghlt glat glpl aonn arnk) H → va_D A (W_M_waitingLine kT ad gthr greg gcon gfld gtrn gins glev gkep glvs gkps gwrd gsta gflt gend ghal gwro gwai gwpl gwrs ghlt glat glpl aonn arnk) → va_S A s.heap H locs → lv_has ls 3 [(0, .ref (ad 0)), (1, .int y1), (2, .int y2)] → W p l e ({ frames := 0, cells := 0, slots := 0, locals := 0 }) s m AV below meth c H locs 0 0 QQ (F0 m 4 ls []) := by
    intro n
    induction n with
    | zero =>
      intro y1 y2 H locs ls h
      exact h.elim
    | succ n ih =>
      intro y1 y2 H locs ls h hP hD hS hl
      refine lv_iload_n hx hb zd_M_waitingLine_4 rfl (lv_at hl 2 rfl) ?_
      refine lv_bipush (v := 8) hx hb zd_M_waitingLine_5 (by decide) ?_
      refine lv_icmp_ge (tgt := 60) hx hb zd_M_waitingLine_7 (by decide) (fun c_1 => ?_) (fun c_1 => ?_)
      · have h := zq_it c_1 h
        refine lv_iload_n hx hb zd_M_waitingLine_60 rfl (lv_at hl 1 rfl) ?_
        exact hret y1  _ H locs 61 ls ⟨rfl, h⟩ hP rfl hS zd_M_waitingLine_61
      · have h := zq_if c_1 h
        refine lv_aload_n hx hb zd_M_waitingLine_10 rfl (lv_at hl 0 rfl) ?_
        refine va_get (D := D) (ci := 10) (v := .ref (ad 22)) (C := zR_M) (T := zF_M) (N := 52) hx hb ht zi_M hown hK hP 0 rfl rfl 27 (by decide) (ht _ zw_444) (fun _ h9 => h9) rfl zd_M_waitingLine_11 ?_
        refine lv_iload_n hx hb zd_M_waitingLine_14 rfl (lv_at hl 2 rfl) ?_
        obtain ⟨hi_2, h⟩ := h
        refine zq_a_zald (D := D) hx hb hK hP 1 2 rfl rfl hi_2 rfl zd_M_waitingLine_15 ?_
        refine lv_if_eq (tgt := 54) hx hb zd_M_waitingLine_16 (by decide) (fun c_3 => ?_) (fun c_3 => ?_)
        · have h := zq_it c_3 h
          refine lv_iinc (v := (y2 + 1)) (lv' := [(2, .int (y2 + 1)), (0, .ref (ad 0)), (1, .int y1)]) hx hb zd_M_waitingLine_54 hl (k := 2) rfl rfl (by decide) rfl (fun ls hl => ?_)
          refine lv_goto (tgt := 4) hx hb zd_M_waitingLine_57 (by decide) ?_
          exact ih y1 (y2 + 1) H locs ls h hP hD hS (lv_sub hl [1, 2, 0] rfl)
        · have h := zq_if c_3 h
          refine lv_aload_n hx hb zd_M_waitingLine_19 rfl (lv_at hl 0 rfl) ?_
          refine va_get (D := D) (ci := 10) (v := .ref (ad 23)) (C := zR_M) (T := zF_M) (N := 52) hx hb ht zi_M hown hK hP 0 rfl rfl 28 (by decide) (ht _ zw_445) (fun _ h9 => h9) rfl zd_M_waitingLine_20 ?_
          refine lv_iload_n hx hb zd_M_waitingLine_23 rfl (lv_at hl 2 rfl) ?_
          obtain ⟨hi_4, h⟩ := h
          refine zq_a_iald (D := D) hx hb hK hP 2 0 rfl rfl hi_4 rfl zd_M_waitingLine_24 ?_
          refine lv_aload_n hx hb zd_M_waitingLine_25 rfl (lv_at hl 0 rfl) ?_
          refine va_get (D := D) (ci := 10) (v := .int glev) (C := zR_M) (T := zF_M) (N := 52) hx hb ht zi_M hown hK hP 0 rfl rfl 29 (by decide) (ht _ zw_433) (fun _ h9 => h9) rfl zd_M_waitingLine_26 ?_
          refine lv_icmp_le (tgt := 54) hx hb zd_M_waitingLine_29 (by decide) (fun c_5 => ?_) (fun c_5 => ?_)
          · have h := zq_it c_5 h
            refine lv_iinc (v := (y2 + 1)) (lv' := [(2, .int (y2 + 1)), (0, .ref (ad 0)), (1, .int y1)]) hx hb zd_M_waitingLine_54 hl (k := 2) rfl rfl (by decide) rfl (fun ls hl => ?_)
            refine lv_goto (tgt := 4) hx hb zd_M_waitingLine_57 (by decide) ?_
            exact ih y1 (y2 + 1) H locs ls h hP hD hS (lv_sub hl [1, 2, 0] rfl)
          · have h := zq_if c_5 h
            refine lv_iload_n hx hb zd_M_waitingLine_32 rfl (lv_at hl 1 rfl) ?_
            refine lv_iconst (v := (-1)) hx hb zd_M_waitingLine_33 (by decide) ?_
            refine lv_icmp_eq (tgt := 52) hx hb zd_M_waitingLine_34 (by decide) (fun c_6 => ?_) (fun c_6 => ?_)
            · have h := zq_it c_6 h
              refine lv_iload_n hx hb zd_M_waitingLine_52 rfl (lv_at hl 2 rfl) ?_
              refine lv_istore_n (lv' := [(1, .int y2), (0, .ref (ad 0)), (2, .int y2)]) hx hb zd_M_waitingLine_53 rfl hl (by decide) rfl (fun ls hl => ?_)
              refine lv_iinc (v := (y2 + 1)) (lv' := [(2, .int (y2 + 1)), (1, .int y2), (0, .ref (ad 0))]) hx hb zd_M_waitingLine_54 hl (k := 2) rfl rfl (by decide) rfl (fun ls hl => ?_)
              refine lv_goto (tgt := 4) hx hb zd_M_waitingLine_57 (by decide) ?_
              exact ih y2 (y2 + 1) H locs ls h hP hD hS (lv_sub hl [2, 1, 0] rfl)
            · have h := zq_if c_6 h
              refine lv_aload_n hx hb zd_M_waitingLine_37 rfl (lv_at hl 0 rfl) ?_
              refine va_get (D := D) (ci := 10) (v := .ref (ad 23)) (C := zR_M) (T := zF_M) (N := 52) hx hb ht zi_M hown hK hP 0 rfl rfl 28 (by decide) (ht _ zw_445) (fun _ h9 => h9) rfl zd_M_waitingLine_38 ?_
              refine lv_iload_n hx hb zd_M_waitingLine_41 rfl (lv_at hl 2 rfl) ?_
              obtain ⟨hi_7, h⟩ := h
              refine zq_a_iald (D := D) hx hb hK hP 2 0 rfl rfl hi_7 rfl zd_M_waitingLine_42 ?_
              refine lv_aload_n hx hb zd_M_waitingLine_43 rfl (lv_at hl 0 rfl) ?_
              refine va_get (D := D) (ci := 10) (v := .ref (ad 23)) (C := zR_M) (T := zF_M) (N := 52) hx hb ht zi_M hown hK hP 0 rfl rfl 28 (by decide) (ht _ zw_445) (fun _ h9 => h9) rfl zd_M_waitingLine_44 ?_
              refine lv_iload_n hx hb zd_M_waitingLine_47 rfl (lv_at hl 1 rfl) ?_
              obtain ⟨hi_8, h⟩ := h
              refine zq_a_iald (D := D) hx hb hK hP 2 0 rfl rfl hi_8 rfl zd_M_waitingLine_48 ?_
              refine lv_icmp_le (tgt := 54) hx hb zd_M_waitingLine_49 (by decide) (fun c_9 => ?_) (fun c_9 => ?_)
              · have h := zq_it c_9 h
                refine lv_iinc (v := (y2 + 1)) (lv' := [(2, .int (y2 + 1)), (0, .ref (ad 0)), (1, .int y1)]) hx hb zd_M_waitingLine_54 hl (k := 2) rfl rfl (by decide) rfl (fun ls hl => ?_)
                refine lv_goto (tgt := 4) hx hb zd_M_waitingLine_57 (by decide) ?_
                exact ih y1 (y2 + 1) H locs ls h hP hD hS (lv_sub hl [1, 2, 0] rfl)
              · have h := zq_if c_9 h
                refine lv_iload_n hx hb zd_M_waitingLine_52 rfl (lv_at hl 2 rfl) ?_
                refine lv_istore_n (lv' := [(1, .int y2), (0, .ref (ad 0)), (2, .int y2)]) hx hb zd_M_waitingLine_53 rfl hl (by decide) rfl (fun ls hl => ?_)
                refine lv_iinc (v := (y2 + 1)) (lv' := [(2, .int (y2 + 1)), (1, .int y2), (0, .ref (ad 0))]) hx hb zd_M_waitingLine_54 hl (k := 2) rfl rfl (by decide) rfl (fun ls hl => ?_)
                refine lv_goto (tgt := 4) hx hb zd_M_waitingLine_57 (by decide) ?_
                exact ih y2 (y2 + 1) H locs ls h hP hD hS (lv_sub hl [2, 1, 0] rfl)
  refine lv_iconst (v := (-1)) hx hb zd_M_waitingLine_0 (by decide) ?_
  refine lv_istore_n (lv' := [(1, .int (-1)), (0, .ref (ad 0))]) hx hb zd_M_waitingLine_1 rfl hl (by decide) rfl (fun ls hl => ?_)
  refine lv_iconst (v := 0) hx hb zd_M_waitingLine_2 (by decide) ?_
  refine lv_istore_n (lv' := [(2, .int 0), (1, .int (-1)), (0, .ref (ad 0))]) hx hb zd_M_waitingLine_3 rfl hl (by decide) rfl (fun ls hl => ?_)
  obtain ⟨n, h⟩ := h
  exact B4 n (-1) 0 H locs ls h hP hD hS (lv_sub hl [2, 1, 0] rfl)
abbrev W_M_isParallel (kT : Nat → ClassId) (ad : Nat → Nat) (gthr : Int32) (greg : Int32) (gcon : Int32) (gfld : Int32) (gtrn : Int32) (gins : Int32) (glev : Int32) (gkep : Int32) (glvs : Int32) (gkps : Int32) (gwrd : Int32) (gsta : Int32) (gflt : Int32) (gend : Int32) (ghal : Int32) (gwro : Int32) (gwai : Int32) (gwpl : Int64) (gwrs : Int32) (ghlt : Int32) (glat : Int32) (glpl : Int32) (ahow : Nat → Int32) : va_W := [(ad 0, .inr (10, [.int gthr, .int greg, .ref (ad 1), .ref (ad 2), .ref (ad 3), .ref (ad 4), .ref (ad 5), .ref (ad 6), .ref (ad 7), .ref (ad 8), .ref (ad 9), .int gcon, .int gfld, .int gtrn, .int gins, .ref (ad 10), .ref (ad 11), .ref (ad 12), .ref (ad 13), .ref (ad 14), .ref (ad 15), .ref (ad 16), .ref (ad 17), .ref (ad 18), .ref (ad 19), .ref (ad 20), .ref (ad 21), .ref (ad 22), .ref (ad 23), .int glev, .int gkep, .int glvs, .int gkps, .ref (ad 24), .ref (ad 25), .int gwrd, .int gsta, .int gflt, .int gend, .int ghal, .int gwro, .int gwai, .long gwpl, .int gwrs, .ref (ad 26), .ref (ad 27), .ref (ad 28), .ref (ad 29), .int ghlt, .int glat, .int glpl, .ref (ad 30)])), (ad 20, .inl (kT 0, 40, .inl ahow))]
abbrev A_M_isParallel (ad : Nat → Nat) : List Nat := [ad 0, ad 20]
def wp_M_isParallel (gthr : Int32) (greg : Int32) (gcon : Int32) (gfld : Int32) (gtrn : Int32) (gins : Int32) (glev : Int32) (gkep : Int32) (glvs : Int32) (gkps : Int32) (gwrd : Int32) (gsta : Int32) (gflt : Int32) (gend : Int32) (ghal : Int32) (gwro : Int32) (gwai : Int32) (gwpl : Int64) (gwrs : Int32) (ghlt : Int32) (glat : Int32) (glpl : Int32) (ahow : Nat → Int32) (p0 : Int32) (post : Int32 → Prop) : Prop := vp_in p0 40 ∧ (if ((ahow p0.toNatClampNeg) &&& 1) = 1 then post 1  else post 0 )
set_option maxHeartbeats 4000000 in
set_option maxRecDepth 100000 in
theorem c_M_isParallel (l : Launch) (D : va_G) (kT : Nat → ClassId) (ad : Nat → Nat) (gthr : Int32) (greg : Int32) (gcon : Int32) (gfld : Int32) (gtrn : Int32) (gins : Int32) (glev : Int32) (gkep : Int32) (glvs : Int32) (gkps : Int32) (gwrd : Int32) (gsta : Int32) (gflt : Int32) (gend : Int32) (ghal : Int32) (gwro : Int32) (gwai : Int32) (gwpl : Int64) (gwrs : Int32) (ghlt : Int32) (glat : Int32) (glpl : Int32) (ahow : Nat → Int32) (p0 : Int32) (post : Int32 → Prop) (h : wp_M_isParallel gthr greg gcon gfld gtrn gins glev gkep glvs gkps gwrd gsta gflt gend ghal gwro gwai gwpl gwrs ghlt glat glpl ahow p0 post) : zq_Mi l zy_M_isParallel zs_M_isParallel ({ frames := 0, cells := 0, slots := 0, locals := 0 }) D kT [.ref (ad 0), .int p0] (W_M_isParallel kT ad gthr greg gcon gfld gtrn gins glev gkep glvs gkps gwrd gsta gflt gend ghal gwro gwai gwpl gwrs ghlt glat glpl ahow) (fun r w' => w' = (W_M_isParallel kT ad gthr greg gcon gfld gtrn gins glev gkep glvs gkps gwrd gsta gflt gend ghal gwro gwai gwpl gwrs ghlt glat glpl ahow) ∧ post r ) := by
  refine zq_Mz_of (adl := (A_M_isParallel ad)) (cc := zb_M_isParallel) (maxL := 2) (own := zR_M) rfl (by decide) rfl rfl (Nat.le_of_ble_eq_true rfl) ?_
  intro p e s m AV below meth c A QQ H locs ls hx hb hml hown ht hE hA hret hP hD hS hl
  have hK := hE.1
  have hl : lv_has ls 2 [(0, .ref (ad 0)), (1, .int p0)] := hl
  refine lv_aload_n hx hb zd_M_isParallel_0 rfl (lv_at hl 0 rfl) ?_
  refine va_get (D := D) (ci := 10) (v := .ref (ad 20)) (C := zR_M) (T := zF_M) (N := 52) hx hb ht zi_M hown hK hP 0 rfl rfl 25 (by decide) (ht _ zw_425) (fun _ h9 => h9) rfl zd_M_isParallel_1 ?_
  refine lv_iload_n hx hb zd_M_isParallel_4 rfl (lv_at hl 1 rfl) ?_
  obtain ⟨hi_1, h⟩ := h
  refine zq_a_iald (D := D) hx hb hK hP 1 0 rfl rfl hi_1 rfl zd_M_isParallel_5 ?_
  refine lv_iconst (v := 1) hx hb zd_M_isParallel_6 (by decide) ?_
  refine lv_iand hx hb zd_M_isParallel_7 ?_
  refine lv_iconst (v := 1) hx hb zd_M_isParallel_8 (by decide) ?_
  refine lv_icmp_ne (tgt := 16) hx hb zd_M_isParallel_9 (by decide) (fun c_2 => ?_) (fun c_2 => ?_)
  · have h := zq_if c_2 h
    refine lv_iconst (v := 0) hx hb zd_M_isParallel_16 (by decide) ?_
    exact hret 0 rfl _ H locs 17 ls ⟨rfl, h⟩ hP rfl hS zd_M_isParallel_17
  · have h := zq_it c_2 h
    refine lv_iconst (v := 1) hx hb zd_M_isParallel_12 (by decide) ?_
    refine lv_goto (tgt := 17) hx hb zd_M_isParallel_13 (by decide) ?_
    exact hret 1 rfl _ H locs 17 ls ⟨rfl, h⟩ hP rfl hS zd_M_isParallel_17
abbrev W_M_operand (kT : Nat → ClassId) (ad : Nat → Nat) (gthr : Int32) (greg : Int32) (gcon : Int32) (gfld : Int32) (gtrn : Int32) (gins : Int32) (glev : Int32) (gkep : Int32) (glvs : Int32) (gkps : Int32) (gwrd : Int32) (gsta : Int32) (gflt : Int32) (gend : Int32) (ghal : Int32) (gwro : Int32) (gwai : Int32) (gwpl : Int64) (gwrs : Int32) (ghlt : Int32) (glat : Int32) (glpl : Int32) (aval : Nat → Int64) (abef : Nat → Int64) (acst : Nat → Int64) (afrm : Nat → Int32) (atoo : Nat → Int32) (asgn : Nat → Int32) (ahow : Nat → Int32) : va_W := [(ad 0, .inr (10, [.int gthr, .int greg, .ref (ad 1), .ref (ad 2), .ref (ad 3), .ref (ad 4), .ref (ad 5), .ref (ad 6), .ref (ad 7), .ref (ad 8), .ref (ad 9), .int gcon, .int gfld, .int gtrn, .int gins, .ref (ad 10), .ref (ad 11), .ref (ad 12), .ref (ad 13), .ref (ad 14), .ref (ad 15), .ref (ad 16), .ref (ad 17), .ref (ad 18), .ref (ad 19), .ref (ad 20), .ref (ad 21), .ref (ad 22), .ref (ad 23), .int glev, .int gkep, .int glvs, .int gkps, .ref (ad 24), .ref (ad 25), .int gwrd, .int gsta, .int gflt, .int gend, .int ghal, .int gwro, .int gwai, .long gwpl, .int gwrs, .ref (ad 26), .ref (ad 27), .ref (ad 28), .ref (ad 29), .int ghlt, .int glat, .int glpl, .ref (ad 30)])), (ad 2, .inl (kT 1, 24, .inr (.inl aval))), (ad 3, .inl (kT 1, 24, .inr (.inl abef))), (ad 10, .inl (kT 1, 16, .inr (.inl acst))), (ad 11, .inl (kT 0, 16, .inl afrm)), (ad 12, .inl (kT 0, 16, .inl atoo)), (ad 13, .inl (kT 2, 16, .inl asgn)), (ad 20, .inl (kT 0, 40, .inl ahow))]
abbrev A_M_operand (ad : Nat → Nat) : List Nat := [ad 0, ad 2, ad 3, ad 10, ad 11, ad 12, ad 13, ad 20]
def wp_M_operand_116 (gthr : Int32) (greg : Int32) (gcon : Int32) (gfld : Int32) (gtrn : Int32) (gins : Int32) (glev : Int32) (gkep : Int32) (glvs : Int32) (gkps : Int32) (gwrd : Int32) (gsta : Int32) (gflt : Int32) (gend : Int32) (ghal : Int32) (gwro : Int32) (gwai : Int32) (gwpl : Int64) (gwrs : Int32) (ghlt : Int32) (glat : Int32) (glpl : Int32) (aval : Nat → Int64) (abef : Nat → Int64) (acst : Nat → Int64) (afrm : Nat → Int32) (atoo : Nat → Int32) (asgn : Nat → Int32) (ahow : Nat → Int32)  (y3 : Int32) (y4 : Int64) (z0 : Int32) (post : Int64 → Prop) : Prop := (if z0 = 0 then post y4  else vp_in y3 16 ∧ vp_in y3 16 ∧ post (y4 ||| (zq_j_lshl (-1) (((atoo y3.toNatClampNeg) - (afrm y3.toNatClampNeg)) + 1))) )
def wp_M_operand_115 (gthr : Int32) (greg : Int32) (gcon : Int32) (gfld : Int32) (gtrn : Int32) (gins : Int32) (glev : Int32) (gkep : Int32) (glvs : Int32) (gkps : Int32) (gwrd : Int32) (gsta : Int32) (gflt : Int32) (gend : Int32) (ghal : Int32) (gwro : Int32) (gwai : Int32) (gwpl : Int64) (gwrs : Int32) (ghlt : Int32) (glat : Int32) (glpl : Int32) (aval : Nat → Int64) (abef : Nat → Int64) (acst : Nat → Int64) (afrm : Nat → Int32) (atoo : Nat → Int32) (asgn : Nat → Int32) (ahow : Nat → Int32)  (y3 : Int32) (y4 : Int64) (post : Int64 → Prop) : Prop := wp_M_operand_116 gthr greg gcon gfld gtrn gins glev gkep glvs gkps gwrd gsta gflt gend ghal gwro gwai gwpl gwrs ghlt glat glpl aval abef acst afrm atoo asgn ahow y3 y4 0 post
def wp_M_operand (gthr : Int32) (greg : Int32) (gcon : Int32) (gfld : Int32) (gtrn : Int32) (gins : Int32) (glev : Int32) (gkep : Int32) (glvs : Int32) (gkps : Int32) (gwrd : Int32) (gsta : Int32) (gflt : Int32) (gend : Int32) (ghal : Int32) (gwro : Int32) (gwai : Int32) (gwpl : Int64) (gwrs : Int32) (ghlt : Int32) (glat : Int32) (glpl : Int32) (aval : Nat → Int64) (abef : Nat → Int64) (acst : Nat → Int64) (afrm : Nat → Int32) (atoo : Nat → Int32) (asgn : Nat → Int32) (ahow : Nat → Int32) (p0 : Int32) (p1 : Int32) (post : Int64 → Prop) : Prop := (if 32 ≤ p1 then (if 64 ≤ p1 then vp_in (p1 - 64) 16 ∧ vp_in (p1 - 64) 16 ∧ vp_in (p1 - 64) 16 ∧ vp_in (p1 - 64) 16 ∧ (if (asgn ((p1 - 64)).toNatClampNeg) = 0 then wp_M_operand_115 gthr greg gcon gfld gtrn gins glev gkep glvs gkps gwrd gsta gflt gend ghal gwro gwai gwpl gwrs ghlt glat glpl aval abef acst afrm atoo asgn ahow (p1 - 64) (zq_j_i2l ((gwrd >>> (((afrm ((p1 - 64)).toNatClampNeg) : Int32) &&& 31)) &&& ((1 <<< (((((atoo ((p1 - 64)).toNatClampNeg) - (afrm ((p1 - 64)).toNatClampNeg)) + 1) : Int32) &&& 31)) - 1))) post else vp_in (p1 - 64) 16 ∧ (if ((gwrd >>> (((atoo ((p1 - 64)).toNatClampNeg) : Int32) &&& 31)) &&& 1) = 1 then wp_M_operand_116 gthr greg gcon gfld gtrn gins glev gkep glvs gkps gwrd gsta gflt gend ghal gwro gwai gwpl gwrs ghlt glat glpl aval abef acst afrm atoo asgn ahow (p1 - 64) (zq_j_i2l ((gwrd >>> (((afrm ((p1 - 64)).toNatClampNeg) : Int32) &&& 31)) &&& ((1 <<< (((((atoo ((p1 - 64)).toNatClampNeg) - (afrm ((p1 - 64)).toNatClampNeg)) + 1) : Int32) &&& 31)) - 1))) 1 post else wp_M_operand_115 gthr greg gcon gfld gtrn gins glev gkep glvs gkps gwrd gsta gflt gend ghal gwro gwai gwpl gwrs ghlt glat glpl aval abef acst afrm atoo asgn ahow (p1 - 64) (zq_j_i2l ((gwrd >>> (((afrm ((p1 - 64)).toNatClampNeg) : Int32) &&& 31)) &&& ((1 <<< (((((atoo ((p1 - 64)).toNatClampNeg) - (afrm ((p1 - 64)).toNatClampNeg)) + 1) : Int32) &&& 31)) - 1))) post)) else vp_in (p1 - 32) 16 ∧ post (acst ((p1 - 32)).toNatClampNeg) ) else wp_M_isParallel gthr greg gcon gfld gtrn gins glev gkep glvs gkps gwrd gsta gflt gend ghal gwro gwai gwpl gwrs ghlt glat glpl ahow p0 (fun r_11 => (if r_11 = 0 then vp_in p1 24 ∧ post (aval p1.toNatClampNeg)  else vp_in p1 24 ∧ post (abef p1.toNatClampNeg) )))
set_option maxHeartbeats 4000000 in
set_option maxRecDepth 100000 in
theorem c_M_operand (l : Launch) (D : va_G) (kT : Nat → ClassId) (ad : Nat → Nat) (gthr : Int32) (greg : Int32) (gcon : Int32) (gfld : Int32) (gtrn : Int32) (gins : Int32) (glev : Int32) (gkep : Int32) (glvs : Int32) (gkps : Int32) (gwrd : Int32) (gsta : Int32) (gflt : Int32) (gend : Int32) (ghal : Int32) (gwro : Int32) (gwai : Int32) (gwpl : Int64) (gwrs : Int32) (ghlt : Int32) (glat : Int32) (glpl : Int32) (aval : Nat → Int64) (abef : Nat → Int64) (acst : Nat → Int64) (afrm : Nat → Int32) (atoo : Nat → Int32) (asgn : Nat → Int32) (ahow : Nat → Int32) (p0 : Int32) (p1 : Int32) (post : Int64 → Prop) (h : wp_M_operand gthr greg gcon gfld gtrn gins glev gkep glvs gkps gwrd gsta gflt gend ghal gwro gwai gwpl gwrs ghlt glat glpl aval abef acst afrm atoo asgn ahow p0 p1 post) : zq_Ml l zy_M_operand zs_M_operand ({ frames := 1, cells := 0, slots := 0, locals := 21 }) D kT [.ref (ad 0), .int p0, .int p1] (W_M_operand kT ad gthr greg gcon gfld gtrn gins glev gkep glvs gkps gwrd gsta gflt gend ghal gwro gwai gwpl gwrs ghlt glat glpl aval abef acst afrm atoo asgn ahow) (fun r w' => w' = (W_M_operand kT ad gthr greg gcon gfld gtrn gins glev gkep glvs gkps gwrd gsta gflt gend ghal gwro gwai gwpl gwrs ghlt glat glpl aval abef acst afrm atoo asgn ahow) ∧ post r ) := by
  refine zq_Ml_of (adl := (A_M_operand ad)) (cc := zb_M_operand) (maxL := 7) (own := zR_M) rfl (by decide) rfl rfl (Nat.le_of_ble_eq_true rfl) ?_
  intro p e s m AV below meth c A QQ H locs ls hx hb hml hown ht hE hA hret hP hD hS hl
  have hK := hE.1
  have hl : lv_has ls 7 [(0, .ref (ad 0)), (1, .int p0), (2, .int p1)] := hl
  unfold wp_M_operand at h
  have B116 : ∀   (y3 : Int32) (y4 : Int64) (z0 : Int32) (H : Heap) (locs : List Loc) (ls : Array Slot), wp_M_operand_116 gthr greg gcon gfld gtrn gins glev gkep glvs gkps gwrd gsta gflt gend ghal gwro gwai gwpl gwrs ghlt glat glpl aval abef acst afrm atoo asgn ahow y3 y4 z0 post → va_P D vwCl (W_M_operand kT ad gthr greg gcon gfld gtrn gins glev gkep glvs gkps gwrd gsta gflt gend ghal gwro gwai gwpl gwrs ghlt glat glpl aval abef acst afrm atoo asgn ahow) H → va_D A (W_M_operand kT ad gthr greg gcon gfld gtrn gins glev gkep glvs gkps gwrd gsta gflt gend ghal gwro gwai gwpl gwrs ghlt glat glpl aval abef acst afrm atoo asgn ahow) → va_S A s.heap H locs → lv_has ls 7 [(0, .ref (ad 0)), (3, .int y3), (4, .long y4)] → W p l e ({ frames := 1, cells := 0, slots := 0, locals := 21 }) s m AV below meth c H locs 0 0 QQ (F0 m 116 ls [.int z0]) := by
    intro y3 y4 z0 H locs ls h hP hD hS hl
    unfold wp_M_operand_116 at h
    refine lv_istore (lv' := [(6, .int z0), (0, .ref (ad 0)), (3, .int y3), (4, .long y4)]) hx hb zd_M_operand_116 hl (by decide) rfl (fun ls hl => ?_)
    refine lv_iload hx hb zd_M_operand_118 (lv_at hl 0 rfl) ?_
    refine lv_if_eq (tgt := 148) hx hb zd_M_operand_120 (by decide) (fun c_15 => ?_) (fun c_15 => ?_)
    · have h := zq_it c_15 h
      refine lv_lload hx hb zd_M_operand_148 (lv_at hl 3 rfl) ?_
      exact hret y4  _ H locs 150 ls ⟨rfl, h⟩ hP rfl hS zd_M_operand_150
    · have h := zq_if c_15 h
      refine lv_lload hx hb zd_M_operand_123 (lv_at hl 3 rfl) ?_
      refine W.ldc2 (v := (-1)) hx hb hown (ht _ zw_452) rfl zd_M_operand_125 ?_
      refine W.eq (g2 := F0 m 128 ls [.long (-1), .long y4]) rfl ?_
      refine lv_aload_n hx hb zd_M_operand_128 rfl (lv_at hl 1 rfl) ?_
      refine va_get (D := D) (ci := 10) (v := .ref (ad 12)) (C := zR_M) (T := zF_M) (N := 52) hx hb ht zi_M hown hK hP 0 rfl rfl 17 (by decide) (ht _ zw_407) (fun _ h9 => h9) rfl zd_M_operand_129 ?_
      refine lv_iload_n hx hb zd_M_operand_132 rfl (lv_at hl 2 rfl) ?_
      obtain ⟨hi_16, h⟩ := h
      refine zq_a_iald (D := D) hx hb hK hP 5 0 rfl rfl hi_16 rfl zd_M_operand_133 ?_
      refine lv_aload_n hx hb zd_M_operand_134 rfl (lv_at hl 1 rfl) ?_
      refine va_get (D := D) (ci := 10) (v := .ref (ad 11)) (C := zR_M) (T := zF_M) (N := 52) hx hb ht zi_M hown hK hP 0 rfl rfl 16 (by decide) (ht _ zw_406) (fun _ h9 => h9) rfl zd_M_operand_135 ?_
      refine lv_iload_n hx hb zd_M_operand_138 rfl (lv_at hl 2 rfl) ?_
      obtain ⟨hi_17, h⟩ := h
      refine zq_a_iald (D := D) hx hb hK hP 4 0 rfl rfl hi_17 rfl zd_M_operand_139 ?_
      refine lv_isub hx hb zd_M_operand_140 ?_
      refine lv_iconst (v := 1) hx hb zd_M_operand_141 (by decide) ?_
      refine lv_iadd hx hb zd_M_operand_142 ?_
      refine lv_lshl (v := (zq_j_lshl (-1) (((atoo y3.toNatClampNeg) - (afrm y3.toNatClampNeg)) + 1))) hx hb zd_M_operand_143 rfl ?_
      refine lv_lor hx hb zd_M_operand_144 ?_
      refine lv_goto (tgt := 150) hx hb zd_M_operand_145 (by decide) ?_
      exact hret (y4 ||| (zq_j_lshl (-1) (((atoo y3.toNatClampNeg) - (afrm y3.toNatClampNeg)) + 1)))  _ H locs 150 ls ⟨rfl, h⟩ hP rfl hS zd_M_operand_150
  have B115 : ∀   (y3 : Int32) (y4 : Int64) (H : Heap) (locs : List Loc) (ls : Array Slot), wp_M_operand_115 gthr greg gcon gfld gtrn gins glev gkep glvs gkps gwrd gsta gflt gend ghal gwro gwai gwpl gwrs ghlt glat glpl aval abef acst afrm atoo asgn ahow y3 y4 post → va_P D vwCl (W_M_operand kT ad gthr greg gcon gfld gtrn gins glev gkep glvs gkps gwrd gsta gflt gend ghal gwro gwai gwpl gwrs ghlt glat glpl aval abef acst afrm atoo asgn ahow) H → va_D A (W_M_operand kT ad gthr greg gcon gfld gtrn gins glev gkep glvs gkps gwrd gsta gflt gend ghal gwro gwai gwpl gwrs ghlt glat glpl aval abef acst afrm atoo asgn ahow) → va_S A s.heap H locs → lv_has ls 7 [(0, .ref (ad 0)), (3, .int y3), (4, .long y4)] → W p l e ({ frames := 1, cells := 0, slots := 0, locals := 21 }) s m AV below meth c H locs 0 0 QQ (F0 m 115 ls []) := by
    intro y3 y4 H locs ls h hP hD hS hl
    refine lv_iconst (v := 0) hx hb zd_M_operand_115 (by decide) ?_
    exact B116 y3 y4 0 H locs ls h hP hD hS (lv_sub hl [0, 1, 2] rfl)
  refine lv_iload_n hx hb zd_M_operand_0 rfl (lv_at hl 2 rfl) ?_
  refine lv_bipush (v := 32) hx hb zd_M_operand_1 (by decide) ?_
  refine lv_icmp_ge (tgt := 30) hx hb zd_M_operand_3 (by decide) (fun c_1 => ?_) (fun c_1 => ?_)
  · have h := zq_it c_1 h
    refine lv_iload_n hx hb zd_M_operand_30 rfl (lv_at hl 2 rfl) ?_
    refine lv_bipush (v := 64) hx hb zd_M_operand_31 (by decide) ?_
    refine lv_icmp_ge (tgt := 46) hx hb zd_M_operand_33 (by decide) (fun c_2 => ?_) (fun c_2 => ?_)
    · have h := zq_it c_2 h
      refine lv_iload_n hx hb zd_M_operand_46 rfl (lv_at hl 2 rfl) ?_
      refine lv_bipush (v := 64) hx hb zd_M_operand_47 (by decide) ?_
      refine lv_isub hx hb zd_M_operand_49 ?_
      refine lv_istore_n (lv' := [(3, .int (p1 - 64)), (0, .ref (ad 0)), (1, .int p0), (2, .int p1)]) hx hb zd_M_operand_50 rfl hl (by decide) rfl (fun ls hl => ?_)
      refine lv_aload_n hx hb zd_M_operand_51 rfl (lv_at hl 1 rfl) ?_
      refine va_get (D := D) (ci := 10) (v := .int gwrd) (C := zR_M) (T := zF_M) (N := 52) hx hb ht zi_M hown hK hP 0 rfl rfl 35 (by decide) (ht _ zw_446) (fun _ h9 => h9) rfl zd_M_operand_52 ?_
      refine lv_aload_n hx hb zd_M_operand_55 rfl (lv_at hl 1 rfl) ?_
      refine va_get (D := D) (ci := 10) (v := .ref (ad 11)) (C := zR_M) (T := zF_M) (N := 52) hx hb ht zi_M hown hK hP 0 rfl rfl 16 (by decide) (ht _ zw_406) (fun _ h9 => h9) rfl zd_M_operand_56 ?_
      refine lv_iload_n hx hb zd_M_operand_59 rfl (lv_at hl 0 rfl) ?_
      obtain ⟨hi_3, h⟩ := h
      refine zq_a_iald (D := D) hx hb hK hP 4 0 rfl rfl hi_3 rfl zd_M_operand_60 ?_
      refine lv_ishr hx hb zd_M_operand_61 ?_
      refine lv_iconst (v := 1) hx hb zd_M_operand_62 (by decide) ?_
      refine lv_aload_n hx hb zd_M_operand_63 rfl (lv_at hl 1 rfl) ?_
      refine va_get (D := D) (ci := 10) (v := .ref (ad 12)) (C := zR_M) (T := zF_M) (N := 52) hx hb ht zi_M hown hK hP 0 rfl rfl 17 (by decide) (ht _ zw_407) (fun _ h9 => h9) rfl zd_M_operand_64 ?_
      refine lv_iload_n hx hb zd_M_operand_67 rfl (lv_at hl 0 rfl) ?_
      obtain ⟨hi_4, h⟩ := h
      refine zq_a_iald (D := D) hx hb hK hP 5 0 rfl rfl hi_4 rfl zd_M_operand_68 ?_
      refine lv_aload_n hx hb zd_M_operand_69 rfl (lv_at hl 1 rfl) ?_
      refine va_get (D := D) (ci := 10) (v := .ref (ad 11)) (C := zR_M) (T := zF_M) (N := 52) hx hb ht zi_M hown hK hP 0 rfl rfl 16 (by decide) (ht _ zw_406) (fun _ h9 => h9) rfl zd_M_operand_70 ?_
      refine lv_iload_n hx hb zd_M_operand_73 rfl (lv_at hl 0 rfl) ?_
      obtain ⟨hi_5, h⟩ := h
      refine zq_a_iald (D := D) hx hb hK hP 4 0 rfl rfl hi_5 rfl zd_M_operand_74 ?_
      refine lv_isub hx hb zd_M_operand_75 ?_
      refine lv_iconst (v := 1) hx hb zd_M_operand_76 (by decide) ?_
      refine lv_iadd hx hb zd_M_operand_77 ?_
      refine lv_ishl hx hb zd_M_operand_78 ?_
      refine lv_iconst (v := 1) hx hb zd_M_operand_79 (by decide) ?_
      refine lv_isub hx hb zd_M_operand_80 ?_
      refine lv_iand hx hb zd_M_operand_81 ?_
      refine lv_i2l (v := (zq_j_i2l ((gwrd >>> (((afrm ((p1 - 64)).toNatClampNeg) : Int32) &&& 31)) &&& ((1 <<< (((((atoo ((p1 - 64)).toNatClampNeg) - (afrm ((p1 - 64)).toNatClampNeg)) + 1) : Int32) &&& 31)) - 1)))) hx hb zd_M_operand_82 rfl ?_
      refine lv_lstore (lv' := [(4, .long (zq_j_i2l ((gwrd >>> (((afrm ((p1 - 64)).toNatClampNeg) : Int32) &&& 31)) &&& ((1 <<< (((((atoo ((p1 - 64)).toNatClampNeg) - (afrm ((p1 - 64)).toNatClampNeg)) + 1) : Int32) &&& 31)) - 1)))), (3, .int (p1 - 64)), (0, .ref (ad 0)), (1, .int p0), (2, .int p1)]) hx hb zd_M_operand_83 hl (by decide) rfl (fun ls hl => ?_)
      refine lv_aload_n hx hb zd_M_operand_85 rfl (lv_at hl 2 rfl) ?_
      refine va_get (D := D) (ci := 10) (v := .ref (ad 13)) (C := zR_M) (T := zF_M) (N := 52) hx hb ht zi_M hown hK hP 0 rfl rfl 18 (by decide) (ht _ zw_408) (fun _ h9 => h9) rfl zd_M_operand_86 ?_
      refine lv_iload_n hx hb zd_M_operand_89 rfl (lv_at hl 1 rfl) ?_
      obtain ⟨hi_6, h⟩ := h
      refine zq_a_zald (D := D) hx hb hK hP 6 2 rfl rfl hi_6 rfl zd_M_operand_90 ?_
      refine lv_if_eq (tgt := 115) hx hb zd_M_operand_91 (by decide) (fun c_7 => ?_) (fun c_7 => ?_)
      · have h := zq_it c_7 h
        exact B115 (p1 - 64) (zq_j_i2l ((gwrd >>> (((afrm ((p1 - 64)).toNatClampNeg) : Int32) &&& 31)) &&& ((1 <<< (((((atoo ((p1 - 64)).toNatClampNeg) - (afrm ((p1 - 64)).toNatClampNeg)) + 1) : Int32) &&& 31)) - 1))) H locs ls h hP hD hS (lv_sub hl [2, 1, 0] rfl)
      · have h := zq_if c_7 h
        refine lv_aload_n hx hb zd_M_operand_94 rfl (lv_at hl 2 rfl) ?_
        refine va_get (D := D) (ci := 10) (v := .int gwrd) (C := zR_M) (T := zF_M) (N := 52) hx hb ht zi_M hown hK hP 0 rfl rfl 35 (by decide) (ht _ zw_446) (fun _ h9 => h9) rfl zd_M_operand_95 ?_
        refine lv_aload_n hx hb zd_M_operand_98 rfl (lv_at hl 2 rfl) ?_
        refine va_get (D := D) (ci := 10) (v := .ref (ad 12)) (C := zR_M) (T := zF_M) (N := 52) hx hb ht zi_M hown hK hP 0 rfl rfl 17 (by decide) (ht _ zw_407) (fun _ h9 => h9) rfl zd_M_operand_99 ?_
        refine lv_iload_n hx hb zd_M_operand_102 rfl (lv_at hl 1 rfl) ?_
        obtain ⟨hi_8, h⟩ := h
        refine zq_a_iald (D := D) hx hb hK hP 5 0 rfl rfl hi_8 rfl zd_M_operand_103 ?_
        refine lv_ishr hx hb zd_M_operand_104 ?_
        refine lv_iconst (v := 1) hx hb zd_M_operand_105 (by decide) ?_
        refine lv_iand hx hb zd_M_operand_106 ?_
        refine lv_iconst (v := 1) hx hb zd_M_operand_107 (by decide) ?_
        refine lv_icmp_ne (tgt := 115) hx hb zd_M_operand_108 (by decide) (fun c_9 => ?_) (fun c_9 => ?_)
        · have h := zq_if c_9 h
          exact B115 (p1 - 64) (zq_j_i2l ((gwrd >>> (((afrm ((p1 - 64)).toNatClampNeg) : Int32) &&& 31)) &&& ((1 <<< (((((atoo ((p1 - 64)).toNatClampNeg) - (afrm ((p1 - 64)).toNatClampNeg)) + 1) : Int32) &&& 31)) - 1))) H locs ls h hP hD hS (lv_sub hl [2, 1, 0] rfl)
        · have h := zq_it c_9 h
          refine lv_iconst (v := 1) hx hb zd_M_operand_111 (by decide) ?_
          refine lv_goto (tgt := 116) hx hb zd_M_operand_112 (by decide) ?_
          exact B116 (p1 - 64) (zq_j_i2l ((gwrd >>> (((afrm ((p1 - 64)).toNatClampNeg) : Int32) &&& 31)) &&& ((1 <<< (((((atoo ((p1 - 64)).toNatClampNeg) - (afrm ((p1 - 64)).toNatClampNeg)) + 1) : Int32) &&& 31)) - 1))) 1 H locs ls h hP hD hS (lv_sub hl [2, 1, 0] rfl)
    · have h := zq_if c_2 h
      refine lv_aload_n hx hb zd_M_operand_36 rfl (lv_at hl 0 rfl) ?_
      refine va_get (D := D) (ci := 10) (v := .ref (ad 10)) (C := zR_M) (T := zF_M) (N := 52) hx hb ht zi_M hown hK hP 0 rfl rfl 15 (by decide) (ht _ zw_403) (fun _ h9 => h9) rfl zd_M_operand_37 ?_
      refine lv_iload_n hx hb zd_M_operand_40 rfl (lv_at hl 2 rfl) ?_
      refine lv_bipush (v := 32) hx hb zd_M_operand_41 (by decide) ?_
      refine lv_isub hx hb zd_M_operand_43 ?_
      obtain ⟨hi_10, h⟩ := h
      refine zq_a_lald (D := D) hx hb hK hP 3 1 rfl rfl hi_10 rfl zd_M_operand_44 ?_
      exact hret (acst ((p1 - 32)).toNatClampNeg)  _ H locs 45 ls ⟨rfl, h⟩ hP rfl hS zd_M_operand_45
  · have h := zq_if c_1 h
    refine lv_aload_n hx hb zd_M_operand_6 rfl (lv_at hl 0 rfl) ?_
    refine lv_iload_n hx hb zd_M_operand_7 rfl (lv_at hl 1 rfl) ?_
    refine zq_c_Vi (rest := []) (adl := (A_M_operand ad)) (wr := [(ad 2, .inl (kT 1, 24, .inr (.inl aval))), (ad 3, .inl (kT 1, 24, .inr (.inl abef))), (ad 10, .inl (kT 1, 16, .inr (.inl acst))), (ad 11, .inl (kT 0, 16, .inl afrm)), (ad 12, .inl (kT 0, 16, .inl atoo)), (ad 13, .inl (kT 2, 16, .inl asgn))]) ⟨hx, hb, hml, hown, ht⟩ (c_M_isParallel l D kT ad gthr greg gcon gfld gtrn gins glev gkep glvs gkps gwrd gsta gflt gend ghal gwro gwai gwpl gwrs ghlt glat glpl ahow p0 _ h) (cwV 1 ht (zq_gV zw_447 zw_448 zw_449 zw_393 zw_450) rfl rfl rfl zh_M_isParallel ⟨Nat.le_of_ble_eq_true rfl, Nat.le_of_ble_eq_true rfl⟩) hE hP hD hS hA [0, 7] [1, 2, 3, 4, 5, 6] 8 rfl (by decide +kernel) rfl (by decide +kernel) rfl rfl 0 rfl rfl rfl rfl hl.1 (Nat.le_of_ble_eq_true rfl) rfl zd_M_operand_8 ⟨Nat.zero_le _, Nat.zero_le _⟩ (fun r_11 w1 H locs hw hJ hS => ?_)
    obtain ⟨rfl, h⟩ := hw
    obtain ⟨hP, hD⟩ := hJ (W_M_operand kT ad gthr greg gcon gfld gtrn gins glev gkep glvs gkps gwrd gsta gflt gend ghal gwro gwai gwpl gwrs ghlt glat glpl aval abef acst afrm atoo asgn ahow) rfl rfl rfl
    refine lv_if_eq (tgt := 23) hx hb zd_M_operand_11 (by decide) (fun c_12 => ?_) (fun c_12 => ?_)
    · have h := zq_it c_12 h
      refine lv_aload_n hx hb zd_M_operand_23 rfl (lv_at hl 0 rfl) ?_
      refine va_get (D := D) (ci := 10) (v := .ref (ad 2)) (C := zR_M) (T := zF_M) (N := 52) hx hb ht zi_M hown hK hP 0 rfl rfl 3 (by decide) (ht _ zw_400) (fun _ h9 => h9) rfl zd_M_operand_24 ?_
      refine lv_iload_n hx hb zd_M_operand_27 rfl (lv_at hl 2 rfl) ?_
      obtain ⟨hi_13, h⟩ := h
      refine zq_a_lald (D := D) hx hb hK hP 1 1 rfl rfl hi_13 rfl zd_M_operand_28 ?_
      exact hret (aval p1.toNatClampNeg)  _ H locs 29 ls ⟨rfl, h⟩ hP rfl hS zd_M_operand_29
    · have h := zq_if c_12 h
      refine lv_aload_n hx hb zd_M_operand_14 rfl (lv_at hl 0 rfl) ?_
      refine va_get (D := D) (ci := 10) (v := .ref (ad 3)) (C := zR_M) (T := zF_M) (N := 52) hx hb ht zi_M hown hK hP 0 rfl rfl 4 (by decide) (ht _ zw_451) (fun _ h9 => h9) rfl zd_M_operand_15 ?_
      refine lv_iload_n hx hb zd_M_operand_18 rfl (lv_at hl 2 rfl) ?_
      obtain ⟨hi_14, h⟩ := h
      refine zq_a_lald (D := D) hx hb hK hP 2 1 rfl rfl hi_14 rfl zd_M_operand_19 ?_
      refine lv_goto (tgt := 29) hx hb zd_M_operand_20 (by decide) ?_
      exact hret (abef p1.toNatClampNeg)  _ H locs 29 ls ⟨rfl, h⟩ hP rfl hS zd_M_operand_29
abbrev W_M_isMarked (kT : Nat → ClassId) (ad : Nat → Nat) (gthr : Int32) (greg : Int32) (gcon : Int32) (gfld : Int32) (gtrn : Int32) (gins : Int32) (glev : Int32) (gkep : Int32) (glvs : Int32) (gkps : Int32) (gwrd : Int32) (gsta : Int32) (gflt : Int32) (gend : Int32) (ghal : Int32) (gwro : Int32) (gwai : Int32) (gwpl : Int64) (gwrs : Int32) (ghlt : Int32) (glat : Int32) (glpl : Int32) (amrk : Nat → Int32) (ambf : Nat → Int32) (ahow : Nat → Int32) : va_W := [(ad 0, .inr (10, [.int gthr, .int greg, .ref (ad 1), .ref (ad 2), .ref (ad 3), .ref (ad 4), .ref (ad 5), .ref (ad 6), .ref (ad 7), .ref (ad 8), .ref (ad 9), .int gcon, .int gfld, .int gtrn, .int gins, .ref (ad 10), .ref (ad 11), .ref (ad 12), .ref (ad 13), .ref (ad 14), .ref (ad 15), .ref (ad 16), .ref (ad 17), .ref (ad 18), .ref (ad 19), .ref (ad 20), .ref (ad 21), .ref (ad 22), .ref (ad 23), .int glev, .int gkep, .int glvs, .int gkps, .ref (ad 24), .ref (ad 25), .int gwrd, .int gsta, .int gflt, .int gend, .int ghal, .int gwro, .int gwai, .long gwpl, .int gwrs, .ref (ad 26), .ref (ad 27), .ref (ad 28), .ref (ad 29), .int ghlt, .int glat, .int glpl, .ref (ad 30)])), (ad 5, .inl (kT 2, 24, .inl amrk)), (ad 6, .inl (kT 2, 24, .inl ambf)), (ad 20, .inl (kT 0, 40, .inl ahow))]
abbrev A_M_isMarked (ad : Nat → Nat) : List Nat := [ad 0, ad 5, ad 6, ad 20]
def wp_M_isMarked (gthr : Int32) (greg : Int32) (gcon : Int32) (gfld : Int32) (gtrn : Int32) (gins : Int32) (glev : Int32) (gkep : Int32) (glvs : Int32) (gkps : Int32) (gwrd : Int32) (gsta : Int32) (gflt : Int32) (gend : Int32) (ghal : Int32) (gwro : Int32) (gwai : Int32) (gwpl : Int64) (gwrs : Int32) (ghlt : Int32) (glat : Int32) (glpl : Int32) (amrk : Nat → Int32) (ambf : Nat → Int32) (ahow : Nat → Int32) (p0 : Int32) (p1 : Int32) (post : Int32 → Prop) : Prop := (if 32 ≤ p1 then post 0  else wp_M_isParallel gthr greg gcon gfld gtrn gins glev gkep glvs gkps gwrd gsta gflt gend ghal gwro gwai gwpl gwrs ghlt glat glpl ahow p0 (fun r_2 => (if r_2 = 0 then vp_in p1 24 ∧ (if (amrk p1.toNatClampNeg) = 0 then post 0  else post 1 ) else vp_in p1 24 ∧ (if (ambf p1.toNatClampNeg) = 0 then post 0  else post 1 ))))
set_option maxHeartbeats 4000000 in
set_option maxRecDepth 100000 in
theorem c_M_isMarked (l : Launch) (D : va_G) (kT : Nat → ClassId) (ad : Nat → Nat) (gthr : Int32) (greg : Int32) (gcon : Int32) (gfld : Int32) (gtrn : Int32) (gins : Int32) (glev : Int32) (gkep : Int32) (glvs : Int32) (gkps : Int32) (gwrd : Int32) (gsta : Int32) (gflt : Int32) (gend : Int32) (ghal : Int32) (gwro : Int32) (gwai : Int32) (gwpl : Int64) (gwrs : Int32) (ghlt : Int32) (glat : Int32) (glpl : Int32) (amrk : Nat → Int32) (ambf : Nat → Int32) (ahow : Nat → Int32) (p0 : Int32) (p1 : Int32) (post : Int32 → Prop) (h : wp_M_isMarked gthr greg gcon gfld gtrn gins glev gkep glvs gkps gwrd gsta gflt gend ghal gwro gwai gwpl gwrs ghlt glat glpl amrk ambf ahow p0 p1 post) : zq_Mi l zy_M_isMarked zs_M_isMarked ({ frames := 1, cells := 0, slots := 0, locals := 21 }) D kT [.ref (ad 0), .int p0, .int p1] (W_M_isMarked kT ad gthr greg gcon gfld gtrn gins glev gkep glvs gkps gwrd gsta gflt gend ghal gwro gwai gwpl gwrs ghlt glat glpl amrk ambf ahow) (fun r w' => w' = (W_M_isMarked kT ad gthr greg gcon gfld gtrn gins glev gkep glvs gkps gwrd gsta gflt gend ghal gwro gwai gwpl gwrs ghlt glat glpl amrk ambf ahow) ∧ post r ) := by
  refine zq_Mz_of (adl := (A_M_isMarked ad)) (cc := zb_M_isMarked) (maxL := 3) (own := zR_M) rfl (by decide) rfl rfl (Nat.le_of_ble_eq_true rfl) ?_
  intro p e s m AV below meth c A QQ H locs ls hx hb hml hown ht hE hA hret hP hD hS hl
  have hK := hE.1
  have hl : lv_has ls 3 [(0, .ref (ad 0)), (1, .int p0), (2, .int p1)] := hl
  unfold wp_M_isMarked at h
  refine lv_iload_n hx hb zd_M_isMarked_0 rfl (lv_at hl 2 rfl) ?_
  refine lv_bipush (v := 32) hx hb zd_M_isMarked_1 (by decide) ?_
  refine lv_icmp_ge (tgt := 39) hx hb zd_M_isMarked_3 (by decide) (fun c_1 => ?_) (fun c_1 => ?_)
  · have h := zq_it c_1 h
    refine lv_iconst (v := 0) hx hb zd_M_isMarked_39 (by decide) ?_
    exact hret 0 rfl _ H locs 40 ls ⟨rfl, h⟩ hP rfl hS zd_M_isMarked_40
  · have h := zq_if c_1 h
    refine lv_aload_n hx hb zd_M_isMarked_6 rfl (lv_at hl 0 rfl) ?_
    refine lv_iload_n hx hb zd_M_isMarked_7 rfl (lv_at hl 1 rfl) ?_
    refine zq_c_Vi (rest := []) (adl := (A_M_isMarked ad)) (wr := [(ad 5, .inl (kT 2, 24, .inl amrk)), (ad 6, .inl (kT 2, 24, .inl ambf))]) ⟨hx, hb, hml, hown, ht⟩ (c_M_isParallel l D kT ad gthr greg gcon gfld gtrn gins glev gkep glvs gkps gwrd gsta gflt gend ghal gwro gwai gwpl gwrs ghlt glat glpl ahow p0 _ h) (cwV 1 ht (zq_gV zw_447 zw_448 zw_449 zw_393 zw_450) rfl rfl rfl zh_M_isParallel ⟨Nat.le_of_ble_eq_true rfl, Nat.le_of_ble_eq_true rfl⟩) hE hP hD hS hA [0, 3] [1, 2] 4 rfl (by decide +kernel) rfl (by decide +kernel) rfl rfl 0 rfl rfl rfl rfl hl.1 (Nat.le_of_ble_eq_true rfl) rfl zd_M_isMarked_8 ⟨Nat.zero_le _, Nat.zero_le _⟩ (fun r_2 w1 H locs hw hJ hS => ?_)
    obtain ⟨rfl, h⟩ := hw
    obtain ⟨hP, hD⟩ := hJ (W_M_isMarked kT ad gthr greg gcon gfld gtrn gins glev gkep glvs gkps gwrd gsta gflt gend ghal gwro gwai gwpl gwrs ghlt glat glpl amrk ambf ahow) rfl rfl rfl
    refine lv_if_eq (tgt := 26) hx hb zd_M_isMarked_11 (by decide) (fun c_3 => ?_) (fun c_3 => ?_)
    · have h := zq_it c_3 h
      refine lv_aload_n hx hb zd_M_isMarked_26 rfl (lv_at hl 0 rfl) ?_
      refine va_get (D := D) (ci := 10) (v := .ref (ad 5)) (C := zR_M) (T := zF_M) (N := 52) hx hb ht zi_M hown hK hP 0 rfl rfl 6 (by decide) (ht _ zw_401) (fun _ h9 => h9) rfl zd_M_isMarked_27 ?_
      refine lv_iload_n hx hb zd_M_isMarked_30 rfl (lv_at hl 2 rfl) ?_
      obtain ⟨hi_4, h⟩ := h
      refine zq_a_zald (D := D) hx hb hK hP 1 2 rfl rfl hi_4 rfl zd_M_isMarked_31 ?_
      refine lv_if_eq (tgt := 39) hx hb zd_M_isMarked_32 (by decide) (fun c_5 => ?_) (fun c_5 => ?_)
      · have h := zq_it c_5 h
        refine lv_iconst (v := 0) hx hb zd_M_isMarked_39 (by decide) ?_
        exact hret 0 rfl _ H locs 40 ls ⟨rfl, h⟩ hP rfl hS zd_M_isMarked_40
      · have h := zq_if c_5 h
        refine lv_iconst (v := 1) hx hb zd_M_isMarked_35 (by decide) ?_
        refine lv_goto (tgt := 40) hx hb zd_M_isMarked_36 (by decide) ?_
        exact hret 1 rfl _ H locs 40 ls ⟨rfl, h⟩ hP rfl hS zd_M_isMarked_40
    · have h := zq_if c_3 h
      refine lv_aload_n hx hb zd_M_isMarked_14 rfl (lv_at hl 0 rfl) ?_
      refine va_get (D := D) (ci := 10) (v := .ref (ad 6)) (C := zR_M) (T := zF_M) (N := 52) hx hb ht zi_M hown hK hP 0 rfl rfl 7 (by decide) (ht _ zw_453) (fun _ h9 => h9) rfl zd_M_isMarked_15 ?_
      refine lv_iload_n hx hb zd_M_isMarked_18 rfl (lv_at hl 2 rfl) ?_
      obtain ⟨hi_6, h⟩ := h
      refine zq_a_zald (D := D) hx hb hK hP 2 2 rfl rfl hi_6 rfl zd_M_isMarked_19 ?_
      refine lv_if_eq (tgt := 39) hx hb zd_M_isMarked_20 (by decide) (fun c_7 => ?_) (fun c_7 => ?_)
      · have h := zq_it c_7 h
        refine lv_iconst (v := 0) hx hb zd_M_isMarked_39 (by decide) ?_
        exact hret 0 rfl _ H locs 40 ls ⟨rfl, h⟩ hP rfl hS zd_M_isMarked_40
      · have h := zq_if c_7 h
        refine lv_goto (tgt := 35) hx hb zd_M_isMarked_23 (by decide) ?_
        refine lv_iconst (v := 1) hx hb zd_M_isMarked_35 (by decide) ?_
        refine lv_goto (tgt := 40) hx hb zd_M_isMarked_36 (by decide) ?_
        exact hret 1 rfl _ H locs 40 ls ⟨rfl, h⟩ hP rfl hS zd_M_isMarked_40
abbrev W_M_setRegister (kT : Nat → ClassId) (ad : Nat → Nat) (gthr : Int32) (greg : Int32) (gcon : Int32) (gfld : Int32) (gtrn : Int32) (gins : Int32) (glev : Int32) (gkep : Int32) (glvs : Int32) (gkps : Int32) (gwrd : Int32) (gsta : Int32) (gflt : Int32) (gend : Int32) (ghal : Int32) (gwro : Int32) (gwai : Int32) (gwpl : Int64) (gwrs : Int32) (ghlt : Int32) (glat : Int32) (glpl : Int32) (aval : Nat → Int64) (amrk : Nat → Int32) : va_W := [(ad 0, .inr (10, [.int gthr, .int greg, .ref (ad 1), .ref (ad 2), .ref (ad 3), .ref (ad 4), .ref (ad 5), .ref (ad 6), .ref (ad 7), .ref (ad 8), .ref (ad 9), .int gcon, .int gfld, .int gtrn, .int gins, .ref (ad 10), .ref (ad 11), .ref (ad 12), .ref (ad 13), .ref (ad 14), .ref (ad 15), .ref (ad 16), .ref (ad 17), .ref (ad 18), .ref (ad 19), .ref (ad 20), .ref (ad 21), .ref (ad 22), .ref (ad 23), .int glev, .int gkep, .int glvs, .int gkps, .ref (ad 24), .ref (ad 25), .int gwrd, .int gsta, .int gflt, .int gend, .int ghal, .int gwro, .int gwai, .long gwpl, .int gwrs, .ref (ad 26), .ref (ad 27), .ref (ad 28), .ref (ad 29), .int ghlt, .int glat, .int glpl, .ref (ad 30)])), (ad 2, .inl (kT 1, 24, .inr (.inl aval))), (ad 5, .inl (kT 2, 24, .inl amrk))]
abbrev A_M_setRegister (ad : Nat → Nat) : List Nat := [ad 0, ad 2, ad 5]
def wp_M_setRegister (gthr : Int32) (greg : Int32) (gcon : Int32) (gfld : Int32) (gtrn : Int32) (gins : Int32) (glev : Int32) (gkep : Int32) (glvs : Int32) (gkps : Int32) (gwrd : Int32) (gsta : Int32) (gflt : Int32) (gend : Int32) (ghal : Int32) (gwro : Int32) (gwai : Int32) (gwpl : Int64) (gwrs : Int32) (ghlt : Int32) (glat : Int32) (glpl : Int32) (aval : Nat → Int64) (amrk : Nat → Int32) (p0 : Int32) (p1 : Int64) (p2 : Int32) (post : Int32 → (Nat → Int64) → (Nat → Int32) → Prop) : Prop := vp_in p0 24 ∧ vp_in p0 24 ∧ (if gwro = 0 then (if p0 = 0 then post  1 (vp_updL aval p0.toNatClampNeg p1) (upd amrk p0.toNatClampNeg (vp_nar .boolean p2)) else post  0 (vp_updL aval p0.toNatClampNeg p1) (upd amrk p0.toNatClampNeg (vp_nar .boolean p2))) else post  1 (vp_updL aval p0.toNatClampNeg p1) (upd amrk p0.toNatClampNeg (vp_nar .boolean p2)))
set_option maxHeartbeats 4000000 in
set_option maxRecDepth 100000 in
theorem c_M_setRegister (l : Launch) (D : va_G) (kT : Nat → ClassId) (ad : Nat → Nat) (gthr : Int32) (greg : Int32) (gcon : Int32) (gfld : Int32) (gtrn : Int32) (gins : Int32) (glev : Int32) (gkep : Int32) (glvs : Int32) (gkps : Int32) (gwrd : Int32) (gsta : Int32) (gflt : Int32) (gend : Int32) (ghal : Int32) (gwro : Int32) (gwai : Int32) (gwpl : Int64) (gwrs : Int32) (ghlt : Int32) (glat : Int32) (glpl : Int32) (aval : Nat → Int64) (amrk : Nat → Int32) (p0 : Int32) (p1 : Int64) (p2 : Int32) (post : Int32 → (Nat → Int64) → (Nat → Int32) → Prop) (h : wp_M_setRegister gthr greg gcon gfld gtrn gins glev gkep glvs gkps gwrd gsta gflt gend ghal gwro gwai gwpl gwrs ghlt glat glpl aval amrk p0 p1 p2 post) : zq_Mv l zy_M_setRegister zs_M_setRegister ({ frames := 0, cells := 0, slots := 0, locals := 0 }) D kT [.ref (ad 0), .int p0, .long p1, .int p2] (W_M_setRegister kT ad gthr greg gcon gfld gtrn gins glev gkep glvs gkps gwrd gsta gflt gend ghal gwro gwai gwpl gwrs ghlt glat glpl aval amrk) (fun w' => ∃ (gwro' : Int32) (aval' : Nat → Int64) (amrk' : Nat → Int32), w' = (W_M_setRegister kT ad gthr greg gcon gfld gtrn gins glev gkep glvs gkps gwrd gsta gflt gend ghal gwro' gwai gwpl gwrs ghlt glat glpl aval' amrk') ∧ post  gwro' aval' amrk') := by
  refine zq_Mv_of (adl := (A_M_setRegister ad)) (cc := zb_M_setRegister) (maxL := 5) (own := zR_M) rfl (by decide) rfl rfl (Nat.le_of_ble_eq_true rfl) ?_
  intro p e s m AV below meth c A QQ H locs ls hx hb hml hown ht hE hA hret hP hD hS hl
  have hK := hE.1
  have hl : lv_has ls 5 [(0, .ref (ad 0)), (1, .int p0), (2, .long p1), (4, .int p2)] := hl
  refine lv_aload_n hx hb zd_M_setRegister_0 rfl (lv_at hl 0 rfl) ?_
  refine va_get (D := D) (ci := 10) (v := .ref (ad 2)) (C := zR_M) (T := zF_M) (N := 52) hx hb ht zi_M hown hK hP 0 rfl rfl 3 (by decide) (ht _ zw_400) (fun _ h9 => h9) rfl zd_M_setRegister_1 ?_
  refine lv_iload_n hx hb zd_M_setRegister_4 rfl (lv_at hl 1 rfl) ?_
  refine lv_lload_n hx hb zd_M_setRegister_5 rfl (lv_at hl 2 rfl) ?_
  obtain ⟨hi_1, h⟩ := h
  refine zq_a_last (D := D) hx hb hK hP hD hS 1 1 rfl rfl hi_1 rfl zd_M_setRegister_6 (fun H locs hP hD hS => ?_)
  have hP : va_P D vwCl (W_M_setRegister kT ad gthr greg gcon gfld gtrn gins glev gkep glvs gkps gwrd gsta gflt gend ghal gwro gwai gwpl gwrs ghlt glat glpl (vp_updL aval p0.toNatClampNeg p1) amrk) H := hP
  have hD : va_D A (W_M_setRegister kT ad gthr greg gcon gfld gtrn gins glev gkep glvs gkps gwrd gsta gflt gend ghal gwro gwai gwpl gwrs ghlt glat glpl (vp_updL aval p0.toNatClampNeg p1) amrk) := hD
  refine lv_aload_n hx hb zd_M_setRegister_7 rfl (lv_at hl 0 rfl) ?_
  refine va_get (D := D) (ci := 10) (v := .ref (ad 5)) (C := zR_M) (T := zF_M) (N := 52) hx hb ht zi_M hown hK hP 0 rfl rfl 6 (by decide) (ht _ zw_401) (fun _ h9 => h9) rfl zd_M_setRegister_8 ?_
  refine lv_iload_n hx hb zd_M_setRegister_11 rfl (lv_at hl 1 rfl) ?_
  refine lv_iload hx hb zd_M_setRegister_12 (lv_at hl 3 rfl) ?_
  obtain ⟨hi_2, h⟩ := h
  refine zq_a_zast (D := D) hx hb hK hP hD hS 2 2 rfl rfl hi_2 rfl zd_M_setRegister_14 (fun H locs hP hD hS => ?_)
  have hP : va_P D vwCl (W_M_setRegister kT ad gthr greg gcon gfld gtrn gins glev gkep glvs gkps gwrd gsta gflt gend ghal gwro gwai gwpl gwrs ghlt glat glpl (vp_updL aval p0.toNatClampNeg p1) (upd amrk p0.toNatClampNeg (vp_nar .boolean p2))) H := hP
  have hD : va_D A (W_M_setRegister kT ad gthr greg gcon gfld gtrn gins glev gkep glvs gkps gwrd gsta gflt gend ghal gwro gwai gwpl gwrs ghlt glat glpl (vp_updL aval p0.toNatClampNeg p1) (upd amrk p0.toNatClampNeg (vp_nar .boolean p2))) := hD
  refine lv_aload_n hx hb zd_M_setRegister_15 rfl (lv_at hl 0 rfl) ?_
  refine lv_aload_n hx hb zd_M_setRegister_16 rfl (lv_at hl 0 rfl) ?_
  refine va_get (D := D) (ci := 10) (v := .int gwro) (C := zR_M) (T := zF_M) (N := 52) hx hb ht zi_M hown hK hP 0 rfl rfl 40 (by decide) (ht _ zw_454) (fun _ h9 => h9) rfl zd_M_setRegister_17 ?_
  refine lv_if_ne (tgt := 27) hx hb zd_M_setRegister_20 (by decide) (fun c_3 => ?_) (fun c_3 => ?_)
  · have h := zq_if c_3 h
    refine lv_iconst (v := 1) hx hb zd_M_setRegister_27 (by decide) ?_
    refine lv_goto (tgt := 32) hx hb zd_M_setRegister_28 (by decide) ?_
    refine va_put (D := D) (ci := 10) (v := .int 1) (ty := .boolean) (C := zR_M) (T := zF_M) (N := 52) hx hb ht zi_M zt_M zt_M_ok zn_M hown hK hP hD hS 0 rfl rfl 40 (by decide) (ht _ zw_454) (fun _ h9 => h9) rfl (by decide +kernel) rfl rfl (Nat.le_of_ble_eq_true rfl) zd_M_setRegister_32 (fun H locs hP hD hS => ?_)
    have hP : va_P D vwCl (W_M_setRegister kT ad gthr greg gcon gfld gtrn gins glev gkep glvs gkps gwrd gsta gflt gend ghal 1 gwai gwpl gwrs ghlt glat glpl (vp_updL aval p0.toNatClampNeg p1) (upd amrk p0.toNatClampNeg (vp_nar .boolean p2))) H := hP
    have hD : va_D A (W_M_setRegister kT ad gthr greg gcon gfld gtrn gins glev gkep glvs gkps gwrd gsta gflt gend ghal 1 gwai gwpl gwrs ghlt glat glpl (vp_updL aval p0.toNatClampNeg p1) (upd amrk p0.toNatClampNeg (vp_nar .boolean p2))) := hD
    exact hret  _ H locs 35 ls ⟨1, (vp_updL aval p0.toNatClampNeg p1), (upd amrk p0.toNatClampNeg (vp_nar .boolean p2)), rfl, h⟩ hP rfl hS zd_M_setRegister_35
  · have h := zq_it c_3 h
    refine lv_iload_n hx hb zd_M_setRegister_23 rfl (lv_at hl 1 rfl) ?_
    refine lv_if_ne (tgt := 31) hx hb zd_M_setRegister_24 (by decide) (fun c_4 => ?_) (fun c_4 => ?_)
    · have h := zq_if c_4 h
      refine lv_iconst (v := 0) hx hb zd_M_setRegister_31 (by decide) ?_
      refine va_put (D := D) (ci := 10) (v := .int 0) (ty := .boolean) (C := zR_M) (T := zF_M) (N := 52) hx hb ht zi_M zt_M zt_M_ok zn_M hown hK hP hD hS 0 rfl rfl 40 (by decide) (ht _ zw_454) (fun _ h9 => h9) rfl (by decide +kernel) rfl rfl (Nat.le_of_ble_eq_true rfl) zd_M_setRegister_32 (fun H locs hP hD hS => ?_)
      have hP : va_P D vwCl (W_M_setRegister kT ad gthr greg gcon gfld gtrn gins glev gkep glvs gkps gwrd gsta gflt gend ghal 0 gwai gwpl gwrs ghlt glat glpl (vp_updL aval p0.toNatClampNeg p1) (upd amrk p0.toNatClampNeg (vp_nar .boolean p2))) H := hP
      have hD : va_D A (W_M_setRegister kT ad gthr greg gcon gfld gtrn gins glev gkep glvs gkps gwrd gsta gflt gend ghal 0 gwai gwpl gwrs ghlt glat glpl (vp_updL aval p0.toNatClampNeg p1) (upd amrk p0.toNatClampNeg (vp_nar .boolean p2))) := hD
      exact hret  _ H locs 35 ls ⟨0, (vp_updL aval p0.toNatClampNeg p1), (upd amrk p0.toNatClampNeg (vp_nar .boolean p2)), rfl, h⟩ hP rfl hS zd_M_setRegister_35
    · have h := zq_it c_4 h
      refine lv_iconst (v := 1) hx hb zd_M_setRegister_27 (by decide) ?_
      refine lv_goto (tgt := 32) hx hb zd_M_setRegister_28 (by decide) ?_
      refine va_put (D := D) (ci := 10) (v := .int 1) (ty := .boolean) (C := zR_M) (T := zF_M) (N := 52) hx hb ht zi_M zt_M zt_M_ok zn_M hown hK hP hD hS 0 rfl rfl 40 (by decide) (ht _ zw_454) (fun _ h9 => h9) rfl (by decide +kernel) rfl rfl (Nat.le_of_ble_eq_true rfl) zd_M_setRegister_32 (fun H locs hP hD hS => ?_)
      have hP : va_P D vwCl (W_M_setRegister kT ad gthr greg gcon gfld gtrn gins glev gkep glvs gkps gwrd gsta gflt gend ghal 1 gwai gwpl gwrs ghlt glat glpl (vp_updL aval p0.toNatClampNeg p1) (upd amrk p0.toNatClampNeg (vp_nar .boolean p2))) H := hP
      have hD : va_D A (W_M_setRegister kT ad gthr greg gcon gfld gtrn gins glev gkep glvs gkps gwrd gsta gflt gend ghal 1 gwai gwpl gwrs ghlt glat glpl (vp_updL aval p0.toNatClampNeg p1) (upd amrk p0.toNatClampNeg (vp_nar .boolean p2))) := hD
      exact hret  _ H locs 35 ls ⟨1, (vp_updL aval p0.toNatClampNeg p1), (upd amrk p0.toNatClampNeg (vp_nar .boolean p2)), rfl, h⟩ hP rfl hS zd_M_setRegister_35
