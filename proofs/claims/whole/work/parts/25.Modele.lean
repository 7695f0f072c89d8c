abbrev W_M_isThere (kT : Nat → ClassId) (ad : Nat → Nat) (gthr : Int32) (greg : Int32) (gcon : Int32) (gfld : Int32) (gtrn : Int32) (gins : Int32) (glev : Int32) (gkep : Int32) (glvs : Int32) (gkps : Int32) (gwrd : Int32) (gsta : Int32) (gflt : Int32) (gend : Int32) (ghal : Int32) (gwro : Int32) (gwai : Int32) (gwpl : Int64) (gwrs : Int32) (ghlt : Int32) (glat : Int32) (glpl : Int32) : va_W := [(ad 0, .inr (10, [.int gthr, .int greg, .ref (ad 1), .ref (ad 2), .ref (ad 3), .ref (ad 4), .ref (ad 5), .ref (ad 6), .ref (ad 7), .ref (ad 8), .ref (ad 9), .int gcon, .int gfld, .int gtrn, .int gins, .ref (ad 10), .ref (ad 11), .ref (ad 12), .ref (ad 13), .ref (ad 14), .ref (ad 15), .ref (ad 16), .ref (ad 17), .ref (ad 18), .ref (ad 19), .ref (ad 20), .ref (ad 21), .ref (ad 22), .ref (ad 23), .int glev, .int gkep, .int glvs, .int gkps, .ref (ad 24), .ref (ad 25), .int gwrd, .int gsta, .int gflt, .int gend, .int ghal, .int gwro, .int gwai, .long gwpl, .int gwrs, .ref (ad 26), .ref (ad 27), .ref (ad 28), .ref (ad 29), .int ghlt, .int glat, .int glpl, .ref (ad 30)]))]
abbrev A_M_isThere (ad : Nat → Nat) : List Nat := [ad 0]
def wp_M_isThere (gthr : Int32) (greg : Int32) (gcon : Int32) (gfld : Int32) (gtrn : Int32) (gins : Int32) (glev : Int32) (gkep : Int32) (glvs : Int32) (gkps : Int32) (gwrd : Int32) (gsta : Int32) (gflt : Int32) (gend : Int32) (ghal : Int32) (gwro : Int32) (gwai : Int32) (gwpl : Int64) (gwrs : Int32) (ghlt : Int32) (glat : Int32) (glpl : Int32) (p0 : Int64) (p1 : Int32) (post : Int32 → Prop) : Prop := wp_M_in p0 0 (zq_j_i2l (4096 - p1)) (fun r_1 => (if r_1 = 0 then post 0  else (if p1 = 1 then post 1  else (if (p0 &&& 1) = 0 then post 1  else post 0 ))))
set_option maxHeartbeats 4000000 in
set_option maxRecDepth 100000 in
theorem c_M_isThere (l : Launch) (D : va_G) (kT : Nat → ClassId) (ad : Nat → Nat) (gthr : Int32) (greg : Int32) (gcon : Int32) (gfld : Int32) (gtrn : Int32) (gins : Int32) (glev : Int32) (gkep : Int32) (glvs : Int32) (gkps : Int32) (gwrd : Int32) (gsta : Int32) (gflt : Int32) (gend : Int32) (ghal : Int32) (gwro : Int32) (gwai : Int32) (gwpl : Int64) (gwrs : Int32) (ghlt : Int32) (glat : Int32) (glpl : Int32) (p0 : Int64) (p1 : Int32) (post : Int32 → Prop) (h : wp_M_isThere gthr greg gcon gfld gtrn gins glev gkep glvs gkps gwrd gsta gflt gend ghal gwro gwai gwpl gwrs ghlt glat glpl p0 p1 post) : zq_Mi l zy_M_isThere zs_M_isThere ({ frames := 1, cells := 0, slots := 0, locals := 25 }) D kT [.ref (ad 0), .long p0, .int p1] (W_M_isThere kT ad gthr greg gcon gfld gtrn gins glev gkep glvs gkps gwrd gsta gflt gend ghal gwro gwai gwpl gwrs ghlt glat glpl) (fun r w' => w' = (W_M_isThere kT ad gthr greg gcon gfld gtrn gins glev gkep glvs gkps gwrd gsta gflt gend ghal gwro gwai gwpl gwrs ghlt glat glpl) ∧ post r ) := by
  refine zq_Mz_of (adl := (A_M_isThere ad)) (cc := zb_M_isThere) (maxL := 4) (own := zR_M) rfl (by decide) rfl rfl (Nat.le_of_ble_eq_true rfl) ?_
  intro p e s m AV below meth c A QQ H locs ls hx hb hml hown ht hE hA hret hP hD hS hl
  have hK := hE.1
  have hl : lv_has ls 4 [(0, .ref (ad 0)), (1, .long p0), (3, .int p1)] := hl
  refine lv_lload_n hx hb zd_M_isThere_0 rfl (lv_at hl 1 rfl) ?_
  refine lv_lconst (v := 0) hx hb zd_M_isThere_1 (by decide) ?_
  refine lv_sipush (v := 4096) hx hb zd_M_isThere_2 (by decide) ?_
  refine lv_iload_n hx hb zd_M_isThere_5 rfl (lv_at hl 2 rfl) ?_
  refine lv_isub hx hb zd_M_isThere_6 ?_
  refine lv_i2l (v := (zq_j_i2l (4096 - p1))) hx hb zd_M_isThere_7 rfl ?_
  refine zq_c_Si (rest := []) (adl := (A_M_isThere ad)) (wr := [(ad 0, .inr (10, [.int gthr, .int greg, .ref (ad 1), .ref (ad 2), .ref (ad 3), .ref (ad 4), .ref (ad 5), .ref (ad 6), .ref (ad 7), .ref (ad 8), .ref (ad 9), .int gcon, .int gfld, .int gtrn, .int gins, .ref (ad 10), .ref (ad 11), .ref (ad 12), .ref (ad 13), .ref (ad 14), .ref (ad 15), .ref (ad 16), .ref (ad 17), .ref (ad 18), .ref (ad 19), .ref (ad 20), .ref (ad 21), .ref (ad 22), .ref (ad 23), .int glev, .int gkep, .int glvs, .int gkps, .ref (ad 24), .ref (ad 25), .int gwrd, .int gsta, .int gflt, .int gend, .int ghal, .int gwro, .int gwai, .long gwpl, .int gwrs, .ref (ad 26), .ref (ad 27), .ref (ad 28), .ref (ad 29), .int ghlt, .int glat, .int glpl, .ref (ad 30)]))]) ⟨hx, hb, hml, hown, ht⟩ (c_M_in l D kT ad p0 0 (zq_j_i2l (4096 - p1)) _ h) (cwS 3 ht (zq_gS zw_391 zw_392 zw_393 zw_394) rfl rfl rfl zh_M_in ⟨Nat.le_of_ble_eq_true rfl, Nat.le_of_ble_eq_true rfl⟩) hE hP hD hS hA [] [0] 1 rfl (by decide +kernel) rfl (by decide +kernel) rfl rfl  rfl hl.1 (Nat.le_of_ble_eq_true rfl) rfl zd_M_isThere_8 ⟨Nat.zero_le _, Nat.zero_le _⟩ (fun r_1 w1 H locs hw hJ hS => ?_)
  obtain ⟨rfl, h⟩ := hw
  obtain ⟨hP, hD⟩ := hJ (W_M_isThere kT ad gthr greg gcon gfld gtrn gins glev gkep glvs gkps gwrd gsta gflt gend ghal gwro gwai gwpl gwrs ghlt glat glpl) rfl rfl rfl
  refine lv_if_eq (tgt := 31) hx hb zd_M_isThere_11 (by decide) (fun c_2 => ?_) (fun c_2 => ?_)
  · have h := zq_it c_2 h
    refine lv_iconst (v := 0) hx hb zd_M_isThere_31 (by decide) ?_
    exact hret 0 rfl _ H locs 32 ls ⟨rfl, h⟩ hP rfl hS zd_M_isThere_32
  · have h := zq_if c_2 h
    refine lv_iload_n hx hb zd_M_isThere_14 rfl (lv_at hl 2 rfl) ?_
    refine lv_iconst (v := 1) hx hb zd_M_isThere_15 (by decide) ?_
    refine lv_icmp_eq (tgt := 27) hx hb zd_M_isThere_16 (by decide) (fun c_3 => ?_) (fun c_3 => ?_)
    · have h := zq_it c_3 h
      refine lv_iconst (v := 1) hx hb zd_M_isThere_27 (by decide) ?_
      refine lv_goto (tgt := 32) hx hb zd_M_isThere_28 (by decide) ?_
      exact hret 1 rfl _ H locs 32 ls ⟨rfl, h⟩ hP rfl hS zd_M_isThere_32
    · have h := zq_if c_3 h
      refine lv_lload_n hx hb zd_M_isThere_19 rfl (lv_at hl 1 rfl) ?_
      refine lv_lconst (v := 1) hx hb zd_M_isThere_20 (by decide) ?_
      refine lv_land hx hb zd_M_isThere_21 ?_
      refine lv_lconst (v := 0) hx hb zd_M_isThere_22 (by decide) ?_
      refine W.lcmp hx hb zd_M_isThere_23 ?_
      refine lv_if_ne (tgt := 31) hx hb zd_M_isThere_24 (by decide) (fun c_4 => ?_) (fun c_4 => ?_)
      · have h := zq_if (fun z => c_4 (zq_lc_eq.mpr z)) h
        refine lv_iconst (v := 0) hx hb zd_M_isThere_31 (by decide) ?_
        exact hret 0 rfl _ H locs 32 ls ⟨rfl, h⟩ hP rfl hS zd_M_isThere_32
      · have h := zq_it (zq_lc_eq.mp c_4) h
        refine lv_iconst (v := 1) hx hb zd_M_isThere_27 (by decide) ?_
        refine lv_goto (tgt := 32) hx hb zd_M_isThere_28 (by decide) ?_
        exact hret 1 rfl _ H locs 32 ls ⟨rfl, h⟩ hP rfl hS zd_M_isThere_32
abbrev W_M_compute (kT : Nat → ClassId) (ad : Nat → Nat) (gthr : Int32) (greg : Int32) (gcon : Int32) (gfld : Int32) (gtrn : Int32) (gins : Int32) (glev : Int32) (gkep : Int32) (glvs : Int32) (gkps : Int32) (gwrd : Int32) (gsta : Int32) (gflt : Int32) (gend : Int32) (ghal : Int32) (gwro : Int32) (gwai : Int32) (gwpl : Int64) (gwrs : Int32) (ghlt : Int32) (glat : Int32) (glpl : Int32) (awid : Nat → Int32) (aval : Nat → Int64) (amrk : Nat → Int32) (ambf : Nat → Int32) (amem : Nat → Int32) (aopp : Nat → Int32) (afst : Nat → Int32) (asnd : Nat → Int32) (atgt : Nat → Int32) (ahow : Nat → Int32) (awto : Nat → Int32) (awat : Nat → Int32) (awvl : Nat → Int64) (awmk : Nat → Int32) (acnt : Nat → Int32) : va_W := [(ad 0, .inr (10, [.int gthr, .int greg, .ref (ad 1), .ref (ad 2), .ref (ad 3), .ref (ad 4), .ref (ad 5), .ref (ad 6), .ref (ad 7), .ref (ad 8), .ref (ad 9), .int gcon, .int gfld, .int gtrn, .int gins, .ref (ad 10), .ref (ad 11), .ref (ad 12), .ref (ad 13), .ref (ad 14), .ref (ad 15), .ref (ad 16), .ref (ad 17), .ref (ad 18), .ref (ad 19), .ref (ad 20), .ref (ad 21), .ref (ad 22), .ref (ad 23), .int glev, .int gkep, .int glvs, .int gkps, .ref (ad 24), .ref (ad 25), .int gwrd, .int gsta, .int gflt, .int gend, .int ghal, .int gwro, .int gwai, .long gwpl, .int gwrs, .ref (ad 26), .ref (ad 27), .ref (ad 28), .ref (ad 29), .int ghlt, .int glat, .int glpl, .ref (ad 30)])), (ad 1, .inl (kT 0, 24, .inl awid)), (ad 2, .inl (kT 1, 24, .inr (.inl aval))), (ad 5, .inl (kT 2, 24, .inl amrk)), (ad 6, .inl (kT 2, 24, .inl ambf)), (ad 8, .inl (kT 3, 4096, .inl amem)), (ad 14, .inl (kT 0, 200, .inl aopp)), (ad 15, .inl (kT 0, 200, .inl afst)), (ad 16, .inl (kT 0, 200, .inl asnd)), (ad 17, .inl (kT 0, 200, .inl atgt)), (ad 20, .inl (kT 0, 40, .inl ahow)), (ad 26, .inl (kT 0, 200, .inl awto)), (ad 27, .inl (kT 0, 200, .inl awat)), (ad 28, .inl (kT 1, 200, .inr (.inl awvl))), (ad 29, .inl (kT 2, 200, .inl awmk)), (ad 30, .inl (kT 0, 9, .inl acnt))]
abbrev A_M_compute (ad : Nat → Nat) : List Nat := [ad 0, ad 1, ad 2, ad 5, ad 6, ad 8, ad 14, ad 15, ad 16, ad 17, ad 20, ad 26, ad 27, ad 28, ad 29, ad 30]
def wp_M_compute_79 (gthr : Int32) (greg : Int32) (gcon : Int32) (gfld : Int32) (gtrn : Int32) (gins : Int32) (glev : Int32) (gkep : Int32) (glvs : Int32) (gkps : Int32) (gwrd : Int32) (gsta : Int32) (gend : Int32) (ghal : Int32) (gwai : Int32) (gwpl : Int64) (ghlt : Int32) (glat : Int32) (glpl : Int32) (awid : Nat → Int32) (ambf : Nat → Int32) (amem : Nat → Int32) (aopp : Nat → Int32) (afst : Nat → Int32) (asnd : Nat → Int32) (atgt : Nat → Int32) (ahow : Nat → Int32) (gflt : Int32) (gwro : Int32) (gwrs : Int32) (aval : Nat → Int64) (amrk : Nat → Int32) (awto : Nat → Int32) (awat : Nat → Int32) (awvl : Nat → Int64) (awmk : Nat → Int32) (acnt : Nat → Int32) (y1 : Int32) (y2 : Int32) (y3 : Int64) (y5 : Int64) (y7 : Int32) (post : Int32 → Int32 → Int32 → (Nat → Int64) → (Nat → Int32) → (Nat → Int32) → (Nat → Int32) → (Nat → Int64) → (Nat → Int32) → (Nat → Int32) → Prop) : Prop := vp_in y2 200 ∧ (if 13 ≤ (aopp y2.toNatClampNeg) then vp_in y2 200 ∧ wp_M_isThere gthr greg gcon gfld gtrn gins glev gkep glvs gkps gwrd gsta gflt gend ghal gwro gwai gwpl gwrs ghlt glat glpl (y3 + y5) ((aopp y2.toNatClampNeg) - 12) (fun r_17 => (if r_17 = 0 then post  3 gwro gwrs aval amrk awto awat awvl awmk acnt else vp_in y2 200 ∧ (if ((aopp y2.toNatClampNeg) - 12) = 1 then vp_in (zq_j_l2i (y3 + y5)) 4096 ∧ wp_M_result gthr greg gcon gfld gtrn gins glev gkep glvs gkps gwrd gsta gflt gend ghal gwro gwai gwpl gwrs ghlt glat glpl awid aval amrk atgt ahow awto awat awvl awmk y1 y2 (zq_j_i2l ((amem ((zq_j_l2i (y3 + y5))).toNatClampNeg) &&& 255)) y7 (fun gwro_33 gwrs_34 aval_35 amrk_36 awto_37 awat_38 awvl_39 awmk_40 => post  gflt gwro_33 gwrs_34 aval_35 amrk_36 awto_37 awat_38 awvl_39 awmk_40 (upd acnt 4 ((acnt 4) + ((aopp y2.toNatClampNeg) - 12)))) else vp_in (zq_j_l2i (y3 + y5)) 4096 ∧ vp_in ((zq_j_l2i (y3 + y5)) + 1) 4096 ∧ wp_M_result gthr greg gcon gfld gtrn gins glev gkep glvs gkps gwrd gsta gflt gend ghal gwro gwai gwpl gwrs ghlt glat glpl awid aval amrk atgt ahow awto awat awvl awmk y1 y2 (zq_j_i2l (((amem ((zq_j_l2i (y3 + y5))).toNatClampNeg) &&& 255) ||| (((amem (((zq_j_l2i (y3 + y5)) + 1)).toNatClampNeg) &&& 255) <<< ((8 : Int32) &&& 31)))) y7 (fun gwro_23 gwrs_24 aval_25 amrk_26 awto_27 awat_28 awvl_29 awmk_30 => post  gflt gwro_23 gwrs_24 aval_25 amrk_26 awto_27 awat_28 awvl_29 awmk_30 (upd acnt 4 ((acnt 4) + ((aopp y2.toNatClampNeg) - 12))))))) else vp_in y2 200 ∧ wp_M_simple (aopp y2.toNatClampNeg) y3 y5 (fun r_43 => wp_M_result gthr greg gcon gfld gtrn gins glev gkep glvs gkps gwrd gsta gflt gend ghal gwro gwai gwpl gwrs ghlt glat glpl awid aval amrk atgt ahow awto awat awvl awmk y1 y2 r_43 y7 (fun gwro_44 gwrs_45 aval_46 amrk_47 awto_48 awat_49 awvl_50 awmk_51 => post  gflt gwro_44 gwrs_45 aval_46 amrk_47 awto_48 awat_49 awvl_50 awmk_51 acnt)))
def wp_M_compute_64 (gthr : Int32) (greg : Int32) (gcon : Int32) (gfld : Int32) (gtrn : Int32) (gins : Int32) (glev : Int32) (gkep : Int32) (glvs : Int32) (gkps : Int32) (gwrd : Int32) (gsta : Int32) (gend : Int32) (ghal : Int32) (gwai : Int32) (gwpl : Int64) (ghlt : Int32) (glat : Int32) (glpl : Int32) (awid : Nat → Int32) (ambf : Nat → Int32) (amem : Nat → Int32) (aopp : Nat → Int32) (afst : Nat → Int32) (asnd : Nat → Int32) (atgt : Nat → Int32) (ahow : Nat → Int32) (gflt : Int32) (gwro : Int32) (gwrs : Int32) (aval : Nat → Int64) (amrk : Nat → Int32) (awto : Nat → Int32) (awat : Nat → Int32) (awvl : Nat → Int64) (awmk : Nat → Int32) (acnt : Nat → Int32) (y1 : Int32) (y2 : Int32) (y3 : Int64) (y5 : Int64) (y7 : Int32) (post : Int32 → Int32 → Int32 → (Nat → Int64) → (Nat → Int32) → (Nat → Int32) → (Nat → Int32) → (Nat → Int64) → (Nat → Int32) → (Nat → Int32) → Prop) : Prop := (if y5 = 0 then post  4 gwro gwrs aval amrk awto awat awvl awmk acnt else wp_M_compute_79 gthr greg gcon gfld gtrn gins glev gkep glvs gkps gwrd gsta gend ghal gwai gwpl ghlt glat glpl awid ambf amem aopp afst asnd atgt ahow gflt gwro gwrs aval amrk awto awat awvl awmk acnt y1 y2 y3 y5 y7 post)
def wp_M_compute_42 (gthr : Int32) (greg : Int32) (gcon : Int32) (gfld : Int32) (gtrn : Int32) (gins : Int32) (glev : Int32) (gkep : Int32) (glvs : Int32) (gkps : Int32) (gwrd : Int32) (gsta : Int32) (gend : Int32) (ghal : Int32) (gwai : Int32) (gwpl : Int64) (ghlt : Int32) (glat : Int32) (glpl : Int32) (awid : Nat → Int32) (ambf : Nat → Int32) (amem : Nat → Int32) (aopp : Nat → Int32) (afst : Nat → Int32) (asnd : Nat → Int32) (atgt : Nat → Int32) (ahow : Nat → Int32) (gflt : Int32) (gwro : Int32) (gwrs : Int32) (aval : Nat → Int64) (amrk : Nat → Int32) (awto : Nat → Int32) (awat : Nat → Int32) (awvl : Nat → Int64) (awmk : Nat → Int32) (acnt : Nat → Int32) (y1 : Int32) (y2 : Int32) (y3 : Int64) (y5 : Int64) (z0 : Int32) (post : Int32 → Int32 → Int32 → (Nat → Int64) → (Nat → Int32) → (Nat → Int32) → (Nat → Int32) → (Nat → Int64) → (Nat → Int32) → (Nat → Int32) → Prop) : Prop := vp_in y2 200 ∧ (if (aopp y2.toNatClampNeg) = 4 then wp_M_compute_64 gthr greg gcon gfld gtrn gins glev gkep glvs gkps gwrd gsta gend ghal gwai gwpl ghlt glat glpl awid ambf amem aopp afst asnd atgt ahow gflt gwro gwrs aval amrk awto awat awvl awmk acnt y1 y2 y3 y5 z0 post else vp_in y2 200 ∧ (if (aopp y2.toNatClampNeg) = 5 then wp_M_compute_64 gthr greg gcon gfld gtrn gins glev gkep glvs gkps gwrd gsta gend ghal gwai gwpl ghlt glat glpl awid ambf amem aopp afst asnd atgt ahow gflt gwro gwrs aval amrk awto awat awvl awmk acnt y1 y2 y3 y5 z0 post else wp_M_compute_79 gthr greg gcon gfld gtrn gins glev gkep glvs gkps gwrd gsta gend ghal gwai gwpl ghlt glat glpl awid ambf amem aopp afst asnd atgt ahow gflt gwro gwrs aval amrk awto awat awvl awmk acnt y1 y2 y3 y5 z0 post))
def wp_M_compute_37 (gthr : Int32) (greg : Int32) (gcon : Int32) (gfld : Int32) (gtrn : Int32) (gins : Int32) (glev : Int32) (gkep : Int32) (glvs : Int32) (gkps : Int32) (gwrd : Int32) (gsta : Int32) (gend : Int32) (ghal : Int32) (gwai : Int32) (gwpl : Int64) (ghlt : Int32) (glat : Int32) (glpl : Int32) (awid : Nat → Int32) (ambf : Nat → Int32) (amem : Nat → Int32) (aopp : Nat → Int32) (afst : Nat → Int32) (asnd : Nat → Int32) (atgt : Nat → Int32) (ahow : Nat → Int32) (gflt : Int32) (gwro : Int32) (gwrs : Int32) (aval : Nat → Int64) (amrk : Nat → Int32) (awto : Nat → Int32) (awat : Nat → Int32) (awvl : Nat → Int64) (awmk : Nat → Int32) (acnt : Nat → Int32) (y1 : Int32) (y2 : Int32) (y3 : Int64) (y5 : Int64) (post : Int32 → Int32 → Int32 → (Nat → Int64) → (Nat → Int32) → (Nat → Int32) → (Nat → Int32) → (Nat → Int64) → (Nat → Int32) → (Nat → Int32) → Prop) : Prop := wp_M_compute_42 gthr greg gcon gfld gtrn gins glev gkep glvs gkps gwrd gsta gend ghal gwai gwpl ghlt glat glpl awid ambf amem aopp afst asnd atgt ahow gflt gwro gwrs aval amrk awto awat awvl awmk acnt y1 y2 y3 y5 1 post
def wp_M_compute_41 (gthr : Int32) (greg : Int32) (gcon : Int32) (gfld : Int32) (gtrn : Int32) (gins : Int32) (glev : Int32) (gkep : Int32) (glvs : Int32) (gkps : Int32) (gwrd : Int32) (gsta : Int32) (gend : Int32) (ghal : Int32) (gwai : Int32) (gwpl : Int64) (ghlt : Int32) (glat : Int32) (glpl : Int32) (awid : Nat → Int32) (ambf : Nat → Int32) (amem : Nat → Int32) (aopp : Nat → Int32) (afst : Nat → Int32) (asnd : Nat → Int32) (atgt : Nat → Int32) (ahow : Nat → Int32) (gflt : Int32) (gwro : Int32) (gwrs : Int32) (aval : Nat → Int64) (amrk : Nat → Int32) (awto : Nat → Int32) (awat : Nat → Int32) (awvl : Nat → Int64) (awmk : Nat → Int32) (acnt : Nat → Int32) (y1 : Int32) (y2 : Int32) (y3 : Int64) (y5 : Int64) (post : Int32 → Int32 → Int32 → (Nat → Int64) → (Nat → Int32) → (Nat → Int32) → (Nat → Int32) → (Nat → Int64) → (Nat → Int32) → (Nat → Int32) → Prop) : Prop := wp_M_compute_42 gthr greg gcon gfld gtrn gins glev gkep glvs gkps gwrd gsta gend ghal gwai gwpl ghlt glat glpl awid ambf amem aopp afst asnd atgt ahow gflt gwro gwrs aval amrk awto awat awvl awmk acnt y1 y2 y3 y5 0 post
def wp_M_compute (gthr : Int32) (greg : Int32) (gcon : Int32) (gfld : Int32) (gtrn : Int32) (gins : Int32) (glev : Int32) (gkep : Int32) (glvs : Int32) (gkps : Int32) (gwrd : Int32) (gsta : Int32) (gflt : Int32) (gend : Int32) (ghal : Int32) (gwro : Int32) (gwai : Int32) (gwpl : Int64) (gwrs : Int32) (ghlt : Int32) (glat : Int32) (glpl : Int32) (awid : Nat → Int32) (aval : Nat → Int64) (amrk : Nat → Int32) (ambf : Nat → Int32) (amem : Nat → Int32) (aopp : Nat → Int32) (afst : Nat → Int32) (asnd : Nat → Int32) (atgt : Nat → Int32) (ahow : Nat → Int32) (awto : Nat → Int32) (awat : Nat → Int32) (awvl : Nat → Int64) (awmk : Nat → Int32) (acnt : Nat → Int32) (p0 : Int32) (p1 : Int32) (p2 : Int64) (p3 : Int64) (post : Int32 → Int32 → Int32 → (Nat → Int64) → (Nat → Int32) → (Nat → Int32) → (Nat → Int32) → (Nat → Int64) → (Nat → Int32) → (Nat → Int32) → Prop) : Prop := vp_in p1 200 ∧ wp_M_isMarked gthr greg gcon gfld gtrn gins glev gkep glvs gkps gwrd gsta gflt gend ghal gwro gwai gwpl gwrs ghlt glat glpl amrk ambf ahow p0 (afst p1.toNatClampNeg) (fun r_2 => (if r_2 = 0 then vp_in p1 200 ∧ (if (aopp p1.toNatClampNeg) ≤ 0 then wp_M_compute_41 gthr greg gcon gfld gtrn gins glev gkep glvs gkps gwrd gsta gend ghal gwai gwpl ghlt glat glpl awid ambf amem aopp afst asnd atgt ahow gflt gwro gwrs aval amrk awto awat awvl awmk acnt p0 p1 p2 p3 post else vp_in p1 200 ∧ wp_M_isMarked gthr greg gcon gfld gtrn gins glev gkep glvs gkps gwrd gsta gflt gend ghal gwro gwai gwpl gwrs ghlt glat glpl amrk ambf ahow p0 (asnd p1.toNatClampNeg) (fun r_7 => (if r_7 = 0 then wp_M_compute_41 gthr greg gcon gfld gtrn gins glev gkep glvs gkps gwrd gsta gend ghal gwai gwpl ghlt glat glpl awid ambf amem aopp afst asnd atgt ahow gflt gwro gwrs aval amrk awto awat awvl awmk acnt p0 p1 p2 p3 post else wp_M_compute_37 gthr greg gcon gfld gtrn gins glev gkep glvs gkps gwrd gsta gend ghal gwai gwpl ghlt glat glpl awid ambf amem aopp afst asnd atgt ahow gflt gwro gwrs aval amrk awto awat awvl awmk acnt p0 p1 p2 p3 post))) else wp_M_compute_37 gthr greg gcon gfld gtrn gins glev gkep glvs gkps gwrd gsta gend ghal gwai gwpl ghlt glat glpl awid ambf amem aopp afst asnd atgt ahow gflt gwro gwrs aval amrk awto awat awvl awmk acnt p0 p1 p2 p3 post))
set_option maxHeartbeats 4000000 in
set_option maxRecDepth 100000 in
theorem c_M_compute (l : Launch) (D : va_G) (kT : Nat → ClassId) (ad : Nat → Nat) (gthr : Int32) (greg : Int32) (gcon : Int32) (gfld : Int32) (gtrn : Int32) (gins : Int32) (glev : Int32) (gkep : Int32) (glvs : Int32) (gkps : Int32) (gwrd : Int32) (gsta : Int32) (gflt : Int32) (gend : Int32) (ghal : Int32) (gwro : Int32) (gwai : Int32) (gwpl : Int64) (gwrs : Int32) (ghlt : Int32) (glat : Int32) (glpl : Int32) (awid : Nat → Int32) (aval : Nat → Int64) (amrk : Nat → Int32) (ambf : Nat → Int32) (amem : Nat → Int32) (aopp : Nat → Int32) (afst : Nat → Int32) (asnd : Nat → Int32) (atgt : Nat → Int32) (ahow : Nat → Int32) (awto : Nat → Int32) (awat : Nat → Int32) (awvl : Nat → Int64) (awmk : Nat → Int32) (acnt : Nat → Int32) (p0 : Int32) (p1 : Int32) (p2 : Int64) (p3 : Int64) (post : Int32 → Int32 → Int32 → (Nat → Int64) → (Nat → Int32) → (Nat → Int32) → (Nat → Int32) → (Nat → Int64) → (Nat → Int32) → (Nat → Int32) → Prop) (h : wp_M_compute gthr greg gcon gfld gtrn gins glev gkep glvs gkps gwrd gsta gflt gend ghal gwro gwai gwpl gwrs ghlt glat glpl awid aval amrk ambf amem aopp afst asnd atgt ahow awto awat awvl awmk acnt p0 p1 p2 p3 post) : zq_Mv l zy_M_compute zs_M_compute ({ frames := 3, cells := 0, slots := 0, locals := 74 }) D kT [.ref (ad 0), .int p0, .int p1, .long p2, .long p3] (W_M_compute kT ad gthr greg gcon gfld gtrn gins glev gkep glvs gkps gwrd gsta gflt gend ghal gwro gwai gwpl gwrs ghlt glat glpl awid aval amrk ambf amem aopp afst asnd atgt ahow awto awat awvl awmk acnt) (fun w' => ∃ (gflt' : Int32) (gwro' : Int32) (gwrs' : Int32) (aval' : Nat → Int64) (amrk' : Nat → Int32) (awto' : Nat → Int32) (awat' : Nat → Int32) (awvl' : Nat → Int64) (awmk' : Nat → Int32) (acnt' : Nat → Int32), w' = (W_M_compute kT ad gthr greg gcon gfld gtrn gins glev gkep glvs gkps gwrd gsta gflt' gend ghal gwro' gwai gwpl gwrs' ghlt glat glpl awid aval' amrk' ambf amem aopp afst asnd atgt ahow awto' awat' awvl' awmk' acnt') ∧ post  gflt' gwro' gwrs' aval' amrk' awto' awat' awvl' awmk' acnt') := by
  refine zq_Mv_of (adl := (A_M_compute ad)) (cc := zb_M_compute) (maxL := 10) (own := zR_M) rfl (by decide) rfl rfl (Nat.le_of_ble_eq_true rfl) ?_
  intro p e s m AV below meth c A QQ H locs ls hx hb hml hown ht hE hA hret hP hD hS hl
  have hK := hE.1
  have hl : lv_has ls 10 [(0, .ref (ad 0)), (1, .int p0), (2, .int p1), (3, .long p2), (5, .long p3)] := hl
  have B79 : ∀  (gflt : Int32) (gwro : Int32) (gwrs : Int32) (aval : Nat → Int64) (amrk : Nat → Int32) (awto : Nat → Int32) (awat : Nat → Int32) (awvl : Nat → Int64) (awmk : Nat → Int32) (acnt : Nat → Int32) (y1 : Int32) (y2 : Int32) (y3 : Int64) (y5 : Int64) (y7 : Int32) (H : Heap) (locs : List Loc) (ls : Array Slot), wp_M_compute_79 gthr greg gcon gfld gtrn gins glev gkep glvs gkps gwrd gsta gend ghal gwai gwpl ghlt glat glpl awid ambf amem aopp afst asnd atgt ahow gflt gwro gwrs aval amrk awto awat awvl awmk acnt y1 y2 y3 y5 y7 post → va_P D vwCl (W_M_compute kT ad gthr greg gcon gfld gtrn gins glev gkep glvs gkps gwrd gsta gflt gend ghal gwro gwai gwpl gwrs ghlt glat glpl awid aval amrk ambf amem aopp afst asnd atgt ahow awto awat awvl awmk acnt) H → va_D A (W_M_compute kT ad gthr greg gcon gfld gtrn gins glev gkep glvs gkps gwrd gsta gflt gend ghal gwro gwai gwpl gwrs ghlt glat glpl awid aval amrk ambf amem aopp afst asnd atgt ahow awto awat awvl awmk acnt) → va_S A s.heap H locs → lv_has ls 10 [(0, .ref (ad 0)), (1, .int y1), (2, .int y2), (3, .long y3), (5, .long y5), (7, .int y7)] → W p l e ({ frames := 3, cells := 0, slots := 0, locals := 74 }) s m AV below meth c H locs 0 0 QQ (F0 m 79 ls []) := by
    intro gflt gwro gwrs aval amrk awto awat awvl awmk acnt y1 y2 y3 y5 y7 H locs ls h hP hD hS hl
    refine lv_aload_n hx hb zd_M_compute_79 rfl (lv_at hl 0 rfl) ?_
    refine va_get (D := D) (ci := 10) (v := .ref (ad 14)) (C := zR_M) (T := zF_M) (N := 52) hx hb ht zi_M hown hK hP 0 rfl rfl 19 (by decide) (ht _ zw_416) (fun _ h9 => h9) rfl zd_M_compute_80 ?_
    refine lv_iload_n hx hb zd_M_compute_83 rfl (lv_at hl 2 rfl) ?_
    obtain ⟨hi_14, h⟩ := h
    refine zq_a_iald (D := D) hx hb hK hP 6 0 rfl rfl hi_14 rfl zd_M_compute_84 ?_
    refine lv_bipush (v := 13) hx hb zd_M_compute_85 (by decide) ?_
    refine lv_icmp_ge (tgt := 113) hx hb zd_M_compute_87 (by decide) (fun c_15 => ?_) (fun c_15 => ?_)
    · have h := zq_it c_15 h
      refine lv_aload_n hx hb zd_M_compute_113 rfl (lv_at hl 0 rfl) ?_
      refine lv_lload_n hx hb zd_M_compute_114 rfl (lv_at hl 3 rfl) ?_
      refine lv_lload hx hb zd_M_compute_115 (lv_at hl 4 rfl) ?_
      refine lv_ladd hx hb zd_M_compute_117 ?_
      refine lv_aload_n hx hb zd_M_compute_118 rfl (lv_at hl 0 rfl) ?_
      refine va_get (D := D) (ci := 10) (v := .ref (ad 14)) (C := zR_M) (T := zF_M) (N := 52) hx hb ht zi_M hown hK hP 0 rfl rfl 19 (by decide) (ht _ zw_416) (fun _ h9 => h9) rfl zd_M_compute_119 ?_
      refine lv_iload_n hx hb zd_M_compute_122 rfl (lv_at hl 2 rfl) ?_
      obtain ⟨hi_16, h⟩ := h
      refine zq_a_iald (D := D) hx hb hK hP 6 0 rfl rfl hi_16 rfl zd_M_compute_123 ?_
      refine lv_bipush (v := 12) hx hb zd_M_compute_124 (by decide) ?_
      refine lv_isub hx hb zd_M_compute_126 ?_
      refine zq_c_Vi (rest := []) (adl := (A_M_compute ad)) (wr := [(ad 1, .inl (kT 0, 24, .inl awid)), (ad 2, .inl (kT 1, 24, .inr (.inl aval))), (ad 5, .inl (kT 2, 24, .inl amrk)), (ad 6, .inl (kT 2, 24, .inl ambf)), (ad 8, .inl (kT 3, 4096, .inl amem)), (ad 14, .inl (kT 0, 200, .inl aopp)), (ad 15, .inl (kT 0, 200, .inl afst)), (ad 16, .inl (kT 0, 200, .inl asnd)), (ad 17, .inl (kT 0, 200, .inl atgt)), (ad 20, .inl (kT 0, 40, .inl ahow)), (ad 26, .inl (kT 0, 200, .inl awto)), (ad 27, .inl (kT 0, 200, .inl awat)), (ad 28, .inl (kT 1, 200, .inr (.inl awvl))), (ad 29, .inl (kT 2, 200, .inl awmk)), (ad 30, .inl (kT 0, 9, .inl acnt))]) ⟨hx, hb, hml, hown, ht⟩ (c_M_isThere l D kT ad gthr greg gcon gfld gtrn gins glev gkep glvs gkps gwrd gsta gflt gend ghal gwro gwai gwpl gwrs ghlt glat glpl (y3 + y5) ((aopp y2.toNatClampNeg) - 12) _ h) (cwV 2 ht (zq_gV zw_489 zw_490 zw_491 zw_393 zw_492) rfl rfl rfl zh_M_isThere ⟨Nat.le_of_ble_eq_true rfl, Nat.le_of_ble_eq_true rfl⟩) hE hP hD hS hA [0] [1, 2, 3, 4, 5, 6, 7, 8, 9, 10, 11, 12, 13, 14, 15] 16 rfl (by decide +kernel) rfl (by decide +kernel) rfl rfl 0 rfl rfl rfl rfl hl.1 (Nat.le_of_ble_eq_true rfl) rfl zd_M_compute_127 ⟨Nat.zero_le _, Nat.zero_le _⟩ (fun r_17 w1 H locs hw hJ hS => ?_)
      obtain ⟨rfl, h⟩ := hw
      obtain ⟨hP, hD⟩ := hJ (W_M_compute kT ad gthr greg gcon gfld gtrn gins glev gkep glvs gkps gwrd gsta gflt gend ghal gwro gwai gwpl gwrs ghlt glat glpl awid aval amrk ambf amem aopp afst asnd atgt ahow awto awat awvl awmk acnt) rfl rfl rfl
      refine lv_if_ne (tgt := 141) hx hb zd_M_compute_130 (by decide) (fun c_18 => ?_) (fun c_18 => ?_)
      · have h := zq_if c_18 h
        refine lv_lload_n hx hb zd_M_compute_141 rfl (lv_at hl 3 rfl) ?_
        refine lv_lload hx hb zd_M_compute_142 (lv_at hl 4 rfl) ?_
        refine lv_ladd hx hb zd_M_compute_144 ?_
        refine lv_l2i (v := (zq_j_l2i (y3 + y5))) hx hb zd_M_compute_145 rfl ?_
        refine lv_istore (lv' := [(8, .int (zq_j_l2i (y3 + y5))), (0, .ref (ad 0)), (1, .int y1), (2, .int y2), (3, .long y3), (5, .long y5), (7, .int y7)]) hx hb zd_M_compute_146 hl (by decide) rfl (fun ls hl => ?_)
        refine lv_aload_n hx hb zd_M_compute_148 rfl (lv_at hl 1 rfl) ?_
        refine va_get (D := D) (ci := 10) (v := .ref (ad 14)) (C := zR_M) (T := zF_M) (N := 52) hx hb ht zi_M hown hK hP 0 rfl rfl 19 (by decide) (ht _ zw_416) (fun _ h9 => h9) rfl zd_M_compute_149 ?_
        refine lv_iload_n hx hb zd_M_compute_152 rfl (lv_at hl 3 rfl) ?_
        obtain ⟨hi_19, h⟩ := h
        refine zq_a_iald (D := D) hx hb hK hP 6 0 rfl rfl hi_19 rfl zd_M_compute_153 ?_
        refine lv_bipush (v := 12) hx hb zd_M_compute_154 (by decide) ?_
        refine lv_isub hx hb zd_M_compute_156 ?_
        refine lv_istore (lv' := [(9, .int ((aopp y2.toNatClampNeg) - 12)), (8, .int (zq_j_l2i (y3 + y5))), (0, .ref (ad 0)), (1, .int y1), (2, .int y2), (3, .long y3), (5, .long y5), (7, .int y7)]) hx hb zd_M_compute_157 hl (by decide) rfl (fun ls hl => ?_)
        refine lv_aload_n hx hb zd_M_compute_159 rfl (lv_at hl 2 rfl) ?_
        refine va_get (D := D) (ci := 10) (v := .ref (ad 30)) (C := zR_M) (T := zF_M) (N := 52) hx hb ht zi_M hown hK hP 0 rfl rfl 51 (by decide) (ht _ zw_435) (fun _ h9 => h9) rfl zd_M_compute_160 ?_
        refine lv_iconst (v := 4) hx hb zd_M_compute_163 (by decide) ?_
        refine lv_dup2_11 hx hb zd_M_compute_164 rfl rfl ?_
        refine zq_a_iald (D := D) (j := 4) hx hb hK hP 15 0 rfl rfl (zq_in (by decide)) (by decide) zd_M_compute_165 ?_
        refine lv_iload hx hb zd_M_compute_166 (lv_at hl 0 rfl) ?_
        refine lv_iadd hx hb zd_M_compute_168 ?_
        refine zq_a_iast (D := D) (j := 4) hx hb hK hP hD hS 15 0 rfl rfl (zq_in (by decide)) (by decide) zd_M_compute_169 (fun H locs hP hD hS => ?_)
        have hP : va_P D vwCl (W_M_compute kT ad gthr greg gcon gfld gtrn gins glev gkep glvs gkps gwrd gsta gflt gend ghal gwro gwai gwpl gwrs ghlt glat glpl awid aval amrk ambf amem aopp afst asnd atgt ahow awto awat awvl awmk (upd acnt 4 ((acnt 4) + ((aopp y2.toNatClampNeg) - 12)))) H := hP
        have hD : va_D A (W_M_compute kT ad gthr greg gcon gfld gtrn gins glev gkep glvs gkps gwrd gsta gflt gend ghal gwro gwai gwpl gwrs ghlt glat glpl awid aval amrk ambf amem aopp afst asnd atgt ahow awto awat awvl awmk (upd acnt 4 ((acnt 4) + ((aopp y2.toNatClampNeg) - 12)))) := hD
        refine lv_aload_n hx hb zd_M_compute_170 rfl (lv_at hl 2 rfl) ?_
        refine lv_iload_n hx hb zd_M_compute_171 rfl (lv_at hl 3 rfl) ?_
        refine lv_iload_n hx hb zd_M_compute_172 rfl (lv_at hl 4 rfl) ?_
        refine lv_iload hx hb zd_M_compute_173 (lv_at hl 0 rfl) ?_
        refine lv_iconst (v := 1) hx hb zd_M_compute_175 (by decide) ?_
        refine lv_icmp_ne (tgt := 194) hx hb zd_M_compute_176 (by decide) (fun c_20 => ?_) (fun c_20 => ?_)
        · have h := zq_if c_20 h
          refine lv_aload_n hx hb zd_M_compute_194 rfl (lv_at hl 2 rfl) ?_
          refine va_get (D := D) (ci := 10) (v := .ref (ad 8)) (C := zR_M) (T := zF_M) (N := 52) hx hb ht zi_M hown hK hP 0 rfl rfl 9 (by decide) (ht _ zw_429) (fun _ h9 => h9) rfl zd_M_compute_195 ?_
          refine lv_iload hx hb zd_M_compute_198 (lv_at hl 1 rfl) ?_
          obtain ⟨hi_21, h⟩ := h
          refine zq_a_bald (D := D) hx hb hK hP 5 3 rfl rfl hi_21 rfl zd_M_compute_200 ?_
          refine lv_sipush (v := 255) hx hb zd_M_compute_201 (by decide) ?_
          refine lv_iand hx hb zd_M_compute_204 ?_
          refine lv_aload_n hx hb zd_M_compute_205 rfl (lv_at hl 2 rfl) ?_
          refine va_get (D := D) (ci := 10) (v := .ref (ad 8)) (C := zR_M) (T := zF_M) (N := 52) hx hb ht zi_M hown hK hP 0 rfl rfl 9 (by decide) (ht _ zw_429) (fun _ h9 => h9) rfl zd_M_compute_206 ?_
          refine lv_iload hx hb zd_M_compute_209 (lv_at hl 1 rfl) ?_
          refine lv_iconst (v := 1) hx hb zd_M_compute_211 (by decide) ?_
          refine lv_iadd hx hb zd_M_compute_212 ?_
          obtain ⟨hi_22, h⟩ := h
          refine zq_a_bald (D := D) hx hb hK hP 5 3 rfl rfl hi_22 rfl zd_M_compute_213 ?_
          refine lv_sipush (v := 255) hx hb zd_M_compute_214 (by decide) ?_
          refine lv_iand hx hb zd_M_compute_217 ?_
          refine lv_bipush (v := 8) hx hb zd_M_compute_218 (by decide) ?_
          refine lv_ishl hx hb zd_M_compute_220 ?_
          refine lv_ior hx hb zd_M_compute_221 ?_
          refine lv_i2l (v := (zq_j_i2l (((amem ((zq_j_l2i (y3 + y5))).toNatClampNeg) &&& 255) ||| (((amem (((zq_j_l2i (y3 + y5)) + 1)).toNatClampNeg) &&& 255) <<< ((8 : Int32) &&& 31))))) hx hb zd_M_compute_222 rfl ?_
          refine lv_iload hx hb zd_M_compute_223 (lv_at hl 7 rfl) ?_
          refine zq_c_Vv (rest := []) (adl := (A_M_compute ad)) (wr := [(ad 6, .inl (kT 2, 24, .inl ambf)), (ad 8, .inl (kT 3, 4096, .inl amem)), (ad 14, .inl (kT 0, 200, .inl aopp)), (ad 15, .inl (kT 0, 200, .inl afst)), (ad 16, .inl (kT 0, 200, .inl asnd)), (ad 30, .inl (kT 0, 9, .inl (upd acnt 4 ((acnt 4) + ((aopp y2.toNatClampNeg) - 12)))))]) ⟨hx, hb, hml, hown, ht⟩ (c_M_result l D kT ad gthr greg gcon gfld gtrn gins glev gkep glvs gkps gwrd gsta gflt gend ghal gwro gwai gwpl gwrs ghlt glat glpl awid aval amrk atgt ahow awto awat awvl awmk y1 y2 (zq_j_i2l (((amem ((zq_j_l2i (y3 + y5))).toNatClampNeg) &&& 255) ||| (((amem (((zq_j_l2i (y3 + y5)) + 1)).toNatClampNeg) &&& 255) <<< ((8 : Int32) &&& 31)))) y7 _ h) (cwV 4 ht (zq_gV zw_493 zw_494 zw_495 zw_393 zw_496) rfl rfl rfl zh_M_result ⟨Nat.le_of_ble_eq_true rfl, Nat.le_of_ble_eq_true rfl⟩) hE hP hD hS hA [0, 1, 2, 3, 9, 10, 11, 12, 13, 14] [4, 5, 6, 7, 8, 15] 16 rfl (by decide +kernel) rfl (by decide +kernel) rfl rfl 0 rfl rfl rfl rfl hl.1 (Nat.le_of_ble_eq_true rfl) rfl zd_M_compute_225 ⟨Nat.zero_le _, Nat.zero_le _⟩ (fun w1 H locs hw hJ hS => ?_)
          obtain ⟨gwro_23, gwrs_24, aval_25, amrk_26, awto_27, awat_28, awvl_29, awmk_30, rfl, h⟩ := hw
          obtain ⟨hP, hD⟩ := hJ (W_M_compute kT ad gthr greg gcon gfld gtrn gins glev gkep glvs gkps gwrd gsta gflt gend ghal gwro_23 gwai gwpl gwrs_24 ghlt glat glpl awid aval_25 amrk_26 ambf amem aopp afst asnd atgt ahow awto_27 awat_28 awvl_29 awmk_30 (upd acnt 4 ((acnt 4) + ((aopp y2.toNatClampNeg) - 12)))) rfl rfl rfl
          exact hret  _ H locs 228 ls ⟨gflt, gwro_23, gwrs_24, aval_25, amrk_26, awto_27, awat_28, awvl_29, awmk_30, (upd acnt 4 ((acnt 4) + ((aopp y2.toNatClampNeg) - 12))), rfl, h⟩ hP rfl hS zd_M_compute_228
        · have h := zq_it c_20 h
          refine lv_aload_n hx hb zd_M_compute_179 rfl (lv_at hl 2 rfl) ?_
          refine va_get (D := D) (ci := 10) (v := .ref (ad 8)) (C := zR_M) (T := zF_M) (N := 52) hx hb ht zi_M hown hK hP 0 rfl rfl 9 (by decide) (ht _ zw_429) (fun _ h9 => h9) rfl zd_M_compute_180 ?_
          refine lv_iload hx hb zd_M_compute_183 (lv_at hl 1 rfl) ?_
          obtain ⟨hi_32, h⟩ := h
          refine zq_a_bald (D := D) hx hb hK hP 5 3 rfl rfl hi_32 rfl zd_M_compute_185 ?_
          refine lv_sipush (v := 255) hx hb zd_M_compute_186 (by decide) ?_
          refine lv_iand hx hb zd_M_compute_189 ?_
          refine lv_i2l (v := (zq_j_i2l ((amem ((zq_j_l2i (y3 + y5))).toNatClampNeg) &&& 255))) hx hb zd_M_compute_190 rfl ?_
          refine lv_goto (tgt := 223) hx hb zd_M_compute_191 (by decide) ?_
          refine lv_iload hx hb zd_M_compute_223 (lv_at hl 7 rfl) ?_
          refine zq_c_Vv (rest := []) (adl := (A_M_compute ad)) (wr := [(ad 6, .inl (kT 2, 24, .inl ambf)), (ad 8, .inl (kT 3, 4096, .inl amem)), (ad 14, .inl (kT 0, 200, .inl aopp)), (ad 15, .inl (kT 0, 200, .inl afst)), (ad 16, .inl (kT 0, 200, .inl asnd)), (ad 30, .inl (kT 0, 9, .inl (upd acnt 4 ((acnt 4) + ((aopp y2.toNatClampNeg) - 12)))))]) ⟨hx, hb, hml, hown, ht⟩ (c_M_result l D kT ad gthr greg gcon gfld gtrn gins glev gkep glvs gkps gwrd gsta gflt gend ghal gwro gwai gwpl gwrs ghlt glat glpl awid aval amrk atgt ahow awto awat awvl awmk y1 y2 (zq_j_i2l ((amem ((zq_j_l2i (y3 + y5))).toNatClampNeg) &&& 255)) y7 _ h) (cwV 4 ht (zq_gV zw_493 zw_494 zw_495 zw_393 zw_496) rfl rfl rfl zh_M_result ⟨Nat.le_of_ble_eq_true rfl, Nat.le_of_ble_eq_true rfl⟩) hE hP hD hS hA [0, 1, 2, 3, 9, 10, 11, 12, 13, 14] [4, 5, 6, 7, 8, 15] 16 rfl (by decide +kernel) rfl (by decide +kernel) rfl rfl 0 rfl rfl rfl rfl hl.1 (Nat.le_of_ble_eq_true rfl) rfl zd_M_compute_225 ⟨Nat.zero_le _, Nat.zero_le _⟩ (fun w1 H locs hw hJ hS => ?_)
          obtain ⟨gwro_33, gwrs_34, aval_35, amrk_36, awto_37, awat_38, awvl_39, awmk_40, rfl, h⟩ := hw
          obtain ⟨hP, hD⟩ := hJ (W_M_compute kT ad gthr greg gcon gfld gtrn gins glev gkep glvs gkps gwrd gsta gflt gend ghal gwro_33 gwai gwpl gwrs_34 ghlt glat glpl awid aval_35 amrk_36 ambf amem aopp afst asnd atgt ahow awto_37 awat_38 awvl_39 awmk_40 (upd acnt 4 ((acnt 4) + ((aopp y2.toNatClampNeg) - 12)))) rfl rfl rfl
          exact hret  _ H locs 228 ls ⟨gflt, gwro_33, gwrs_34, aval_35, amrk_36, awto_37, awat_38, awvl_39, awmk_40, (upd acnt 4 ((acnt 4) + ((aopp y2.toNatClampNeg) - 12))), rfl, h⟩ hP rfl hS zd_M_compute_228
      · have h := zq_it c_18 h
        refine lv_aload_n hx hb zd_M_compute_133 rfl (lv_at hl 0 rfl) ?_
        refine lv_iconst (v := 3) hx hb zd_M_compute_134 (by decide) ?_
        refine va_put (D := D) (ci := 10) (v := .int 3) (ty := .int) (C := zR_M) (T := zF_M) (N := 52) hx hb ht zi_M zt_M zt_M_ok zn_M hown hK hP hD hS 0 rfl rfl 37 (by decide) (ht _ zw_488) (fun _ h9 => h9) rfl (by decide +kernel) rfl rfl (Nat.le_of_ble_eq_true rfl) zd_M_compute_135 (fun H locs hP hD hS => ?_)
        have hP : va_P D vwCl (W_M_compute kT ad gthr greg gcon gfld gtrn gins glev gkep glvs gkps gwrd gsta 3 gend ghal gwro gwai gwpl gwrs ghlt glat glpl awid aval amrk ambf amem aopp afst asnd atgt ahow awto awat awvl awmk acnt) H := hP
        have hD : va_D A (W_M_compute kT ad gthr greg gcon gfld gtrn gins glev gkep glvs gkps gwrd gsta 3 gend ghal gwro gwai gwpl gwrs ghlt glat glpl awid aval amrk ambf amem aopp afst asnd atgt ahow awto awat awvl awmk acnt) := hD
        refine lv_goto (tgt := 228) hx hb zd_M_compute_138 (by decide) ?_
        exact hret  _ H locs 228 ls ⟨3, gwro, gwrs, aval, amrk, awto, awat, awvl, awmk, acnt, rfl, h⟩ hP rfl hS zd_M_compute_228
    · have h := zq_if c_15 h
      refine lv_aload_n hx hb zd_M_compute_90 rfl (lv_at hl 0 rfl) ?_
      refine lv_iload_n hx hb zd_M_compute_91 rfl (lv_at hl 1 rfl) ?_
      refine lv_iload_n hx hb zd_M_compute_92 rfl (lv_at hl 2 rfl) ?_
      refine lv_aload_n hx hb zd_M_compute_93 rfl (lv_at hl 0 rfl) ?_
      refine va_get (D := D) (ci := 10) (v := .ref (ad 14)) (C := zR_M) (T := zF_M) (N := 52) hx hb ht zi_M hown hK hP 0 rfl rfl 19 (by decide) (ht _ zw_416) (fun _ h9 => h9) rfl zd_M_compute_94 ?_
      refine lv_iload_n hx hb zd_M_compute_97 rfl (lv_at hl 2 rfl) ?_
      obtain ⟨hi_42, h⟩ := h
      refine zq_a_iald (D := D) hx hb hK hP 6 0 rfl rfl hi_42 rfl zd_M_compute_98 ?_
      refine lv_lload_n hx hb zd_M_compute_99 rfl (lv_at hl 3 rfl) ?_
      refine lv_lload hx hb zd_M_compute_100 (lv_at hl 4 rfl) ?_
      refine zq_c_Sl (rest := [.int y2, .int y1, .ref (ad 0)]) (adl := (A_M_compute ad)) (wr := [(ad 0, .inr (10, [.int gthr, .int greg, .ref (ad 1), .ref (ad 2), .ref (ad 3), .ref (ad 4), .ref (ad 5), .ref (ad 6), .ref (ad 7), .ref (ad 8), .ref (ad 9), .int gcon, .int gfld, .int gtrn, .int gins, .ref (ad 10), .ref (ad 11), .ref (ad 12), .ref (ad 13), .ref (ad 14), .ref (ad 15), .ref (ad 16), .ref (ad 17), .ref (ad 18), .ref (ad 19), .ref (ad 20), .ref (ad 21), .ref (ad 22), .ref (ad 23), .int glev, .int gkep, .int glvs, .int gkps, .ref (ad 24), .ref (ad 25), .int gwrd, .int gsta, .int gflt, .int gend, .int ghal, .int gwro, .int gwai, .long gwpl, .int gwrs, .ref (ad 26), .ref (ad 27), .ref (ad 28), .ref (ad 29), .int ghlt, .int glat, .int glpl, .ref (ad 30)])), (ad 1, .inl (kT 0, 24, .inl awid)), (ad 2, .inl (kT 1, 24, .inr (.inl aval))), (ad 5, .inl (kT 2, 24, .inl amrk)), (ad 6, .inl (kT 2, 24, .inl ambf)), (ad 8, .inl (kT 3, 4096, .inl amem)), (ad 14, .inl (kT 0, 200, .inl aopp)), (ad 15, .inl (kT 0, 200, .inl afst)), (ad 16, .inl (kT 0, 200, .inl asnd)), (ad 17, .inl (kT 0, 200, .inl atgt)), (ad 20, .inl (kT 0, 40, .inl ahow)), (ad 26, .inl (kT 0, 200, .inl awto)), (ad 27, .inl (kT 0, 200, .inl awat)), (ad 28, .inl (kT 1, 200, .inr (.inl awvl))), (ad 29, .inl (kT 2, 200, .inl awmk)), (ad 30, .inl (kT 0, 9, .inl acnt))]) ⟨hx, hb, hml, hown, ht⟩ (c_M_simple l D kT ad (aopp y2.toNatClampNeg) y3 y5 _ h) (cwS 3 ht (zq_gS zw_497 zw_498 zw_393 zw_499) rfl rfl rfl zh_M_simple ⟨Nat.le_of_ble_eq_true rfl, Nat.le_of_ble_eq_true rfl⟩) hE hP hD hS hA [] [0, 1, 2, 3, 4, 5, 6, 7, 8, 9, 10, 11, 12, 13, 14, 15] 16 rfl (by decide +kernel) rfl (by decide +kernel) rfl rfl  rfl hl.1 (Nat.le_of_ble_eq_true rfl) rfl zd_M_compute_102 ⟨Nat.zero_le _, Nat.zero_le _⟩ (fun r_43 w1 H locs hw hJ hS => ?_)
      obtain ⟨rfl, h⟩ := hw
      obtain ⟨hP, hD⟩ := hJ (W_M_compute kT ad gthr greg gcon gfld gtrn gins glev gkep glvs gkps gwrd gsta gflt gend ghal gwro gwai gwpl gwrs ghlt glat glpl awid aval amrk ambf amem aopp afst asnd atgt ahow awto awat awvl awmk acnt) rfl rfl rfl
      refine lv_iload hx hb zd_M_compute_105 (lv_at hl 5 rfl) ?_
      refine zq_c_Vv (rest := []) (adl := (A_M_compute ad)) (wr := [(ad 6, .inl (kT 2, 24, .inl ambf)), (ad 8, .inl (kT 3, 4096, .inl amem)), (ad 14, .inl (kT 0, 200, .inl aopp)), (ad 15, .inl (kT 0, 200, .inl afst)), (ad 16, .inl (kT 0, 200, .inl asnd)), (ad 30, .inl (kT 0, 9, .inl acnt))]) ⟨hx, hb, hml, hown, ht⟩ (c_M_result l D kT ad gthr greg gcon gfld gtrn gins glev gkep glvs gkps gwrd gsta gflt gend ghal gwro gwai gwpl gwrs ghlt glat glpl awid aval amrk atgt ahow awto awat awvl awmk y1 y2 r_43 y7 _ h) (cwV 4 ht (zq_gV zw_493 zw_494 zw_495 zw_393 zw_496) rfl rfl rfl zh_M_result ⟨Nat.le_of_ble_eq_true rfl, Nat.le_of_ble_eq_true rfl⟩) hE hP hD hS hA [0, 1, 2, 3, 9, 10, 11, 12, 13, 14] [4, 5, 6, 7, 8, 15] 16 rfl (by decide +kernel) rfl (by decide +kernel) rfl rfl 0 rfl rfl rfl rfl hl.1 (Nat.le_of_ble_eq_true rfl) rfl zd_M_compute_107 ⟨Nat.zero_le _, Nat.zero_le _⟩ (fun w1 H locs hw hJ hS => ?_)
      obtain ⟨gwro_44, gwrs_45, aval_46, amrk_47, awto_48, awat_49, awvl_50, awmk_51, rfl, h⟩ := hw
      obtain ⟨hP, hD⟩ := hJ (W_M_compute kT ad gthr greg gcon gfld gtrn gins glev gkep glvs gkps gwrd gsta gflt gend ghal gwro_44 gwai gwpl gwrs_45 ghlt glat glpl awid aval_46 amrk_47 ambf amem aopp afst asnd atgt ahow awto_48 awat_49 awvl_50 awmk_51 acnt) rfl rfl rfl
      refine lv_goto (tgt := 228) hx hb zd_M_compute_110 (by decide) ?_
      exact hret  _ H locs 228 ls ⟨gflt, gwro_44, gwrs_45, aval_46, amrk_47, awto_48, awat_49, awvl_50, awmk_51, acnt, rfl, h⟩ hP rfl hS zd_M_compute_228
  have B64 : ∀  (gflt : Int32) (gwro : Int32) (gwrs : Int32) (aval : Nat → Int64) (amrk : Nat → Int32) (awto : Nat → Int32) (awat : Nat → Int32) (awvl : Nat → Int64) (awmk : Nat → Int32) (acnt : Nat → Int32) (y1 : Int32) (y2 : Int32) (y3 : Int64) (y5 : Int64) (y7 : Int32) (H : Heap) (locs : List Loc) (ls : Array Slot), wp_M_compute_64 gthr greg gcon gfld gtrn gins glev gkep glvs gkps gwrd gsta gend ghal gwai gwpl ghlt glat glpl awid ambf amem aopp afst asnd atgt ahow gflt gwro gwrs aval amrk awto awat awvl awmk acnt y1 y2 y3 y5 y7 post → va_P D vwCl (W_M_compute kT ad gthr greg gcon gfld gtrn gins glev gkep glvs gkps gwrd gsta gflt gend ghal gwro gwai gwpl gwrs ghlt glat glpl awid aval amrk ambf amem aopp afst asnd atgt ahow awto awat awvl awmk acnt) H → va_D A (W_M_compute kT ad gthr greg gcon gfld gtrn gins glev gkep glvs gkps gwrd gsta gflt gend ghal gwro gwai gwpl gwrs ghlt glat glpl awid aval amrk ambf amem aopp afst asnd atgt ahow awto awat awvl awmk acnt) → va_S A s.heap H locs → lv_has ls 10 [(0, .ref (ad 0)), (1, .int y1), (2, .int y2), (3, .long y3), (5, .long y5), (7, .int y7)] → W p l e ({ frames := 3, cells := 0, slots := 0, locals := 74 }) s m AV below meth c H locs 0 0 QQ (F0 m 64 ls []) := by
    intro gflt gwro gwrs aval amrk awto awat awvl awmk acnt y1 y2 y3 y5 y7 H locs ls h hP hD hS hl
    unfold wp_M_compute_64 at h
    refine lv_lload hx hb zd_M_compute_64 (lv_at hl 4 rfl) ?_
    refine lv_lconst (v := 0) hx hb zd_M_compute_66 (by decide) ?_
    refine W.lcmp hx hb zd_M_compute_67 ?_
    refine lv_if_ne (tgt := 79) hx hb zd_M_compute_68 (by decide) (fun c_13 => ?_) (fun c_13 => ?_)
    · have h := zq_if (fun z => c_13 (zq_lc_eq.mpr z)) h
      exact B79 gflt gwro gwrs aval amrk awto awat awvl awmk acnt y1 y2 y3 y5 y7 H locs ls h hP hD hS (lv_sub hl [0, 1, 2, 3, 4, 5] rfl)
    · have h := zq_it (zq_lc_eq.mp c_13) h
      refine lv_aload_n hx hb zd_M_compute_71 rfl (lv_at hl 0 rfl) ?_
      refine lv_iconst (v := 4) hx hb zd_M_compute_72 (by decide) ?_
      refine va_put (D := D) (ci := 10) (v := .int 4) (ty := .int) (C := zR_M) (T := zF_M) (N := 52) hx hb ht zi_M zt_M zt_M_ok zn_M hown hK hP hD hS 0 rfl rfl 37 (by decide) (ht _ zw_488) (fun _ h9 => h9) rfl (by decide +kernel) rfl rfl (Nat.le_of_ble_eq_true rfl) zd_M_compute_73 (fun H locs hP hD hS => ?_)
      have hP : va_P D vwCl (W_M_compute kT ad gthr greg gcon gfld gtrn gins glev gkep glvs gkps gwrd gsta 4 gend ghal gwro gwai gwpl gwrs ghlt glat glpl awid aval amrk ambf amem aopp afst asnd atgt ahow awto awat awvl awmk acnt) H := hP
      have hD : va_D A (W_M_compute kT ad gthr greg gcon gfld gtrn gins glev gkep glvs gkps gwrd gsta 4 gend ghal gwro gwai gwpl gwrs ghlt glat glpl awid aval amrk ambf amem aopp afst asnd atgt ahow awto awat awvl awmk acnt) := hD
      refine lv_goto (tgt := 228) hx hb zd_M_compute_76 (by decide) ?_
      exact hret  _ H locs 228 ls ⟨4, gwro, gwrs, aval, amrk, awto, awat, awvl, awmk, acnt, rfl, h⟩ hP rfl hS zd_M_compute_228
  have B42 : ∀  (gflt : Int32) (gwro : Int32) (gwrs : Int32) (aval : Nat → Int64) (amrk : Nat → Int32) (awto : Nat → Int32) (awat : Nat → Int32) (awvl : Nat → Int64) (awmk : Nat → Int32) (acnt : Nat → Int32) (y1 : Int32) (y2 : Int32) (y3 : Int64) (y5 : Int64) (z0 : Int32) (H : Heap) (locs : List Loc) (ls : Array Slot), wp_M_compute_42 gthr greg gcon gfld gtrn gins glev gkep glvs gkps gwrd gsta gend ghal gwai gwpl ghlt glat glpl awid ambf amem aopp afst asnd atgt ahow gflt gwro gwrs aval amrk awto awat awvl awmk acnt y1 y2 y3 y5 z0 post → va_P D vwCl (W_M_compute kT ad gthr greg gcon gfld gtrn gins glev gkep glvs gkps gwrd gsta gflt gend ghal gwro gwai gwpl gwrs ghlt glat glpl awid aval amrk ambf amem aopp afst asnd atgt ahow awto awat awvl awmk acnt) H → va_D A (W_M_compute kT ad gthr greg gcon gfld gtrn gins glev gkep glvs gkps gwrd gsta gflt gend ghal gwro gwai gwpl gwrs ghlt glat glpl awid aval amrk ambf amem aopp afst asnd atgt ahow awto awat awvl awmk acnt) → va_S A s.heap H locs → lv_has ls 10 [(0, .ref (ad 0)), (1, .int y1), (2, .int y2), (3, .long y3), (5, .long y5)] → W p l e ({ frames := 3, cells := 0, slots := 0, locals := 74 }) s m AV below meth c H locs 0 0 QQ (F0 m 42 ls [.int z0]) := by
    intro gflt gwro gwrs aval amrk awto awat awvl awmk acnt y1 y2 y3 y5 z0 H locs ls h hP hD hS hl
    refine lv_istore (lv' := [(7, .int z0), (0, .ref (ad 0)), (1, .int y1), (2, .int y2), (3, .long y3), (5, .long y5)]) hx hb zd_M_compute_42 hl (by decide) rfl (fun ls hl => ?_)
    refine lv_aload_n hx hb zd_M_compute_44 rfl (lv_at hl 1 rfl) ?_
    refine va_get (D := D) (ci := 10) (v := .ref (ad 14)) (C := zR_M) (T := zF_M) (N := 52) hx hb ht zi_M hown hK hP 0 rfl rfl 19 (by decide) (ht _ zw_416) (fun _ h9 => h9) rfl zd_M_compute_45 ?_
    refine lv_iload_n hx hb zd_M_compute_48 rfl (lv_at hl 3 rfl) ?_
    obtain ⟨hi_9, h⟩ := h
    refine zq_a_iald (D := D) hx hb hK hP 6 0 rfl rfl hi_9 rfl zd_M_compute_49 ?_
    refine lv_iconst (v := 4) hx hb zd_M_compute_50 (by decide) ?_
    refine lv_icmp_eq (tgt := 64) hx hb zd_M_compute_51 (by decide) (fun c_10 => ?_) (fun c_10 => ?_)
    · have h := zq_it c_10 h
      exact B64 gflt gwro gwrs aval amrk awto awat awvl awmk acnt y1 y2 y3 y5 z0 H locs ls h hP hD hS (lv_sub hl [1, 2, 3, 4, 5, 0] rfl)
    · have h := zq_if c_10 h
      refine lv_aload_n hx hb zd_M_compute_54 rfl (lv_at hl 1 rfl) ?_
      refine va_get (D := D) (ci := 10) (v := .ref (ad 14)) (C := zR_M) (T := zF_M) (N := 52) hx hb ht zi_M hown hK hP 0 rfl rfl 19 (by decide) (ht _ zw_416) (fun _ h9 => h9) rfl zd_M_compute_55 ?_
      refine lv_iload_n hx hb zd_M_compute_58 rfl (lv_at hl 3 rfl) ?_
      obtain ⟨hi_11, h⟩ := h
      refine zq_a_iald (D := D) hx hb hK hP 6 0 rfl rfl hi_11 rfl zd_M_compute_59 ?_
      refine lv_iconst (v := 5) hx hb zd_M_compute_60 (by decide) ?_
      refine lv_icmp_ne (tgt := 79) hx hb zd_M_compute_61 (by decide) (fun c_12 => ?_) (fun c_12 => ?_)
      · have h := zq_if c_12 h
        exact B79 gflt gwro gwrs aval amrk awto awat awvl awmk acnt y1 y2 y3 y5 z0 H locs ls h hP hD hS (lv_sub hl [1, 2, 3, 4, 5, 0] rfl)
      · have h := zq_it c_12 h
        exact B64 gflt gwro gwrs aval amrk awto awat awvl awmk acnt y1 y2 y3 y5 z0 H locs ls h hP hD hS (lv_sub hl [1, 2, 3, 4, 5, 0] rfl)
  have B37 : ∀  (gflt : Int32) (gwro : Int32) (gwrs : Int32) (aval : Nat → Int64) (amrk : Nat → Int32) (awto : Nat → Int32) (awat : Nat → Int32) (awvl : Nat → Int64) (awmk : Nat → Int32) (acnt : Nat → Int32) (y1 : Int32) (y2 : Int32) (y3 : Int64) (y5 : Int64) (H : Heap) (locs : List Loc) (ls : Array Slot), wp_M_compute_37 gthr greg gcon gfld gtrn gins glev gkep glvs gkps gwrd gsta gend ghal gwai gwpl ghlt glat glpl awid ambf amem aopp afst asnd atgt ahow gflt gwro gwrs aval amrk awto awat awvl awmk acnt y1 y2 y3 y5 post → va_P D vwCl (W_M_compute kT ad gthr greg gcon gfld gtrn gins glev gkep glvs gkps gwrd gsta gflt gend ghal gwro gwai gwpl gwrs ghlt glat glpl awid aval amrk ambf amem aopp afst asnd atgt ahow awto awat awvl awmk acnt) H → va_D A (W_M_compute kT ad gthr greg gcon gfld gtrn gins glev gkep glvs gkps gwrd gsta gflt gend ghal gwro gwai gwpl gwrs ghlt glat glpl awid aval amrk ambf amem aopp afst asnd atgt ahow awto awat awvl awmk acnt) → va_S A s.heap H locs → lv_has ls 10 [(0, .ref (ad 0)), (1, .int y1), (2, .int y2), (3, .long y3), (5, .long y5)] → W p l e ({ frames := 3, cells := 0, slots := 0, locals := 74 }) s m AV below meth c H locs 0 0 QQ (F0 m 37 ls []) := by
    intro gflt gwro gwrs aval amrk awto awat awvl awmk acnt y1 y2 y3 y5 H locs ls h hP hD hS hl
    refine lv_iconst (v := 1) hx hb zd_M_compute_37 (by decide) ?_
    refine lv_goto (tgt := 42) hx hb zd_M_compute_38 (by decide) ?_
    exact B42 gflt gwro gwrs aval amrk awto awat awvl awmk acnt y1 y2 y3 y5 1 H locs ls h hP hD hS (lv_sub hl [0, 1, 2, 3, 4] rfl)
  have B41 : ∀  (gflt : Int32) (gwro : Int32) (gwrs : Int32) (aval : Nat → Int64) (amrk : Nat → Int32) (awto : Nat → Int32) (awat : Nat → Int32) (awvl : Nat → Int64) (awmk : Nat → Int32) (acnt : Nat → Int32) (y1 : Int32) (y2 : Int32) (y3 : Int64) (y5 : Int64) (H : Heap) (locs : List Loc) (ls : Array Slot), wp_M_compute_41 gthr greg gcon gfld gtrn gins glev gkep glvs gkps gwrd gsta gend ghal gwai gwpl ghlt glat glpl awid ambf amem aopp afst asnd atgt ahow gflt gwro gwrs aval amrk awto awat awvl awmk acnt y1 y2 y3 y5 post → va_P D vwCl (W_M_compute kT ad gthr greg gcon gfld gtrn gins glev gkep glvs gkps gwrd gsta gflt gend ghal gwro gwai gwpl gwrs ghlt glat glpl awid aval amrk ambf amem aopp afst asnd atgt ahow awto awat awvl awmk acnt) H → va_D A (W_M_compute kT ad gthr greg gcon gfld gtrn gins glev gkep glvs gkps gwrd gsta gflt gend ghal gwro gwai gwpl gwrs ghlt glat glpl awid aval amrk ambf amem aopp afst asnd atgt ahow awto awat awvl awmk acnt) → va_S A s.heap H locs → lv_has ls 10 [(0, .ref (ad 0)), (1, .int y1), (2, .int y2), (3, .long y3), (5, .long y5)] → W p l e ({ frames := 3, cells := 0, slots := 0, locals := 74 }) s m AV below meth c H locs 0 0 QQ (F0 m 41 ls []) := by
    intro gflt gwro gwrs aval amrk awto awat awvl awmk acnt y1 y2 y3 y5 H locs ls h hP hD hS hl
    refine lv_iconst (v := 0) hx hb zd_M_compute_41 (by decide) ?_
    exact B42 gflt gwro gwrs aval amrk awto awat awvl awmk acnt y1 y2 y3 y5 0 H locs ls h hP hD hS (lv_sub hl [0, 1, 2, 3, 4] rfl)
  refine lv_aload_n hx hb zd_M_compute_0 rfl (lv_at hl 0 rfl) ?_
  refine lv_iload_n hx hb zd_M_compute_1 rfl (lv_at hl 1 rfl) ?_
  refine lv_aload_n hx hb zd_M_compute_2 rfl (lv_at hl 0 rfl) ?_
  refine va_get (D := D) (ci := 10) (v := .ref (ad 15)) (C := zR_M) (T := zF_M) (N := 52) hx hb ht zi_M hown hK hP 0 rfl rfl 20 (by decide) (ht _ zw_417) (fun _ h9 => h9) rfl zd_M_compute_3 ?_
  refine lv_iload_n hx hb zd_M_compute_6 rfl (lv_at hl 2 rfl) ?_
  obtain ⟨hi_1, h⟩ := h
  refine zq_a_iald (D := D) hx hb hK hP 7 0 rfl rfl hi_1 rfl zd_M_compute_7 ?_
  refine zq_c_Vi (rest := []) (adl := (A_M_compute ad)) (wr := [(ad 1, .inl (kT 0, 24, .inl awid)), (ad 2, .inl (kT 1, 24, .inr (.inl aval))), (ad 8, .inl (kT 3, 4096, .inl amem)), (ad 14, .inl (kT 0, 200, .inl aopp)), (ad 15, .inl (kT 0, 200, .inl afst)), (ad 16, .inl (kT 0, 200, .inl asnd)), (ad 17, .inl (kT 0, 200, .inl atgt)), (ad 26, .inl (kT 0, 200, .inl awto)), (ad 27, .inl (kT 0, 200, .inl awat)), (ad 28, .inl (kT 1, 200, .inr (.inl awvl))), (ad 29, .inl (kT 2, 200, .inl awmk)), (ad 30, .inl (kT 0, 9, .inl acnt))]) ⟨hx, hb, hml, hown, ht⟩ (c_M_isMarked l D kT ad gthr greg gcon gfld gtrn gins glev gkep glvs gkps gwrd gsta gflt gend ghal gwro gwai gwpl gwrs ghlt glat glpl amrk ambf ahow p0 (afst p1.toNatClampNeg) _ h) (cwV 2 ht (zq_gV zw_484 zw_485 zw_486 zw_393 zw_487) rfl rfl rfl zh_M_isMarked ⟨Nat.le_of_ble_eq_true rfl, Nat.le_of_ble_eq_true rfl⟩) hE hP hD hS hA [0, 3, 4, 10] [1, 2, 5, 6, 7, 8, 9, 11, 12, 13, 14, 15] 16 rfl (by decide +kernel) rfl (by decide +kernel) rfl rfl 0 rfl rfl rfl rfl hl.1 (Nat.le_of_ble_eq_true rfl) rfl zd_M_compute_8 ⟨Nat.zero_le _, Nat.zero_le _⟩ (fun r_2 w1 H locs hw hJ hS => ?_)
  obtain ⟨rfl, h⟩ := hw
  obtain ⟨hP, hD⟩ := hJ (W_M_compute kT ad gthr greg gcon gfld gtrn gins glev gkep glvs gkps gwrd gsta gflt gend ghal gwro gwai gwpl gwrs ghlt glat glpl awid aval amrk ambf amem aopp afst asnd atgt ahow awto awat awvl awmk acnt) rfl rfl rfl
  refine lv_if_ne (tgt := 37) hx hb zd_M_compute_11 (by decide) (fun c_3 => ?_) (fun c_3 => ?_)
  · have h := zq_if c_3 h
    exact B37 gflt gwro gwrs aval amrk awto awat awvl awmk acnt p0 p1 p2 p3 H locs ls h hP hD hS (lv_sub hl [0, 1, 2, 3, 4] rfl)
  · have h := zq_it c_3 h
    refine lv_aload_n hx hb zd_M_compute_14 rfl (lv_at hl 0 rfl) ?_
    refine va_get (D := D) (ci := 10) (v := .ref (ad 14)) (C := zR_M) (T := zF_M) (N := 52) hx hb ht zi_M hown hK hP 0 rfl rfl 19 (by decide) (ht _ zw_416) (fun _ h9 => h9) rfl zd_M_compute_15 ?_
    refine lv_iload_n hx hb zd_M_compute_18 rfl (lv_at hl 2 rfl) ?_
    obtain ⟨hi_4, h⟩ := h
    refine zq_a_iald (D := D) hx hb hK hP 6 0 rfl rfl hi_4 rfl zd_M_compute_19 ?_
    refine lv_if_le (tgt := 41) hx hb zd_M_compute_20 (by decide) (fun c_5 => ?_) (fun c_5 => ?_)
    · have h := zq_it c_5 h
      exact B41 gflt gwro gwrs aval amrk awto awat awvl awmk acnt p0 p1 p2 p3 H locs ls h hP hD hS (lv_sub hl [0, 1, 2, 3, 4] rfl)
    · have h := zq_if c_5 h
      refine lv_aload_n hx hb zd_M_compute_23 rfl (lv_at hl 0 rfl) ?_
      refine lv_iload_n hx hb zd_M_compute_24 rfl (lv_at hl 1 rfl) ?_
      refine lv_aload_n hx hb zd_M_compute_25 rfl (lv_at hl 0 rfl) ?_
      refine va_get (D := D) (ci := 10) (v := .ref (ad 16)) (C := zR_M) (T := zF_M) (N := 52) hx hb ht zi_M hown hK hP 0 rfl rfl 21 (by decide) (ht _ zw_418) (fun _ h9 => h9) rfl zd_M_compute_26 ?_
      refine lv_iload_n hx hb zd_M_compute_29 rfl (lv_at hl 2 rfl) ?_
      obtain ⟨hi_6, h⟩ := h
      refine zq_a_iald (D := D) hx hb hK hP 8 0 rfl rfl hi_6 rfl zd_M_compute_30 ?_
      refine zq_c_Vi (rest := []) (adl := (A_M_compute ad)) (wr := [(ad 1, .inl (kT 0, 24, .inl awid)), (ad 2, .inl (kT 1, 24, .inr (.inl aval))), (ad 8, .inl (kT 3, 4096, .inl amem)), (ad 14, .inl (kT 0, 200, .inl aopp)), (ad 15, .inl (kT 0, 200, .inl afst)), (ad 16, .inl (kT 0, 200, .inl asnd)), (ad 17, .inl (kT 0, 200, .inl atgt)), (ad 26, .inl (kT 0, 200, .inl awto)), (ad 27, .inl (kT 0, 200, .inl awat)), (ad 28, .inl (kT 1, 200, .inr (.inl awvl))), (ad 29, .inl (kT 2, 200, .inl awmk)), (ad 30, .inl (kT 0, 9, .inl acnt))]) ⟨hx, hb, hml, hown, ht⟩ (c_M_isMarked l D kT ad gthr greg gcon gfld gtrn gins glev gkep glvs gkps gwrd gsta gflt gend ghal gwro gwai gwpl gwrs ghlt glat glpl amrk ambf ahow p0 (asnd p1.toNatClampNeg) _ h) (cwV 2 ht (zq_gV zw_484 zw_485 zw_486 zw_393 zw_487) rfl rfl rfl zh_M_isMarked ⟨Nat.le_of_ble_eq_true rfl, Nat.le_of_ble_eq_true rfl⟩) hE hP hD hS hA [0, 3, 4, 10] [1, 2, 5, 6, 7, 8, 9, 11, 12, 13, 14, 15] 16 rfl (by decide +kernel) rfl (by decide +kernel) rfl rfl 0 rfl rfl rfl rfl hl.1 (Nat.le_of_ble_eq_true rfl) rfl zd_M_compute_31 ⟨Nat.zero_le _, Nat.zero_le _⟩ (fun r_7 w1 H locs hw hJ hS => ?_)
      obtain ⟨rfl, h⟩ := hw
      obtain ⟨hP, hD⟩ := hJ (W_M_compute kT ad gthr greg gcon gfld gtrn gins glev gkep glvs gkps gwrd gsta gflt gend ghal gwro gwai gwpl gwrs ghlt glat glpl awid aval amrk ambf amem aopp afst asnd atgt ahow awto awat awvl awmk acnt) rfl rfl rfl
      refine lv_if_eq (tgt := 41) hx hb zd_M_compute_34 (by decide) (fun c_8 => ?_) (fun c_8 => ?_)
      · have h := zq_it c_8 h
        exact B41 gflt gwro gwrs aval amrk awto awat awvl awmk acnt p0 p1 p2 p3 H locs ls h hP hD hS (lv_sub hl [0, 1, 2, 3, 4] rfl)
      · have h := zq_if c_8 h
        exact B37 gflt gwro gwrs aval amrk awto awat awvl awmk acnt p0 p1 p2 p3 H locs ls h hP hD hS (lv_sub hl [0, 1, 2, 3, 4] rfl)
abbrev W_M_store (kT : Nat → ClassId) (ad : Nat → Nat) (gthr : Int32) (greg : Int32) (gcon : Int32) (gfld : Int32) (gtrn : Int32) (gins : Int32) (glev : Int32) (gkep : Int32) (glvs : Int32) (gkps : Int32) (gwrd : Int32) (gsta : Int32) (gflt : Int32) (gend : Int32) (ghal : Int32) (gwro : Int32) (gwai : Int32) (gwpl : Int64) (gwrs : Int32) (ghlt : Int32) (glat : Int32) (glpl : Int32) (amem : Nat → Int32) (ahow : Nat → Int32) (awto : Nat → Int32) (awat : Nat → Int32) (awvl : Nat → Int64) (awmk : Nat → Int32) (acnt : Nat → Int32) : va_W := [(ad 0, .inr (10, [.int gthr, .int greg, .ref (ad 1), .ref (ad 2), .ref (ad 3), .ref (ad 4), .ref (ad 5), .ref (ad 6), .ref (ad 7), .ref (ad 8), .ref (ad 9), .int gcon, .int gfld, .int gtrn, .int gins, .ref (ad 10), .ref (ad 11), .ref (ad 12), .ref (ad 13), .ref (ad 14), .ref (ad 15), .ref (ad 16), .ref (ad 17), .ref (ad 18), .ref (ad 19), .ref (ad 20), .ref (ad 21), .ref (ad 22), .ref (ad 23), .int glev, .int gkep, .int glvs, .int gkps, .ref (ad 24), .ref (ad 25), .int gwrd, .int gsta, .int gflt, .int gend, .int ghal, .int gwro, .int gwai, .long gwpl, .int gwrs, .ref (ad 26), .ref (ad 27), .ref (ad 28), .ref (ad 29), .int ghlt, .int glat, .int glpl, .ref (ad 30)])), (ad 8, .inl (kT 3, 4096, .inl amem)), (ad 20, .inl (kT 0, 40, .inl ahow)), (ad 26, .inl (kT 0, 200, .inl awto)), (ad 27, .inl (kT 0, 200, .inl awat)), (ad 28, .inl (kT 1, 200, .inr (.inl awvl))), (ad 29, .inl (kT 2, 200, .inl awmk)), (ad 30, .inl (kT 0, 9, .inl acnt))]
abbrev A_M_store (ad : Nat → Nat) : List Nat := [ad 0, ad 8, ad 20, ad 26, ad 27, ad 28, ad 29, ad 30]
def wp_M_store (gthr : Int32) (greg : Int32) (gcon : Int32) (gfld : Int32) (gtrn : Int32) (gins : Int32) (glev : Int32) (gkep : Int32) (glvs : Int32) (gkps : Int32) (gwrd : Int32) (gsta : Int32) (gflt : Int32) (gend : Int32) (ghal : Int32) (gwro : Int32) (gwai : Int32) (gwpl : Int64) (gwrs : Int32) (ghlt : Int32) (glat : Int32) (glpl : Int32) (amem : Nat → Int32) (ahow : Nat → Int32) (awto : Nat → Int32) (awat : Nat → Int32) (awvl : Nat → Int64) (awmk : Nat → Int32) (acnt : Nat → Int32) (p0 : Int32) (p1 : Int64) (p2 : Int64) (p3 : Int32) (post : Int32 → Int32 → (Nat → Int32) → (Nat → Int32) → (Nat → Int32) → (Nat → Int64) → (Nat → Int32) → (Nat → Int32) → Prop) : Prop := wp_M_isThere gthr greg gcon gfld gtrn gins glev gkep glvs gkps gwrd gsta gflt gend ghal gwro gwai gwpl gwrs ghlt glat glpl p1 p3 (fun r_1 => (if r_1 = 0 then post  3 gwrs amem awto awat awvl awmk acnt else wp_M_isParallel gthr greg gcon gfld gtrn gins glev gkep glvs gkps gwrd gsta gflt gend ghal gwro gwai gwpl gwrs ghlt glat glpl ahow p0 (fun r_3 => (if r_3 = 0 then wp_M_setMemory gthr greg gcon gfld gtrn gins glev gkep glvs gkps gwrd gsta gflt gend ghal gwro gwai gwpl gwrs ghlt glat glpl amem (zq_j_l2i p1) p2 p3 (fun amem_5 => post  gflt gwrs amem_5 awto awat awvl awmk (upd acnt 5 ((acnt 5) + p3))) else wp_M_later gthr greg gcon gfld gtrn gins glev gkep glvs gkps gwrd gsta gflt gend ghal gwro gwai gwpl gwrs ghlt glat glpl awto awat awvl awmk (23 + p3) (zq_j_l2i p1) p2 0 (fun gwrs_7 awto_8 awat_9 awvl_10 awmk_11 => post  gflt gwrs_7 amem awto_8 awat_9 awvl_10 awmk_11 (upd acnt 5 ((acnt 5) + p3)))))))
set_option maxHeartbeats 4000000 in
set_option maxRecDepth 100000 in
theorem c_M_store (l : Launch) (D : va_G) (kT : Nat → ClassId) (ad : Nat → Nat) (gthr : Int32) (greg : Int32) (gcon : Int32) (gfld : Int32) (gtrn : Int32) (gins : Int32) (glev : Int32) (gkep : Int32) (glvs : Int32) (gkps : Int32) (gwrd : Int32) (gsta : Int32) (gflt : Int32) (gend : Int32) (ghal : Int32) (gwro : Int32) (gwai : Int32) (gwpl : Int64) (gwrs : Int32) (ghlt : Int32) (glat : Int32) (glpl : Int32) (amem : Nat → Int32) (ahow : Nat → Int32) (awto : Nat → Int32) (awat : Nat → Int32) (awvl : Nat → Int64) (awmk : Nat → Int32) (acnt : Nat → Int32) (p0 : Int32) (p1 : Int64) (p2 : Int64) (p3 : Int32) (post : Int32 → Int32 → (Nat → Int32) → (Nat → Int32) → (Nat → Int32) → (Nat → Int64) → (Nat → Int32) → (Nat → Int32) → Prop) (h : wp_M_store gthr greg gcon gfld gtrn gins glev gkep glvs gkps gwrd gsta gflt gend ghal gwro gwai gwpl gwrs ghlt glat glpl amem ahow awto awat awvl awmk acnt p0 p1 p2 p3 post) : zq_Mv l zy_M_store zs_M_store ({ frames := 2, cells := 0, slots := 0, locals := 48 }) D kT [.ref (ad 0), .int p0, .long p1, .long p2, .int p3] (W_M_store kT ad gthr greg gcon gfld gtrn gins glev gkep glvs gkps gwrd gsta gflt gend ghal gwro gwai gwpl gwrs ghlt glat glpl amem ahow awto awat awvl awmk acnt) (fun w' => ∃ (gflt' : Int32) (gwrs' : Int32) (amem' : Nat → Int32) (awto' : Nat → Int32) (awat' : Nat → Int32) (awvl' : Nat → Int64) (awmk' : Nat → Int32) (acnt' : Nat → Int32), w' = (W_M_store kT ad gthr greg gcon gfld gtrn gins glev gkep glvs gkps gwrd gsta gflt' gend ghal gwro gwai gwpl gwrs' ghlt glat glpl amem' ahow awto' awat' awvl' awmk' acnt') ∧ post  gflt' gwrs' amem' awto' awat' awvl' awmk' acnt') := by
  refine zq_Mv_of (adl := (A_M_store ad)) (cc := zb_M_store) (maxL := 7) (own := zR_M) rfl (by decide) rfl rfl (Nat.le_of_ble_eq_true rfl) ?_
  intro p e s m AV below meth c A QQ H locs ls hx hb hml hown ht hE hA hret hP hD hS hl
  have hK := hE.1
  have hl : lv_has ls 7 [(0, .ref (ad 0)), (1, .int p0), (2, .long p1), (4, .long p2), (6, .int p3)] := hl
  refine lv_aload_n hx hb zd_M_store_0 rfl (lv_at hl 0 rfl) ?_
  refine lv_lload_n hx hb zd_M_store_1 rfl (lv_at hl 2 rfl) ?_
  refine lv_iload hx hb zd_M_store_2 (lv_at hl 4 rfl) ?_
  refine zq_c_Vi (rest := []) (adl := (A_M_store ad)) (wr := [(ad 8, .inl (kT 3, 4096, .inl amem)), (ad 20, .inl (kT 0, 40, .inl ahow)), (ad 26, .inl (kT 0, 200, .inl awto)), (ad 27, .inl (kT 0, 200, .inl awat)), (ad 28, .inl (kT 1, 200, .inr (.inl awvl))), (ad 29, .inl (kT 2, 200, .inl awmk)), (ad 30, .inl (kT 0, 9, .inl acnt))]) ⟨hx, hb, hml, hown, ht⟩ (c_M_isThere l D kT ad gthr greg gcon gfld gtrn gins glev gkep glvs gkps gwrd gsta gflt gend ghal gwro gwai gwpl gwrs ghlt glat glpl p1 p3 _ h) (cwV 2 ht (zq_gV zw_489 zw_490 zw_491 zw_393 zw_492) rfl rfl rfl zh_M_isThere ⟨Nat.le_of_ble_eq_true rfl, Nat.le_of_ble_eq_true rfl⟩) hE hP hD hS hA [0] [1, 2, 3, 4, 5, 6, 7] 8 rfl (by decide +kernel) rfl (by decide +kernel) rfl rfl 0 rfl rfl rfl rfl hl.1 (Nat.le_of_ble_eq_true rfl) rfl zd_M_store_4 ⟨Nat.zero_le _, Nat.zero_le _⟩ (fun r_1 w1 H locs hw hJ hS => ?_)
  obtain ⟨rfl, h⟩ := hw
  obtain ⟨hP, hD⟩ := hJ (W_M_store kT ad gthr greg gcon gfld gtrn gins glev gkep glvs gkps gwrd gsta gflt gend ghal gwro gwai gwpl gwrs ghlt glat glpl amem ahow awto awat awvl awmk acnt) rfl rfl rfl
  refine lv_if_ne (tgt := 16) hx hb zd_M_store_7 (by decide) (fun c_2 => ?_) (fun c_2 => ?_)
  · have h := zq_if c_2 h
    refine lv_aload_n hx hb zd_M_store_16 rfl (lv_at hl 0 rfl) ?_
    refine va_get (D := D) (ci := 10) (v := .ref (ad 30)) (C := zR_M) (T := zF_M) (N := 52) hx hb ht zi_M hown hK hP 0 rfl rfl 51 (by decide) (ht _ zw_435) (fun _ h9 => h9) rfl zd_M_store_17 ?_
    refine lv_iconst (v := 5) hx hb zd_M_store_20 (by decide) ?_
    refine lv_dup2_11 hx hb zd_M_store_21 rfl rfl ?_
    refine zq_a_iald (D := D) (j := 5) hx hb hK hP 7 0 rfl rfl (zq_in (by decide)) (by decide) zd_M_store_22 ?_
    refine lv_iload hx hb zd_M_store_23 (lv_at hl 4 rfl) ?_
    refine lv_iadd hx hb zd_M_store_25 ?_
    refine zq_a_iast (D := D) (j := 5) hx hb hK hP hD hS 7 0 rfl rfl (zq_in (by decide)) (by decide) zd_M_store_26 (fun H locs hP hD hS => ?_)
    have hP : va_P D vwCl (W_M_store kT ad gthr greg gcon gfld gtrn gins glev gkep glvs gkps gwrd gsta gflt gend ghal gwro gwai gwpl gwrs ghlt glat glpl amem ahow awto awat awvl awmk (upd acnt 5 ((acnt 5) + p3))) H := hP
    have hD : va_D A (W_M_store kT ad gthr greg gcon gfld gtrn gins glev gkep glvs gkps gwrd gsta gflt gend ghal gwro gwai gwpl gwrs ghlt glat glpl amem ahow awto awat awvl awmk (upd acnt 5 ((acnt 5) + p3))) := hD
    refine lv_aload_n hx hb zd_M_store_27 rfl (lv_at hl 0 rfl) ?_
    refine lv_iload_n hx hb zd_M_store_28 rfl (lv_at hl 1 rfl) ?_
    refine zq_c_Vi (rest := []) (adl := (A_M_store ad)) (wr := [(ad 8, .inl (kT 3, 4096, .inl amem)), (ad 26, .inl (kT 0, 200, .inl awto)), (ad 27, .inl (kT 0, 200, .inl awat)), (ad 28, .inl (kT 1, 200, .inr (.inl awvl))), (ad 29, .inl (kT 2, 200, .inl awmk)), (ad 30, .inl (kT 0, 9, .inl (upd acnt 5 ((acnt 5) + p3))))]) ⟨hx, hb, hml, hown, ht⟩ (c_M_isParallel l D kT ad gthr greg gcon gfld gtrn gins glev gkep glvs gkps gwrd gsta gflt gend ghal gwro gwai gwpl gwrs ghlt glat glpl ahow p0 _ h) (cwV 1 ht (zq_gV zw_447 zw_448 zw_449 zw_393 zw_450) rfl rfl rfl zh_M_isParallel ⟨Nat.le_of_ble_eq_true rfl, Nat.le_of_ble_eq_true rfl⟩) hE hP hD hS hA [0, 2] [1, 3, 4, 5, 6, 7] 8 rfl (by decide +kernel) rfl (by decide +kernel) rfl rfl 0 rfl rfl rfl rfl hl.1 (Nat.le_of_ble_eq_true rfl) rfl zd_M_store_29 ⟨Nat.zero_le _, Nat.zero_le _⟩ (fun r_3 w1 H locs hw hJ hS => ?_)
    obtain ⟨rfl, h⟩ := hw
    obtain ⟨hP, hD⟩ := hJ (W_M_store kT ad gthr greg gcon gfld gtrn gins glev gkep glvs gkps gwrd gsta gflt gend ghal gwro gwai gwpl gwrs ghlt glat glpl amem ahow awto awat awvl awmk (upd acnt 5 ((acnt 5) + p3))) rfl rfl rfl
    refine lv_if_eq (tgt := 52) hx hb zd_M_store_32 (by decide) (fun c_4 => ?_) (fun c_4 => ?_)
    · have h := zq_it c_4 h
      refine lv_aload_n hx hb zd_M_store_52 rfl (lv_at hl 0 rfl) ?_
      refine lv_lload_n hx hb zd_M_store_53 rfl (lv_at hl 2 rfl) ?_
      refine lv_l2i (v := (zq_j_l2i p1)) hx hb zd_M_store_54 rfl ?_
      refine lv_lload hx hb zd_M_store_55 (lv_at hl 3 rfl) ?_
      refine lv_iload hx hb zd_M_store_57 (lv_at hl 4 rfl) ?_
      refine zq_c_Vv (rest := []) (adl := (A_M_store ad)) (wr := [(ad 20, .inl (kT 0, 40, .inl ahow)), (ad 26, .inl (kT 0, 200, .inl awto)), (ad 27, .inl (kT 0, 200, .inl awat)), (ad 28, .inl (kT 1, 200, .inr (.inl awvl))), (ad 29, .inl (kT 2, 200, .inl awmk)), (ad 30, .inl (kT 0, 9, .inl (upd acnt 5 ((acnt 5) + p3))))]) ⟨hx, hb, hml, hown, ht⟩ (c_M_setMemory l D kT ad gthr greg gcon gfld gtrn gins glev gkep glvs gkps gwrd gsta gflt gend ghal gwro gwai gwpl gwrs ghlt glat glpl amem (zq_j_l2i p1) p2 p3 _ h) (cwV 3 ht (zq_gV zw_472 zw_473 zw_474 zw_393 zw_475) rfl rfl rfl zh_M_setMemory ⟨Nat.le_of_ble_eq_true rfl, Nat.le_of_ble_eq_true rfl⟩) hE hP hD hS hA [0, 1] [2, 3, 4, 5, 6, 7] 8 rfl (by decide +kernel) rfl (by decide +kernel) rfl rfl 0 rfl rfl rfl rfl hl.1 (Nat.le_of_ble_eq_true rfl) rfl zd_M_store_59 ⟨Nat.zero_le _, Nat.zero_le _⟩ (fun w1 H locs hw hJ hS => ?_)
      obtain ⟨amem_5, rfl, h⟩ := hw
      obtain ⟨hP, hD⟩ := hJ (W_M_store kT ad gthr greg gcon gfld gtrn gins glev gkep glvs gkps gwrd gsta gflt gend ghal gwro gwai gwpl gwrs ghlt glat glpl amem_5 ahow awto awat awvl awmk (upd acnt 5 ((acnt 5) + p3))) rfl rfl rfl
      exact hret  _ H locs 62 ls ⟨gflt, gwrs, amem_5, awto, awat, awvl, awmk, (upd acnt 5 ((acnt 5) + p3)), rfl, h⟩ hP rfl hS zd_M_store_62
    · have h := zq_if c_4 h
      refine lv_aload_n hx hb zd_M_store_35 rfl (lv_at hl 0 rfl) ?_
      refine lv_bipush (v := 23) hx hb zd_M_store_36 (by decide) ?_
      refine lv_iload hx hb zd_M_store_38 (lv_at hl 4 rfl) ?_
      refine lv_iadd hx hb zd_M_store_40 ?_
      refine lv_lload_n hx hb zd_M_store_41 rfl (lv_at hl 2 rfl) ?_
      refine lv_l2i (v := (zq_j_l2i p1)) hx hb zd_M_store_42 rfl ?_
      refine lv_lload hx hb zd_M_store_43 (lv_at hl 3 rfl) ?_
      refine lv_iconst (v := 0) hx hb zd_M_store_45 (by decide) ?_
      refine zq_c_Vv (rest := []) (adl := (A_M_store ad)) (wr := [(ad 8, .inl (kT 3, 4096, .inl amem)), (ad 20, .inl (kT 0, 40, .inl ahow)), (ad 30, .inl (kT 0, 9, .inl (upd acnt 5 ((acnt 5) + p3))))]) ⟨hx, hb, hml, hown, ht⟩ (c_M_later l D kT ad gthr greg gcon gfld gtrn gins glev gkep glvs gkps gwrd gsta gflt gend ghal gwro gwai gwpl gwrs ghlt glat glpl awto awat awvl awmk (23 + p3) (zq_j_l2i p1) p2 0 _ h) (cwV 4 ht (zq_gV zw_468 zw_469 zw_470 zw_393 zw_471) rfl rfl rfl zh_M_later ⟨Nat.le_of_ble_eq_true rfl, Nat.le_of_ble_eq_true rfl⟩) hE hP hD hS hA [0, 3, 4, 5, 6] [1, 2, 7] 8 rfl (by decide +kernel) rfl (by decide +kernel) rfl rfl 0 rfl rfl rfl rfl hl.1 (Nat.le_of_ble_eq_true rfl) rfl zd_M_store_46 ⟨Nat.zero_le _, Nat.zero_le _⟩ (fun w1 H locs hw hJ hS => ?_)
      obtain ⟨gwrs_7, awto_8, awat_9, awvl_10, awmk_11, rfl, h⟩ := hw
      obtain ⟨hP, hD⟩ := hJ (W_M_store kT ad gthr greg gcon gfld gtrn gins glev gkep glvs gkps gwrd gsta gflt gend ghal gwro gwai gwpl gwrs_7 ghlt glat glpl amem ahow awto_8 awat_9 awvl_10 awmk_11 (upd acnt 5 ((acnt 5) + p3))) rfl rfl rfl
      refine lv_goto (tgt := 62) hx hb zd_M_store_49 (by decide) ?_
      exact hret  _ H locs 62 ls ⟨gflt, gwrs_7, amem, awto_8, awat_9, awvl_10, awmk_11, (upd acnt 5 ((acnt 5) + p3)), rfl, h⟩ hP rfl hS zd_M_store_62
  · have h := zq_it c_2 h
    refine lv_aload_n hx hb zd_M_store_10 rfl (lv_at hl 0 rfl) ?_
    refine lv_iconst (v := 3) hx hb zd_M_store_11 (by decide) ?_
    refine va_put (D := D) (ci := 10) (v := .int 3) (ty := .int) (C := zR_M) (T := zF_M) (N := 52) hx hb ht zi_M zt_M zt_M_ok zn_M hown hK hP hD hS 0 rfl rfl 37 (by decide) (ht _ zw_488) (fun _ h9 => h9) rfl (by decide +kernel) rfl rfl (Nat.le_of_ble_eq_true rfl) zd_M_store_12 (fun H locs hP hD hS => ?_)
    have hP : va_P D vwCl (W_M_store kT ad gthr greg gcon gfld gtrn gins glev gkep glvs gkps gwrd gsta 3 gend ghal gwro gwai gwpl gwrs ghlt glat glpl amem ahow awto awat awvl awmk acnt) H := hP
    have hD : va_D A (W_M_store kT ad gthr greg gcon gfld gtrn gins glev gkep glvs gkps gwrd gsta 3 gend ghal gwro gwai gwpl gwrs ghlt glat glpl amem ahow awto awat awvl awmk acnt) := hD
    exact hret  _ H locs 15 ls ⟨3, gwrs, amem, awto, awat, awvl, awmk, acnt, rfl, h⟩ hP rfl hS zd_M_store_15
abbrev W_M_back (kT : Nat → ClassId) (ad : Nat → Nat) (gthr : Int32) (greg : Int32) (gcon : Int32) (gfld : Int32) (gtrn : Int32) (gins : Int32) (glev : Int32) (gkep : Int32) (glvs : Int32) (gkps : Int32) (gwrd : Int32) (gsta : Int32) (gflt : Int32) (gend : Int32) (ghal : Int32) (gwro : Int32) (gwai : Int32) (gwpl : Int64) (gwrs : Int32) (ghlt : Int32) (glat : Int32) (glpl : Int32) (aval : Nat → Int64) (amrk : Nat → Int32) (akpl : Nat → Int32) (aklv : Nat → Int32) : va_W := [(ad 0, .inr (10, [.int gthr, .int greg, .ref (ad 1), .ref (ad 2), .ref (ad 3), .ref (ad 4), .ref (ad 5), .ref (ad 6), .ref (ad 7), .ref (ad 8), .ref (ad 9), .int gcon, .int gfld, .int gtrn, .int gins, .ref (ad 10), .ref (ad 11), .ref (ad 12), .ref (ad 13), .ref (ad 14), .ref (ad 15), .ref (ad 16), .ref (ad 17), .ref (ad 18), .ref (ad 19), .ref (ad 20), .ref (ad 21), .ref (ad 22), .ref (ad 23), .int glev, .int gkep, .int glvs, .int gkps, .ref (ad 24), .ref (ad 25), .int gwrd, .int gsta, .int gflt, .int gend, .int ghal, .int gwro, .int gwai, .long gwpl, .int gwrs, .ref (ad 26), .ref (ad 27), .ref (ad 28), .ref (ad 29), .int ghlt, .int glat, .int glpl, .ref (ad 30)])), (ad 2, .inl (kT 1, 24, .inr (.inl aval))), (ad 5, .inl (kT 2, 24, .inl amrk)), (ad 24, .inl (kT 0, 8, .inl akpl)), (ad 25, .inl (kT 0, 8, .inl aklv))]
abbrev A_M_back (ad : Nat → Nat) : List Nat := [ad 0, ad 2, ad 5, ad 24, ad 25]
def wp_M_back (gthr : Int32) (greg : Int32) (gcon : Int32) (gfld : Int32) (gtrn : Int32) (gins : Int32) (glev : Int32) (gkep : Int32) (glvs : Int32) (gkps : Int32) (gwrd : Int32) (gsta : Int32) (gflt : Int32) (gend : Int32) (ghal : Int32) (gwro : Int32) (gwai : Int32) (gwpl : Int64) (gwrs : Int32) (ghlt : Int32) (glat : Int32) (glpl : Int32) (aval : Nat → Int64) (amrk : Nat → Int32) (akpl : Nat → Int32) (aklv : Nat → Int32)  (post : Int32 → Int32 → Int32 → Int32 → (Nat → Int64) → (Nat → Int32) → Prop) : Prop := (if gkep = 0 then post  glev gkep 6 gwro aval amrk else vp_in (gkep - 1) 8 ∧ vp_in (gkep - 1) 8 ∧ post  (aklv ((gkep - 1)).toNatClampNeg) (gkep - 1) gflt 1 (vp_updL aval 0 (zq_j_i2l (akpl ((gkep - 1)).toNatClampNeg))) (upd amrk 0 (vp_nar .boolean 0)))
set_option maxHeartbeats 4000000 in
set_option maxRecDepth 100000 in
theorem c_M_back (l : Launch) (D : va_G) (kT : Nat → ClassId) (ad : Nat → Nat) (gthr : Int32) (greg : Int32) (gcon : Int32) (gfld : Int32) (gtrn : Int32) (gins : Int32) (glev : Int32) (gkep : Int32) (glvs : Int32) (gkps : Int32) (gwrd : Int32) (gsta : Int32) (gflt : Int32) (gend : Int32) (ghal : Int32) (gwro : Int32) (gwai : Int32) (gwpl : Int64) (gwrs : Int32) (ghlt : Int32) (glat : Int32) (glpl : Int32) (aval : Nat → Int64) (amrk : Nat → Int32) (akpl : Nat → Int32) (aklv : Nat → Int32)  (post : Int32 → Int32 → Int32 → Int32 → (Nat → Int64) → (Nat → Int32) → Prop) (h : wp_M_back gthr greg gcon gfld gtrn gins glev gkep glvs gkps gwrd gsta gflt gend ghal gwro gwai gwpl gwrs ghlt glat glpl aval amrk akpl aklv  post) : zq_Mv l zy_M_back zs_M_back ({ frames := 0, cells := 0, slots := 0, locals := 0 }) D kT [.ref (ad 0)] (W_M_back kT ad gthr greg gcon gfld gtrn gins glev gkep glvs gkps gwrd gsta gflt gend ghal gwro gwai gwpl gwrs ghlt glat glpl aval amrk akpl aklv) (fun w' => ∃ (glev' : Int32) (gkep' : Int32) (gflt' : Int32) (gwro' : Int32) (aval' : Nat → Int64) (amrk' : Nat → Int32), w' = (W_M_back kT ad gthr greg gcon gfld gtrn gins glev' gkep' glvs gkps gwrd gsta gflt' gend ghal gwro' gwai gwpl gwrs ghlt glat glpl aval' amrk' akpl aklv) ∧ post  glev' gkep' gflt' gwro' aval' amrk') := by
  refine zq_Mv_of (adl := (A_M_back ad)) (cc := zb_M_back) (maxL := 1) (own := zR_M) rfl (by decide) rfl rfl (Nat.le_of_ble_eq_true rfl) ?_
  intro p e s m AV below meth c A QQ H locs ls hx hb hml hown ht hE hA hret hP hD hS hl
  have hK := hE.1
  have hl : lv_has ls 1 [(0, .ref (ad 0))] := hl
  unfold wp_M_back at h
  refine lv_aload_n hx hb zd_M_back_0 rfl (lv_at hl 0 rfl) ?_
  refine va_get (D := D) (ci := 10) (v := .int gkep) (C := zR_M) (T := zF_M) (N := 52) hx hb ht zi_M hown hK hP 0 rfl rfl 30 (by decide) (ht _ zw_430) (fun _ h9 => h9) rfl zd_M_back_1 ?_
  refine lv_if_ne (tgt := 14) hx hb zd_M_back_4 (by decide) (fun c_1 => ?_) (fun c_1 => ?_)
  · have h := zq_if c_1 h
    refine lv_aload_n hx hb zd_M_back_14 rfl (lv_at hl 0 rfl) ?_
    refine lv_dup hx hb zd_M_back_15 rfl ?_
    refine va_get (D := D) (ci := 10) (v := .int gkep) (C := zR_M) (T := zF_M) (N := 52) hx hb ht zi_M hown hK hP 0 rfl rfl 30 (by decide) (ht _ zw_430) (fun _ h9 => h9) rfl zd_M_back_16 ?_
    refine lv_iconst (v := 1) hx hb zd_M_back_19 (by decide) ?_
    refine lv_isub hx hb zd_M_back_20 ?_
    refine va_put (D := D) (ci := 10) (v := .int (gkep - 1)) (ty := .int) (C := zR_M) (T := zF_M) (N := 52) hx hb ht zi_M zt_M zt_M_ok zn_M hown hK hP hD hS 0 rfl rfl 30 (by decide) (ht _ zw_430) (fun _ h9 => h9) rfl (by decide +kernel) rfl rfl (Nat.le_of_ble_eq_true rfl) zd_M_back_21 (fun H locs hP hD hS => ?_)
    have hP : va_P D vwCl (W_M_back kT ad gthr greg gcon gfld gtrn gins glev (gkep - 1) glvs gkps gwrd gsta gflt gend ghal gwro gwai gwpl gwrs ghlt glat glpl aval amrk akpl aklv) H := hP
    have hD : va_D A (W_M_back kT ad gthr greg gcon gfld gtrn gins glev (gkep - 1) glvs gkps gwrd gsta gflt gend ghal gwro gwai gwpl gwrs ghlt glat glpl aval amrk akpl aklv) := hD
    refine lv_aload_n hx hb zd_M_back_24 rfl (lv_at hl 0 rfl) ?_
    refine va_get (D := D) (ci := 10) (v := .ref (ad 2)) (C := zR_M) (T := zF_M) (N := 52) hx hb ht zi_M hown hK hP 0 rfl rfl 3 (by decide) (ht _ zw_400) (fun _ h9 => h9) rfl zd_M_back_25 ?_
    refine lv_iconst (v := 0) hx hb zd_M_back_28 (by decide) ?_
    refine lv_aload_n hx hb zd_M_back_29 rfl (lv_at hl 0 rfl) ?_
    refine va_get (D := D) (ci := 10) (v := .ref (ad 24)) (C := zR_M) (T := zF_M) (N := 52) hx hb ht zi_M hown hK hP 0 rfl rfl 33 (by decide) (ht _ zw_431) (fun _ h9 => h9) rfl zd_M_back_30 ?_
    refine lv_aload_n hx hb zd_M_back_33 rfl (lv_at hl 0 rfl) ?_
    refine va_get (D := D) (ci := 10) (v := .int (gkep - 1)) (C := zR_M) (T := zF_M) (N := 52) hx hb ht zi_M hown hK hP 0 rfl rfl 30 (by decide) (ht _ zw_430) (fun _ h9 => h9) rfl zd_M_back_34 ?_
    obtain ⟨hi_2, h⟩ := h
    refine zq_a_iald (D := D) hx hb hK hP 3 0 rfl rfl hi_2 rfl zd_M_back_37 ?_
    refine lv_i2l (v := (zq_j_i2l (akpl ((gkep - 1)).toNatClampNeg))) hx hb zd_M_back_38 rfl ?_
    refine zq_a_last (D := D) (j := 0) hx hb hK hP hD hS 1 1 rfl rfl (zq_in (by decide)) (by decide) zd_M_back_39 (fun H locs hP hD hS => ?_)
    have hP : va_P D vwCl (W_M_back kT ad gthr greg gcon gfld gtrn gins glev (gkep - 1) glvs gkps gwrd gsta gflt gend ghal gwro gwai gwpl gwrs ghlt glat glpl (vp_updL aval 0 (zq_j_i2l (akpl ((gkep - 1)).toNatClampNeg))) amrk akpl aklv) H := hP
    have hD : va_D A (W_M_back kT ad gthr greg gcon gfld gtrn gins glev (gkep - 1) glvs gkps gwrd gsta gflt gend ghal gwro gwai gwpl gwrs ghlt glat glpl (vp_updL aval 0 (zq_j_i2l (akpl ((gkep - 1)).toNatClampNeg))) amrk akpl aklv) := hD
    refine lv_aload_n hx hb zd_M_back_40 rfl (lv_at hl 0 rfl) ?_
    refine lv_aload_n hx hb zd_M_back_41 rfl (lv_at hl 0 rfl) ?_
    refine va_get (D := D) (ci := 10) (v := .ref (ad 25)) (C := zR_M) (T := zF_M) (N := 52) hx hb ht zi_M hown hK hP 0 rfl rfl 34 (by decide) (ht _ zw_432) (fun _ h9 => h9) rfl zd_M_back_42 ?_
    refine lv_aload_n hx hb zd_M_back_45 rfl (lv_at hl 0 rfl) ?_
    refine va_get (D := D) (ci := 10) (v := .int (gkep - 1)) (C := zR_M) (T := zF_M) (N := 52) hx hb ht zi_M hown hK hP 0 rfl rfl 30 (by decide) (ht _ zw_430) (fun _ h9 => h9) rfl zd_M_back_46 ?_
    obtain ⟨hi_3, h⟩ := h
    refine zq_a_iald (D := D) hx hb hK hP 4 0 rfl rfl hi_3 rfl zd_M_back_49 ?_
    refine va_put (D := D) (ci := 10) (v := .int (aklv ((gkep - 1)).toNatClampNeg)) (ty := .int) (C := zR_M) (T := zF_M) (N := 52) hx hb ht zi_M zt_M zt_M_ok zn_M hown hK hP hD hS 0 rfl rfl 29 (by decide) (ht _ zw_433) (fun _ h9 => h9) rfl (by decide +kernel) rfl rfl (Nat.le_of_ble_eq_true rfl) zd_M_back_50 (fun H locs hP hD hS => ?_)
    have hP : va_P D vwCl (W_M_back kT ad gthr greg gcon gfld gtrn gins (aklv ((gkep - 1)).toNatClampNeg) (gkep - 1) glvs gkps gwrd gsta gflt gend ghal gwro gwai gwpl gwrs ghlt glat glpl (vp_updL aval 0 (zq_j_i2l (akpl ((gkep - 1)).toNatClampNeg))) amrk akpl aklv) H := hP
    have hD : va_D A (W_M_back kT ad gthr greg gcon gfld gtrn gins (aklv ((gkep - 1)).toNatClampNeg) (gkep - 1) glvs gkps gwrd gsta gflt gend ghal gwro gwai gwpl gwrs ghlt glat glpl (vp_updL aval 0 (zq_j_i2l (akpl ((gkep - 1)).toNatClampNeg))) amrk akpl aklv) := hD
    refine lv_aload_n hx hb zd_M_back_53 rfl (lv_at hl 0 rfl) ?_
    refine va_get (D := D) (ci := 10) (v := .ref (ad 5)) (C := zR_M) (T := zF_M) (N := 52) hx hb ht zi_M hown hK hP 0 rfl rfl 6 (by decide) (ht _ zw_401) (fun _ h9 => h9) rfl zd_M_back_54 ?_
    refine lv_iconst (v := 0) hx hb zd_M_back_57 (by decide) ?_
    refine lv_iconst (v := 0) hx hb zd_M_back_58 (by decide) ?_
    refine zq_a_zast (D := D) (j := 0) hx hb hK hP hD hS 2 2 rfl rfl (zq_in (by decide)) (by decide) zd_M_back_59 (fun H locs hP hD hS => ?_)
    have hP : va_P D vwCl (W_M_back kT ad gthr greg gcon gfld gtrn gins (aklv ((gkep - 1)).toNatClampNeg) (gkep - 1) glvs gkps gwrd gsta gflt gend ghal gwro gwai gwpl gwrs ghlt glat glpl (vp_updL aval 0 (zq_j_i2l (akpl ((gkep - 1)).toNatClampNeg))) (upd amrk 0 (vp_nar .boolean 0)) akpl aklv) H := hP
    have hD : va_D A (W_M_back kT ad gthr greg gcon gfld gtrn gins (aklv ((gkep - 1)).toNatClampNeg) (gkep - 1) glvs gkps gwrd gsta gflt gend ghal gwro gwai gwpl gwrs ghlt glat glpl (vp_updL aval 0 (zq_j_i2l (akpl ((gkep - 1)).toNatClampNeg))) (upd amrk 0 (vp_nar .boolean 0)) akpl aklv) := hD
    refine lv_aload_n hx hb zd_M_back_60 rfl (lv_at hl 0 rfl) ?_
    refine lv_iconst (v := 1) hx hb zd_M_back_61 (by decide) ?_
    refine va_put (D := D) (ci := 10) (v := .int 1) (ty := .boolean) (C := zR_M) (T := zF_M) (N := 52) hx hb ht zi_M zt_M zt_M_ok zn_M hown hK hP hD hS 0 rfl rfl 40 (by decide) (ht _ zw_454) (fun _ h9 => h9) rfl (by decide +kernel) rfl rfl (Nat.le_of_ble_eq_true rfl) zd_M_back_62 (fun H locs hP hD hS => ?_)
    have hP : va_P D vwCl (W_M_back kT ad gthr greg gcon gfld gtrn gins (aklv ((gkep - 1)).toNatClampNeg) (gkep - 1) glvs gkps gwrd gsta gflt gend ghal 1 gwai gwpl gwrs ghlt glat glpl (vp_updL aval 0 (zq_j_i2l (akpl ((gkep - 1)).toNatClampNeg))) (upd amrk 0 (vp_nar .boolean 0)) akpl aklv) H := hP
    have hD : va_D A (W_M_back kT ad gthr greg gcon gfld gtrn gins (aklv ((gkep - 1)).toNatClampNeg) (gkep - 1) glvs gkps gwrd gsta gflt gend ghal 1 gwai gwpl gwrs ghlt glat glpl (vp_updL aval 0 (zq_j_i2l (akpl ((gkep - 1)).toNatClampNeg))) (upd amrk 0 (vp_nar .boolean 0)) akpl aklv) := hD
    exact hret  _ H locs 65 ls ⟨(aklv ((gkep - 1)).toNatClampNeg), (gkep - 1), gflt, 1, (vp_updL aval 0 (zq_j_i2l (akpl ((gkep - 1)).toNatClampNeg))), (upd amrk 0 (vp_nar .boolean 0)), rfl, h⟩ hP rfl hS zd_M_back_65
  · have h := zq_it c_1 h
    refine lv_aload_n hx hb zd_M_back_7 rfl (lv_at hl 0 rfl) ?_
    refine lv_bipush (v := 6) hx hb zd_M_back_8 (by decide) ?_
    refine va_put (D := D) (ci := 10) (v := .int 6) (ty := .int) (C := zR_M) (T := zF_M) (N := 52) hx hb ht zi_M zt_M zt_M_ok zn_M hown hK hP hD hS 0 rfl rfl 37 (by decide) (ht _ zw_488) (fun _ h9 => h9) rfl (by decide +kernel) rfl rfl (Nat.le_of_ble_eq_true rfl) zd_M_back_10 (fun H locs hP hD hS => ?_)
    have hP : va_P D vwCl (W_M_back kT ad gthr greg gcon gfld gtrn gins glev gkep glvs gkps gwrd gsta 6 gend ghal gwro gwai gwpl gwrs ghlt glat glpl aval amrk akpl aklv) H := hP
    have hD : va_D A (W_M_back kT ad gthr greg gcon gfld gtrn gins glev gkep glvs gkps gwrd gsta 6 gend ghal gwro gwai gwpl gwrs ghlt glat glpl aval amrk akpl aklv) := hD
    exact hret  _ H locs 13 ls ⟨glev, gkep, 6, gwro, aval, amrk, rfl, h⟩ hP rfl hS zd_M_back_13
