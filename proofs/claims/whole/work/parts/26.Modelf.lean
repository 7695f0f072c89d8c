abbrev W_M_doTransfer (kT : Nat → ClassId) (ad : Nat → Nat) (gthr : Int32) (greg : Int32) (gcon : Int32) (gfld : Int32) (gtrn : Int32) (gins : Int32) (glev : Int32) (gkep : Int32) (glvs : Int32) (gkps : Int32) (gwrd : Int32) (gsta : Int32) (gflt : Int32) (gend : Int32) (ghal : Int32) (gwro : Int32) (gwai : Int32) (gwpl : Int64) (gwrs : Int32) (ghlt : Int32) (glat : Int32) (glpl : Int32) (awid : Nat → Int32) (aval : Nat → Int64) (abef : Nat → Int64) (amrk : Nat → Int32) (ambf : Nat → Int32) (amem : Nat → Int32) (acst : Nat → Int64) (afrm : Nat → Int32) (atoo : Nat → Int32) (asgn : Nat → Int32) (aopp : Nat → Int32) (afst : Nat → Int32) (asnd : Nat → Int32) (atgt : Nat → Int32) (ahow : Nat → Int32) (akpl : Nat → Int32) (aklv : Nat → Int32) (awto : Nat → Int32) (awat : Nat → Int32) (awvl : Nat → Int64) (awmk : Nat → Int32) (acnt : Nat → Int32) : va_W := [(ad 0, .inr (10, [.int gthr, .int greg, .ref (ad 1), .ref (ad 2), .ref (ad 3), .ref (ad 4), .ref (ad 5), .ref (ad 6), .ref (ad 7), .ref (ad 8), .ref (ad 9), .int gcon, .int gfld, .int gtrn, .int gins, .ref (ad 10), .ref (ad 11), .ref (ad 12), .ref (ad 13), .ref (ad 14), .ref (ad 15), .ref (ad 16), .ref (ad 17), .ref (ad 18), .ref (ad 19), .ref (ad 20), .ref (ad 21), .ref (ad 22), .ref (ad 23), .int glev, .int gkep, .int glvs, .int gkps, .ref (ad 24), .ref (ad 25), .int gwrd, .int gsta, .int gflt, .int gend, .int ghal, .int gwro, .int gwai, .long gwpl, .int gwrs, .ref (ad 26), .ref (ad 27), .ref (ad 28), .ref (ad 29), .int ghlt, .int glat, .int glpl, .ref (ad 30)])), (ad 1, .inl (kT 0, 24, .inl awid)), (ad 2, .inl (kT 1, 24, .inr (.inl aval))), (ad 3, .inl (kT 1, 24, .inr (.inl abef))), (ad 5, .inl (kT 2, 24, .inl amrk)), (ad 6, .inl (kT 2, 24, .inl ambf)), (ad 8, .inl (kT 3, 4096, .inl amem)), (ad 10, .inl (kT 1, 16, .inr (.inl acst))), (ad 11, .inl (kT 0, 16, .inl afrm)), (ad 12, .inl (kT 0, 16, .inl atoo)), (ad 13, .inl (kT 2, 16, .inl asgn)), (ad 14, .inl (kT 0, 200, .inl aopp)), (ad 15, .inl (kT 0, 200, .inl afst)), (ad 16, .inl (kT 0, 200, .inl asnd)), (ad 17, .inl (kT 0, 200, .inl atgt)), (ad 20, .inl (kT 0, 40, .inl ahow)), (ad 24, .inl (kT 0, 8, .inl akpl)), (ad 25, .inl (kT 0, 8, .inl aklv)), (ad 26, .inl (kT 0, 200, .inl awto)), (ad 27, .inl (kT 0, 200, .inl awat)), (ad 28, .inl (kT 1, 200, .inr (.inl awvl))), (ad 29, .inl (kT 2, 200, .inl awmk)), (ad 30, .inl (kT 0, 9, .inl acnt))]
abbrev A_M_doTransfer (ad : Nat → Nat) : List Nat := [ad 0, ad 1, ad 2, ad 3, ad 5, ad 6, ad 8, ad 10, ad 11, ad 12, ad 13, ad 14, ad 15, ad 16, ad 17, ad 20, ad 24, ad 25, ad 26, ad 27, ad 28, ad 29, ad 30]
def wp_M_doTransfer (gthr : Int32) (greg : Int32) (gcon : Int32) (gfld : Int32) (gtrn : Int32) (gins : Int32) (glev : Int32) (gkep : Int32) (glvs : Int32) (gkps : Int32) (gwrd : Int32) (gsta : Int32) (gflt : Int32) (gend : Int32) (ghal : Int32) (gwro : Int32) (gwai : Int32) (gwpl : Int64) (gwrs : Int32) (ghlt : Int32) (glat : Int32) (glpl : Int32) (awid : Nat → Int32) (aval : Nat → Int64) (abef : Nat → Int64) (amrk : Nat → Int32) (ambf : Nat → Int32) (amem : Nat → Int32) (acst : Nat → Int64) (afrm : Nat → Int32) (atoo : Nat → Int32) (asgn : Nat → Int32) (aopp : Nat → Int32) (afst : Nat → Int32) (asnd : Nat → Int32) (atgt : Nat → Int32) (ahow : Nat → Int32) (akpl : Nat → Int32) (aklv : Nat → Int32) (awto : Nat → Int32) (awat : Nat → Int32) (awvl : Nat → Int64) (awmk : Nat → Int32) (acnt : Nat → Int32) (p0 : Int32) (p1 : Int32) (post : Int32 → Int32 → Int32 → Int32 → Int32 → Int32 → Int32 → (Nat → Int64) → (Nat → Int32) → (Nat → Int32) → (Nat → Int32) → (Nat → Int32) → (Nat → Int64) → (Nat → Int32) → (Nat → Int32) → Prop) : Prop := vp_in p1 200 ∧ wp_M_operand gthr greg gcon gfld gtrn gins glev gkep glvs gkps gwrd gsta gflt gend ghal gwro gwai gwpl gwrs ghlt glat glpl aval abef acst afrm atoo asgn ahow p0 (afst p1.toNatClampNeg) (fun r_2 => vp_in p1 200 ∧ wp_M_operand gthr greg gcon gfld gtrn gins glev gkep glvs gkps gwrd gsta gflt gend ghal gwro gwai gwpl gwrs ghlt glat glpl aval abef acst afrm atoo asgn ahow p0 (asnd p1.toNatClampNeg) (fun r_4 => vp_in p1 200 ∧ (if (aopp p1.toNatClampNeg) = 15 then wp_M_store gthr greg gcon gfld gtrn gins glev gkep glvs gkps gwrd gsta gflt gend ghal gwro gwai gwpl gwrs ghlt glat glpl amem ahow awto awat awvl awmk (upd acnt 8 ((acnt 8) + 1)) p0 r_2 r_4 1 (fun gflt_6 gwrs_7 amem_8 awto_9 awat_10 awvl_11 awmk_12 acnt_13 => post  glev gkep gflt_6 gend ghal gwro gwrs_7 aval amrk amem_8 awto_9 awat_10 awvl_11 awmk_12 acnt_13) else (if (aopp p1.toNatClampNeg) = 16 then wp_M_store gthr greg gcon gfld gtrn gins glev gkep glvs gkps gwrd gsta gflt gend ghal gwro gwai gwpl gwrs ghlt glat glpl amem ahow awto awat awvl awmk (upd acnt 8 ((acnt 8) + 1)) p0 r_2 r_4 2 (fun gflt_15 gwrs_16 amem_17 awto_18 awat_19 awvl_20 awmk_21 acnt_22 => post  glev gkep gflt_15 gend ghal gwro gwrs_16 aval amrk amem_17 awto_18 awat_19 awvl_20 awmk_21 acnt_22) else (if (aopp p1.toNatClampNeg) = 17 then (if r_2 = 0 then post  glev gkep gflt 1 ghal gwro gwrs aval amrk amem awto awat awvl awmk (upd acnt 8 ((acnt 8) + 1)) else post  glev gkep gflt 0 ghal gwro gwrs aval amrk amem awto awat awvl awmk (upd acnt 8 ((acnt 8) + 1))) else (if (aopp p1.toNatClampNeg) = 18 then (if r_4 = 0 then post  glev gkep 0 gend ghal gwro gwrs aval amrk amem awto awat awvl awmk (upd acnt 8 ((acnt 8) + 1)) else post  glev gkep (8 + (zq_j_l2i (r_2 &&& 7))) gend ghal gwro gwrs aval amrk amem awto awat awvl awmk (upd acnt 8 ((acnt 8) + 1))) else (if (aopp p1.toNatClampNeg) = 19 then vp_in p1 200 ∧ wp_M_markOnly gthr greg gcon gfld gtrn gins glev gkep glvs gkps gwrd gsta gflt gend ghal gwro gwai gwpl gwrs ghlt glat glpl amrk ahow awto awat awvl awmk p0 (atgt p1.toNatClampNeg) (fun gwrs_27 amrk_28 awto_29 awat_30 awvl_31 awmk_32 => post  glev gkep gflt gend ghal gwro gwrs_27 aval amrk_28 amem awto_29 awat_30 awvl_31 awmk_32 (upd acnt 8 ((acnt 8) + 1))) else (if (aopp p1.toNatClampNeg) = 20 then (if glev = 0 then post  glev gkep 5 gend ghal gwro gwrs aval amrk amem awto awat awvl awmk (upd acnt 8 ((acnt 8) + 1)) else post  glev gkep 0 gend ghal gwro gwrs aval amrk amem awto awat awvl awmk (upd acnt 8 ((acnt 8) + 1))) else (if (aopp p1.toNatClampNeg) = 21 then post  glev gkep gflt gend 1 gwro gwrs aval amrk amem awto awat awvl awmk (upd acnt 8 ((acnt 8) + 1)) else (if (aopp p1.toNatClampNeg) = 22 then wp_M_back gthr greg gcon gfld gtrn gins glev gkep glvs gkps gwrd gsta gflt gend ghal gwro gwai gwpl gwrs ghlt glat glpl aval amrk akpl aklv (fun glev_35 gkep_36 gflt_37 gwro_38 aval_39 amrk_40 => post  glev_35 gkep_36 gflt_37 gend ghal gwro_38 gwrs aval_39 amrk_40 amem awto awat awvl awmk (upd acnt 8 ((acnt 8) + 1))) else wp_M_compute gthr greg gcon gfld gtrn gins glev gkep glvs gkps gwrd gsta gflt gend ghal gwro gwai gwpl gwrs ghlt glat glpl awid aval amrk ambf amem aopp afst asnd atgt ahow awto awat awvl awmk (upd acnt 8 ((acnt 8) + 1)) p0 p1 r_2 r_4 (fun gflt_42 gwro_43 gwrs_44 aval_45 amrk_46 awto_47 awat_48 awvl_49 awmk_50 acnt_51 => post  glev gkep gflt_42 gend ghal gwro_43 gwrs_44 aval_45 amrk_46 amem awto_47 awat_48 awvl_49 awmk_50 acnt_51)))))))))))
set_option maxHeartbeats 4000000 in
set_option maxRecDepth 100000 in
theorem c_M_doTransfer (l : Launch) (D : va_G) (kT : Nat → ClassId) (ad : Nat → Nat) (gthr : Int32) (greg : Int32) (gcon : Int32) (gfld : Int32) (gtrn : Int32) (gins : Int32) (glev : Int32) (gkep : Int32) (glvs : Int32) (gkps : Int32) (gwrd : Int32) (gsta : Int32) (gflt : Int32) (gend : Int32) (ghal : Int32) (gwro : Int32) (gwai : Int32) (gwpl : Int64) (gwrs : Int32) (ghlt : Int32) (glat : Int32) (glpl : Int32) (awid : Nat → Int32) (aval : Nat → Int64) (abef : Nat → Int64) (amrk : Nat → Int32) (ambf : Nat → Int32) (amem : Nat → Int32) (acst : Nat → Int64) (afrm : Nat → Int32) (atoo : Nat → Int32) (asgn : Nat → Int32) (aopp : Nat → Int32) (afst : Nat → Int32) (asnd : Nat → Int32) (atgt : Nat → Int32) (ahow : Nat → Int32) (akpl : Nat → Int32) (aklv : Nat → Int32) (awto : Nat → Int32) (awat : Nat → Int32) (awvl : Nat → Int64) (awmk : Nat → Int32) (acnt : Nat → Int32) (p0 : Int32) (p1 : Int32) (post : Int32 → Int32 → Int32 → Int32 → Int32 → Int32 → Int32 → (Nat → Int64) → (Nat → Int32) → (Nat → Int32) → (Nat → Int32) → (Nat → Int32) → (Nat → Int64) → (Nat → Int32) → (Nat → Int32) → Prop) (h : wp_M_doTransfer gthr greg gcon gfld gtrn gins glev gkep glvs gkps gwrd gsta gflt gend ghal gwro gwai gwpl gwrs ghlt glat glpl awid aval abef amrk ambf amem acst afrm atoo asgn aopp afst asnd atgt ahow akpl aklv awto awat awvl awmk acnt p0 p1 post) : zq_Mv l zy_M_doTransfer zs_M_doTransfer ({ frames := 4, cells := 0, slots := 0, locals := 103 }) D kT [.ref (ad 0), .int p0, .int p1] (W_M_doTransfer kT ad gthr greg gcon gfld gtrn gins glev gkep glvs gkps gwrd gsta gflt gend ghal gwro gwai gwpl gwrs ghlt glat glpl awid aval abef amrk ambf amem acst afrm atoo asgn aopp afst asnd atgt ahow akpl aklv awto awat awvl awmk acnt) (fun w' => ∃ (glev' : Int32) (gkep' : Int32) (gflt' : Int32) (gend' : Int32) (ghal' : Int32) (gwro' : Int32) (gwrs' : Int32) (aval' : Nat → Int64) (amrk' : Nat → Int32) (amem' : Nat → Int32) (awto' : Nat → Int32) (awat' : Nat → Int32) (awvl' : Nat → Int64) (awmk' : Nat → Int32) (acnt' : Nat → Int32), w' = (W_M_doTransfer kT ad gthr greg gcon gfld gtrn gins glev' gkep' glvs gkps gwrd gsta gflt' gend' ghal' gwro' gwai gwpl gwrs' ghlt glat glpl awid aval' abef amrk' ambf amem' acst afrm atoo asgn aopp afst asnd atgt ahow akpl aklv awto' awat' awvl' awmk' acnt') ∧ post  glev' gkep' gflt' gend' ghal' gwro' gwrs' aval' amrk' amem' awto' awat' awvl' awmk' acnt') := by
  refine zq_Mv_of (adl := (A_M_doTransfer ad)) (cc := zb_M_doTransfer) (maxL := 7) (own := zR_M) rfl (by decide) rfl rfl (Nat.le_of_ble_eq_true rfl) ?_
  intro p e s m AV below meth c A QQ H locs ls hx hb hml hown ht hE hA hret hP hD hS hl
  have hK := hE.1
  have hl : lv_has ls 7 [(0, .ref (ad 0)), (1, .int p0), (2, .int p1)] := hl
  refine lv_aload_n hx hb zd_M_doTransfer_0 rfl (lv_at hl 0 rfl) ?_
  refine lv_iload_n hx hb zd_M_doTransfer_1 rfl (lv_at hl 1 rfl) ?_
  refine lv_aload_n hx hb zd_M_doTransfer_2 rfl (lv_at hl 0 rfl) ?_
  refine va_get (D := D) (ci := 10) (v := .ref (ad 15)) (C := zR_M) (T := zF_M) (N := 52) hx hb ht zi_M hown hK hP 0 rfl rfl 20 (by decide) (ht _ zw_417) (fun _ h9 => h9) rfl zd_M_doTransfer_3 ?_
  refine lv_iload_n hx hb zd_M_doTransfer_6 rfl (lv_at hl 2 rfl) ?_
  obtain ⟨hi_1, h⟩ := h
  refine zq_a_iald (D := D) hx hb hK hP 12 0 rfl rfl hi_1 rfl zd_M_doTransfer_7 ?_
  refine zq_c_Vl (rest := []) (adl := (A_M_doTransfer ad)) (wr := [(ad 1, .inl (kT 0, 24, .inl awid)), (ad 5, .inl (kT 2, 24, .inl amrk)), (ad 6, .inl (kT 2, 24, .inl ambf)), (ad 8, .inl (kT 3, 4096, .inl amem)), (ad 14, .inl (kT 0, 200, .inl aopp)), (ad 15, .inl (kT 0, 200, .inl afst)), (ad 16, .inl (kT 0, 200, .inl asnd)), (ad 17, .inl (kT 0, 200, .inl atgt)), (ad 24, .inl (kT 0, 8, .inl akpl)), (ad 25, .inl (kT 0, 8, .inl aklv)), (ad 26, .inl (kT 0, 200, .inl awto)), (ad 27, .inl (kT 0, 200, .inl awat)), (ad 28, .inl (kT 1, 200, .inr (.inl awvl))), (ad 29, .inl (kT 2, 200, .inl awmk)), (ad 30, .inl (kT 0, 9, .inl acnt))]) ⟨hx, hb, hml, hown, ht⟩ (c_M_operand l D kT ad gthr greg gcon gfld gtrn gins glev gkep glvs gkps gwrd gsta gflt gend ghal gwro gwai gwpl gwrs ghlt glat glpl aval abef acst afrm atoo asgn ahow p0 (afst p1.toNatClampNeg) _ h) (cwV 2 ht (zq_gV zw_500 zw_501 zw_502 zw_393 zw_503) rfl rfl rfl zh_M_operand ⟨Nat.le_of_ble_eq_true rfl, Nat.le_of_ble_eq_true rfl⟩) hE hP hD hS hA [0, 2, 3, 7, 8, 9, 10, 15] [1, 4, 5, 6, 11, 12, 13, 14, 16, 17, 18, 19, 20, 21, 22] 23 rfl (by decide +kernel) rfl (by decide +kernel) rfl rfl 0 rfl rfl rfl rfl hl.1 (Nat.le_of_ble_eq_true rfl) rfl zd_M_doTransfer_8 ⟨Nat.zero_le _, Nat.zero_le _⟩ (fun r_2 w1 H locs hw hJ hS => ?_)
  obtain ⟨rfl, h⟩ := hw
  obtain ⟨hP, hD⟩ := hJ (W_M_doTransfer kT ad gthr greg gcon gfld gtrn gins glev gkep glvs gkps gwrd gsta gflt gend ghal gwro gwai gwpl gwrs ghlt glat glpl awid aval abef amrk ambf amem acst afrm atoo asgn aopp afst asnd atgt ahow akpl aklv awto awat awvl awmk acnt) rfl rfl rfl
  refine lv_lstore_n (lv' := [(3, .long r_2), (0, .ref (ad 0)), (1, .int p0), (2, .int p1)]) hx hb zd_M_doTransfer_11 rfl hl (by decide) rfl (fun ls hl => ?_)
  refine lv_aload_n hx hb zd_M_doTransfer_12 rfl (lv_at hl 1 rfl) ?_
  refine lv_iload_n hx hb zd_M_doTransfer_13 rfl (lv_at hl 2 rfl) ?_
  refine lv_aload_n hx hb zd_M_doTransfer_14 rfl (lv_at hl 1 rfl) ?_
  refine va_get (D := D) (ci := 10) (v := .ref (ad 16)) (C := zR_M) (T := zF_M) (N := 52) hx hb ht zi_M hown hK hP 0 rfl rfl 21 (by decide) (ht _ zw_418) (fun _ h9 => h9) rfl zd_M_doTransfer_15 ?_
  refine lv_iload_n hx hb zd_M_doTransfer_18 rfl (lv_at hl 3 rfl) ?_
  obtain ⟨hi_3, h⟩ := h
  refine zq_a_iald (D := D) hx hb hK hP 13 0 rfl rfl hi_3 rfl zd_M_doTransfer_19 ?_
  refine zq_c_Vl (rest := []) (adl := (A_M_doTransfer ad)) (wr := [(ad 1, .inl (kT 0, 24, .inl awid)), (ad 5, .inl (kT 2, 24, .inl amrk)), (ad 6, .inl (kT 2, 24, .inl ambf)), (ad 8, .inl (kT 3, 4096, .inl amem)), (ad 14, .inl (kT 0, 200, .inl aopp)), (ad 15, .inl (kT 0, 200, .inl afst)), (ad 16, .inl (kT 0, 200, .inl asnd)), (ad 17, .inl (kT 0, 200, .inl atgt)), (ad 24, .inl (kT 0, 8, .inl akpl)), (ad 25, .inl (kT 0, 8, .inl aklv)), (ad 26, .inl (kT 0, 200, .inl awto)), (ad 27, .inl (kT 0, 200, .inl awat)), (ad 28, .inl (kT 1, 200, .inr (.inl awvl))), (ad 29, .inl (kT 2, 200, .inl awmk)), (ad 30, .inl (kT 0, 9, .inl acnt))]) ⟨hx, hb, hml, hown, ht⟩ (c_M_operand l D kT ad gthr greg gcon gfld gtrn gins glev gkep glvs gkps gwrd gsta gflt gend ghal gwro gwai gwpl gwrs ghlt glat glpl aval abef acst afrm atoo asgn ahow p0 (asnd p1.toNatClampNeg) _ h) (cwV 2 ht (zq_gV zw_500 zw_501 zw_502 zw_393 zw_503) rfl rfl rfl zh_M_operand ⟨Nat.le_of_ble_eq_true rfl, Nat.le_of_ble_eq_true rfl⟩) hE hP hD hS hA [0, 2, 3, 7, 8, 9, 10, 15] [1, 4, 5, 6, 11, 12, 13, 14, 16, 17, 18, 19, 20, 21, 22] 23 rfl (by decide +kernel) rfl (by decide +kernel) rfl rfl 0 rfl rfl rfl rfl hl.1 (Nat.le_of_ble_eq_true rfl) rfl zd_M_doTransfer_20 ⟨Nat.zero_le _, Nat.zero_le _⟩ (fun r_4 w1 H locs hw hJ hS => ?_)
  obtain ⟨rfl, h⟩ := hw
  obtain ⟨hP, hD⟩ := hJ (W_M_doTransfer kT ad gthr greg gcon gfld gtrn gins glev gkep glvs gkps gwrd gsta gflt gend ghal gwro gwai gwpl gwrs ghlt glat glpl awid aval abef amrk ambf amem acst afrm atoo asgn aopp afst asnd atgt ahow akpl aklv awto awat awvl awmk acnt) rfl rfl rfl
  refine lv_lstore (lv' := [(5, .long r_4), (3, .long r_2), (0, .ref (ad 0)), (1, .int p0), (2, .int p1)]) hx hb zd_M_doTransfer_23 hl (by decide) rfl (fun ls hl => ?_)
  refine lv_aload_n hx hb zd_M_doTransfer_25 rfl (lv_at hl 2 rfl) ?_
  refine va_get (D := D) (ci := 10) (v := .ref (ad 30)) (C := zR_M) (T := zF_M) (N := 52) hx hb ht zi_M hown hK hP 0 rfl rfl 51 (by decide) (ht _ zw_435) (fun _ h9 => h9) rfl zd_M_doTransfer_26 ?_
  refine lv_bipush (v := 8) hx hb zd_M_doTransfer_29 (by decide) ?_
  refine lv_dup2_11 hx hb zd_M_doTransfer_31 rfl rfl ?_
  refine zq_a_iald (D := D) (j := 8) hx hb hK hP 22 0 rfl rfl (zq_in (by decide)) (by decide) zd_M_doTransfer_32 ?_
  refine lv_iconst (v := 1) hx hb zd_M_doTransfer_33 (by decide) ?_
  refine lv_iadd hx hb zd_M_doTransfer_34 ?_
  refine zq_a_iast (D := D) (j := 8) hx hb hK hP hD hS 22 0 rfl rfl (zq_in (by decide)) (by decide) zd_M_doTransfer_35 (fun H locs hP hD hS => ?_)
  have hP : va_P D vwCl (W_M_doTransfer kT ad gthr greg gcon gfld gtrn gins glev gkep glvs gkps gwrd gsta gflt gend ghal gwro gwai gwpl gwrs ghlt glat glpl awid aval abef amrk ambf amem acst afrm atoo asgn aopp afst asnd atgt ahow akpl aklv awto awat awvl awmk (upd acnt 8 ((acnt 8) + 1))) H := hP
  have hD : va_D A (W_M_doTransfer kT ad gthr greg gcon gfld gtrn gins glev gkep glvs gkps gwrd gsta gflt gend ghal gwro gwai gwpl gwrs ghlt glat glpl awid aval abef amrk ambf amem acst afrm atoo asgn aopp afst asnd atgt ahow akpl aklv awto awat awvl awmk (upd acnt 8 ((acnt 8) + 1))) := hD
  refine lv_aload_n hx hb zd_M_doTransfer_36 rfl (lv_at hl 2 rfl) ?_
  refine va_get (D := D) (ci := 10) (v := .ref (ad 14)) (C := zR_M) (T := zF_M) (N := 52) hx hb ht zi_M hown hK hP 0 rfl rfl 19 (by decide) (ht _ zw_416) (fun _ h9 => h9) rfl zd_M_doTransfer_37 ?_
  refine lv_iload_n hx hb zd_M_doTransfer_40 rfl (lv_at hl 4 rfl) ?_
  obtain ⟨hi_5, h⟩ := h
  refine zq_a_iald (D := D) hx hb hK hP 11 0 rfl rfl hi_5 rfl zd_M_doTransfer_41 ?_
  by_cases k0 : (aopp p1.toNatClampNeg) = 15
  · have h := zq_it k0 h
    refine lv_tableIn (off := 46) (tgt := 88) hx hb zd_M_doTransfer_42 (by rw [k0]; decide) (by rw [k0]; decide) (by rw [k0]; rfl) (by decide) ?_
    refine lv_aload_n hx hb zd_M_doTransfer_88 rfl (lv_at hl 2 rfl) ?_
    refine lv_iload_n hx hb zd_M_doTransfer_89 rfl (lv_at hl 3 rfl) ?_
    refine lv_lload_n hx hb zd_M_doTransfer_90 rfl (lv_at hl 1 rfl) ?_
    refine lv_lload hx hb zd_M_doTransfer_91 (lv_at hl 0 rfl) ?_
    refine lv_iconst (v := 1) hx hb zd_M_doTransfer_93 (by decide) ?_
    refine zq_c_Vv (rest := []) (adl := (A_M_doTransfer ad)) (wr := [(ad 1, .inl (kT 0, 24, .inl awid)), (ad 2, .inl (kT 1, 24, .inr (.inl aval))), (ad 3, .inl (kT 1, 24, .inr (.inl abef))), (ad 5, .inl (kT 2, 24, .inl amrk)), (ad 6, .inl (kT 2, 24, .inl ambf)), (ad 10, .inl (kT 1, 16, .inr (.inl acst))), (ad 11, .inl (kT 0, 16, .inl afrm)), (ad 12, .inl (kT 0, 16, .inl atoo)), (ad 13, .inl (kT 2, 16, .inl asgn)), (ad 14, .inl (kT 0, 200, .inl aopp)), (ad 15, .inl (kT 0, 200, .inl afst)), (ad 16, .inl (kT 0, 200, .inl asnd)), (ad 17, .inl (kT 0, 200, .inl atgt)), (ad 24, .inl (kT 0, 8, .inl akpl)), (ad 25, .inl (kT 0, 8, .inl aklv))]) ⟨hx, hb, hml, hown, ht⟩ (c_M_store l D kT ad gthr greg gcon gfld gtrn gins glev gkep glvs gkps gwrd gsta gflt gend ghal gwro gwai gwpl gwrs ghlt glat glpl amem ahow awto awat awvl awmk (upd acnt 8 ((acnt 8) + 1)) p0 r_2 r_4 1 _ h) (cwV 4 ht (zq_gV zw_504 zw_505 zw_506 zw_393 zw_507) rfl rfl rfl zh_M_store ⟨Nat.le_of_ble_eq_true rfl, Nat.le_of_ble_eq_true rfl⟩) hE hP hD hS hA [0, 6, 15, 18, 19, 20, 21, 22] [1, 2, 3, 4, 5, 7, 8, 9, 10, 11, 12, 13, 14, 16, 17] 23 rfl (by decide +kernel) rfl (by decide +kernel) rfl rfl 0 rfl rfl rfl rfl hl.1 (Nat.le_of_ble_eq_true rfl) rfl zd_M_doTransfer_94 ⟨Nat.zero_le _, Nat.zero_le _⟩ (fun w1 H locs hw hJ hS => ?_)
    obtain ⟨gflt_6, gwrs_7, amem_8, awto_9, awat_10, awvl_11, awmk_12, acnt_13, rfl, h⟩ := hw
    obtain ⟨hP, hD⟩ := hJ (W_M_doTransfer kT ad gthr greg gcon gfld gtrn gins glev gkep glvs gkps gwrd gsta gflt_6 gend ghal gwro gwai gwpl gwrs_7 ghlt glat glpl awid aval abef amrk ambf amem_8 acst afrm atoo asgn aopp afst asnd atgt ahow akpl aklv awto_9 awat_10 awvl_11 awmk_12 acnt_13) rfl rfl rfl
    refine lv_goto (tgt := 214) hx hb zd_M_doTransfer_97 (by decide) ?_
    exact hret  _ H locs 214 ls ⟨glev, gkep, gflt_6, gend, ghal, gwro, gwrs_7, aval, amrk, amem_8, awto_9, awat_10, awvl_11, awmk_12, acnt_13, rfl, h⟩ hP rfl hS zd_M_doTransfer_214
  · have h := zq_if k0 h
    by_cases k1 : (aopp p1.toNatClampNeg) = 16
    · have h := zq_it k1 h
      refine lv_tableIn (off := 58) (tgt := 100) hx hb zd_M_doTransfer_42 (by rw [k1]; decide) (by rw [k1]; decide) (by rw [k1]; rfl) (by decide) ?_
      refine lv_aload_n hx hb zd_M_doTransfer_100 rfl (lv_at hl 2 rfl) ?_
      refine lv_iload_n hx hb zd_M_doTransfer_101 rfl (lv_at hl 3 rfl) ?_
      refine lv_lload_n hx hb zd_M_doTransfer_102 rfl (lv_at hl 1 rfl) ?_
      refine lv_lload hx hb zd_M_doTransfer_103 (lv_at hl 0 rfl) ?_
      refine lv_iconst (v := 2) hx hb zd_M_doTransfer_105 (by decide) ?_
      refine zq_c_Vv (rest := []) (adl := (A_M_doTransfer ad)) (wr := [(ad 1, .inl (kT 0, 24, .inl awid)), (ad 2, .inl (kT 1, 24, .inr (.inl aval))), (ad 3, .inl (kT 1, 24, .inr (.inl abef))), (ad 5, .inl (kT 2, 24, .inl amrk)), (ad 6, .inl (kT 2, 24, .inl ambf)), (ad 10, .inl (kT 1, 16, .inr (.inl acst))), (ad 11, .inl (kT 0, 16, .inl afrm)), (ad 12, .inl (kT 0, 16, .inl atoo)), (ad 13, .inl (kT 2, 16, .inl asgn)), (ad 14, .inl (kT 0, 200, .inl aopp)), (ad 15, .inl (kT 0, 200, .inl afst)), (ad 16, .inl (kT 0, 200, .inl asnd)), (ad 17, .inl (kT 0, 200, .inl atgt)), (ad 24, .inl (kT 0, 8, .inl akpl)), (ad 25, .inl (kT 0, 8, .inl aklv))]) ⟨hx, hb, hml, hown, ht⟩ (c_M_store l D kT ad gthr greg gcon gfld gtrn gins glev gkep glvs gkps gwrd gsta gflt gend ghal gwro gwai gwpl gwrs ghlt glat glpl amem ahow awto awat awvl awmk (upd acnt 8 ((acnt 8) + 1)) p0 r_2 r_4 2 _ h) (cwV 4 ht (zq_gV zw_504 zw_505 zw_506 zw_393 zw_507) rfl rfl rfl zh_M_store ⟨Nat.le_of_ble_eq_true rfl, Nat.le_of_ble_eq_true rfl⟩) hE hP hD hS hA [0, 6, 15, 18, 19, 20, 21, 22] [1, 2, 3, 4, 5, 7, 8, 9, 10, 11, 12, 13, 14, 16, 17] 23 rfl (by decide +kernel) rfl (by decide +kernel) rfl rfl 0 rfl rfl rfl rfl hl.1 (Nat.le_of_ble_eq_true rfl) rfl zd_M_doTransfer_106 ⟨Nat.zero_le _, Nat.zero_le _⟩ (fun w1 H locs hw hJ hS => ?_)
      obtain ⟨gflt_15, gwrs_16, amem_17, awto_18, awat_19, awvl_20, awmk_21, acnt_22, rfl, h⟩ := hw
      obtain ⟨hP, hD⟩ := hJ (W_M_doTransfer kT ad gthr greg gcon gfld gtrn gins glev gkep glvs gkps gwrd gsta gflt_15 gend ghal gwro gwai gwpl gwrs_16 ghlt glat glpl awid aval abef amrk ambf amem_17 acst afrm atoo asgn aopp afst asnd atgt ahow akpl aklv awto_18 awat_19 awvl_20 awmk_21 acnt_22) rfl rfl rfl
      refine lv_goto (tgt := 214) hx hb zd_M_doTransfer_109 (by decide) ?_
      exact hret  _ H locs 214 ls ⟨glev, gkep, gflt_15, gend, ghal, gwro, gwrs_16, aval, amrk, amem_17, awto_18, awat_19, awvl_20, awmk_21, acnt_22, rfl, h⟩ hP rfl hS zd_M_doTransfer_214
    · have h := zq_if k1 h
      by_cases k2 : (aopp p1.toNatClampNeg) = 17
      · have h := zq_it k2 h
        refine lv_tableIn (off := 70) (tgt := 112) hx hb zd_M_doTransfer_42 (by rw [k2]; decide) (by rw [k2]; decide) (by rw [k2]; rfl) (by decide) ?_
        refine lv_aload_n hx hb zd_M_doTransfer_112 rfl (lv_at hl 2 rfl) ?_
        refine lv_lload_n hx hb zd_M_doTransfer_113 rfl (lv_at hl 1 rfl) ?_
        refine lv_lconst (v := 0) hx hb zd_M_doTransfer_114 (by decide) ?_
        refine W.lcmp hx hb zd_M_doTransfer_115 ?_
        refine lv_if_ne (tgt := 123) hx hb zd_M_doTransfer_116 (by decide) (fun c_24 => ?_) (fun c_24 => ?_)
        · have h := zq_if (fun z => c_24 (zq_lc_eq.mpr z)) h
          refine lv_iconst (v := 0) hx hb zd_M_doTransfer_123 (by decide) ?_
          refine va_put (D := D) (ci := 10) (v := .int 0) (ty := .boolean) (C := zR_M) (T := zF_M) (N := 52) hx hb ht zi_M zt_M zt_M_ok zn_M hown hK hP hD hS 0 rfl rfl 38 (by decide) (ht _ zw_508) (fun _ h9 => h9) rfl (by decide +kernel) rfl rfl (Nat.le_of_ble_eq_true rfl) zd_M_doTransfer_124 (fun H locs hP hD hS => ?_)
          have hP : va_P D vwCl (W_M_doTransfer kT ad gthr greg gcon gfld gtrn gins glev gkep glvs gkps gwrd gsta gflt 0 ghal gwro gwai gwpl gwrs ghlt glat glpl awid aval abef amrk ambf amem acst afrm atoo asgn aopp afst asnd atgt ahow akpl aklv awto awat awvl awmk (upd acnt 8 ((acnt 8) + 1))) H := hP
          have hD : va_D A (W_M_doTransfer kT ad gthr greg gcon gfld gtrn gins glev gkep glvs gkps gwrd gsta gflt 0 ghal gwro gwai gwpl gwrs ghlt glat glpl awid aval abef amrk ambf amem acst afrm atoo asgn aopp afst asnd atgt ahow akpl aklv awto awat awvl awmk (upd acnt 8 ((acnt 8) + 1))) := hD
          refine lv_goto (tgt := 214) hx hb zd_M_doTransfer_127 (by decide) ?_
          exact hret  _ H locs 214 ls ⟨glev, gkep, gflt, 0, ghal, gwro, gwrs, aval, amrk, amem, awto, awat, awvl, awmk, (upd acnt 8 ((acnt 8) + 1)), rfl, h⟩ hP rfl hS zd_M_doTransfer_214
        · have h := zq_it (zq_lc_eq.mp c_24) h
          refine lv_iconst (v := 1) hx hb zd_M_doTransfer_119 (by decide) ?_
          refine lv_goto (tgt := 124) hx hb zd_M_doTransfer_120 (by decide) ?_
          refine va_put (D := D) (ci := 10) (v := .int 1) (ty := .boolean) (C := zR_M) (T := zF_M) (N := 52) hx hb ht zi_M zt_M zt_M_ok zn_M hown hK hP hD hS 0 rfl rfl 38 (by decide) (ht _ zw_508) (fun _ h9 => h9) rfl (by decide +kernel) rfl rfl (Nat.le_of_ble_eq_true rfl) zd_M_doTransfer_124 (fun H locs hP hD hS => ?_)
          have hP : va_P D vwCl (W_M_doTransfer kT ad gthr greg gcon gfld gtrn gins glev gkep glvs gkps gwrd gsta gflt 1 ghal gwro gwai gwpl gwrs ghlt glat glpl awid aval abef amrk ambf amem acst afrm atoo asgn aopp afst asnd atgt ahow akpl aklv awto awat awvl awmk (upd acnt 8 ((acnt 8) + 1))) H := hP
          have hD : va_D A (W_M_doTransfer kT ad gthr greg gcon gfld gtrn gins glev gkep glvs gkps gwrd gsta gflt 1 ghal gwro gwai gwpl gwrs ghlt glat glpl awid aval abef amrk ambf amem acst afrm atoo asgn aopp afst asnd atgt ahow akpl aklv awto awat awvl awmk (upd acnt 8 ((acnt 8) + 1))) := hD
          refine lv_goto (tgt := 214) hx hb zd_M_doTransfer_127 (by decide) ?_
          exact hret  _ H locs 214 ls ⟨glev, gkep, gflt, 1, ghal, gwro, gwrs, aval, amrk, amem, awto, awat, awvl, awmk, (upd acnt 8 ((acnt 8) + 1)), rfl, h⟩ hP rfl hS zd_M_doTransfer_214
      · have h := zq_if k2 h
        by_cases k3 : (aopp p1.toNatClampNeg) = 18
        · have h := zq_it k3 h
          refine lv_tableIn (off := 88) (tgt := 130) hx hb zd_M_doTransfer_42 (by rw [k3]; decide) (by rw [k3]; decide) (by rw [k3]; rfl) (by decide) ?_
          refine lv_aload_n hx hb zd_M_doTransfer_130 rfl (lv_at hl 2 rfl) ?_
          refine lv_lload hx hb zd_M_doTransfer_131 (lv_at hl 0 rfl) ?_
          refine lv_lconst (v := 0) hx hb zd_M_doTransfer_133 (by decide) ?_
          refine W.lcmp hx hb zd_M_doTransfer_134 ?_
          refine lv_if_eq (tgt := 150) hx hb zd_M_doTransfer_135 (by decide) (fun c_25 => ?_) (fun c_25 => ?_)
          · have h := zq_it (zq_lc_eq.mp c_25) h
            refine lv_iconst (v := 0) hx hb zd_M_doTransfer_150 (by decide) ?_
            refine va_put (D := D) (ci := 10) (v := .int 0) (ty := .int) (C := zR_M) (T := zF_M) (N := 52) hx hb ht zi_M zt_M zt_M_ok zn_M hown hK hP hD hS 0 rfl rfl 37 (by decide) (ht _ zw_488) (fun _ h9 => h9) rfl (by decide +kernel) rfl rfl (Nat.le_of_ble_eq_true rfl) zd_M_doTransfer_151 (fun H locs hP hD hS => ?_)
            have hP : va_P D vwCl (W_M_doTransfer kT ad gthr greg gcon gfld gtrn gins glev gkep glvs gkps gwrd gsta 0 gend ghal gwro gwai gwpl gwrs ghlt glat glpl awid aval abef amrk ambf amem acst afrm atoo asgn aopp afst asnd atgt ahow akpl aklv awto awat awvl awmk (upd acnt 8 ((acnt 8) + 1))) H := hP
            have hD : va_D A (W_M_doTransfer kT ad gthr greg gcon gfld gtrn gins glev gkep glvs gkps gwrd gsta 0 gend ghal gwro gwai gwpl gwrs ghlt glat glpl awid aval abef amrk ambf amem acst afrm atoo asgn aopp afst asnd atgt ahow akpl aklv awto awat awvl awmk (upd acnt 8 ((acnt 8) + 1))) := hD
            refine lv_goto (tgt := 214) hx hb zd_M_doTransfer_154 (by decide) ?_
            exact hret  _ H locs 214 ls ⟨glev, gkep, 0, gend, ghal, gwro, gwrs, aval, amrk, amem, awto, awat, awvl, awmk, (upd acnt 8 ((acnt 8) + 1)), rfl, h⟩ hP rfl hS zd_M_doTransfer_214
          · have h := zq_if (fun z => c_25 (zq_lc_eq.mpr z)) h
            refine lv_bipush (v := 8) hx hb zd_M_doTransfer_138 (by decide) ?_
            refine lv_lload_n hx hb zd_M_doTransfer_140 rfl (lv_at hl 1 rfl) ?_
            refine W.ldc2 (v := 7) hx hb hown (ht _ zw_421) rfl zd_M_doTransfer_141 ?_
            refine W.eq (g2 := F0 m 144 ls [.long 7, .long r_2, .int 8, .ref (ad 0)]) rfl ?_
            refine lv_land hx hb zd_M_doTransfer_144 ?_
            refine lv_l2i (v := (zq_j_l2i (r_2 &&& 7))) hx hb zd_M_doTransfer_145 rfl ?_
            refine lv_iadd hx hb zd_M_doTransfer_146 ?_
            refine lv_goto (tgt := 151) hx hb zd_M_doTransfer_147 (by decide) ?_
            refine va_put (D := D) (ci := 10) (v := .int (8 + (zq_j_l2i (r_2 &&& 7)))) (ty := .int) (C := zR_M) (T := zF_M) (N := 52) hx hb ht zi_M zt_M zt_M_ok zn_M hown hK hP hD hS 0 rfl rfl 37 (by decide) (ht _ zw_488) (fun _ h9 => h9) rfl (by decide +kernel) rfl rfl (Nat.le_of_ble_eq_true rfl) zd_M_doTransfer_151 (fun H locs hP hD hS => ?_)
            have hP : va_P D vwCl (W_M_doTransfer kT ad gthr greg gcon gfld gtrn gins glev gkep glvs gkps gwrd gsta (8 + (zq_j_l2i (r_2 &&& 7))) gend ghal gwro gwai gwpl gwrs ghlt glat glpl awid aval abef amrk ambf amem acst afrm atoo asgn aopp afst asnd atgt ahow akpl aklv awto awat awvl awmk (upd acnt 8 ((acnt 8) + 1))) H := hP
            have hD : va_D A (W_M_doTransfer kT ad gthr greg gcon gfld gtrn gins glev gkep glvs gkps gwrd gsta (8 + (zq_j_l2i (r_2 &&& 7))) gend ghal gwro gwai gwpl gwrs ghlt glat glpl awid aval abef amrk ambf amem acst afrm atoo asgn aopp afst asnd atgt ahow akpl aklv awto awat awvl awmk (upd acnt 8 ((acnt 8) + 1))) := hD
            refine lv_goto (tgt := 214) hx hb zd_M_doTransfer_154 (by decide) ?_
            exact hret  _ H locs 214 ls ⟨glev, gkep, (8 + (zq_j_l2i (r_2 &&& 7))), gend, ghal, gwro, gwrs, aval, amrk, amem, awto, awat, awvl, awmk, (upd acnt 8 ((acnt 8) + 1)), rfl, h⟩ hP rfl hS zd_M_doTransfer_214
        · have h := zq_if k3 h
          by_cases k4 : (aopp p1.toNatClampNeg) = 19
          · have h := zq_it k4 h
            refine lv_tableIn (off := 115) (tgt := 157) hx hb zd_M_doTransfer_42 (by rw [k4]; decide) (by rw [k4]; decide) (by rw [k4]; rfl) (by decide) ?_
            refine lv_aload_n hx hb zd_M_doTransfer_157 rfl (lv_at hl 2 rfl) ?_
            refine lv_iload_n hx hb zd_M_doTransfer_158 rfl (lv_at hl 3 rfl) ?_
            refine lv_aload_n hx hb zd_M_doTransfer_159 rfl (lv_at hl 2 rfl) ?_
            refine va_get (D := D) (ci := 10) (v := .ref (ad 17)) (C := zR_M) (T := zF_M) (N := 52) hx hb ht zi_M hown hK hP 0 rfl rfl 22 (by decide) (ht _ zw_419) (fun _ h9 => h9) rfl zd_M_doTransfer_160 ?_
            refine lv_iload_n hx hb zd_M_doTransfer_163 rfl (lv_at hl 4 rfl) ?_
            obtain ⟨hi_26, h⟩ := h
            refine zq_a_iald (D := D) hx hb hK hP 14 0 rfl rfl hi_26 rfl zd_M_doTransfer_164 ?_
            refine zq_c_Vv (rest := []) (adl := (A_M_doTransfer ad)) (wr := [(ad 1, .inl (kT 0, 24, .inl awid)), (ad 2, .inl (kT 1, 24, .inr (.inl aval))), (ad 3, .inl (kT 1, 24, .inr (.inl abef))), (ad 6, .inl (kT 2, 24, .inl ambf)), (ad 8, .inl (kT 3, 4096, .inl amem)), (ad 10, .inl (kT 1, 16, .inr (.inl acst))), (ad 11, .inl (kT 0, 16, .inl afrm)), (ad 12, .inl (kT 0, 16, .inl atoo)), (ad 13, .inl (kT 2, 16, .inl asgn)), (ad 14, .inl (kT 0, 200, .inl aopp)), (ad 15, .inl (kT 0, 200, .inl afst)), (ad 16, .inl (kT 0, 200, .inl asnd)), (ad 17, .inl (kT 0, 200, .inl atgt)), (ad 24, .inl (kT 0, 8, .inl akpl)), (ad 25, .inl (kT 0, 8, .inl aklv)), (ad 30, .inl (kT 0, 9, .inl (upd acnt 8 ((acnt 8) + 1))))]) ⟨hx, hb, hml, hown, ht⟩ (c_M_markOnly l D kT ad gthr greg gcon gfld gtrn gins glev gkep glvs gkps gwrd gsta gflt gend ghal gwro gwai gwpl gwrs ghlt glat glpl amrk ahow awto awat awvl awmk p0 (atgt p1.toNatClampNeg) _ h) (cwV 2 ht (zq_gV zw_509 zw_510 zw_511 zw_393 zw_512) rfl rfl rfl zh_M_markOnly ⟨Nat.le_of_ble_eq_true rfl, Nat.le_of_ble_eq_true rfl⟩) hE hP hD hS hA [0, 4, 15, 18, 19, 20, 21] [1, 2, 3, 5, 6, 7, 8, 9, 10, 11, 12, 13, 14, 16, 17, 22] 23 rfl (by decide +kernel) rfl (by decide +kernel) rfl rfl 0 rfl rfl rfl rfl hl.1 (Nat.le_of_ble_eq_true rfl) rfl zd_M_doTransfer_165 ⟨Nat.zero_le _, Nat.zero_le _⟩ (fun w1 H locs hw hJ hS => ?_)
            obtain ⟨gwrs_27, amrk_28, awto_29, awat_30, awvl_31, awmk_32, rfl, h⟩ := hw
            obtain ⟨hP, hD⟩ := hJ (W_M_doTransfer kT ad gthr greg gcon gfld gtrn gins glev gkep glvs gkps gwrd gsta gflt gend ghal gwro gwai gwpl gwrs_27 ghlt glat glpl awid aval abef amrk_28 ambf amem acst afrm atoo asgn aopp afst asnd atgt ahow akpl aklv awto_29 awat_30 awvl_31 awmk_32 (upd acnt 8 ((acnt 8) + 1))) rfl rfl rfl
            refine lv_goto (tgt := 214) hx hb zd_M_doTransfer_168 (by decide) ?_
            exact hret  _ H locs 214 ls ⟨glev, gkep, gflt, gend, ghal, gwro, gwrs_27, aval, amrk_28, amem, awto_29, awat_30, awvl_31, awmk_32, (upd acnt 8 ((acnt 8) + 1)), rfl, h⟩ hP rfl hS zd_M_doTransfer_214
          · have h := zq_if k4 h
            by_cases k5 : (aopp p1.toNatClampNeg) = 20
            · have h := zq_it k5 h
              refine lv_tableIn (off := 129) (tgt := 171) hx hb zd_M_doTransfer_42 (by rw [k5]; decide) (by rw [k5]; decide) (by rw [k5]; rfl) (by decide) ?_
              refine lv_aload_n hx hb zd_M_doTransfer_171 rfl (lv_at hl 2 rfl) ?_
              refine lv_aload_n hx hb zd_M_doTransfer_172 rfl (lv_at hl 2 rfl) ?_
              refine va_get (D := D) (ci := 10) (v := .int glev) (C := zR_M) (T := zF_M) (N := 52) hx hb ht zi_M hown hK hP 0 rfl rfl 29 (by decide) (ht _ zw_433) (fun _ h9 => h9) rfl zd_M_doTransfer_173 ?_
              refine lv_if_ne (tgt := 183) hx hb zd_M_doTransfer_176 (by decide) (fun c_34 => ?_) (fun c_34 => ?_)
              · have h := zq_if c_34 h
                refine lv_iconst (v := 0) hx hb zd_M_doTransfer_183 (by decide) ?_
                refine va_put (D := D) (ci := 10) (v := .int 0) (ty := .int) (C := zR_M) (T := zF_M) (N := 52) hx hb ht zi_M zt_M zt_M_ok zn_M hown hK hP hD hS 0 rfl rfl 37 (by decide) (ht _ zw_488) (fun _ h9 => h9) rfl (by decide +kernel) rfl rfl (Nat.le_of_ble_eq_true rfl) zd_M_doTransfer_184 (fun H locs hP hD hS => ?_)
                have hP : va_P D vwCl (W_M_doTransfer kT ad gthr greg gcon gfld gtrn gins glev gkep glvs gkps gwrd gsta 0 gend ghal gwro gwai gwpl gwrs ghlt glat glpl awid aval abef amrk ambf amem acst afrm atoo asgn aopp afst asnd atgt ahow akpl aklv awto awat awvl awmk (upd acnt 8 ((acnt 8) + 1))) H := hP
                have hD : va_D A (W_M_doTransfer kT ad gthr greg gcon gfld gtrn gins glev gkep glvs gkps gwrd gsta 0 gend ghal gwro gwai gwpl gwrs ghlt glat glpl awid aval abef amrk ambf amem acst afrm atoo asgn aopp afst asnd atgt ahow akpl aklv awto awat awvl awmk (upd acnt 8 ((acnt 8) + 1))) := hD
                refine lv_goto (tgt := 214) hx hb zd_M_doTransfer_187 (by decide) ?_
                exact hret  _ H locs 214 ls ⟨glev, gkep, 0, gend, ghal, gwro, gwrs, aval, amrk, amem, awto, awat, awvl, awmk, (upd acnt 8 ((acnt 8) + 1)), rfl, h⟩ hP rfl hS zd_M_doTransfer_214
              · have h := zq_it c_34 h
                refine lv_iconst (v := 5) hx hb zd_M_doTransfer_179 (by decide) ?_
                refine lv_goto (tgt := 184) hx hb zd_M_doTransfer_180 (by decide) ?_
                refine va_put (D := D) (ci := 10) (v := .int 5) (ty := .int) (C := zR_M) (T := zF_M) (N := 52) hx hb ht zi_M zt_M zt_M_ok zn_M hown hK hP hD hS 0 rfl rfl 37 (by decide) (ht _ zw_488) (fun _ h9 => h9) rfl (by decide +kernel) rfl rfl (Nat.le_of_ble_eq_true rfl) zd_M_doTransfer_184 (fun H locs hP hD hS => ?_)
                have hP : va_P D vwCl (W_M_doTransfer kT ad gthr greg gcon gfld gtrn gins glev gkep glvs gkps gwrd gsta 5 gend ghal gwro gwai gwpl gwrs ghlt glat glpl awid aval abef amrk ambf amem acst afrm atoo asgn aopp afst asnd atgt ahow akpl aklv awto awat awvl awmk (upd acnt 8 ((acnt 8) + 1))) H := hP
                have hD : va_D A (W_M_doTransfer kT ad gthr greg gcon gfld gtrn gins glev gkep glvs gkps gwrd gsta 5 gend ghal gwro gwai gwpl gwrs ghlt glat glpl awid aval abef amrk ambf amem acst afrm atoo asgn aopp afst asnd atgt ahow akpl aklv awto awat awvl awmk (upd acnt 8 ((acnt 8) + 1))) := hD
                refine lv_goto (tgt := 214) hx hb zd_M_doTransfer_187 (by decide) ?_
                exact hret  _ H locs 214 ls ⟨glev, gkep, 5, gend, ghal, gwro, gwrs, aval, amrk, amem, awto, awat, awvl, awmk, (upd acnt 8 ((acnt 8) + 1)), rfl, h⟩ hP rfl hS zd_M_doTransfer_214
            · have h := zq_if k5 h
              by_cases k6 : (aopp p1.toNatClampNeg) = 21
              · have h := zq_it k6 h
                refine lv_tableIn (off := 148) (tgt := 190) hx hb zd_M_doTransfer_42 (by rw [k6]; decide) (by rw [k6]; decide) (by rw [k6]; rfl) (by decide) ?_
                refine lv_aload_n hx hb zd_M_doTransfer_190 rfl (lv_at hl 2 rfl) ?_
                refine lv_iconst (v := 1) hx hb zd_M_doTransfer_191 (by decide) ?_
                refine va_put (D := D) (ci := 10) (v := .int 1) (ty := .boolean) (C := zR_M) (T := zF_M) (N := 52) hx hb ht zi_M zt_M zt_M_ok zn_M hown hK hP hD hS 0 rfl rfl 39 (by decide) (ht _ zw_513) (fun _ h9 => h9) rfl (by decide +kernel) rfl rfl (Nat.le_of_ble_eq_true rfl) zd_M_doTransfer_192 (fun H locs hP hD hS => ?_)
                have hP : va_P D vwCl (W_M_doTransfer kT ad gthr greg gcon gfld gtrn gins glev gkep glvs gkps gwrd gsta gflt gend 1 gwro gwai gwpl gwrs ghlt glat glpl awid aval abef amrk ambf amem acst afrm atoo asgn aopp afst asnd atgt ahow akpl aklv awto awat awvl awmk (upd acnt 8 ((acnt 8) + 1))) H := hP
                have hD : va_D A (W_M_doTransfer kT ad gthr greg gcon gfld gtrn gins glev gkep glvs gkps gwrd gsta gflt gend 1 gwro gwai gwpl gwrs ghlt glat glpl awid aval abef amrk ambf amem acst afrm atoo asgn aopp afst asnd atgt ahow akpl aklv awto awat awvl awmk (upd acnt 8 ((acnt 8) + 1))) := hD
                refine lv_goto (tgt := 214) hx hb zd_M_doTransfer_195 (by decide) ?_
                exact hret  _ H locs 214 ls ⟨glev, gkep, gflt, gend, 1, gwro, gwrs, aval, amrk, amem, awto, awat, awvl, awmk, (upd acnt 8 ((acnt 8) + 1)), rfl, h⟩ hP rfl hS zd_M_doTransfer_214
              · have h := zq_if k6 h
                by_cases k7 : (aopp p1.toNatClampNeg) = 22
                · have h := zq_it k7 h
                  refine lv_tableIn (off := 156) (tgt := 198) hx hb zd_M_doTransfer_42 (by rw [k7]; decide) (by rw [k7]; decide) (by rw [k7]; rfl) (by decide) ?_
                  refine lv_aload_n hx hb zd_M_doTransfer_198 rfl (lv_at hl 2 rfl) ?_
                  refine zq_c_Vv (rest := []) (adl := (A_M_doTransfer ad)) (wr := [(ad 1, .inl (kT 0, 24, .inl awid)), (ad 3, .inl (kT 1, 24, .inr (.inl abef))), (ad 6, .inl (kT 2, 24, .inl ambf)), (ad 8, .inl (kT 3, 4096, .inl amem)), (ad 10, .inl (kT 1, 16, .inr (.inl acst))), (ad 11, .inl (kT 0, 16, .inl afrm)), (ad 12, .inl (kT 0, 16, .inl atoo)), (ad 13, .inl (kT 2, 16, .inl asgn)), (ad 14, .inl (kT 0, 200, .inl aopp)), (ad 15, .inl (kT 0, 200, .inl afst)), (ad 16, .inl (kT 0, 200, .inl asnd)), (ad 17, .inl (kT 0, 200, .inl atgt)), (ad 20, .inl (kT 0, 40, .inl ahow)), (ad 26, .inl (kT 0, 200, .inl awto)), (ad 27, .inl (kT 0, 200, .inl awat)), (ad 28, .inl (kT 1, 200, .inr (.inl awvl))), (ad 29, .inl (kT 2, 200, .inl awmk)), (ad 30, .inl (kT 0, 9, .inl (upd acnt 8 ((acnt 8) + 1))))]) ⟨hx, hb, hml, hown, ht⟩ (c_M_back l D kT ad gthr greg gcon gfld gtrn gins glev gkep glvs gkps gwrd gsta gflt gend ghal gwro gwai gwpl gwrs ghlt glat glpl aval amrk akpl aklv _ h) (cwV 0 ht (zq_gV zw_514 zw_515 zw_516 zw_393 zw_517) rfl rfl rfl zh_M_back ⟨Nat.le_of_ble_eq_true rfl, Nat.le_of_ble_eq_true rfl⟩) hE hP hD hS hA [0, 2, 4, 16, 17] [1, 3, 5, 6, 7, 8, 9, 10, 11, 12, 13, 14, 15, 18, 19, 20, 21, 22] 23 rfl (by decide +kernel) rfl (by decide +kernel) rfl rfl 0 rfl rfl rfl rfl hl.1 (Nat.le_of_ble_eq_true rfl) rfl zd_M_doTransfer_199 ⟨Nat.zero_le _, Nat.zero_le _⟩ (fun w1 H locs hw hJ hS => ?_)
                  obtain ⟨glev_35, gkep_36, gflt_37, gwro_38, aval_39, amrk_40, rfl, h⟩ := hw
                  obtain ⟨hP, hD⟩ := hJ (W_M_doTransfer kT ad gthr greg gcon gfld gtrn gins glev_35 gkep_36 glvs gkps gwrd gsta gflt_37 gend ghal gwro_38 gwai gwpl gwrs ghlt glat glpl awid aval_39 abef amrk_40 ambf amem acst afrm atoo asgn aopp afst asnd atgt ahow akpl aklv awto awat awvl awmk (upd acnt 8 ((acnt 8) + 1))) rfl rfl rfl
                  refine lv_goto (tgt := 214) hx hb zd_M_doTransfer_202 (by decide) ?_
                  exact hret  _ H locs 214 ls ⟨glev_35, gkep_36, gflt_37, gend, ghal, gwro_38, gwrs, aval_39, amrk_40, amem, awto, awat, awvl, awmk, (upd acnt 8 ((acnt 8) + 1)), rfl, h⟩ hP rfl hS zd_M_doTransfer_214
                · have h := zq_if k7 h
                  refine lv_tableOut (tgt := 205) hx hb zd_M_doTransfer_42 (by have q0 := lv_neT k0 (a := 15) (by decide); have q1 := lv_neT k1 (a := 16) (by decide); have q2 := lv_neT k2 (a := 17) (by decide); have q3 := lv_neT k3 (a := 18) (by decide); have q4 := lv_neT k4 (a := 19) (by decide); have q5 := lv_neT k5 (a := 20) (by decide); have q6 := lv_neT k6 (a := 21) (by decide); have q7 := lv_neT k7 (a := 22) (by decide); omega) (by decide) ?_
                  refine lv_aload_n hx hb zd_M_doTransfer_205 rfl (lv_at hl 2 rfl) ?_
                  refine lv_iload_n hx hb zd_M_doTransfer_206 rfl (lv_at hl 3 rfl) ?_
                  refine lv_iload_n hx hb zd_M_doTransfer_207 rfl (lv_at hl 4 rfl) ?_
                  refine lv_lload_n hx hb zd_M_doTransfer_208 rfl (lv_at hl 1 rfl) ?_
                  refine lv_lload hx hb zd_M_doTransfer_209 (lv_at hl 0 rfl) ?_
                  refine zq_c_Vv (rest := []) (adl := (A_M_doTransfer ad)) (wr := [(ad 3, .inl (kT 1, 24, .inr (.inl abef))), (ad 10, .inl (kT 1, 16, .inr (.inl acst))), (ad 11, .inl (kT 0, 16, .inl afrm)), (ad 12, .inl (kT 0, 16, .inl atoo)), (ad 13, .inl (kT 2, 16, .inl asgn)), (ad 24, .inl (kT 0, 8, .inl akpl)), (ad 25, .inl (kT 0, 8, .inl aklv))]) ⟨hx, hb, hml, hown, ht⟩ (c_M_compute l D kT ad gthr greg gcon gfld gtrn gins glev gkep glvs gkps gwrd gsta gflt gend ghal gwro gwai gwpl gwrs ghlt glat glpl awid aval amrk ambf amem aopp afst asnd atgt ahow awto awat awvl awmk (upd acnt 8 ((acnt 8) + 1)) p0 p1 r_2 r_4 _ h) (cwV 4 ht (zq_gV zw_518 zw_519 zw_520 zw_393 zw_521) rfl rfl rfl zh_M_compute ⟨Nat.le_of_ble_eq_true rfl, Nat.le_of_ble_eq_true rfl⟩) hE hP hD hS hA [0, 1, 2, 4, 5, 6, 11, 12, 13, 14, 15, 18, 19, 20, 21, 22] [3, 7, 8, 9, 10, 16, 17] 23 rfl (by decide +kernel) rfl (by decide +kernel) rfl rfl 0 rfl rfl rfl rfl hl.1 (Nat.le_of_ble_eq_true rfl) rfl zd_M_doTransfer_211 ⟨Nat.zero_le _, Nat.zero_le _⟩ (fun w1 H locs hw hJ hS => ?_)
                  obtain ⟨gflt_42, gwro_43, gwrs_44, aval_45, amrk_46, awto_47, awat_48, awvl_49, awmk_50, acnt_51, rfl, h⟩ := hw
                  obtain ⟨hP, hD⟩ := hJ (W_M_doTransfer kT ad gthr greg gcon gfld gtrn gins glev gkep glvs gkps gwrd gsta gflt_42 gend ghal gwro_43 gwai gwpl gwrs_44 ghlt glat glpl awid aval_45 abef amrk_46 ambf amem acst afrm atoo asgn aopp afst asnd atgt ahow akpl aklv awto_47 awat_48 awvl_49 awmk_50 acnt_51) rfl rfl rfl
                  exact hret  _ H locs 214 ls ⟨glev, gkep, gflt_42, gend, ghal, gwro_43, gwrs_44, aval_45, amrk_46, amem, awto_47, awat_48, awvl_49, awmk_50, acnt_51, rfl, h⟩ hP rfl hS zd_M_doTransfer_214
abbrev W_M_save (kT : Nat → ClassId) (ad : Nat → Nat) (gthr : Int32) (greg : Int32) (gcon : Int32) (gfld : Int32) (gtrn : Int32) (gins : Int32) (glev : Int32) (gkep : Int32) (glvs : Int32) (gkps : Int32) (gwrd : Int32) (gsta : Int32) (gflt : Int32) (gend : Int32) (ghal : Int32) (gwro : Int32) (gwai : Int32) (gwpl : Int64) (gwrs : Int32) (ghlt : Int32) (glat : Int32) (glpl : Int32) (aval : Nat → Int64) (asav : Nat → Int64) (amrk : Nat → Int32) (amsv : Nat → Int32) (amem : Nat → Int32) (amms : Nat → Int32) : va_W := [(ad 0, .inr (10, [.int gthr, .int greg, .ref (ad 1), .ref (ad 2), .ref (ad 3), .ref (ad 4), .ref (ad 5), .ref (ad 6), .ref (ad 7), .ref (ad 8), .ref (ad 9), .int gcon, .int gfld, .int gtrn, .int gins, .ref (ad 10), .ref (ad 11), .ref (ad 12), .ref (ad 13), .ref (ad 14), .ref (ad 15), .ref (ad 16), .ref (ad 17), .ref (ad 18), .ref (ad 19), .ref (ad 20), .ref (ad 21), .ref (ad 22), .ref (ad 23), .int glev, .int gkep, .int glvs, .int gkps, .ref (ad 24), .ref (ad 25), .int gwrd, .int gsta, .int gflt, .int gend, .int ghal, .int gwro, .int gwai, .long gwpl, .int gwrs, .ref (ad 26), .ref (ad 27), .ref (ad 28), .ref (ad 29), .int ghlt, .int glat, .int glpl, .ref (ad 30)])), (ad 2, .inl (kT 1, 24, .inr (.inl aval))), (ad 4, .inl (kT 1, 24, .inr (.inl asav))), (ad 5, .inl (kT 2, 24, .inl amrk)), (ad 7, .inl (kT 2, 24, .inl amsv)), (ad 8, .inl (kT 3, 4096, .inl amem)), (ad 9, .inl (kT 3, 4096, .inl amms))]
abbrev A_M_save (ad : Nat → Nat) : List Nat := [ad 0, ad 2, ad 4, ad 5, ad 7, ad 8, ad 9]
def wp_M_save_42 (gthr : Int32) (greg : Int32) (gcon : Int32) (gfld : Int32) (gtrn : Int32) (gins : Int32) (glev : Int32) (gkep : Int32) (gwrd : Int32) (gsta : Int32) (gflt : Int32) (gend : Int32) (ghal : Int32) (gwro : Int32) (gwai : Int32) (gwpl : Int64) (gwrs : Int32) (ghlt : Int32) (glat : Int32) (glpl : Int32) (aval : Nat → Int64) (amrk : Nat → Int32) (amem : Nat → Int32) (post : Int32 → Int32 → (Nat → Int64) → (Nat → Int32) → (Nat → Int32) → Prop) : Nat → (Int32) → (Int32) → (Nat → Int64) → (Nat → Int32) → (Nat → Int32) → Int32 → Prop
  | 0 => fun _ _ _ _ _ _ => False
  | n + 1 => fun glvs gkps asav amsv amms y1 => (if 4096 ≤ y1 then post  glev gkep asav amsv amms else vp_in y1 4096 ∧ vp_in y1 4096 ∧ wp_M_save_42 gthr greg gcon gfld gtrn gins glev gkep gwrd gsta gflt gend ghal gwro gwai gwpl gwrs ghlt glat glpl aval amrk amem post n glvs gkps asav amsv (upd amms y1.toNatClampNeg (vp_nar .byte (amem y1.toNatClampNeg))) (y1 + 1))
def wp_M_save_2 (gthr : Int32) (greg : Int32) (gcon : Int32) (gfld : Int32) (gtrn : Int32) (gins : Int32) (glev : Int32) (gkep : Int32) (gwrd : Int32) (gsta : Int32) (gflt : Int32) (gend : Int32) (ghal : Int32) (gwro : Int32) (gwai : Int32) (gwpl : Int64) (gwrs : Int32) (ghlt : Int32) (glat : Int32) (glpl : Int32) (aval : Nat → Int64) (amrk : Nat → Int32) (amem : Nat → Int32) (post : Int32 → Int32 → (Nat → Int64) → (Nat → Int32) → (Nat → Int32) → Prop) : Nat → (Int32) → (Int32) → (Nat → Int64) → (Nat → Int32) → (Nat → Int32) → Int32 → Prop
  | 0 => fun _ _ _ _ _ _ => False
  | n + 1 => fun glvs gkps asav amsv amms y1 => (if greg ≤ y1 then ∃ n, wp_M_save_42 gthr greg gcon gfld gtrn gins glev gkep gwrd gsta gflt gend ghal gwro gwai gwpl gwrs ghlt glat glpl aval amrk amem post n glvs gkps asav amsv amms 0 else vp_in y1 24 ∧ vp_in y1 24 ∧ vp_in y1 24 ∧ vp_in y1 24 ∧ wp_M_save_2 gthr greg gcon gfld gtrn gins glev gkep gwrd gsta gflt gend ghal gwro gwai gwpl gwrs ghlt glat glpl aval amrk amem post n glvs gkps (vp_updL asav y1.toNatClampNeg (aval y1.toNatClampNeg)) (upd amsv y1.toNatClampNeg (vp_nar .boolean (amrk y1.toNatClampNeg))) amms (y1 + 1))
def wp_M_save (gthr : Int32) (greg : Int32) (gcon : Int32) (gfld : Int32) (gtrn : Int32) (gins : Int32) (glev : Int32) (gkep : Int32) (glvs : Int32) (gkps : Int32) (gwrd : Int32) (gsta : Int32) (gflt : Int32) (gend : Int32) (ghal : Int32) (gwro : Int32) (gwai : Int32) (gwpl : Int64) (gwrs : Int32) (ghlt : Int32) (glat : Int32) (glpl : Int32) (aval : Nat → Int64) (asav : Nat → Int64) (amrk : Nat → Int32) (amsv : Nat → Int32) (amem : Nat → Int32) (amms : Nat → Int32)  (post : Int32 → Int32 → (Nat → Int64) → (Nat → Int32) → (Nat → Int32) → Prop) : Prop := ∃ n, wp_M_save_2 gthr greg gcon gfld gtrn gins glev gkep gwrd gsta gflt gend ghal gwro gwai gwpl gwrs ghlt glat glpl aval amrk amem post n glvs gkps asav amsv amms 0
set_option maxHeartbeats 4000000 in
set_option maxRecDepth 100000 in
theorem c_M_save (l : Launch) (D : va_G) (kT : Nat → ClassId) (ad : Nat → Nat) (gthr : Int32) (greg : Int32) (gcon : Int32) (gfld : Int32) (gtrn : Int32) (gins : Int32) (glev : Int32) (gkep : Int32) (glvs : Int32) (gkps : Int32) (gwrd : Int32) (gsta : Int32) (gflt : Int32) (gend : Int32) (ghal : Int32) (gwro : Int32) (gwai : Int32) (gwpl : Int64) (gwrs : Int32) (ghlt : Int32) (glat : Int32) (glpl : Int32) (aval : Nat → Int64) (asav : Nat → Int64) (amrk : Nat → Int32) (amsv : Nat → Int32) (amem : Nat → Int32) (amms : Nat → Int32)  (post : Int32 → Int32 → (Nat → Int64) → (Nat → Int32) → (Nat → Int32) → Prop) (h : wp_M_save gthr greg gcon gfld gtrn gins glev gkep glvs gkps gwrd gsta gflt gend ghal gwro gwai gwpl gwrs ghlt glat glpl aval asav amrk amsv amem amms  post) : zq_Mv l zy_M_save zs_M_save ({ frames := 0, cells := 0, slots := 0, locals := 0 }) D kT [.ref (ad 0)] (W_M_save kT ad gthr greg gcon gfld gtrn gins glev gkep glvs gkps gwrd gsta gflt gend ghal gwro gwai gwpl gwrs ghlt glat glpl aval asav amrk amsv amem amms) (fun w' => ∃ (glvs' : Int32) (gkps' : Int32) (asav' : Nat → Int64) (amsv' : Nat → Int32) (amms' : Nat → Int32), w' = (W_M_save kT ad gthr greg gcon gfld gtrn gins glev gkep glvs' gkps' gwrd gsta gflt gend ghal gwro gwai gwpl gwrs ghlt glat glpl aval asav' amrk amsv' amem amms') ∧ post  glvs' gkps' asav' amsv' amms') := by
  refine zq_Mv_of (adl := (A_M_save ad)) (cc := zb_M_save) (maxL := 2) (own := zR_M) rfl (by decide) rfl rfl (Nat.le_of_ble_eq_true rfl) ?_
  intro p e s m AV below meth c A QQ H locs ls hx hb hml hown ht hE hA hret hP hD hS hl
  have hK := hE.1
  have hl : lv_has ls 2 [(0, .ref (ad 0))] := hl
  have B42 : ∀ (n : Nat) (glvs : Int32) (gkps : Int32) (asav : Nat → Int64) (amsv : Nat → Int32) (amms : Nat → Int32) (y1 : Int32) (H : Heap) (locs : List Loc) (ls : Array Slot), wp_M_save_42 gthr greg gcon gfld gtrn gins glev gkep gwrd gsta gflt gend ghal gwro gwai gwpl gwrs ghlt glat glpl aval amrk amem post n glvs gkps asav amsv amms y1 → va_P D vwCl (W_M_save kT ad gthr greg gcon gfld gtrn gins glev gkep glvs gkps gwrd gsta gflt gend ghal gwro gwai gwpl gwrs ghlt glat glpl aval asav amrk amsv amem amms) H → va_D A (W_M_save kT ad gthr greg gcon gfld gtrn gins glev gkep glvs gkps gwrd gsta gflt gend ghal gwro gwai gwpl gwrs ghlt glat glpl aval asav amrk amsv amem amms) → va_S A s.heap H locs → lv_has ls 2 [(0, .ref (ad 0)), (1, .int y1)] → W p l e ({ frames := 0, cells := 0, slots := 0, locals := 0 }) s m AV below meth c H locs 0 0 QQ (F0 m 42 ls []) := by
    intro n
    induction n with
    | zero =>
      intro glvs gkps asav amsv amms y1 H locs ls h
      exact h.elim
    | succ n ih =>
      intro glvs gkps asav amsv amms y1 H locs ls h hP hD hS hl
      refine lv_iload_n hx hb zd_M_save_42 rfl (lv_at hl 1 rfl) ?_
      refine lv_sipush (v := 4096) hx hb zd_M_save_43 (by decide) ?_
      refine lv_icmp_ge (tgt := 67) hx hb zd_M_save_46 (by decide) (fun c_6 => ?_) (fun c_6 => ?_)
      · have h := zq_it c_6 h
        refine lv_aload_n hx hb zd_M_save_67 rfl (lv_at hl 0 rfl) ?_
        refine lv_aload_n hx hb zd_M_save_68 rfl (lv_at hl 0 rfl) ?_
        refine va_get (D := D) (ci := 10) (v := .int glev) (C := zR_M) (T := zF_M) (N := 52) hx hb ht zi_M hown hK hP 0 rfl rfl 29 (by decide) (ht _ zw_433) (fun _ h9 => h9) rfl zd_M_save_69 ?_
        refine va_put (D := D) (ci := 10) (v := .int glev) (ty := .int) (C := zR_M) (T := zF_M) (N := 52) hx hb ht zi_M zt_M zt_M_ok zn_M hown hK hP hD hS 0 rfl rfl 31 (by decide) (ht _ zw_524) (fun _ h9 => h9) rfl (by decide +kernel) rfl rfl (Nat.le_of_ble_eq_true rfl) zd_M_save_72 (fun H locs hP hD hS => ?_)
        have hP : va_P D vwCl (W_M_save kT ad gthr greg gcon gfld gtrn gins glev gkep glev gkps gwrd gsta gflt gend ghal gwro gwai gwpl gwrs ghlt glat glpl aval asav amrk amsv amem amms) H := hP
        have hD : va_D A (W_M_save kT ad gthr greg gcon gfld gtrn gins glev gkep glev gkps gwrd gsta gflt gend ghal gwro gwai gwpl gwrs ghlt glat glpl aval asav amrk amsv amem amms) := hD
        refine lv_aload_n hx hb zd_M_save_75 rfl (lv_at hl 0 rfl) ?_
        refine lv_aload_n hx hb zd_M_save_76 rfl (lv_at hl 0 rfl) ?_
        refine va_get (D := D) (ci := 10) (v := .int gkep) (C := zR_M) (T := zF_M) (N := 52) hx hb ht zi_M hown hK hP 0 rfl rfl 30 (by decide) (ht _ zw_430) (fun _ h9 => h9) rfl zd_M_save_77 ?_
        refine va_put (D := D) (ci := 10) (v := .int gkep) (ty := .int) (C := zR_M) (T := zF_M) (N := 52) hx hb ht zi_M zt_M zt_M_ok zn_M hown hK hP hD hS 0 rfl rfl 32 (by decide) (ht _ zw_525) (fun _ h9 => h9) rfl (by decide +kernel) rfl rfl (Nat.le_of_ble_eq_true rfl) zd_M_save_80 (fun H locs hP hD hS => ?_)
        have hP : va_P D vwCl (W_M_save kT ad gthr greg gcon gfld gtrn gins glev gkep glev gkep gwrd gsta gflt gend ghal gwro gwai gwpl gwrs ghlt glat glpl aval asav amrk amsv amem amms) H := hP
        have hD : va_D A (W_M_save kT ad gthr greg gcon gfld gtrn gins glev gkep glev gkep gwrd gsta gflt gend ghal gwro gwai gwpl gwrs ghlt glat glpl aval asav amrk amsv amem amms) := hD
        exact hret  _ H locs 83 ls ⟨glev, gkep, asav, amsv, amms, rfl, h⟩ hP rfl hS zd_M_save_83
      · have h := zq_if c_6 h
        refine lv_aload_n hx hb zd_M_save_49 rfl (lv_at hl 0 rfl) ?_
        refine va_get (D := D) (ci := 10) (v := .ref (ad 9)) (C := zR_M) (T := zF_M) (N := 52) hx hb ht zi_M hown hK hP 0 rfl rfl 10 (by decide) (ht _ zw_526) (fun _ h9 => h9) rfl zd_M_save_50 ?_
        refine lv_iload_n hx hb zd_M_save_53 rfl (lv_at hl 1 rfl) ?_
        refine lv_aload_n hx hb zd_M_save_54 rfl (lv_at hl 0 rfl) ?_
        refine va_get (D := D) (ci := 10) (v := .ref (ad 8)) (C := zR_M) (T := zF_M) (N := 52) hx hb ht zi_M hown hK hP 0 rfl rfl 9 (by decide) (ht _ zw_429) (fun _ h9 => h9) rfl zd_M_save_55 ?_
        refine lv_iload_n hx hb zd_M_save_58 rfl (lv_at hl 1 rfl) ?_
        obtain ⟨hi_7, h⟩ := h
        refine zq_a_bald (D := D) hx hb hK hP 5 3 rfl rfl hi_7 rfl zd_M_save_59 ?_
        obtain ⟨hi_8, h⟩ := h
        refine zq_a_bast (D := D) hx hb hK hP hD hS 6 3 rfl rfl hi_8 rfl zd_M_save_60 (fun H locs hP hD hS => ?_)
        have hP : va_P D vwCl (W_M_save kT ad gthr greg gcon gfld gtrn gins glev gkep glvs gkps gwrd gsta gflt gend ghal gwro gwai gwpl gwrs ghlt glat glpl aval asav amrk amsv amem (upd amms y1.toNatClampNeg (vp_nar .byte (amem y1.toNatClampNeg)))) H := hP
        have hD : va_D A (W_M_save kT ad gthr greg gcon gfld gtrn gins glev gkep glvs gkps gwrd gsta gflt gend ghal gwro gwai gwpl gwrs ghlt glat glpl aval asav amrk amsv amem (upd amms y1.toNatClampNeg (vp_nar .byte (amem y1.toNatClampNeg)))) := hD
        refine lv_iinc (v := (y1 + 1)) (lv' := [(1, .int (y1 + 1)), (0, .ref (ad 0))]) hx hb zd_M_save_61 hl (k := 1) rfl rfl (by decide) rfl (fun ls hl => ?_)
        refine lv_goto (tgt := 42) hx hb zd_M_save_64 (by decide) ?_
        exact ih glvs gkps asav amsv (upd amms y1.toNatClampNeg (vp_nar .byte (amem y1.toNatClampNeg))) (y1 + 1) H locs ls h hP hD hS (lv_sub hl [1, 0] rfl)
  have B2 : ∀ (n : Nat) (glvs : Int32) (gkps : Int32) (asav : Nat → Int64) (amsv : Nat → Int32) (amms : Nat → Int32) (y1 : Int32) (H : Heap) (locs : List Loc) (ls : Array Slot), wp_M_save_2 gthr greg gcon gfld gtrn gins glev gkep gwrd gsta gflt gend ghal gwro gwai gwpl gwrs ghlt glat glpl aval amrk amem post n glvs gkps asav amsv amms y1 → va_P D vwCl (W_M_save kT ad gthr greg gcon gfld gtrn gins glev gkep glvs gkps gwrd gsta gflt gend ghal gwro gwai gwpl gwrs ghlt glat glpl aval asav amrk amsv amem amms) H → va_D A (W_M_save kT ad gthr greg gcon gfld gtrn gins glev gkep glvs gkps gwrd gsta gflt gend ghal gwro gwai gwpl gwrs ghlt glat glpl aval asav amrk amsv amem amms) → va_S A s.heap H locs → lv_has ls 2 [(0, .ref (ad 0)), (1, .int y1)] → W p l e ({ frames := 0, cells := 0, slots := 0, locals := 0 }) s m AV below meth c H locs 0 0 QQ (F0 m 2 ls []) := by
    intro n
    induction n with
    | zero =>
      intro glvs gkps asav amsv amms y1 H locs ls h
      exact h.elim
    | succ n ih =>
      intro glvs gkps asav amsv amms y1 H locs ls h hP hD hS hl
      refine lv_iload_n hx hb zd_M_save_2 rfl (lv_at hl 1 rfl) ?_
      refine lv_aload_n hx hb zd_M_save_3 rfl (lv_at hl 0 rfl) ?_
      refine va_get (D := D) (ci := 10) (v := .int greg) (C := zR_M) (T := zF_M) (N := 52) hx hb ht zi_M hown hK hP 0 rfl rfl 1 (by decide) (ht _ zw_395) (fun _ h9 => h9) rfl zd_M_save_4 ?_
      refine lv_icmp_ge (tgt := 40) hx hb zd_M_save_7 (by decide) (fun c_1 => ?_) (fun c_1 => ?_)
      · have h := zq_it c_1 h
        refine lv_iconst (v := 0) hx hb zd_M_save_40 (by decide) ?_
        refine lv_istore_n (lv' := [(1, .int 0), (0, .ref (ad 0))]) hx hb zd_M_save_41 rfl hl (by decide) rfl (fun ls hl => ?_)
        obtain ⟨n, h⟩ := h
        exact B42 n glvs gkps asav amsv amms 0 H locs ls h hP hD hS (lv_sub hl [1, 0] rfl)
      · have h := zq_if c_1 h
        refine lv_aload_n hx hb zd_M_save_10 rfl (lv_at hl 0 rfl) ?_
        refine va_get (D := D) (ci := 10) (v := .ref (ad 4)) (C := zR_M) (T := zF_M) (N := 52) hx hb ht zi_M hown hK hP 0 rfl rfl 5 (by decide) (ht _ zw_522) (fun _ h9 => h9) rfl zd_M_save_11 ?_
        refine lv_iload_n hx hb zd_M_save_14 rfl (lv_at hl 1 rfl) ?_
        refine lv_aload_n hx hb zd_M_save_15 rfl (lv_at hl 0 rfl) ?_
        refine va_get (D := D) (ci := 10) (v := .ref (ad 2)) (C := zR_M) (T := zF_M) (N := 52) hx hb ht zi_M hown hK hP 0 rfl rfl 3 (by decide) (ht _ zw_400) (fun _ h9 => h9) rfl zd_M_save_16 ?_
        refine lv_iload_n hx hb zd_M_save_19 rfl (lv_at hl 1 rfl) ?_
        obtain ⟨hi_2, h⟩ := h
        refine zq_a_lald (D := D) hx hb hK hP 1 1 rfl rfl hi_2 rfl zd_M_save_20 ?_
        obtain ⟨hi_3, h⟩ := h
        refine zq_a_last (D := D) hx hb hK hP hD hS 2 1 rfl rfl hi_3 rfl zd_M_save_21 (fun H locs hP hD hS => ?_)
        have hP : va_P D vwCl (W_M_save kT ad gthr greg gcon gfld gtrn gins glev gkep glvs gkps gwrd gsta gflt gend ghal gwro gwai gwpl gwrs ghlt glat glpl aval (vp_updL asav y1.toNatClampNeg (aval y1.toNatClampNeg)) amrk amsv amem amms) H := hP
        have hD : va_D A (W_M_save kT ad gthr greg gcon gfld gtrn gins glev gkep glvs gkps gwrd gsta gflt gend ghal gwro gwai gwpl gwrs ghlt glat glpl aval (vp_updL asav y1.toNatClampNeg (aval y1.toNatClampNeg)) amrk amsv amem amms) := hD
        refine lv_aload_n hx hb zd_M_save_22 rfl (lv_at hl 0 rfl) ?_
        refine va_get (D := D) (ci := 10) (v := .ref (ad 7)) (C := zR_M) (T := zF_M) (N := 52) hx hb ht zi_M hown hK hP 0 rfl rfl 8 (by decide) (ht _ zw_523) (fun _ h9 => h9) rfl zd_M_save_23 ?_
        refine lv_iload_n hx hb zd_M_save_26 rfl (lv_at hl 1 rfl) ?_
        refine lv_aload_n hx hb zd_M_save_27 rfl (lv_at hl 0 rfl) ?_
        refine va_get (D := D) (ci := 10) (v := .ref (ad 5)) (C := zR_M) (T := zF_M) (N := 52) hx hb ht zi_M hown hK hP 0 rfl rfl 6 (by decide) (ht _ zw_401) (fun _ h9 => h9) rfl zd_M_save_28 ?_
        refine lv_iload_n hx hb zd_M_save_31 rfl (lv_at hl 1 rfl) ?_
        obtain ⟨hi_4, h⟩ := h
        refine zq_a_zald (D := D) hx hb hK hP 3 2 rfl rfl hi_4 rfl zd_M_save_32 ?_
        obtain ⟨hi_5, h⟩ := h
        refine zq_a_zast (D := D) hx hb hK hP hD hS 4 2 rfl rfl hi_5 rfl zd_M_save_33 (fun H locs hP hD hS => ?_)
        have hP : va_P D vwCl (W_M_save kT ad gthr greg gcon gfld gtrn gins glev gkep glvs gkps gwrd gsta gflt gend ghal gwro gwai gwpl gwrs ghlt glat glpl aval (vp_updL asav y1.toNatClampNeg (aval y1.toNatClampNeg)) amrk (upd amsv y1.toNatClampNeg (vp_nar .boolean (amrk y1.toNatClampNeg))) amem amms) H := hP
        have hD : va_D A (W_M_save kT ad gthr greg gcon gfld gtrn gins glev gkep glvs gkps gwrd gsta gflt gend ghal gwro gwai gwpl gwrs ghlt glat glpl aval (vp_updL asav y1.toNatClampNeg (aval y1.toNatClampNeg)) amrk (upd amsv y1.toNatClampNeg (vp_nar .boolean (amrk y1.toNatClampNeg))) amem amms) := hD
        refine lv_iinc (v := (y1 + 1)) (lv' := [(1, .int (y1 + 1)), (0, .ref (ad 0))]) hx hb zd_M_save_34 hl (k := 1) rfl rfl (by decide) rfl (fun ls hl => ?_)
        refine lv_goto (tgt := 2) hx hb zd_M_save_37 (by decide) ?_
        exact ih glvs gkps (vp_updL asav y1.toNatClampNeg (aval y1.toNatClampNeg)) (upd amsv y1.toNatClampNeg (vp_nar .boolean (amrk y1.toNatClampNeg))) amms (y1 + 1) H locs ls h hP hD hS (lv_sub hl [1, 0] rfl)
  refine lv_iconst (v := 0) hx hb zd_M_save_0 (by decide) ?_
  refine lv_istore_n (lv' := [(1, .int 0), (0, .ref (ad 0))]) hx hb zd_M_save_1 rfl hl (by decide) rfl (fun ls hl => ?_)
  obtain ⟨n, h⟩ := h
  exact B2 n glvs gkps asav amsv amms 0 H locs ls h hP hD hS (lv_sub hl [1, 0] rfl)
abbrev W_M_restore (kT : Nat → ClassId) (ad : Nat → Nat) (gthr : Int32) (greg : Int32) (gcon : Int32) (gfld : Int32) (gtrn : Int32) (gins : Int32) (glev : Int32) (gkep : Int32) (glvs : Int32) (gkps : Int32) (gwrd : Int32) (gsta : Int32) (gflt : Int32) (gend : Int32) (ghal : Int32) (gwro : Int32) (gwai : Int32) (gwpl : Int64) (gwrs : Int32) (ghlt : Int32) (glat : Int32) (glpl : Int32) (aval : Nat → Int64) (asav : Nat → Int64) (amrk : Nat → Int32) (amsv : Nat → Int32) (amem : Nat → Int32) (amms : Nat → Int32) : va_W := [(ad 0, .inr (10, [.int gthr, .int greg, .ref (ad 1), .ref (ad 2), .ref (ad 3), .ref (ad 4), .ref (ad 5), .ref (ad 6), .ref (ad 7), .ref (ad 8), .ref (ad 9), .int gcon, .int gfld, .int gtrn, .int gins, .ref (ad 10), .ref (ad 11), .ref (ad 12), .ref (ad 13), .ref (ad 14), .ref (ad 15), .ref (ad 16), .ref (ad 17), .ref (ad 18), .ref (ad 19), .ref (ad 20), .ref (ad 21), .ref (ad 22), .ref (ad 23), .int glev, .int gkep, .int glvs, .int gkps, .ref (ad 24), .ref (ad 25), .int gwrd, .int gsta, .int gflt, .int gend, .int ghal, .int gwro, .int gwai, .long gwpl, .int gwrs, .ref (ad 26), .ref (ad 27), .ref (ad 28), .ref (ad 29), .int ghlt, .int glat, .int glpl, .ref (ad 30)])), (ad 2, .inl (kT 1, 24, .inr (.inl aval))), (ad 4, .inl (kT 1, 24, .inr (.inl asav))), (ad 5, .inl (kT 2, 24, .inl amrk)), (ad 7, .inl (kT 2, 24, .inl amsv)), (ad 8, .inl (kT 3, 4096, .inl amem)), (ad 9, .inl (kT 3, 4096, .inl amms))]
abbrev A_M_restore (ad : Nat → Nat) : List Nat := [ad 0, ad 2, ad 4, ad 5, ad 7, ad 8, ad 9]
def wp_M_restore_42 (gthr : Int32) (greg : Int32) (gcon : Int32) (gfld : Int32) (gtrn : Int32) (gins : Int32) (glvs : Int32) (gkps : Int32) (gwrd : Int32) (gsta : Int32) (gflt : Int32) (gend : Int32) (gwro : Int32) (gwai : Int32) (gwpl : Int64) (gwrs : Int32) (ghlt : Int32) (glat : Int32) (glpl : Int32) (asav : Nat → Int64) (amsv : Nat → Int32) (amms : Nat → Int32) (post : Int32 → Int32 → Int32 → (Nat → Int64) → (Nat → Int32) → (Nat → Int32) → Prop) : Nat → (Int32) → (Int32) → (Int32) → (Nat → Int64) → (Nat → Int32) → (Nat → Int32) → Int32 → Prop
  | 0 => fun _ _ _ _ _ _ _ => False
  | n + 1 => fun glev gkep ghal aval amrk amem y1 => (if 4096 ≤ y1 then post  glvs gkps 0 aval amrk amem else vp_in y1 4096 ∧ vp_in y1 4096 ∧ wp_M_restore_42 gthr greg gcon gfld gtrn gins glvs gkps gwrd gsta gflt gend gwro gwai gwpl gwrs ghlt glat glpl asav amsv amms post n glev gkep ghal aval amrk (upd amem y1.toNatClampNeg (vp_nar .byte (amms y1.toNatClampNeg))) (y1 + 1))
def wp_M_restore_2 (gthr : Int32) (greg : Int32) (gcon : Int32) (gfld : Int32) (gtrn : Int32) (gins : Int32) (glvs : Int32) (gkps : Int32) (gwrd : Int32) (gsta : Int32) (gflt : Int32) (gend : Int32) (gwro : Int32) (gwai : Int32) (gwpl : Int64) (gwrs : Int32) (ghlt : Int32) (glat : Int32) (glpl : Int32) (asav : Nat → Int64) (amsv : Nat → Int32) (amms : Nat → Int32) (post : Int32 → Int32 → Int32 → (Nat → Int64) → (Nat → Int32) → (Nat → Int32) → Prop) : Nat → (Int32) → (Int32) → (Int32) → (Nat → Int64) → (Nat → Int32) → (Nat → Int32) → Int32 → Prop
  | 0 => fun _ _ _ _ _ _ _ => False
  | n + 1 => fun glev gkep ghal aval amrk amem y1 => (if greg ≤ y1 then ∃ n, wp_M_restore_42 gthr greg gcon gfld gtrn gins glvs gkps gwrd gsta gflt gend gwro gwai gwpl gwrs ghlt glat glpl asav amsv amms post n glev gkep ghal aval amrk amem 0 else vp_in y1 24 ∧ vp_in y1 24 ∧ vp_in y1 24 ∧ vp_in y1 24 ∧ wp_M_restore_2 gthr greg gcon gfld gtrn gins glvs gkps gwrd gsta gflt gend gwro gwai gwpl gwrs ghlt glat glpl asav amsv amms post n glev gkep ghal (vp_updL aval y1.toNatClampNeg (asav y1.toNatClampNeg)) (upd amrk y1.toNatClampNeg (vp_nar .boolean (amsv y1.toNatClampNeg))) amem (y1 + 1))
def wp_M_restore (gthr : Int32) (greg : Int32) (gcon : Int32) (gfld : Int32) (gtrn : Int32) (gins : Int32) (glev : Int32) (gkep : Int32) (glvs : Int32) (gkps : Int32) (gwrd : Int32) (gsta : Int32) (gflt : Int32) (gend : Int32) (ghal : Int32) (gwro : Int32) (gwai : Int32) (gwpl : Int64) (gwrs : Int32) (ghlt : Int32) (glat : Int32) (glpl : Int32) (aval : Nat → Int64) (asav : Nat → Int64) (amrk : Nat → Int32) (amsv : Nat → Int32) (amem : Nat → Int32) (amms : Nat → Int32)  (post : Int32 → Int32 → Int32 → (Nat → Int64) → (Nat → Int32) → (Nat → Int32) → Prop) : Prop := ∃ n, wp_M_restore_2 gthr greg gcon gfld gtrn gins glvs gkps gwrd gsta gflt gend gwro gwai gwpl gwrs ghlt glat glpl asav amsv amms post n glev gkep ghal aval amrk amem 0
set_option maxHeartbeats 4000000 in
set_option maxRecDepth 100000 in
theorem c_M_restore (l : Launch) (D : va_G) (kT : Nat → ClassId) (ad : Nat → Nat) (gthr : Int32) (greg : Int32) (gcon : Int32) (gfld : Int32) (gtrn : Int32) (gins : Int32) (glev : Int32) (gkep : Int32) (glvs : Int32) (gkps : Int32) (gwrd : Int32) (gsta : Int32) (gflt : Int32) (gend : Int32) (ghal : Int32) (gwro : Int32) (gwai : Int32) (gwpl : Int64) (gwrs : Int32) (ghlt : Int32) (glat : Int32) (glpl : Int32) (aval : Nat → Int64) (asav : Nat → Int64) (amrk : Nat → Int32) (amsv : Nat → Int32) (amem : Nat → Int32) (amms : Nat → Int32)  (post : Int32 → Int32 → Int32 → (Nat → Int64) → (Nat → Int32) → (Nat → Int32) → Prop) (h : wp_M_restore gthr greg gcon gfld gtrn gins glev gkep glvs gkps gwrd gsta gflt gend ghal gwro gwai gwpl gwrs ghlt glat glpl aval asav amrk amsv amem amms  post) : zq_Mv l zy_M_restore zs_M_restore ({ frames := 0, cells := 0, slots := 0, locals := 0 }) D kT [.ref (ad 0)] (W_M_restore kT ad gthr greg gcon gfld gtrn gins glev gkep glvs gkps gwrd gsta gflt gend ghal gwro gwai gwpl gwrs ghlt glat glpl aval asav amrk amsv amem amms) (fun w' => ∃ (glev' : Int32) (gkep' : Int32) (ghal' : Int32) (aval' : Nat → Int64) (amrk' : Nat → Int32) (amem' : Nat → Int32), w' = (W_M_restore kT ad gthr greg gcon gfld gtrn gins glev' gkep' glvs gkps gwrd gsta gflt gend ghal' gwro gwai gwpl gwrs ghlt glat glpl aval' asav amrk' amsv amem' amms) ∧ post  glev' gkep' ghal' aval' amrk' amem') := by
  refine zq_Mv_of (adl := (A_M_restore ad)) (cc := zb_M_restore) (maxL := 2) (own := zR_M) rfl (by decide) rfl rfl (Nat.le_of_ble_eq_true rfl) ?_
  intro p e s m AV below meth c A QQ H locs ls hx hb hml hown ht hE hA hret hP hD hS hl
  have hK := hE.1
  have hl : lv_has ls 2 [(0, .ref (ad 0))] := hl
  have B42 : ∀ (n : Nat) (glev : Int32) (gkep : Int32) (ghal : Int32) (aval : Nat → Int64) (amrk : Nat → Int32) (amem : Nat → Int32) (y1 : Int32) (H : Heap) (locs : List Loc) (ls : Array Slot), wp_M_restore_42 gthr greg gcon gfld gtrn gins glvs gkps gwrd gsta gflt gend gwro gwai gwpl gwrs ghlt glat glpl asav amsv amms post n glev gkep ghal aval amrk amem y1 → va_P D vwCl (W_M_restore kT ad gthr greg gcon gfld gtrn gins glev gkep glvs gkps gwrd gsta gflt gend ghal gwro gwai gwpl gwrs ghlt glat glpl aval asav amrk amsv amem amms) H → va_D A (W_M_restore kT ad gthr greg gcon gfld gtrn gins glev gkep glvs gkps gwrd gsta gflt gend ghal gwro gwai gwpl gwrs ghlt glat glpl aval asav amrk amsv amem amms) → va_S A s.heap H locs → lv_has ls 2 [(0, .ref (ad 0)), (1, .int y1)] → W p l e ({ frames := 0, cells := 0, slots := 0, locals := 0 }) s m AV below meth c H locs 0 0 QQ (F0 m 42 ls []) := by
    intro n
    induction n with
    | zero =>
      intro glev gkep ghal aval amrk amem y1 H locs ls h
      exact h.elim
    | succ n ih =>
      intro glev gkep ghal aval amrk amem y1 H locs ls h hP hD hS hl
      refine lv_iload_n hx hb zd_M_restore_42 rfl (lv_at hl 1 rfl) ?_
      refine lv_sipush (v := 4096) hx hb zd_M_restore_43 (by decide) ?_
      refine lv_icmp_ge (tgt := 67) hx hb zd_M_restore_46 (by decide) (fun c_6 => ?_) (fun c_6 => ?_)
      · have h := zq_it c_6 h
        refine lv_aload_n hx hb zd_M_restore_67 rfl (lv_at hl 0 rfl) ?_
        refine lv_aload_n hx hb zd_M_restore_68 rfl (lv_at hl 0 rfl) ?_
        refine va_get (D := D) (ci := 10) (v := .int glvs) (C := zR_M) (T := zF_M) (N := 52) hx hb ht zi_M hown hK hP 0 rfl rfl 31 (by decide) (ht _ zw_524) (fun _ h9 => h9) rfl zd_M_restore_69 ?_
        refine va_put (D := D) (ci := 10) (v := .int glvs) (ty := .int) (C := zR_M) (T := zF_M) (N := 52) hx hb ht zi_M zt_M zt_M_ok zn_M hown hK hP hD hS 0 rfl rfl 29 (by decide) (ht _ zw_433) (fun _ h9 => h9) rfl (by decide +kernel) rfl rfl (Nat.le_of_ble_eq_true rfl) zd_M_restore_72 (fun H locs hP hD hS => ?_)
        have hP : va_P D vwCl (W_M_restore kT ad gthr greg gcon gfld gtrn gins glvs gkep glvs gkps gwrd gsta gflt gend ghal gwro gwai gwpl gwrs ghlt glat glpl aval asav amrk amsv amem amms) H := hP
        have hD : va_D A (W_M_restore kT ad gthr greg gcon gfld gtrn gins glvs gkep glvs gkps gwrd gsta gflt gend ghal gwro gwai gwpl gwrs ghlt glat glpl aval asav amrk amsv amem amms) := hD
        refine lv_aload_n hx hb zd_M_restore_75 rfl (lv_at hl 0 rfl) ?_
        refine lv_aload_n hx hb zd_M_restore_76 rfl (lv_at hl 0 rfl) ?_
        refine va_get (D := D) (ci := 10) (v := .int gkps) (C := zR_M) (T := zF_M) (N := 52) hx hb ht zi_M hown hK hP 0 rfl rfl 32 (by decide) (ht _ zw_525) (fun _ h9 => h9) rfl zd_M_restore_77 ?_
        refine va_put (D := D) (ci := 10) (v := .int gkps) (ty := .int) (C := zR_M) (T := zF_M) (N := 52) hx hb ht zi_M zt_M zt_M_ok zn_M hown hK hP hD hS 0 rfl rfl 30 (by decide) (ht _ zw_430) (fun _ h9 => h9) rfl (by decide +kernel) rfl rfl (Nat.le_of_ble_eq_true rfl) zd_M_restore_80 (fun H locs hP hD hS => ?_)
        have hP : va_P D vwCl (W_M_restore kT ad gthr greg gcon gfld gtrn gins glvs gkps glvs gkps gwrd gsta gflt gend ghal gwro gwai gwpl gwrs ghlt glat glpl aval asav amrk amsv amem amms) H := hP
        have hD : va_D A (W_M_restore kT ad gthr greg gcon gfld gtrn gins glvs gkps glvs gkps gwrd gsta gflt gend ghal gwro gwai gwpl gwrs ghlt glat glpl aval asav amrk amsv amem amms) := hD
        refine lv_aload_n hx hb zd_M_restore_83 rfl (lv_at hl 0 rfl) ?_
        refine lv_iconst (v := 0) hx hb zd_M_restore_84 (by decide) ?_
        refine va_put (D := D) (ci := 10) (v := .int 0) (ty := .boolean) (C := zR_M) (T := zF_M) (N := 52) hx hb ht zi_M zt_M zt_M_ok zn_M hown hK hP hD hS 0 rfl rfl 39 (by decide) (ht _ zw_513) (fun _ h9 => h9) rfl (by decide +kernel) rfl rfl (Nat.le_of_ble_eq_true rfl) zd_M_restore_85 (fun H locs hP hD hS => ?_)
        have hP : va_P D vwCl (W_M_restore kT ad gthr greg gcon gfld gtrn gins glvs gkps glvs gkps gwrd gsta gflt gend 0 gwro gwai gwpl gwrs ghlt glat glpl aval asav amrk amsv amem amms) H := hP
        have hD : va_D A (W_M_restore kT ad gthr greg gcon gfld gtrn gins glvs gkps glvs gkps gwrd gsta gflt gend 0 gwro gwai gwpl gwrs ghlt glat glpl aval asav amrk amsv amem amms) := hD
        exact hret  _ H locs 88 ls ⟨glvs, gkps, 0, aval, amrk, amem, rfl, h⟩ hP rfl hS zd_M_restore_88
      · have h := zq_if c_6 h
        refine lv_aload_n hx hb zd_M_restore_49 rfl (lv_at hl 0 rfl) ?_
        refine va_get (D := D) (ci := 10) (v := .ref (ad 8)) (C := zR_M) (T := zF_M) (N := 52) hx hb ht zi_M hown hK hP 0 rfl rfl 9 (by decide) (ht _ zw_429) (fun _ h9 => h9) rfl zd_M_restore_50 ?_
        refine lv_iload_n hx hb zd_M_restore_53 rfl (lv_at hl 1 rfl) ?_
        refine lv_aload_n hx hb zd_M_restore_54 rfl (lv_at hl 0 rfl) ?_
        refine va_get (D := D) (ci := 10) (v := .ref (ad 9)) (C := zR_M) (T := zF_M) (N := 52) hx hb ht zi_M hown hK hP 0 rfl rfl 10 (by decide) (ht _ zw_526) (fun _ h9 => h9) rfl zd_M_restore_55 ?_
        refine lv_iload_n hx hb zd_M_restore_58 rfl (lv_at hl 1 rfl) ?_
        obtain ⟨hi_7, h⟩ := h
        refine zq_a_bald (D := D) hx hb hK hP 6 3 rfl rfl hi_7 rfl zd_M_restore_59 ?_
        obtain ⟨hi_8, h⟩ := h
        refine zq_a_bast (D := D) hx hb hK hP hD hS 5 3 rfl rfl hi_8 rfl zd_M_restore_60 (fun H locs hP hD hS => ?_)
        have hP : va_P D vwCl (W_M_restore kT ad gthr greg gcon gfld gtrn gins glev gkep glvs gkps gwrd gsta gflt gend ghal gwro gwai gwpl gwrs ghlt glat glpl aval asav amrk amsv (upd amem y1.toNatClampNeg (vp_nar .byte (amms y1.toNatClampNeg))) amms) H := hP
        have hD : va_D A (W_M_restore kT ad gthr greg gcon gfld gtrn gins glev gkep glvs gkps gwrd gsta gflt gend ghal gwro gwai gwpl gwrs ghlt glat glpl aval asav amrk amsv (upd amem y1.toNatClampNeg (vp_nar .byte (amms y1.toNatClampNeg))) amms) := hD
        refine lv_iinc (v := (y1 + 1)) (lv' := [(1, .int (y1 + 1)), (0, .ref (ad 0))]) hx hb zd_M_restore_61 hl (k := 1) rfl rfl (by decide) rfl (fun ls hl => ?_)
        refine lv_goto (tgt := 42) hx hb zd_M_restore_64 (by decide) ?_
        exact ih glev gkep ghal aval amrk (upd amem y1.toNatClampNeg (vp_nar .byte (amms y1.toNatClampNeg))) (y1 + 1) H locs ls h hP hD hS (lv_sub hl [1, 0] rfl)
  have B2 : ∀ (n : Nat) (glev : Int32) (gkep : Int32) (ghal : Int32) (aval : Nat → Int64) (amrk : Nat → Int32) (amem : Nat → Int32) (y1 : Int32) (H : Heap) (locs : List Loc) (ls : Array Slot), wp_M_restore_2 gthr greg gcon gfld gtrn gins glvs gkps gwrd gsta gflt gend gwro gwai gwpl gwrs ghlt glat glpl asav amsv amms post n glev gkep ghal aval amrk amem y1 → va_P D vwCl (W_M_restore kT ad gthr greg gcon gfld gtrn gins glev gkep glvs gkps gwrd gsta gflt gend ghal gwro gwai gwpl gwrs ghlt glat glpl aval asav amrk amsv amem amms) H → va_D A (W_M_restore kT ad gthr greg gcon gfld gtrn gins glev gkep glvs gkps gwrd gsta gflt gend ghal gwro gwai gwpl gwrs ghlt glat glpl aval asav amrk amsv amem amms) → va_S A s.heap H locs → lv_has ls 2 [(0, .ref (ad 0)), (1, .int y1)] → W p l e ({ frames := 0, cells := 0, slots := 0, locals := 0 }) s m AV below meth c H locs 0 0 QQ (F0 m 2 ls []) := by
    intro n
    induction n with
    | zero =>
      intro glev gkep ghal aval amrk amem y1 H locs ls h
      exact h.elim
    | succ n ih =>
      intro glev gkep ghal aval amrk amem y1 H locs ls h hP hD hS hl
      refine lv_iload_n hx hb zd_M_restore_2 rfl (lv_at hl 1 rfl) ?_
      refine lv_aload_n hx hb zd_M_restore_3 rfl (lv_at hl 0 rfl) ?_
      refine va_get (D := D) (ci := 10) (v := .int greg) (C := zR_M) (T := zF_M) (N := 52) hx hb ht zi_M hown hK hP 0 rfl rfl 1 (by decide) (ht _ zw_395) (fun _ h9 => h9) rfl zd_M_restore_4 ?_
      refine lv_icmp_ge (tgt := 40) hx hb zd_M_restore_7 (by decide) (fun c_1 => ?_) (fun c_1 => ?_)
      · have h := zq_it c_1 h
        refine lv_iconst (v := 0) hx hb zd_M_restore_40 (by decide) ?_
        refine lv_istore_n (lv' := [(1, .int 0), (0, .ref (ad 0))]) hx hb zd_M_restore_41 rfl hl (by decide) rfl (fun ls hl => ?_)
        obtain ⟨n, h⟩ := h
        exact B42 n glev gkep ghal aval amrk amem 0 H locs ls h hP hD hS (lv_sub hl [1, 0] rfl)
      · have h := zq_if c_1 h
        refine lv_aload_n hx hb zd_M_restore_10 rfl (lv_at hl 0 rfl) ?_
        refine va_get (D := D) (ci := 10) (v := .ref (ad 2)) (C := zR_M) (T := zF_M) (N := 52) hx hb ht zi_M hown hK hP 0 rfl rfl 3 (by decide) (ht _ zw_400) (fun _ h9 => h9) rfl zd_M_restore_11 ?_
        refine lv_iload_n hx hb zd_M_restore_14 rfl (lv_at hl 1 rfl) ?_
        refine lv_aload_n hx hb zd_M_restore_15 rfl (lv_at hl 0 rfl) ?_
        refine va_get (D := D) (ci := 10) (v := .ref (ad 4)) (C := zR_M) (T := zF_M) (N := 52) hx hb ht zi_M hown hK hP 0 rfl rfl 5 (by decide) (ht _ zw_522) (fun _ h9 => h9) rfl zd_M_restore_16 ?_
        refine lv_iload_n hx hb zd_M_restore_19 rfl (lv_at hl 1 rfl) ?_
        obtain ⟨hi_2, h⟩ := h
        refine zq_a_lald (D := D) hx hb hK hP 2 1 rfl rfl hi_2 rfl zd_M_restore_20 ?_
        obtain ⟨hi_3, h⟩ := h
        refine zq_a_last (D := D) hx hb hK hP hD hS 1 1 rfl rfl hi_3 rfl zd_M_restore_21 (fun H locs hP hD hS => ?_)
        have hP : va_P D vwCl (W_M_restore kT ad gthr greg gcon gfld gtrn gins glev gkep glvs gkps gwrd gsta gflt gend ghal gwro gwai gwpl gwrs ghlt glat glpl (vp_updL aval y1.toNatClampNeg (asav y1.toNatClampNeg)) asav amrk amsv amem amms) H := hP
        have hD : va_D A (W_M_restore kT ad gthr greg gcon gfld gtrn gins glev gkep glvs gkps gwrd gsta gflt gend ghal gwro gwai gwpl gwrs ghlt glat glpl (vp_updL aval y1.toNatClampNeg (asav y1.toNatClampNeg)) asav amrk amsv amem amms) := hD
        refine lv_aload_n hx hb zd_M_restore_22 rfl (lv_at hl 0 rfl) ?_
        refine va_get (D := D) (ci := 10) (v := .ref (ad 5)) (C := zR_M) (T := zF_M) (N := 52) hx hb ht zi_M hown hK hP 0 rfl rfl 6 (by decide) (ht _ zw_401) (fun _ h9 => h9) rfl zd_M_restore_23 ?_
        refine lv_iload_n hx hb zd_M_restore_26 rfl (lv_at hl 1 rfl) ?_
        refine lv_aload_n hx hb zd_M_restore_27 rfl (lv_at hl 0 rfl) ?_
        refine va_get (D := D) (ci := 10) (v := .ref (ad 7)) (C := zR_M) (T := zF_M) (N := 52) hx hb ht zi_M hown hK hP 0 rfl rfl 8 (by decide) (ht _ zw_523) (fun _ h9 => h9) rfl zd_M_restore_28 ?_
        refine lv_iload_n hx hb zd_M_restore_31 rfl (lv_at hl 1 rfl) ?_
        obtain ⟨hi_4, h⟩ := h
        refine zq_a_zald (D := D) hx hb hK hP 4 2 rfl rfl hi_4 rfl zd_M_restore_32 ?_
        obtain ⟨hi_5, h⟩ := h
        refine zq_a_zast (D := D) hx hb hK hP hD hS 3 2 rfl rfl hi_5 rfl zd_M_restore_33 (fun H locs hP hD hS => ?_)
        have hP : va_P D vwCl (W_M_restore kT ad gthr greg gcon gfld gtrn gins glev gkep glvs gkps gwrd gsta gflt gend ghal gwro gwai gwpl gwrs ghlt glat glpl (vp_updL aval y1.toNatClampNeg (asav y1.toNatClampNeg)) asav (upd amrk y1.toNatClampNeg (vp_nar .boolean (amsv y1.toNatClampNeg))) amsv amem amms) H := hP
        have hD : va_D A (W_M_restore kT ad gthr greg gcon gfld gtrn gins glev gkep glvs gkps gwrd gsta gflt gend ghal gwro gwai gwpl gwrs ghlt glat glpl (vp_updL aval y1.toNatClampNeg (asav y1.toNatClampNeg)) asav (upd amrk y1.toNatClampNeg (vp_nar .boolean (amsv y1.toNatClampNeg))) amsv amem amms) := hD
        refine lv_iinc (v := (y1 + 1)) (lv' := [(1, .int (y1 + 1)), (0, .ref (ad 0))]) hx hb zd_M_restore_34 hl (k := 1) rfl rfl (by decide) rfl (fun ls hl => ?_)
        refine lv_goto (tgt := 2) hx hb zd_M_restore_37 (by decide) ?_
        exact ih glev gkep ghal (vp_updL aval y1.toNatClampNeg (asav y1.toNatClampNeg)) (upd amrk y1.toNatClampNeg (vp_nar .boolean (amsv y1.toNatClampNeg))) amem (y1 + 1) H locs ls h hP hD hS (lv_sub hl [1, 0] rfl)
  refine lv_iconst (v := 0) hx hb zd_M_restore_0 (by decide) ?_
  refine lv_istore_n (lv' := [(1, .int 0), (0, .ref (ad 0))]) hx hb zd_M_restore_1 rfl hl (by decide) rfl (fun ls hl => ?_)
  obtain ⟨n, h⟩ := h
  exact B2 n glev gkep ghal aval amrk amem 0 H locs ls h hP hD hS (lv_sub hl [1, 0] rfl)
