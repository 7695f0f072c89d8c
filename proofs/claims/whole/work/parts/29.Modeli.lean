abbrev W_M_get (kT : Nat → ClassId) (ad : Nat → Nat) (gthr : Int32) (greg : Int32) (gcon : Int32) (gfld : Int32) (gtrn : Int32) (gins : Int32) (glev : Int32) (gkep : Int32) (glvs : Int32) (gkps : Int32) (gwrd : Int32) (gsta : Int32) (gflt : Int32) (gend : Int32) (ghal : Int32) (gwro : Int32) (gwai : Int32) (gwpl : Int64) (gwrs : Int32) (ghlt : Int32) (glat : Int32) (glpl : Int32) (aval : Nat → Int64) : va_W := [(ad 0, .inr (10, [.int gthr, .int greg, .ref (ad 1), .ref (ad 2), .ref (ad 3), .ref (ad 4), .ref (ad 5), .ref (ad 6), .ref (ad 7), .ref (ad 8), .ref (ad 9), .int gcon, .int gfld, .int gtrn, .int gins, .ref (ad 10), .ref (ad 11), .ref (ad 12), .ref (ad 13), .ref (ad 14), .ref (ad 15), .ref (ad 16), .ref (ad 17), .ref (ad 18), .ref (ad 19), .ref (ad 20), .ref (ad 21), .ref (ad 22), .ref (ad 23), .int glev, .int gkep, .int glvs, .int gkps, .ref (ad 24), .ref (ad 25), .int gwrd, .int gsta, .int gflt, .int gend, .int ghal, .int gwro, .int gwai, .long gwpl, .int gwrs, .ref (ad 26), .ref (ad 27), .ref (ad 28), .ref (ad 29), .int ghlt, .int glat, .int glpl, .ref (ad 30)])), (ad 2, .inl (kT 1, 24, .inr (.inl aval)))]
abbrev A_M_get (ad : Nat → Nat) : List Nat := [ad 0, ad 2]
def wp_M_get (gthr : Int32) (greg : Int32) (gcon : Int32) (gfld : Int32) (gtrn : Int32) (gins : Int32) (glev : Int32) (gkep : Int32) (glvs : Int32) (gkps : Int32) (gwrd : Int32) (gsta : Int32) (gflt : Int32) (gend : Int32) (ghal : Int32) (gwro : Int32) (gwai : Int32) (gwpl : Int64) (gwrs : Int32) (ghlt : Int32) (glat : Int32) (glpl : Int32) (aval : Nat → Int64) (p0 : Int32) (post : Int64 → Int32 → Prop) : Prop := wp_M_isRegister gthr greg gcon gfld gtrn gins glev gkep glvs gkps gwrd gsta gflt gend ghal gwro gwai gwpl gwrs ghlt glat glpl p0 (fun r_2 gthr_1 => (if r_2 = 0 then post 0 gthr_1 else vp_in p0 24 ∧ post (aval p0.toNatClampNeg) gthr_1))
set_option maxHeartbeats 4000000 in
set_option maxRecDepth 100000 in
theorem c_M_get (l : Launch) (D : va_G) (kT : Nat → ClassId) (ad : Nat → Nat) (gthr : Int32) (greg : Int32) (gcon : Int32) (gfld : Int32) (gtrn : Int32) (gins : Int32) (glev : Int32) (gkep : Int32) (glvs : Int32) (gkps : Int32) (gwrd : Int32) (gsta : Int32) (gflt : Int32) (gend : Int32) (ghal : Int32) (gwro : Int32) (gwai : Int32) (gwpl : Int64) (gwrs : Int32) (ghlt : Int32) (glat : Int32) (glpl : Int32) (aval : Nat → Int64) (p0 : Int32) (post : Int64 → Int32 → Prop) (h : wp_M_get gthr greg gcon gfld gtrn gins glev gkep glvs gkps gwrd gsta gflt gend ghal gwro gwai gwpl gwrs ghlt glat glpl aval p0 post) : zq_Ml l zy_M_get zs_M_get ({ frames := 2, cells := 0, slots := 0, locals := 46 }) D kT [.ref (ad 0), .int p0] (W_M_get kT ad gthr greg gcon gfld gtrn gins glev gkep glvs gkps gwrd gsta gflt gend ghal gwro gwai gwpl gwrs ghlt glat glpl aval) (fun r w' => ∃ (gthr' : Int32), w' = (W_M_get kT ad gthr' greg gcon gfld gtrn gins glev gkep glvs gkps gwrd gsta gflt gend ghal gwro gwai gwpl gwrs ghlt glat glpl aval) ∧ post r gthr') := by
  refine zq_Ml_of (adl := (A_M_get ad)) (cc := zb_M_get) (maxL := 2) (own := zR_M) rfl (by decide) rfl rfl (Nat.le_of_ble_eq_true rfl) ?_
  intro p e s m AV below meth c A QQ H locs ls hx hb hml hown ht hE hA hret hP hD hS hl
  have hK := hE.1
  have hl : lv_has ls 2 [(0, .ref (ad 0)), (1, .int p0)] := hl
  refine lv_aload_n hx hb zd_M_get_0 rfl (lv_at hl 0 rfl) ?_
  refine lv_iload_n hx hb zd_M_get_1 rfl (lv_at hl 1 rfl) ?_
  refine zq_c_Vi (rest := []) (adl := (A_M_get ad)) (wr := [(ad 2, .inl (kT 1, 24, .inr (.inl aval)))]) ⟨hx, hb, hml, hown, ht⟩ (c_M_isRegister l D kT ad gthr greg gcon gfld gtrn gins glev gkep glvs gkps gwrd gsta gflt gend ghal gwro gwai gwpl gwrs ghlt glat glpl p0 _ h) (cwV 1 ht (zq_gV zw_574 zw_575 zw_576 zw_393 zw_577) rfl rfl rfl zh_M_isRegister ⟨Nat.le_of_ble_eq_true rfl, Nat.le_of_ble_eq_true rfl⟩) hE hP hD hS hA [0] [1] 2 rfl (by decide +kernel) rfl (by decide +kernel) rfl rfl 0 rfl rfl rfl rfl hl.1 (Nat.le_of_ble_eq_true rfl) rfl zd_M_get_2 ⟨Nat.zero_le _, Nat.zero_le _⟩ (fun r_2 w1 H locs hw hJ hS => ?_)
  obtain ⟨gthr_1, rfl, h⟩ := hw
  obtain ⟨hP, hD⟩ := hJ (W_M_get kT ad gthr_1 greg gcon gfld gtrn gins glev gkep glvs gkps gwrd gsta gflt gend ghal gwro gwai gwpl gwrs ghlt glat glpl aval) rfl rfl rfl
  refine lv_if_eq (tgt := 17) hx hb zd_M_get_5 (by decide) (fun c_3 => ?_) (fun c_3 => ?_)
  · have h := zq_it c_3 h
    refine lv_lconst (v := 0) hx hb zd_M_get_17 (by decide) ?_
    exact hret 0  _ H locs 18 ls ⟨gthr_1, rfl, h⟩ hP rfl hS zd_M_get_18
  · have h := zq_if c_3 h
    refine lv_aload_n hx hb zd_M_get_8 rfl (lv_at hl 0 rfl) ?_
    refine va_get (D := D) (ci := 10) (v := .ref (ad 2)) (C := zR_M) (T := zF_M) (N := 52) hx hb ht zi_M hown hK hP 0 rfl rfl 3 (by decide) (ht _ zw_400) (fun _ h9 => h9) rfl zd_M_get_9 ?_
    refine lv_iload_n hx hb zd_M_get_12 rfl (lv_at hl 1 rfl) ?_
    obtain ⟨hi_4, h⟩ := h
    refine zq_a_lald (D := D) hx hb hK hP 1 1 rfl rfl hi_4 rfl zd_M_get_13 ?_
    refine lv_goto (tgt := 18) hx hb zd_M_get_14 (by decide) ?_
    exact hret (aval p0.toNatClampNeg)  _ H locs 18 ls ⟨gthr_1, rfl, h⟩ hP rfl hS zd_M_get_18
abbrev W_M_mark (kT : Nat → ClassId) (ad : Nat → Nat) (gthr : Int32) (greg : Int32) (gcon : Int32) (gfld : Int32) (gtrn : Int32) (gins : Int32) (glev : Int32) (gkep : Int32) (glvs : Int32) (gkps : Int32) (gwrd : Int32) (gsta : Int32) (gflt : Int32) (gend : Int32) (ghal : Int32) (gwro : Int32) (gwai : Int32) (gwpl : Int64) (gwrs : Int32) (ghlt : Int32) (glat : Int32) (glpl : Int32) (amrk : Nat → Int32) : va_W := [(ad 0, .inr (10, [.int gthr, .int greg, .ref (ad 1), .ref (ad 2), .ref (ad 3), .ref (ad 4), .ref (ad 5), .ref (ad 6), .ref (ad 7), .ref (ad 8), .ref (ad 9), .int gcon, .int gfld, .int gtrn, .int gins, .ref (ad 10), .ref (ad 11), .ref (ad 12), .ref (ad 13), .ref (ad 14), .ref (ad 15), .ref (ad 16), .ref (ad 17), .ref (ad 18), .ref (ad 19), .ref (ad 20), .ref (ad 21), .ref (ad 22), .ref (ad 23), .int glev, .int gkep, .int glvs, .int gkps, .ref (ad 24), .ref (ad 25), .int gwrd, .int gsta, .int gflt, .int gend, .int ghal, .int gwro, .int gwai, .long gwpl, .int gwrs, .ref (ad 26), .ref (ad 27), .ref (ad 28), .ref (ad 29), .int ghlt, .int glat, .int glpl, .ref (ad 30)])), (ad 5, .inl (kT 2, 24, .inl amrk))]
abbrev A_M_mark (ad : Nat → Nat) : List Nat := [ad 0, ad 5]
def wp_M_mark (gthr : Int32) (greg : Int32) (gcon : Int32) (gfld : Int32) (gtrn : Int32) (gins : Int32) (glev : Int32) (gkep : Int32) (glvs : Int32) (gkps : Int32) (gwrd : Int32) (gsta : Int32) (gflt : Int32) (gend : Int32) (ghal : Int32) (gwro : Int32) (gwai : Int32) (gwpl : Int64) (gwrs : Int32) (ghlt : Int32) (glat : Int32) (glpl : Int32) (amrk : Nat → Int32) (p0 : Int32) (post : Int32 → Int32 → Prop) : Prop := wp_M_isRegister gthr greg gcon gfld gtrn gins glev gkep glvs gkps gwrd gsta gflt gend ghal gwro gwai gwpl gwrs ghlt glat glpl p0 (fun r_2 gthr_1 => (if r_2 = 0 then post 0 gthr_1 else vp_in p0 24 ∧ (if (amrk p0.toNatClampNeg) = 0 then post 0 gthr_1 else post 1 gthr_1)))
set_option maxHeartbeats 4000000 in
set_option maxRecDepth 100000 in
theorem c_M_mark (l : Launch) (D : va_G) (kT : Nat → ClassId) (ad : Nat → Nat) (gthr : Int32) (greg : Int32) (gcon : Int32) (gfld : Int32) (gtrn : Int32) (gins : Int32) (glev : Int32) (gkep : Int32) (glvs : Int32) (gkps : Int32) (gwrd : Int32) (gsta : Int32) (gflt : Int32) (gend : Int32) (ghal : Int32) (gwro : Int32) (gwai : Int32) (gwpl : Int64) (gwrs : Int32) (ghlt : Int32) (glat : Int32) (glpl : Int32) (amrk : Nat → Int32) (p0 : Int32) (post : Int32 → Int32 → Prop) (h : wp_M_mark gthr greg gcon gfld gtrn gins glev gkep glvs gkps gwrd gsta gflt gend ghal gwro gwai gwpl gwrs ghlt glat glpl amrk p0 post) : zq_Mi l zy_M_mark zs_M_mark ({ frames := 2, cells := 0, slots := 0, locals := 46 }) D kT [.ref (ad 0), .int p0] (W_M_mark kT ad gthr greg gcon gfld gtrn gins glev gkep glvs gkps gwrd gsta gflt gend ghal gwro gwai gwpl gwrs ghlt glat glpl amrk) (fun r w' => ∃ (gthr' : Int32), w' = (W_M_mark kT ad gthr' greg gcon gfld gtrn gins glev gkep glvs gkps gwrd gsta gflt gend ghal gwro gwai gwpl gwrs ghlt glat glpl amrk) ∧ post r gthr') := by
  refine zq_Mz_of (adl := (A_M_mark ad)) (cc := zb_M_mark) (maxL := 2) (own := zR_M) rfl (by decide) rfl rfl (Nat.le_of_ble_eq_true rfl) ?_
  intro p e s m AV below meth c A QQ H locs ls hx hb hml hown ht hE hA hret hP hD hS hl
  have hK := hE.1
  have hl : lv_has ls 2 [(0, .ref (ad 0)), (1, .int p0)] := hl
  refine lv_aload_n hx hb zd_M_mark_0 rfl (lv_at hl 0 rfl) ?_
  refine lv_iload_n hx hb zd_M_mark_1 rfl (lv_at hl 1 rfl) ?_
  refine zq_c_Vi (rest := []) (adl := (A_M_mark ad)) (wr := [(ad 5, .inl (kT 2, 24, .inl amrk))]) ⟨hx, hb, hml, hown, ht⟩ (c_M_isRegister l D kT ad gthr greg gcon gfld gtrn gins glev gkep glvs gkps gwrd gsta gflt gend ghal gwro gwai gwpl gwrs ghlt glat glpl p0 _ h) (cwV 1 ht (zq_gV zw_574 zw_575 zw_576 zw_393 zw_577) rfl rfl rfl zh_M_isRegister ⟨Nat.le_of_ble_eq_true rfl, Nat.le_of_ble_eq_true rfl⟩) hE hP hD hS hA [0] [1] 2 rfl (by decide +kernel) rfl (by decide +kernel) rfl rfl 0 rfl rfl rfl rfl hl.1 (Nat.le_of_ble_eq_true rfl) rfl zd_M_mark_2 ⟨Nat.zero_le _, Nat.zero_le _⟩ (fun r_2 w1 H locs hw hJ hS => ?_)
  obtain ⟨gthr_1, rfl, h⟩ := hw
  obtain ⟨hP, hD⟩ := hJ (W_M_mark kT ad gthr_1 greg gcon gfld gtrn gins glev gkep glvs gkps gwrd gsta gflt gend ghal gwro gwai gwpl gwrs ghlt glat glpl amrk) rfl rfl rfl
  refine lv_if_eq (tgt := 21) hx hb zd_M_mark_5 (by decide) (fun c_3 => ?_) (fun c_3 => ?_)
  · have h := zq_it c_3 h
    refine lv_iconst (v := 0) hx hb zd_M_mark_21 (by decide) ?_
    exact hret 0 rfl _ H locs 22 ls ⟨gthr_1, rfl, h⟩ hP rfl hS zd_M_mark_22
  · have h := zq_if c_3 h
    refine lv_aload_n hx hb zd_M_mark_8 rfl (lv_at hl 0 rfl) ?_
    refine va_get (D := D) (ci := 10) (v := .ref (ad 5)) (C := zR_M) (T := zF_M) (N := 52) hx hb ht zi_M hown hK hP 0 rfl rfl 6 (by decide) (ht _ zw_401) (fun _ h9 => h9) rfl zd_M_mark_9 ?_
    refine lv_iload_n hx hb zd_M_mark_12 rfl (lv_at hl 1 rfl) ?_
    obtain ⟨hi_4, h⟩ := h
    refine zq_a_zald (D := D) hx hb hK hP 1 2 rfl rfl hi_4 rfl zd_M_mark_13 ?_
    refine lv_if_eq (tgt := 21) hx hb zd_M_mark_14 (by decide) (fun c_5 => ?_) (fun c_5 => ?_)
    · have h := zq_it c_5 h
      refine lv_iconst (v := 0) hx hb zd_M_mark_21 (by decide) ?_
      exact hret 0 rfl _ H locs 22 ls ⟨gthr_1, rfl, h⟩ hP rfl hS zd_M_mark_22
    · have h := zq_if c_5 h
      refine lv_iconst (v := 1) hx hb zd_M_mark_17 (by decide) ?_
      refine lv_goto (tgt := 22) hx hb zd_M_mark_18 (by decide) ?_
      exact hret 1 rfl _ H locs 22 ls ⟨gthr_1, rfl, h⟩ hP rfl hS zd_M_mark_22
abbrev W_M_line (kT : Nat → ClassId) (ad : Nat → Nat) (gthr : Int32) (greg : Int32) (gcon : Int32) (gfld : Int32) (gtrn : Int32) (gins : Int32) (glev : Int32) (gkep : Int32) (glvs : Int32) (gkps : Int32) (gwrd : Int32) (gsta : Int32) (gflt : Int32) (gend : Int32) (ghal : Int32) (gwro : Int32) (gwai : Int32) (gwpl : Int64) (gwrs : Int32) (ghlt : Int32) (glat : Int32) (glpl : Int32) (aonn : Nat → Int32) : va_W := [(ad 0, .inr (10, [.int gthr, .int greg, .ref (ad 1), .ref (ad 2), .ref (ad 3), .ref (ad 4), .ref (ad 5), .ref (ad 6), .ref (ad 7), .ref (ad 8), .ref (ad 9), .int gcon, .int gfld, .int gtrn, .int gins, .ref (ad 10), .ref (ad 11), .ref (ad 12), .ref (ad 13), .ref (ad 14), .ref (ad 15), .ref (ad 16), .ref (ad 17), .ref (ad 18), .ref (ad 19), .ref (ad 20), .ref (ad 21), .ref (ad 22), .ref (ad 23), .int glev, .int gkep, .int glvs, .int gkps, .ref (ad 24), .ref (ad 25), .int gwrd, .int gsta, .int gflt, .int gend, .int ghal, .int gwro, .int gwai, .long gwpl, .int gwrs, .ref (ad 26), .ref (ad 27), .ref (ad 28), .ref (ad 29), .int ghlt, .int glat, .int glpl, .ref (ad 30)])), (ad 22, .inl (kT 2, 8, .inl aonn))]
abbrev A_M_line (ad : Nat → Nat) : List Nat := [ad 0, ad 22]
def wp_M_line (gthr : Int32) (greg : Int32) (gcon : Int32) (gfld : Int32) (gtrn : Int32) (gins : Int32) (glev : Int32) (gkep : Int32) (glvs : Int32) (gkps : Int32) (gwrd : Int32) (gsta : Int32) (gflt : Int32) (gend : Int32) (ghal : Int32) (gwro : Int32) (gwai : Int32) (gwpl : Int64) (gwrs : Int32) (ghlt : Int32) (glat : Int32) (glpl : Int32) (aonn : Nat → Int32) (p0 : Int32) (p1 : Int32) (post : Int32 → Int32 → (Nat → Int32) → Prop) : Prop := wp_M_in (zq_j_i2l p0) 0 7 (fun r_1 => wp_M_goes gthr greg gcon gfld gtrn gins glev gkep glvs gkps gwrd gsta gflt gend ghal gwro gwai gwpl gwrs ghlt glat glpl r_1 1 (fun r_3 gthr_2 => (if r_3 = 0 then post 0 gthr_2 aonn else vp_in p0 8 ∧ vp_in p0 8 ∧ zq_bz (aonn p0.toNatClampNeg) ∧ post (aonn p0.toNatClampNeg) gthr_2 (upd aonn p0.toNatClampNeg (vp_nar .boolean p1)))))
set_option maxHeartbeats 4000000 in
set_option maxRecDepth 100000 in
theorem c_M_line (l : Launch) (D : va_G) (kT : Nat → ClassId) (ad : Nat → Nat) (gthr : Int32) (greg : Int32) (gcon : Int32) (gfld : Int32) (gtrn : Int32) (gins : Int32) (glev : Int32) (gkep : Int32) (glvs : Int32) (gkps : Int32) (gwrd : Int32) (gsta : Int32) (gflt : Int32) (gend : Int32) (ghal : Int32) (gwro : Int32) (gwai : Int32) (gwpl : Int64) (gwrs : Int32) (ghlt : Int32) (glat : Int32) (glpl : Int32) (aonn : Nat → Int32) (p0 : Int32) (p1 : Int32) (post : Int32 → Int32 → (Nat → Int32) → Prop) (h : wp_M_line gthr greg gcon gfld gtrn gins glev gkep glvs gkps gwrd gsta gflt gend ghal gwro gwai gwpl gwrs ghlt glat glpl aonn p0 p1 post) : zq_Mi l zy_M_line zs_M_line ({ frames := 1, cells := 0, slots := 0, locals := 25 }) D kT [.ref (ad 0), .int p0, .int p1] (W_M_line kT ad gthr greg gcon gfld gtrn gins glev gkep glvs gkps gwrd gsta gflt gend ghal gwro gwai gwpl gwrs ghlt glat glpl aonn) (fun r w' => ∃ (gthr' : Int32) (aonn' : Nat → Int32), w' = (W_M_line kT ad gthr' greg gcon gfld gtrn gins glev gkep glvs gkps gwrd gsta gflt gend ghal gwro gwai gwpl gwrs ghlt glat glpl aonn') ∧ post r gthr' aonn') := by
  refine zq_Mz_of (adl := (A_M_line ad)) (cc := zb_M_line) (maxL := 4) (own := zR_M) rfl (by decide) rfl rfl (Nat.le_of_ble_eq_true rfl) ?_
  intro p e s m AV below meth c A QQ H locs ls hx hb hml hown ht hE hA hret hP hD hS hl
  have hK := hE.1
  have hl : lv_has ls 4 [(0, .ref (ad 0)), (1, .int p0), (2, .int p1)] := hl
  refine lv_aload_n hx hb zd_M_line_0 rfl (lv_at hl 0 rfl) ?_
  refine lv_iload_n hx hb zd_M_line_1 rfl (lv_at hl 1 rfl) ?_
  refine lv_i2l (v := (zq_j_i2l p0)) hx hb zd_M_line_2 rfl ?_
  refine lv_lconst (v := 0) hx hb zd_M_line_3 (by decide) ?_
  refine W.ldc2 (v := 7) hx hb hown (ht _ zw_421) rfl zd_M_line_4 ?_
  refine W.eq (g2 := F0 m 7 ls [.long 7, .long 0, .long (zq_j_i2l p0), .ref (ad 0)]) rfl ?_
  refine zq_c_Si (rest := [.ref (ad 0)]) (adl := (A_M_line ad)) (wr := [(ad 0, .inr (10, [.int gthr, .int greg, .ref (ad 1), .ref (ad 2), .ref (ad 3), .ref (ad 4), .ref (ad 5), .ref (ad 6), .ref (ad 7), .ref (ad 8), .ref (ad 9), .int gcon, .int gfld, .int gtrn, .int gins, .ref (ad 10), .ref (ad 11), .ref (ad 12), .ref (ad 13), .ref (ad 14), .ref (ad 15), .ref (ad 16), .ref (ad 17), .ref (ad 18), .ref (ad 19), .ref (ad 20), .ref (ad 21), .ref (ad 22), .ref (ad 23), .int glev, .int gkep, .int glvs, .int gkps, .ref (ad 24), .ref (ad 25), .int gwrd, .int gsta, .int gflt, .int gend, .int ghal, .int gwro, .int gwai, .long gwpl, .int gwrs, .ref (ad 26), .ref (ad 27), .ref (ad 28), .ref (ad 29), .int ghlt, .int glat, .int glpl, .ref (ad 30)])), (ad 22, .inl (kT 2, 8, .inl aonn))]) ⟨hx, hb, hml, hown, ht⟩ (c_M_in l D kT ad (zq_j_i2l p0) 0 7 _ h) (cwS 3 ht (zq_gS zw_391 zw_392 zw_393 zw_394) rfl rfl rfl zh_M_in ⟨Nat.le_of_ble_eq_true rfl, Nat.le_of_ble_eq_true rfl⟩) hE hP hD hS hA [] [0, 1] 2 rfl (by decide +kernel) rfl (by decide +kernel) rfl rfl  rfl hl.1 (Nat.le_of_ble_eq_true rfl) rfl zd_M_line_7 ⟨Nat.zero_le _, Nat.zero_le _⟩ (fun r_1 w1 H locs hw hJ hS => ?_)
  obtain ⟨rfl, h⟩ := hw
  obtain ⟨hP, hD⟩ := hJ (W_M_line kT ad gthr greg gcon gfld gtrn gins glev gkep glvs gkps gwrd gsta gflt gend ghal gwro gwai gwpl gwrs ghlt glat glpl aonn) rfl rfl rfl
  refine lv_iconst (v := 1) hx hb zd_M_line_10 (by decide) ?_
  refine zq_c_Vi (rest := []) (adl := (A_M_line ad)) (wr := [(ad 22, .inl (kT 2, 8, .inl aonn))]) ⟨hx, hb, hml, hown, ht⟩ (c_M_goes l D kT ad gthr greg gcon gfld gtrn gins glev gkep glvs gkps gwrd gsta gflt gend ghal gwro gwai gwpl gwrs ghlt glat glpl r_1 1 _ h) (cwV 2 ht (zq_gV zw_396 zw_397 zw_398 zw_393 zw_399) rfl rfl rfl zh_M_goes ⟨Nat.le_of_ble_eq_true rfl, Nat.le_of_ble_eq_true rfl⟩) hE hP hD hS hA [0] [1] 2 rfl (by decide +kernel) rfl (by decide +kernel) rfl rfl 0 rfl rfl rfl rfl hl.1 (Nat.le_of_ble_eq_true rfl) rfl zd_M_line_11 ⟨Nat.zero_le _, Nat.zero_le _⟩ (fun r_3 w1 H locs hw hJ hS => ?_)
  obtain ⟨gthr_2, rfl, h⟩ := hw
  obtain ⟨hP, hD⟩ := hJ (W_M_line kT ad gthr_2 greg gcon gfld gtrn gins glev gkep glvs gkps gwrd gsta gflt gend ghal gwro gwai gwpl gwrs ghlt glat glpl aonn) rfl rfl rfl
  refine lv_if_ne (tgt := 19) hx hb zd_M_line_14 (by decide) (fun c_4 => ?_) (fun c_4 => ?_)
  · have h := zq_if c_4 h
    refine lv_aload_n hx hb zd_M_line_19 rfl (lv_at hl 0 rfl) ?_
    refine va_get (D := D) (ci := 10) (v := .ref (ad 22)) (C := zR_M) (T := zF_M) (N := 52) hx hb ht zi_M hown hK hP 0 rfl rfl 27 (by decide) (ht _ zw_444) (fun _ h9 => h9) rfl zd_M_line_20 ?_
    refine lv_iload_n hx hb zd_M_line_23 rfl (lv_at hl 1 rfl) ?_
    obtain ⟨hi_5, h⟩ := h
    refine zq_a_zald (D := D) hx hb hK hP 1 2 rfl rfl hi_5 rfl zd_M_line_24 ?_
    refine lv_istore_n (lv' := [(3, .int (aonn p0.toNatClampNeg)), (0, .ref (ad 0)), (1, .int p0), (2, .int p1)]) hx hb zd_M_line_25 rfl hl (by decide) rfl (fun ls hl => ?_)
    refine lv_aload_n hx hb zd_M_line_26 rfl (lv_at hl 1 rfl) ?_
    refine va_get (D := D) (ci := 10) (v := .ref (ad 22)) (C := zR_M) (T := zF_M) (N := 52) hx hb ht zi_M hown hK hP 0 rfl rfl 27 (by decide) (ht _ zw_444) (fun _ h9 => h9) rfl zd_M_line_27 ?_
    refine lv_iload_n hx hb zd_M_line_30 rfl (lv_at hl 2 rfl) ?_
    refine lv_iload_n hx hb zd_M_line_31 rfl (lv_at hl 3 rfl) ?_
    obtain ⟨hi_6, h⟩ := h
    refine zq_a_zast (D := D) hx hb hK hP hD hS 1 2 rfl rfl hi_6 rfl zd_M_line_32 (fun H locs hP hD hS => ?_)
    have hP : va_P D vwCl (W_M_line kT ad gthr_2 greg gcon gfld gtrn gins glev gkep glvs gkps gwrd gsta gflt gend ghal gwro gwai gwpl gwrs ghlt glat glpl (upd aonn p0.toNatClampNeg (vp_nar .boolean p1))) H := hP
    have hD : va_D A (W_M_line kT ad gthr_2 greg gcon gfld gtrn gins glev gkep glvs gkps gwrd gsta gflt gend ghal gwro gwai gwpl gwrs ghlt glat glpl (upd aonn p0.toNatClampNeg (vp_nar .boolean p1))) := hD
    refine lv_iload_n hx hb zd_M_line_33 rfl (lv_at hl 0 rfl) ?_
    obtain ⟨hb_7, h⟩ := h
    exact hret (aonn p0.toNatClampNeg) (zq_bzn hb_7) _ H locs 34 ls ⟨gthr_2, (upd aonn p0.toNatClampNeg (vp_nar .boolean p1)), rfl, h⟩ hP rfl hS zd_M_line_34
  · have h := zq_it c_4 h
    refine lv_iconst (v := 0) hx hb zd_M_line_17 (by decide) ?_
    exact hret 0 rfl _ H locs 18 ls ⟨gthr_2, aonn, rfl, h⟩ hP rfl hS zd_M_line_18
abbrev W_M_enable (kT : Nat → ClassId) (ad : Nat → Nat) (gthr : Int32) (greg : Int32) (gcon : Int32) (gfld : Int32) (gtrn : Int32) (gins : Int32) (glev : Int32) (gkep : Int32) (glvs : Int32) (gkps : Int32) (gwrd : Int32) (gsta : Int32) (gflt : Int32) (gend : Int32) (ghal : Int32) (gwro : Int32) (gwai : Int32) (gwpl : Int64) (gwrs : Int32) (ghlt : Int32) (glat : Int32) (glpl : Int32) (arnk : Nat → Int32) : va_W := [(ad 0, .inr (10, [.int gthr, .int greg, .ref (ad 1), .ref (ad 2), .ref (ad 3), .ref (ad 4), .ref (ad 5), .ref (ad 6), .ref (ad 7), .ref (ad 8), .ref (ad 9), .int gcon, .int gfld, .int gtrn, .int gins, .ref (ad 10), .ref (ad 11), .ref (ad 12), .ref (ad 13), .ref (ad 14), .ref (ad 15), .ref (ad 16), .ref (ad 17), .ref (ad 18), .ref (ad 19), .ref (ad 20), .ref (ad 21), .ref (ad 22), .ref (ad 23), .int glev, .int gkep, .int glvs, .int gkps, .ref (ad 24), .ref (ad 25), .int gwrd, .int gsta, .int gflt, .int gend, .int ghal, .int gwro, .int gwai, .long gwpl, .int gwrs, .ref (ad 26), .ref (ad 27), .ref (ad 28), .ref (ad 29), .int ghlt, .int glat, .int glpl, .ref (ad 30)])), (ad 23, .inl (kT 0, 8, .inl arnk))]
abbrev A_M_enable (ad : Nat → Nat) : List Nat := [ad 0, ad 23]
def wp_M_enable (gthr : Int32) (greg : Int32) (gcon : Int32) (gfld : Int32) (gtrn : Int32) (gins : Int32) (glev : Int32) (gkep : Int32) (glvs : Int32) (gkps : Int32) (gwrd : Int32) (gsta : Int32) (gflt : Int32) (gend : Int32) (ghal : Int32) (gwro : Int32) (gwai : Int32) (gwpl : Int64) (gwrs : Int32) (ghlt : Int32) (glat : Int32) (glpl : Int32) (arnk : Nat → Int32) (p0 : Int32) (p1 : Int32) (post : Int32 → Int32 → (Nat → Int32) → Prop) : Prop := wp_M_in (zq_j_i2l p0) 0 7 (fun r_1 => wp_M_in (zq_j_i2l p1) 0 14 (fun r_2 => wp_M_goes gthr greg gcon gfld gtrn gins glev gkep glvs gkps gwrd gsta gflt gend ghal gwro gwai gwpl gwrs ghlt glat glpl r_1 r_2 (fun r_4 gthr_3 => (if r_4 = 0 then post 0 gthr_3 arnk else vp_in p0 8 ∧ vp_in p0 8 ∧ post (arnk p0.toNatClampNeg) gthr_3 (upd arnk p0.toNatClampNeg p1)))))
set_option maxHeartbeats 4000000 in
set_option maxRecDepth 100000 in
theorem c_M_enable (l : Launch) (D : va_G) (kT : Nat → ClassId) (ad : Nat → Nat) (gthr : Int32) (greg : Int32) (gcon : Int32) (gfld : Int32) (gtrn : Int32) (gins : Int32) (glev : Int32) (gkep : Int32) (glvs : Int32) (gkps : Int32) (gwrd : Int32) (gsta : Int32) (gflt : Int32) (gend : Int32) (ghal : Int32) (gwro : Int32) (gwai : Int32) (gwpl : Int64) (gwrs : Int32) (ghlt : Int32) (glat : Int32) (glpl : Int32) (arnk : Nat → Int32) (p0 : Int32) (p1 : Int32) (post : Int32 → Int32 → (Nat → Int32) → Prop) (h : wp_M_enable gthr greg gcon gfld gtrn gins glev gkep glvs gkps gwrd gsta gflt gend ghal gwro gwai gwpl gwrs ghlt glat glpl arnk p0 p1 post) : zq_Mi l zy_M_enable zs_M_enable ({ frames := 1, cells := 0, slots := 0, locals := 25 }) D kT [.ref (ad 0), .int p0, .int p1] (W_M_enable kT ad gthr greg gcon gfld gtrn gins glev gkep glvs gkps gwrd gsta gflt gend ghal gwro gwai gwpl gwrs ghlt glat glpl arnk) (fun r w' => ∃ (gthr' : Int32) (arnk' : Nat → Int32), w' = (W_M_enable kT ad gthr' greg gcon gfld gtrn gins glev gkep glvs gkps gwrd gsta gflt gend ghal gwro gwai gwpl gwrs ghlt glat glpl arnk') ∧ post r gthr' arnk') := by
  refine zq_Mi_of (adl := (A_M_enable ad)) (cc := zb_M_enable) (maxL := 4) (own := zR_M) rfl (by decide) rfl rfl (Nat.le_of_ble_eq_true rfl) ?_
  intro p e s m AV below meth c A QQ H locs ls hx hb hml hown ht hE hA hret hP hD hS hl
  have hK := hE.1
  have hl : lv_has ls 4 [(0, .ref (ad 0)), (1, .int p0), (2, .int p1)] := hl
  refine lv_aload_n hx hb zd_M_enable_0 rfl (lv_at hl 0 rfl) ?_
  refine lv_iload_n hx hb zd_M_enable_1 rfl (lv_at hl 1 rfl) ?_
  refine lv_i2l (v := (zq_j_i2l p0)) hx hb zd_M_enable_2 rfl ?_
  refine lv_lconst (v := 0) hx hb zd_M_enable_3 (by decide) ?_
  refine W.ldc2 (v := 7) hx hb hown (ht _ zw_421) rfl zd_M_enable_4 ?_
  refine W.eq (g2 := F0 m 7 ls [.long 7, .long 0, .long (zq_j_i2l p0), .ref (ad 0)]) rfl ?_
  refine zq_c_Si (rest := [.ref (ad 0)]) (adl := (A_M_enable ad)) (wr := [(ad 0, .inr (10, [.int gthr, .int greg, .ref (ad 1), .ref (ad 2), .ref (ad 3), .ref (ad 4), .ref (ad 5), .ref (ad 6), .ref (ad 7), .ref (ad 8), .ref (ad 9), .int gcon, .int gfld, .int gtrn, .int gins, .ref (ad 10), .ref (ad 11), .ref (ad 12), .ref (ad 13), .ref (ad 14), .ref (ad 15), .ref (ad 16), .ref (ad 17), .ref (ad 18), .ref (ad 19), .ref (ad 20), .ref (ad 21), .ref (ad 22), .ref (ad 23), .int glev, .int gkep, .int glvs, .int gkps, .ref (ad 24), .ref (ad 25), .int gwrd, .int gsta, .int gflt, .int gend, .int ghal, .int gwro, .int gwai, .long gwpl, .int gwrs, .ref (ad 26), .ref (ad 27), .ref (ad 28), .ref (ad 29), .int ghlt, .int glat, .int glpl, .ref (ad 30)])), (ad 23, .inl (kT 0, 8, .inl arnk))]) ⟨hx, hb, hml, hown, ht⟩ (c_M_in l D kT ad (zq_j_i2l p0) 0 7 _ h) (cwS 3 ht (zq_gS zw_391 zw_392 zw_393 zw_394) rfl rfl rfl zh_M_in ⟨Nat.le_of_ble_eq_true rfl, Nat.le_of_ble_eq_true rfl⟩) hE hP hD hS hA [] [0, 1] 2 rfl (by decide +kernel) rfl (by decide +kernel) rfl rfl  rfl hl.1 (Nat.le_of_ble_eq_true rfl) rfl zd_M_enable_7 ⟨Nat.zero_le _, Nat.zero_le _⟩ (fun r_1 w1 H locs hw hJ hS => ?_)
  obtain ⟨rfl, h⟩ := hw
  obtain ⟨hP, hD⟩ := hJ (W_M_enable kT ad gthr greg gcon gfld gtrn gins glev gkep glvs gkps gwrd gsta gflt gend ghal gwro gwai gwpl gwrs ghlt glat glpl arnk) rfl rfl rfl
  refine lv_iload_n hx hb zd_M_enable_10 rfl (lv_at hl 2 rfl) ?_
  refine lv_i2l (v := (zq_j_i2l p1)) hx hb zd_M_enable_11 rfl ?_
  refine lv_lconst (v := 0) hx hb zd_M_enable_12 (by decide) ?_
  refine W.ldc2 (v := 14) hx hb hown (ht _ zw_578) rfl zd_M_enable_13 ?_
  refine W.eq (g2 := F0 m 16 ls [.long 14, .long 0, .long (zq_j_i2l p1), .int r_1, .ref (ad 0)]) rfl ?_
  refine zq_c_Si (rest := [.int r_1, .ref (ad 0)]) (adl := (A_M_enable ad)) (wr := [(ad 0, .inr (10, [.int gthr, .int greg, .ref (ad 1), .ref (ad 2), .ref (ad 3), .ref (ad 4), .ref (ad 5), .ref (ad 6), .ref (ad 7), .ref (ad 8), .ref (ad 9), .int gcon, .int gfld, .int gtrn, .int gins, .ref (ad 10), .ref (ad 11), .ref (ad 12), .ref (ad 13), .ref (ad 14), .ref (ad 15), .ref (ad 16), .ref (ad 17), .ref (ad 18), .ref (ad 19), .ref (ad 20), .ref (ad 21), .ref (ad 22), .ref (ad 23), .int glev, .int gkep, .int glvs, .int gkps, .ref (ad 24), .ref (ad 25), .int gwrd, .int gsta, .int gflt, .int gend, .int ghal, .int gwro, .int gwai, .long gwpl, .int gwrs, .ref (ad 26), .ref (ad 27), .ref (ad 28), .ref (ad 29), .int ghlt, .int glat, .int glpl, .ref (ad 30)])), (ad 23, .inl (kT 0, 8, .inl arnk))]) ⟨hx, hb, hml, hown, ht⟩ (c_M_in l D kT ad (zq_j_i2l p1) 0 14 _ h) (cwS 3 ht (zq_gS zw_391 zw_392 zw_393 zw_394) rfl rfl rfl zh_M_in ⟨Nat.le_of_ble_eq_true rfl, Nat.le_of_ble_eq_true rfl⟩) hE hP hD hS hA [] [0, 1] 2 rfl (by decide +kernel) rfl (by decide +kernel) rfl rfl  rfl hl.1 (Nat.le_of_ble_eq_true rfl) rfl zd_M_enable_16 ⟨Nat.zero_le _, Nat.zero_le _⟩ (fun r_2 w1 H locs hw hJ hS => ?_)
  obtain ⟨rfl, h⟩ := hw
  obtain ⟨hP, hD⟩ := hJ (W_M_enable kT ad gthr greg gcon gfld gtrn gins glev gkep glvs gkps gwrd gsta gflt gend ghal gwro gwai gwpl gwrs ghlt glat glpl arnk) rfl rfl rfl
  refine zq_c_Vi (rest := []) (adl := (A_M_enable ad)) (wr := [(ad 23, .inl (kT 0, 8, .inl arnk))]) ⟨hx, hb, hml, hown, ht⟩ (c_M_goes l D kT ad gthr greg gcon gfld gtrn gins glev gkep glvs gkps gwrd gsta gflt gend ghal gwro gwai gwpl gwrs ghlt glat glpl r_1 r_2 _ h) (cwV 2 ht (zq_gV zw_396 zw_397 zw_398 zw_393 zw_399) rfl rfl rfl zh_M_goes ⟨Nat.le_of_ble_eq_true rfl, Nat.le_of_ble_eq_true rfl⟩) hE hP hD hS hA [0] [1] 2 rfl (by decide +kernel) rfl (by decide +kernel) rfl rfl 0 rfl rfl rfl rfl hl.1 (Nat.le_of_ble_eq_true rfl) rfl zd_M_enable_19 ⟨Nat.zero_le _, Nat.zero_le _⟩ (fun r_4 w1 H locs hw hJ hS => ?_)
  obtain ⟨gthr_3, rfl, h⟩ := hw
  obtain ⟨hP, hD⟩ := hJ (W_M_enable kT ad gthr_3 greg gcon gfld gtrn gins glev gkep glvs gkps gwrd gsta gflt gend ghal gwro gwai gwpl gwrs ghlt glat glpl arnk) rfl rfl rfl
  refine lv_if_ne (tgt := 27) hx hb zd_M_enable_22 (by decide) (fun c_5 => ?_) (fun c_5 => ?_)
  · have h := zq_if c_5 h
    refine lv_aload_n hx hb zd_M_enable_27 rfl (lv_at hl 0 rfl) ?_
    refine va_get (D := D) (ci := 10) (v := .ref (ad 23)) (C := zR_M) (T := zF_M) (N := 52) hx hb ht zi_M hown hK hP 0 rfl rfl 28 (by decide) (ht _ zw_445) (fun _ h9 => h9) rfl zd_M_enable_28 ?_
    refine lv_iload_n hx hb zd_M_enable_31 rfl (lv_at hl 1 rfl) ?_
    obtain ⟨hi_6, h⟩ := h
    refine zq_a_iald (D := D) hx hb hK hP 1 0 rfl rfl hi_6 rfl zd_M_enable_32 ?_
    refine lv_istore_n (lv' := [(3, .int (arnk p0.toNatClampNeg)), (0, .ref (ad 0)), (1, .int p0), (2, .int p1)]) hx hb zd_M_enable_33 rfl hl (by decide) rfl (fun ls hl => ?_)
    refine lv_aload_n hx hb zd_M_enable_34 rfl (lv_at hl 1 rfl) ?_
    refine va_get (D := D) (ci := 10) (v := .ref (ad 23)) (C := zR_M) (T := zF_M) (N := 52) hx hb ht zi_M hown hK hP 0 rfl rfl 28 (by decide) (ht _ zw_445) (fun _ h9 => h9) rfl zd_M_enable_35 ?_
    refine lv_iload_n hx hb zd_M_enable_38 rfl (lv_at hl 2 rfl) ?_
    refine lv_iload_n hx hb zd_M_enable_39 rfl (lv_at hl 3 rfl) ?_
    obtain ⟨hi_7, h⟩ := h
    refine zq_a_iast (D := D) hx hb hK hP hD hS 1 0 rfl rfl hi_7 rfl zd_M_enable_40 (fun H locs hP hD hS => ?_)
    have hP : va_P D vwCl (W_M_enable kT ad gthr_3 greg gcon gfld gtrn gins glev gkep glvs gkps gwrd gsta gflt gend ghal gwro gwai gwpl gwrs ghlt glat glpl (upd arnk p0.toNatClampNeg p1)) H := hP
    have hD : va_D A (W_M_enable kT ad gthr_3 greg gcon gfld gtrn gins glev gkep glvs gkps gwrd gsta gflt gend ghal gwro gwai gwpl gwrs ghlt glat glpl (upd arnk p0.toNatClampNeg p1)) := hD
    refine lv_iload_n hx hb zd_M_enable_41 rfl (lv_at hl 0 rfl) ?_
    exact hret (arnk p0.toNatClampNeg)  _ H locs 42 ls ⟨gthr_3, (upd arnk p0.toNatClampNeg p1), rfl, h⟩ hP rfl hS zd_M_enable_42
  · have h := zq_it c_5 h
    refine lv_iconst (v := 0) hx hb zd_M_enable_25 (by decide) ?_
    exact hret 0  _ H locs 26 ls ⟨gthr_3, arnk, rfl, h⟩ hP rfl hS zd_M_enable_26
abbrev W_M_fault (kT : Nat → ClassId) (ad : Nat → Nat) (gthr : Int32) (greg : Int32) (gcon : Int32) (gfld : Int32) (gtrn : Int32) (gins : Int32) (glev : Int32) (gkep : Int32) (glvs : Int32) (gkps : Int32) (gwrd : Int32) (gsta : Int32) (gflt : Int32) (gend : Int32) (ghal : Int32) (gwro : Int32) (gwai : Int32) (gwpl : Int64) (gwrs : Int32) (ghlt : Int32) (glat : Int32) (glpl : Int32) : va_W := [(ad 0, .inr (10, [.int gthr, .int greg, .ref (ad 1), .ref (ad 2), .ref (ad 3), .ref (ad 4), .ref (ad 5), .ref (ad 6), .ref (ad 7), .ref (ad 8), .ref (ad 9), .int gcon, .int gfld, .int gtrn, .int gins, .ref (ad 10), .ref (ad 11), .ref (ad 12), .ref (ad 13), .ref (ad 14), .ref (ad 15), .ref (ad 16), .ref (ad 17), .ref (ad 18), .ref (ad 19), .ref (ad 20), .ref (ad 21), .ref (ad 22), .ref (ad 23), .int glev, .int gkep, .int glvs, .int gkps, .ref (ad 24), .ref (ad 25), .int gwrd, .int gsta, .int gflt, .int gend, .int ghal, .int gwro, .int gwai, .long gwpl, .int gwrs, .ref (ad 26), .ref (ad 27), .ref (ad 28), .ref (ad 29), .int ghlt, .int glat, .int glpl, .ref (ad 30)]))]
abbrev A_M_fault (ad : Nat → Nat) : List Nat := [ad 0]
def wp_M_fault (gthr : Int32) (greg : Int32) (gcon : Int32) (gfld : Int32) (gtrn : Int32) (gins : Int32) (glev : Int32) (gkep : Int32) (glvs : Int32) (gkps : Int32) (gwrd : Int32) (gsta : Int32) (gflt : Int32) (gend : Int32) (ghal : Int32) (gwro : Int32) (gwai : Int32) (gwpl : Int64) (gwrs : Int32) (ghlt : Int32) (glat : Int32) (glpl : Int32) (p0 : Int32) (post : Int32 → Int32 → Prop) : Prop := wp_M_in (zq_j_i2l p0) 0 1 (fun r_1 => wp_M_goes gthr greg gcon gfld gtrn gins glev gkep glvs gkps gwrd gsta gflt gend ghal gwro gwai gwpl gwrs ghlt glat glpl r_1 1 (fun r_3 gthr_2 => (if r_3 = 0 then post 0 gthr_2 else (if p0 = 0 then post glat gthr_2 else post glpl gthr_2))))
set_option maxHeartbeats 4000000 in
set_option maxRecDepth 100000 in
theorem c_M_fault (l : Launch) (D : va_G) (kT : Nat → ClassId) (ad : Nat → Nat) (gthr : Int32) (greg : Int32) (gcon : Int32) (gfld : Int32) (gtrn : Int32) (gins : Int32) (glev : Int32) (gkep : Int32) (glvs : Int32) (gkps : Int32) (gwrd : Int32) (gsta : Int32) (gflt : Int32) (gend : Int32) (ghal : Int32) (gwro : Int32) (gwai : Int32) (gwpl : Int64) (gwrs : Int32) (ghlt : Int32) (glat : Int32) (glpl : Int32) (p0 : Int32) (post : Int32 → Int32 → Prop) (h : wp_M_fault gthr greg gcon gfld gtrn gins glev gkep glvs gkps gwrd gsta gflt gend ghal gwro gwai gwpl gwrs ghlt glat glpl p0 post) : zq_Mi l zy_M_fault zs_M_fault ({ frames := 1, cells := 0, slots := 0, locals := 25 }) D kT [.ref (ad 0), .int p0] (W_M_fault kT ad gthr greg gcon gfld gtrn gins glev gkep glvs gkps gwrd gsta gflt gend ghal gwro gwai gwpl gwrs ghlt glat glpl) (fun r w' => ∃ (gthr' : Int32), w' = (W_M_fault kT ad gthr' greg gcon gfld gtrn gins glev gkep glvs gkps gwrd gsta gflt gend ghal gwro gwai gwpl gwrs ghlt glat glpl) ∧ post r gthr') := by
  refine zq_Mi_of (adl := (A_M_fault ad)) (cc := zb_M_fault) (maxL := 2) (own := zR_M) rfl (by decide) rfl rfl (Nat.le_of_ble_eq_true rfl) ?_
  intro p e s m AV below meth c A QQ H locs ls hx hb hml hown ht hE hA hret hP hD hS hl
  have hK := hE.1
  have hl : lv_has ls 2 [(0, .ref (ad 0)), (1, .int p0)] := hl
  refine lv_aload_n hx hb zd_M_fault_0 rfl (lv_at hl 0 rfl) ?_
  refine lv_iload_n hx hb zd_M_fault_1 rfl (lv_at hl 1 rfl) ?_
  refine lv_i2l (v := (zq_j_i2l p0)) hx hb zd_M_fault_2 rfl ?_
  refine lv_lconst (v := 0) hx hb zd_M_fault_3 (by decide) ?_
  refine lv_lconst (v := 1) hx hb zd_M_fault_4 (by decide) ?_
  refine zq_c_Si (rest := [.ref (ad 0)]) (adl := (A_M_fault ad)) (wr := [(ad 0, .inr (10, [.int gthr, .int greg, .ref (ad 1), .ref (ad 2), .ref (ad 3), .ref (ad 4), .ref (ad 5), .ref (ad 6), .ref (ad 7), .ref (ad 8), .ref (ad 9), .int gcon, .int gfld, .int gtrn, .int gins, .ref (ad 10), .ref (ad 11), .ref (ad 12), .ref (ad 13), .ref (ad 14), .ref (ad 15), .ref (ad 16), .ref (ad 17), .ref (ad 18), .ref (ad 19), .ref (ad 20), .ref (ad 21), .ref (ad 22), .ref (ad 23), .int glev, .int gkep, .int glvs, .int gkps, .ref (ad 24), .ref (ad 25), .int gwrd, .int gsta, .int gflt, .int gend, .int ghal, .int gwro, .int gwai, .long gwpl, .int gwrs, .ref (ad 26), .ref (ad 27), .ref (ad 28), .ref (ad 29), .int ghlt, .int glat, .int glpl, .ref (ad 30)]))]) ⟨hx, hb, hml, hown, ht⟩ (c_M_in l D kT ad (zq_j_i2l p0) 0 1 _ h) (cwS 3 ht (zq_gS zw_391 zw_392 zw_393 zw_394) rfl rfl rfl zh_M_in ⟨Nat.le_of_ble_eq_true rfl, Nat.le_of_ble_eq_true rfl⟩) hE hP hD hS hA [] [0] 1 rfl (by decide +kernel) rfl (by decide +kernel) rfl rfl  rfl hl.1 (Nat.le_of_ble_eq_true rfl) rfl zd_M_fault_5 ⟨Nat.zero_le _, Nat.zero_le _⟩ (fun r_1 w1 H locs hw hJ hS => ?_)
  obtain ⟨rfl, h⟩ := hw
  obtain ⟨hP, hD⟩ := hJ (W_M_fault kT ad gthr greg gcon gfld gtrn gins glev gkep glvs gkps gwrd gsta gflt gend ghal gwro gwai gwpl gwrs ghlt glat glpl) rfl rfl rfl
  refine lv_iconst (v := 1) hx hb zd_M_fault_8 (by decide) ?_
  refine zq_c_Vi (rest := []) (adl := (A_M_fault ad)) (wr := []) ⟨hx, hb, hml, hown, ht⟩ (c_M_goes l D kT ad gthr greg gcon gfld gtrn gins glev gkep glvs gkps gwrd gsta gflt gend ghal gwro gwai gwpl gwrs ghlt glat glpl r_1 1 _ h) (cwV 2 ht (zq_gV zw_396 zw_397 zw_398 zw_393 zw_399) rfl rfl rfl zh_M_goes ⟨Nat.le_of_ble_eq_true rfl, Nat.le_of_ble_eq_true rfl⟩) hE hP hD hS hA [0] [] 1 rfl (by decide +kernel) rfl (by decide +kernel) rfl rfl 0 rfl rfl rfl rfl hl.1 (Nat.le_of_ble_eq_true rfl) rfl zd_M_fault_9 ⟨Nat.zero_le _, Nat.zero_le _⟩ (fun r_3 w1 H locs hw hJ hS => ?_)
  obtain ⟨gthr_2, rfl, h⟩ := hw
  obtain ⟨hP, hD⟩ := hJ (W_M_fault kT ad gthr_2 greg gcon gfld gtrn gins glev gkep glvs gkps gwrd gsta gflt gend ghal gwro gwai gwpl gwrs ghlt glat glpl) rfl rfl rfl
  refine lv_if_ne (tgt := 17) hx hb zd_M_fault_12 (by decide) (fun c_4 => ?_) (fun c_4 => ?_)
  · have h := zq_if c_4 h
    refine lv_iload_n hx hb zd_M_fault_17 rfl (lv_at hl 1 rfl) ?_
    refine lv_if_ne (tgt := 28) hx hb zd_M_fault_18 (by decide) (fun c_5 => ?_) (fun c_5 => ?_)
    · have h := zq_if c_5 h
      refine lv_aload_n hx hb zd_M_fault_28 rfl (lv_at hl 0 rfl) ?_
      refine va_get (D := D) (ci := 10) (v := .int glpl) (C := zR_M) (T := zF_M) (N := 52) hx hb ht zi_M hown hK hP 0 rfl rfl 50 (by decide) (ht _ zw_438) (fun _ h9 => h9) rfl zd_M_fault_29 ?_
      exact hret glpl  _ H locs 32 ls ⟨gthr_2, rfl, h⟩ hP rfl hS zd_M_fault_32
    · have h := zq_it c_5 h
      refine lv_aload_n hx hb zd_M_fault_21 rfl (lv_at hl 0 rfl) ?_
      refine va_get (D := D) (ci := 10) (v := .int glat) (C := zR_M) (T := zF_M) (N := 52) hx hb ht zi_M hown hK hP 0 rfl rfl 49 (by decide) (ht _ zw_436) (fun _ h9 => h9) rfl zd_M_fault_22 ?_
      refine lv_goto (tgt := 32) hx hb zd_M_fault_25 (by decide) ?_
      exact hret glat  _ H locs 32 ls ⟨gthr_2, rfl, h⟩ hP rfl hS zd_M_fault_32
  · have h := zq_it c_4 h
    refine lv_iconst (v := 0) hx hb zd_M_fault_15 (by decide) ?_
    exact hret 0  _ H locs 16 ls ⟨gthr_2, rfl, h⟩ hP rfl hS zd_M_fault_16
abbrev W_M_halted (kT : Nat → ClassId) (ad : Nat → Nat) (gthr : Int32) (greg : Int32) (gcon : Int32) (gfld : Int32) (gtrn : Int32) (gins : Int32) (glev : Int32) (gkep : Int32) (glvs : Int32) (gkps : Int32) (gwrd : Int32) (gsta : Int32) (gflt : Int32) (gend : Int32) (ghal : Int32) (gwro : Int32) (gwai : Int32) (gwpl : Int64) (gwrs : Int32) (ghlt : Int32) (glat : Int32) (glpl : Int32) : va_W := [(ad 0, .inr (10, [.int gthr, .int greg, .ref (ad 1), .ref (ad 2), .ref (ad 3), .ref (ad 4), .ref (ad 5), .ref (ad 6), .ref (ad 7), .ref (ad 8), .ref (ad 9), .int gcon, .int gfld, .int gtrn, .int gins, .ref (ad 10), .ref (ad 11), .ref (ad 12), .ref (ad 13), .ref (ad 14), .ref (ad 15), .ref (ad 16), .ref (ad 17), .ref (ad 18), .ref (ad 19), .ref (ad 20), .ref (ad 21), .ref (ad 22), .ref (ad 23), .int glev, .int gkep, .int glvs, .int gkps, .ref (ad 24), .ref (ad 25), .int gwrd, .int gsta, .int gflt, .int gend, .int ghal, .int gwro, .int gwai, .long gwpl, .int gwrs, .ref (ad 26), .ref (ad 27), .ref (ad 28), .ref (ad 29), .int ghlt, .int glat, .int glpl, .ref (ad 30)]))]
abbrev A_M_halted (ad : Nat → Nat) : List Nat := [ad 0]
def wp_M_halted (gthr : Int32) (greg : Int32) (gcon : Int32) (gfld : Int32) (gtrn : Int32) (gins : Int32) (glev : Int32) (gkep : Int32) (glvs : Int32) (gkps : Int32) (gwrd : Int32) (gsta : Int32) (gflt : Int32) (gend : Int32) (ghal : Int32) (gwro : Int32) (gwai : Int32) (gwpl : Int64) (gwrs : Int32) (ghlt : Int32) (glat : Int32) (glpl : Int32)  (post : Int32 → Int32 → Prop) : Prop := post ghlt 0
set_option maxHeartbeats 4000000 in
set_option maxRecDepth 100000 in
theorem c_M_halted (l : Launch) (D : va_G) (kT : Nat → ClassId) (ad : Nat → Nat) (gthr : Int32) (greg : Int32) (gcon : Int32) (gfld : Int32) (gtrn : Int32) (gins : Int32) (glev : Int32) (gkep : Int32) (glvs : Int32) (gkps : Int32) (gwrd : Int32) (gsta : Int32) (gflt : Int32) (gend : Int32) (ghal : Int32) (gwro : Int32) (gwai : Int32) (gwpl : Int64) (gwrs : Int32) (ghlt : Int32) (glat : Int32) (glpl : Int32)  (post : Int32 → Int32 → Prop) (h : wp_M_halted gthr greg gcon gfld gtrn gins glev gkep glvs gkps gwrd gsta gflt gend ghal gwro gwai gwpl gwrs ghlt glat glpl  post) : zq_Mi l zy_M_halted zs_M_halted ({ frames := 0, cells := 0, slots := 0, locals := 0 }) D kT [.ref (ad 0)] (W_M_halted kT ad gthr greg gcon gfld gtrn gins glev gkep glvs gkps gwrd gsta gflt gend ghal gwro gwai gwpl gwrs ghlt glat glpl) (fun r w' => ∃ (gthr' : Int32), w' = (W_M_halted kT ad gthr' greg gcon gfld gtrn gins glev gkep glvs gkps gwrd gsta gflt gend ghal gwro gwai gwpl gwrs ghlt glat glpl) ∧ post r gthr') := by
  refine zq_Mi_of (adl := (A_M_halted ad)) (cc := zb_M_halted) (maxL := 1) (own := zR_M) rfl (by decide) rfl rfl (Nat.le_of_ble_eq_true rfl) ?_
  intro p e s m AV below meth c A QQ H locs ls hx hb hml hown ht hE hA hret hP hD hS hl
  have hK := hE.1
  have hl : lv_has ls 1 [(0, .ref (ad 0))] := hl
  refine lv_aload_n hx hb zd_M_halted_0 rfl (lv_at hl 0 rfl) ?_
  refine lv_iconst (v := 0) hx hb zd_M_halted_1 (by decide) ?_
  refine va_put (D := D) (ci := 10) (v := .int 0) (ty := .int) (C := zR_M) (T := zF_M) (N := 52) hx hb ht zi_M zt_M zt_M_ok zn_M hown hK hP hD hS 0 rfl rfl 0 (by decide) (ht _ zw_388) (fun _ h9 => h9) rfl (by decide +kernel) rfl rfl (Nat.le_of_ble_eq_true rfl) zd_M_halted_2 (fun H locs hP hD hS => ?_)
  have hP : va_P D vwCl (W_M_halted kT ad 0 greg gcon gfld gtrn gins glev gkep glvs gkps gwrd gsta gflt gend ghal gwro gwai gwpl gwrs ghlt glat glpl) H := hP
  have hD : va_D A (W_M_halted kT ad 0 greg gcon gfld gtrn gins glev gkep glvs gkps gwrd gsta gflt gend ghal gwro gwai gwpl gwrs ghlt glat glpl) := hD
  refine lv_aload_n hx hb zd_M_halted_5 rfl (lv_at hl 0 rfl) ?_
  refine va_get (D := D) (ci := 10) (v := .int ghlt) (C := zR_M) (T := zF_M) (N := 52) hx hb ht zi_M hown hK hP 0 rfl rfl 48 (by decide) (ht _ zw_434) (fun _ h9 => h9) rfl zd_M_halted_6 ?_
  exact hret ghlt  _ H locs 9 ls ⟨0, rfl, h⟩ hP rfl hS zd_M_halted_9
abbrev W_M_counter (kT : Nat → ClassId) (ad : Nat → Nat) (gthr : Int32) (greg : Int32) (gcon : Int32) (gfld : Int32) (gtrn : Int32) (gins : Int32) (glev : Int32) (gkep : Int32) (glvs : Int32) (gkps : Int32) (gwrd : Int32) (gsta : Int32) (gflt : Int32) (gend : Int32) (ghal : Int32) (gwro : Int32) (gwai : Int32) (gwpl : Int64) (gwrs : Int32) (ghlt : Int32) (glat : Int32) (glpl : Int32) (acnt : Nat → Int32) : va_W := [(ad 0, .inr (10, [.int gthr, .int greg, .ref (ad 1), .ref (ad 2), .ref (ad 3), .ref (ad 4), .ref (ad 5), .ref (ad 6), .ref (ad 7), .ref (ad 8), .ref (ad 9), .int gcon, .int gfld, .int gtrn, .int gins, .ref (ad 10), .ref (ad 11), .ref (ad 12), .ref (ad 13), .ref (ad 14), .ref (ad 15), .ref (ad 16), .ref (ad 17), .ref (ad 18), .ref (ad 19), .ref (ad 20), .ref (ad 21), .ref (ad 22), .ref (ad 23), .int glev, .int gkep, .int glvs, .int gkps, .ref (ad 24), .ref (ad 25), .int gwrd, .int gsta, .int gflt, .int gend, .int ghal, .int gwro, .int gwai, .long gwpl, .int gwrs, .ref (ad 26), .ref (ad 27), .ref (ad 28), .ref (ad 29), .int ghlt, .int glat, .int glpl, .ref (ad 30)])), (ad 30, .inl (kT 0, 9, .inl acnt))]
abbrev A_M_counter (ad : Nat → Nat) : List Nat := [ad 0, ad 30]
def wp_M_counter (gthr : Int32) (greg : Int32) (gcon : Int32) (gfld : Int32) (gtrn : Int32) (gins : Int32) (glev : Int32) (gkep : Int32) (glvs : Int32) (gkps : Int32) (gwrd : Int32) (gsta : Int32) (gflt : Int32) (gend : Int32) (ghal : Int32) (gwro : Int32) (gwai : Int32) (gwpl : Int64) (gwrs : Int32) (ghlt : Int32) (glat : Int32) (glpl : Int32) (acnt : Nat → Int32) (p0 : Int32) (post : Int32 → Int32 → Prop) : Prop := wp_M_in (zq_j_i2l p0) 0 8 (fun r_1 => wp_M_goes gthr greg gcon gfld gtrn gins glev gkep glvs gkps gwrd gsta gflt gend ghal gwro gwai gwpl gwrs ghlt glat glpl r_1 1 (fun r_3 gthr_2 => (if r_3 = 0 then post 0 gthr_2 else (if p0 = 6 then post glev gthr_2 else (if p0 = 7 then post gkep gthr_2 else vp_in p0 9 ∧ post (acnt p0.toNatClampNeg) gthr_2)))))
set_option maxHeartbeats 4000000 in
set_option maxRecDepth 100000 in
theorem c_M_counter (l : Launch) (D : va_G) (kT : Nat → ClassId) (ad : Nat → Nat) (gthr : Int32) (greg : Int32) (gcon : Int32) (gfld : Int32) (gtrn : Int32) (gins : Int32) (glev : Int32) (gkep : Int32) (glvs : Int32) (gkps : Int32) (gwrd : Int32) (gsta : Int32) (gflt : Int32) (gend : Int32) (ghal : Int32) (gwro : Int32) (gwai : Int32) (gwpl : Int64) (gwrs : Int32) (ghlt : Int32) (glat : Int32) (glpl : Int32) (acnt : Nat → Int32) (p0 : Int32) (post : Int32 → Int32 → Prop) (h : wp_M_counter gthr greg gcon gfld gtrn gins glev gkep glvs gkps gwrd gsta gflt gend ghal gwro gwai gwpl gwrs ghlt glat glpl acnt p0 post) : zq_Mi l zy_M_counter zs_M_counter ({ frames := 1, cells := 0, slots := 0, locals := 25 }) D kT [.ref (ad 0), .int p0] (W_M_counter kT ad gthr greg gcon gfld gtrn gins glev gkep glvs gkps gwrd gsta gflt gend ghal gwro gwai gwpl gwrs ghlt glat glpl acnt) (fun r w' => ∃ (gthr' : Int32), w' = (W_M_counter kT ad gthr' greg gcon gfld gtrn gins glev gkep glvs gkps gwrd gsta gflt gend ghal gwro gwai gwpl gwrs ghlt glat glpl acnt) ∧ post r gthr') := by
  refine zq_Mi_of (adl := (A_M_counter ad)) (cc := zb_M_counter) (maxL := 2) (own := zR_M) rfl (by decide) rfl rfl (Nat.le_of_ble_eq_true rfl) ?_
  intro p e s m AV below meth c A QQ H locs ls hx hb hml hown ht hE hA hret hP hD hS hl
  have hK := hE.1
  have hl : lv_has ls 2 [(0, .ref (ad 0)), (1, .int p0)] := hl
  refine lv_aload_n hx hb zd_M_counter_0 rfl (lv_at hl 0 rfl) ?_
  refine lv_iload_n hx hb zd_M_counter_1 rfl (lv_at hl 1 rfl) ?_
  refine lv_i2l (v := (zq_j_i2l p0)) hx hb zd_M_counter_2 rfl ?_
  refine lv_lconst (v := 0) hx hb zd_M_counter_3 (by decide) ?_
  refine W.ldc2 (v := 8) hx hb hown (ht _ zw_579) rfl zd_M_counter_4 ?_
  refine W.eq (g2 := F0 m 7 ls [.long 8, .long 0, .long (zq_j_i2l p0), .ref (ad 0)]) rfl ?_
  refine zq_c_Si (rest := [.ref (ad 0)]) (adl := (A_M_counter ad)) (wr := [(ad 0, .inr (10, [.int gthr, .int greg, .ref (ad 1), .ref (ad 2), .ref (ad 3), .ref (ad 4), .ref (ad 5), .ref (ad 6), .ref (ad 7), .ref (ad 8), .ref (ad 9), .int gcon, .int gfld, .int gtrn, .int gins, .ref (ad 10), .ref (ad 11), .ref (ad 12), .ref (ad 13), .ref (ad 14), .ref (ad 15), .ref (ad 16), .ref (ad 17), .ref (ad 18), .ref (ad 19), .ref (ad 20), .ref (ad 21), .ref (ad 22), .ref (ad 23), .int glev, .int gkep, .int glvs, .int gkps, .ref (ad 24), .ref (ad 25), .int gwrd, .int gsta, .int gflt, .int gend, .int ghal, .int gwro, .int gwai, .long gwpl, .int gwrs, .ref (ad 26), .ref (ad 27), .ref (ad 28), .ref (ad 29), .int ghlt, .int glat, .int glpl, .ref (ad 30)])), (ad 30, .inl (kT 0, 9, .inl acnt))]) ⟨hx, hb, hml, hown, ht⟩ (c_M_in l D kT ad (zq_j_i2l p0) 0 8 _ h) (cwS 3 ht (zq_gS zw_391 zw_392 zw_393 zw_394) rfl rfl rfl zh_M_in ⟨Nat.le_of_ble_eq_true rfl, Nat.le_of_ble_eq_true rfl⟩) hE hP hD hS hA [] [0, 1] 2 rfl (by decide +kernel) rfl (by decide +kernel) rfl rfl  rfl hl.1 (Nat.le_of_ble_eq_true rfl) rfl zd_M_counter_7 ⟨Nat.zero_le _, Nat.zero_le _⟩ (fun r_1 w1 H locs hw hJ hS => ?_)
  obtain ⟨rfl, h⟩ := hw
  obtain ⟨hP, hD⟩ := hJ (W_M_counter kT ad gthr greg gcon gfld gtrn gins glev gkep glvs gkps gwrd gsta gflt gend ghal gwro gwai gwpl gwrs ghlt glat glpl acnt) rfl rfl rfl
  refine lv_iconst (v := 1) hx hb zd_M_counter_10 (by decide) ?_
  refine zq_c_Vi (rest := []) (adl := (A_M_counter ad)) (wr := [(ad 30, .inl (kT 0, 9, .inl acnt))]) ⟨hx, hb, hml, hown, ht⟩ (c_M_goes l D kT ad gthr greg gcon gfld gtrn gins glev gkep glvs gkps gwrd gsta gflt gend ghal gwro gwai gwpl gwrs ghlt glat glpl r_1 1 _ h) (cwV 2 ht (zq_gV zw_396 zw_397 zw_398 zw_393 zw_399) rfl rfl rfl zh_M_goes ⟨Nat.le_of_ble_eq_true rfl, Nat.le_of_ble_eq_true rfl⟩) hE hP hD hS hA [0] [1] 2 rfl (by decide +kernel) rfl (by decide +kernel) rfl rfl 0 rfl rfl rfl rfl hl.1 (Nat.le_of_ble_eq_true rfl) rfl zd_M_counter_11 ⟨Nat.zero_le _, Nat.zero_le _⟩ (fun r_3 w1 H locs hw hJ hS => ?_)
  obtain ⟨gthr_2, rfl, h⟩ := hw
  obtain ⟨hP, hD⟩ := hJ (W_M_counter kT ad gthr_2 greg gcon gfld gtrn gins glev gkep glvs gkps gwrd gsta gflt gend ghal gwro gwai gwpl gwrs ghlt glat glpl acnt) rfl rfl rfl
  refine lv_if_ne (tgt := 19) hx hb zd_M_counter_14 (by decide) (fun c_4 => ?_) (fun c_4 => ?_)
  · have h := zq_if c_4 h
    refine lv_iload_n hx hb zd_M_counter_19 rfl (lv_at hl 1 rfl) ?_
    refine lv_bipush (v := 6) hx hb zd_M_counter_20 (by decide) ?_
    refine lv_icmp_ne (tgt := 32) hx hb zd_M_counter_22 (by decide) (fun c_5 => ?_) (fun c_5 => ?_)
    · have h := zq_if c_5 h
      refine lv_iload_n hx hb zd_M_counter_32 rfl (lv_at hl 1 rfl) ?_
      refine lv_bipush (v := 7) hx hb zd_M_counter_33 (by decide) ?_
      refine lv_icmp_ne (tgt := 45) hx hb zd_M_counter_35 (by decide) (fun c_6 => ?_) (fun c_6 => ?_)
      · have h := zq_if c_6 h
        refine lv_aload_n hx hb zd_M_counter_45 rfl (lv_at hl 0 rfl) ?_
        refine va_get (D := D) (ci := 10) (v := .ref (ad 30)) (C := zR_M) (T := zF_M) (N := 52) hx hb ht zi_M hown hK hP 0 rfl rfl 51 (by decide) (ht _ zw_435) (fun _ h9 => h9) rfl zd_M_counter_46 ?_
        refine lv_iload_n hx hb zd_M_counter_49 rfl (lv_at hl 1 rfl) ?_
        obtain ⟨hi_7, h⟩ := h
        refine zq_a_iald (D := D) hx hb hK hP 1 0 rfl rfl hi_7 rfl zd_M_counter_50 ?_
        exact hret (acnt p0.toNatClampNeg)  _ H locs 51 ls ⟨gthr_2, rfl, h⟩ hP rfl hS zd_M_counter_51
      · have h := zq_it c_6 h
        refine lv_aload_n hx hb zd_M_counter_38 rfl (lv_at hl 0 rfl) ?_
        refine va_get (D := D) (ci := 10) (v := .int gkep) (C := zR_M) (T := zF_M) (N := 52) hx hb ht zi_M hown hK hP 0 rfl rfl 30 (by decide) (ht _ zw_430) (fun _ h9 => h9) rfl zd_M_counter_39 ?_
        refine lv_goto (tgt := 51) hx hb zd_M_counter_42 (by decide) ?_
        exact hret gkep  _ H locs 51 ls ⟨gthr_2, rfl, h⟩ hP rfl hS zd_M_counter_51
    · have h := zq_it c_5 h
      refine lv_aload_n hx hb zd_M_counter_25 rfl (lv_at hl 0 rfl) ?_
      refine va_get (D := D) (ci := 10) (v := .int glev) (C := zR_M) (T := zF_M) (N := 52) hx hb ht zi_M hown hK hP 0 rfl rfl 29 (by decide) (ht _ zw_433) (fun _ h9 => h9) rfl zd_M_counter_26 ?_
      refine lv_goto (tgt := 51) hx hb zd_M_counter_29 (by decide) ?_
      exact hret glev  _ H locs 51 ls ⟨gthr_2, rfl, h⟩ hP rfl hS zd_M_counter_51
  · have h := zq_it c_4 h
    refine lv_iconst (v := 0) hx hb zd_M_counter_17 (by decide) ?_
    exact hret 0  _ H locs 18 ls ⟨gthr_2, rfl, h⟩ hP rfl hS zd_M_counter_18
