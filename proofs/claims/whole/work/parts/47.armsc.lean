def zq_t8 (u : zq_C) (v : zq_M) (fo : Nat → Int64) (a1 : Int32) (a2 : Int32) (a3 : Int32) (post : zq_C → zq_M → Prop) : Prop := wp_L_set u.rn u.rc u.rv u.rm u.mw u.mh u.mk u.mp fo a1 ((zq_j_lshl (zq_j_i2l a2) 32) ||| ((zq_j_i2l a3) &&& 4294967295)) (fun r_1 fo_1 rv_1 rm_1 mw_1 => wp_M_set v.gthr v.greg v.gcon v.gfld v.gtrn v.gins v.glev v.gkep v.glvs v.gkps v.gwrd v.gsta v.gflt v.gend v.ghal v.gwro v.gwai v.gwpl v.gwrs v.ghlt v.glat v.glpl v.awid v.aval v.amrk a1 ((zq_j_lshl (zq_j_i2l a2) 32) ||| ((zq_j_i2l a3) &&& 4294967295)) (fun r_2 gthr_2 gwai_2 aval_2 amrk_2 => wp_M_thrown (zq_S_M_set v gthr_2 gwai_2 aval_2 amrk_2).gthr (zq_S_M_set v gthr_2 gwai_2 aval_2 amrk_2).greg (zq_S_M_set v gthr_2 gwai_2 aval_2 amrk_2).gcon (zq_S_M_set v gthr_2 gwai_2 aval_2 amrk_2).gfld (zq_S_M_set v gthr_2 gwai_2 aval_2 amrk_2).gtrn (zq_S_M_set v gthr_2 gwai_2 aval_2 amrk_2).gins (zq_S_M_set v gthr_2 gwai_2 aval_2 amrk_2).glev (zq_S_M_set v gthr_2 gwai_2 aval_2 amrk_2).gkep (zq_S_M_set v gthr_2 gwai_2 aval_2 amrk_2).glvs (zq_S_M_set v gthr_2 gwai_2 aval_2 amrk_2).gkps (zq_S_M_set v gthr_2 gwai_2 aval_2 amrk_2).gwrd (zq_S_M_set v gthr_2 gwai_2 aval_2 amrk_2).gsta (zq_S_M_set v gthr_2 gwai_2 aval_2 amrk_2).gflt (zq_S_M_set v gthr_2 gwai_2 aval_2 amrk_2).gend (zq_S_M_set v gthr_2 gwai_2 aval_2 amrk_2).ghal (zq_S_M_set v gthr_2 gwai_2 aval_2 amrk_2).gwro (zq_S_M_set v gthr_2 gwai_2 aval_2 amrk_2).gwai (zq_S_M_set v gthr_2 gwai_2 aval_2 amrk_2).gwpl (zq_S_M_set v gthr_2 gwai_2 aval_2 amrk_2).gwrs (zq_S_M_set v gthr_2 gwai_2 aval_2 amrk_2).ghlt (zq_S_M_set v gthr_2 gwai_2 aval_2 amrk_2).glat (zq_S_M_set v gthr_2 gwai_2 aval_2 amrk_2).glpl  (fun r_3  => r_3 = r_1 ∧ (r_1 = 0 → fo_1 0 = r_2) ∧ post (zq_S_L_set u rv_1 rm_1 mw_1) (zq_S_M_set v gthr_2 gwai_2 aval_2 amrk_2))))
set_option maxHeartbeats 4000000 in
set_option maxRecDepth 100000 in
theorem zq_arm8 {p : Program} {l : Launch} {e : Env} {s : State} {m : MethodId} {below : List Frame} {meth : Method} {c : Code} {D : va_G} {kT : Nat → ClassId} {b L : Nat} {xs : Nat → Int32} {adc adm : Nat → Nat} {ao : Nat} {H : Heap} {locs : List Loc} {cells slots : Nat} {Q : State → Prop} (X : zq_lx p l s m c D kT b L xs) (u : zq_C) (v : zq_M) (fo : Nat → Int64) {a1 : Int32} {a2 : Int32} {a3 : Int32} (post : zq_C → zq_M → Prop) {x4 : Int32} (hi1 : vp_in (x4 + 1) L) (ha1 : xs (x4 + 1).toNatClampNeg = a1) (hi2 : vp_in (x4 + 2) L) (ha2 : xs (x4 + 2).toNatClampNeg = a2) (hi3 : vp_in (x4 + 3) L) (ha3 : xs (x4 + 3).toNatClampNeg = a3) (h : zq_t8 u v fo a1 a2 a3 post) (hf : cells + 1 ≤ room_1.cells ∧ slots + 6 ≤ room_1.slots) (hP : va_P D vwCl (zq_Wl kT adc adm ao u v fo) H) (hD : va_D (zq_lA s) (zq_Wl kT adc adm ao u v fo)) (hS : va_S (zq_lA s) s.heap H locs) {ls : Array Slot} (hl : lv_has ls 8 [(0, .ref b), (1, .ref (adc 0)), (2, .ref (adm 0)), (3, .ref ao), (4, .int x4)])
    (kk : ∀ (u : zq_C) (v : zq_M) (fo : Nat → Int64) (H : Heap) (locs : List Loc) (ls : Array Slot), post u v → va_P D vwCl (zq_Wl kT adc adm ao u v fo) H → va_D (zq_lA s) (zq_Wl kT adc adm ao u v fo) → va_S (zq_lA s) s.heap H locs → lv_has ls 8 [(0, .ref b), (1, .ref (adc 0)), (2, .ref (adm 0)), (3, .ref ao), (4, .int x4)] → W p l e room_1 s m #[Value.ref b] below meth c H locs (cells + 1) (slots + 6) Q (F0 m 1209 ls [])) :
    W p l e room_1 s m #[Value.ref b] below meth c H locs cells slots Q (F0 m 708 ls []) := by
  obtain ⟨hst, hx, hb, hml, hown, ht, hE, hX, hN, hXs, hbl⟩ := X
  have hK := hE.1
  have hA : ∀ q : Nat, s.heap.size ≤ q → zq_lA s q := fun _ h => h
  have hbA : ¬ zq_lA s b := Nat.not_le.mpr hbl
  unfold zq_t8 at h
  refine lv_aload_n hx hb zd_law_708 rfl (lv_at hl 1 rfl) ?_
  refine lv_aload_n hx hb zd_law_709 rfl (lv_at hl 0 rfl) ?_
  refine lv_iload hx hb zd_law_710 (lv_at hl 4 rfl) ?_
  refine lv_iconst (v := 1) hx hb zd_law_712 (by decide) ?_
  refine lv_iadd hx hb zd_law_713 ?_
  refine zq_sld hx hb hXs hbl hbA hS hi1 ha1 zd_law_714 ?_
  refine lv_aload_n hx hb zd_law_715 rfl (lv_at hl 0 rfl) ?_
  refine lv_iload hx hb zd_law_716 (lv_at hl 4 rfl) ?_
  refine lv_iconst (v := 2) hx hb zd_law_718 (by decide) ?_
  refine lv_iadd hx hb zd_law_719 ?_
  refine zq_sld hx hb hXs hbl hbA hS hi2 ha2 zd_law_720 ?_
  refine lv_i2l (v := (zq_j_i2l a2)) hx hb zd_law_721 rfl ?_
  refine lv_bipush (v := 32) hx hb zd_law_722 (by decide) ?_
  refine lv_lshl (v := (zq_j_lshl (zq_j_i2l a2) 32)) hx hb zd_law_724 rfl ?_
  refine lv_aload_n hx hb zd_law_725 rfl (lv_at hl 0 rfl) ?_
  refine lv_iload hx hb zd_law_726 (lv_at hl 4 rfl) ?_
  refine lv_iconst (v := 3) hx hb zd_law_728 (by decide) ?_
  refine lv_iadd hx hb zd_law_729 ?_
  refine zq_sld hx hb hXs hbl hbA hS hi3 ha3 zd_law_730 ?_
  refine lv_i2l (v := (zq_j_i2l a3)) hx hb zd_law_731 rfl ?_
  refine W.ldc2 (v := 4294967295) hx hb hown (ht _ zw_782) rfl zd_law_732 ?_
  refine W.eq (g2 := F0 m 735 ls [.long 4294967295, .long (zq_j_i2l a3), .long (zq_j_lshl (zq_j_i2l a2) 32), .int a1, .ref (adc 0)]) rfl ?_
  refine lv_land hx hb zd_law_735 ?_
  refine lv_lor hx hb zd_law_736 ?_
  refine lv_aload_n hx hb zd_law_737 rfl (lv_at hl 3 rfl) ?_
  refine zq_c_SW (rest := []) (adl := (zq_Al adc adm ao)) (wr := (zq_R_L_set kT adc adm ao u v fo)) ⟨hx, hb, hml, hown, ht⟩ (c_L_set l hst D kT adc ao u.rn u.rc u.rv u.rm u.mw u.mh u.mk u.mp fo a1 ((zq_j_lshl (zq_j_i2l a2) 32) ||| ((zq_j_i2l a3) &&& 4294967295)) _ h) (zq_cwSW 4 ht (zq_gSW zw_832 zw_833 zw_772 zw_834) rfl rfl rfl zh_L_set ⟨Nat.le_of_ble_eq_true rfl, Nat.le_of_ble_eq_true rfl⟩) hE hX hN hP hD hS hA [0, 1, 2, 3, 4, 33, 66] [5, 6, 7, 8, 9, 10, 11, 12, 13, 14, 15, 16, 17, 18, 19, 20, 21, 22, 23, 24, 25, 26, 27, 28, 29, 30, 31, 32, 34, 35, 36, 37, 38, 39, 40, 41, 42, 43, 44, 45, 46, 47, 48, 49, 50, 51, 52, 53, 54, 55, 56, 57, 58, 59, 60, 61, 62, 63, 64, 65] 67 rfl (by decide +kernel) rfl (by decide +kernel) rfl rfl rfl hl.1 (Nat.le_of_ble_eq_true rfl) rfl zd_law_738 hf (fun r_1 w1 H locs hw hJ hS => ?_)
  obtain ⟨rv_1, rm_1, mw_1, fo_1, rfl, h⟩ := hw
  obtain ⟨hP, hD⟩ := hJ (zq_Wl kT adc adm ao (zq_S_L_set u rv_1 rm_1 mw_1) v fo_1) rfl rfl rfl
  refine lv_istore (lv' := [(5, .int r_1), (0, .ref b), (1, .ref (adc 0)), (2, .ref (adm 0)), (3, .ref ao), (4, .int x4)]) hx hb zd_law_741 hl (by decide) rfl (fun ls hl => ?_)
  refine lv_aload_n hx hb zd_law_743 rfl (lv_at hl 3 rfl) ?_
  refine lv_aload_n hx hb zd_law_744 rfl (lv_at hl 1 rfl) ?_
  refine lv_iload hx hb zd_law_745 (lv_at hl 5 rfl) ?_
  refine lv_iconst (v := 1) hx hb zd_law_747 (by decide) ?_
  refine lv_iadd hx hb zd_law_748 ?_
  refine zq_sld hx hb hXs hbl hbA hS hi1 ha1 zd_law_749 ?_
  refine lv_aload_n hx hb zd_law_750 rfl (lv_at hl 1 rfl) ?_
  refine lv_iload hx hb zd_law_751 (lv_at hl 5 rfl) ?_
  refine lv_iconst (v := 2) hx hb zd_law_753 (by decide) ?_
  refine lv_iadd hx hb zd_law_754 ?_
  refine zq_sld hx hb hXs hbl hbA hS hi2 ha2 zd_law_755 ?_
  refine lv_i2l (v := (zq_j_i2l a2)) hx hb zd_law_756 rfl ?_
  refine lv_bipush (v := 32) hx hb zd_law_757 (by decide) ?_
  refine lv_lshl (v := (zq_j_lshl (zq_j_i2l a2) 32)) hx hb zd_law_759 rfl ?_
  refine lv_aload_n hx hb zd_law_760 rfl (lv_at hl 1 rfl) ?_
  refine lv_iload hx hb zd_law_761 (lv_at hl 5 rfl) ?_
  refine lv_iconst (v := 3) hx hb zd_law_763 (by decide) ?_
  refine lv_iadd hx hb zd_law_764 ?_
  refine zq_sld hx hb hXs hbl hbA hS hi3 ha3 zd_law_765 ?_
  refine lv_i2l (v := (zq_j_i2l a3)) hx hb zd_law_766 rfl ?_
  refine W.ldc2 (v := 4294967295) hx hb hown (ht _ zw_782) rfl zd_law_767 ?_
  refine W.eq (g2 := F0 m 770 ls [.long 4294967295, .long (zq_j_i2l a3), .long (zq_j_lshl (zq_j_i2l a2) 32), .int a1, .ref (adm 0)]) rfl ?_
  refine lv_land hx hb zd_law_770 ?_
  refine lv_lor hx hb zd_law_771 ?_
  refine zq_c_Vl (rest := []) (adl := (zq_Al adc adm ao)) (wr := (zq_R_M_set kT adc adm ao (zq_S_L_set u rv_1 rm_1 mw_1) v fo_1)) ⟨hx, hb, hml, hown, ht⟩ (c_M_set l D kT adm v.gthr v.greg v.gcon v.gfld v.gtrn v.gins v.glev v.gkep v.glvs v.gkps v.gwrd v.gsta v.gflt v.gend v.ghal v.gwro v.gwai v.gwpl v.gwrs v.ghlt v.glat v.glpl v.awid v.aval v.amrk a1 ((zq_j_lshl (zq_j_i2l a2) 32) ||| ((zq_j_i2l a3) &&& 4294967295)) _ h) (cwV 2 ht (zq_gV zw_835 zw_836 zw_837 zw_393 zw_838) rfl rfl rfl zh_M_set ⟨Nat.le_of_ble_eq_true rfl, Nat.le_of_ble_eq_true rfl⟩) hE hP hD hS hA [35, 36, 37, 40] [0, 1, 2, 3, 4, 5, 6, 7, 8, 9, 10, 11, 12, 13, 14, 15, 16, 17, 18, 19, 20, 21, 22, 23, 24, 25, 26, 27, 28, 29, 30, 31, 32, 33, 34, 38, 39, 41, 42, 43, 44, 45, 46, 47, 48, 49, 50, 51, 52, 53, 54, 55, 56, 57, 58, 59, 60, 61, 62, 63, 64, 65, 66] 67 rfl (by decide +kernel) rfl (by decide +kernel) rfl rfl 0 rfl rfl rfl rfl hl.1 (Nat.le_of_ble_eq_true rfl) rfl zd_law_772 hf (fun r_2 w1 H locs hw hJ hS => ?_)
  obtain ⟨gthr_2, gwai_2, aval_2, amrk_2, rfl, h⟩ := hw
  obtain ⟨hP, hD⟩ := hJ (zq_Wl kT adc adm ao (zq_S_L_set u rv_1 rm_1 mw_1) (zq_S_M_set v gthr_2 gwai_2 aval_2 amrk_2) fo_1) rfl rfl rfl
  refine lv_lstore (lv' := [(6, .long r_2), (5, .int r_1), (0, .ref b), (1, .ref (adc 0)), (2, .ref (adm 0)), (3, .ref ao), (4, .int x4)]) hx hb zd_law_775 hl (by decide) rfl (fun ls hl => ?_)
  refine lv_aload_n hx hb zd_law_777 rfl (lv_at hl 4 rfl) ?_
  refine zq_c_Vi (rest := []) (adl := (zq_Al adc adm ao)) (wr := (zq_R_M_thrown kT adc adm ao (zq_S_L_set u rv_1 rm_1 mw_1) (zq_S_M_set v gthr_2 gwai_2 aval_2 amrk_2) fo_1)) ⟨hx, hb, hml, hown, ht⟩ (c_M_thrown l D kT adm (zq_S_M_set v gthr_2 gwai_2 aval_2 amrk_2).gthr (zq_S_M_set v gthr_2 gwai_2 aval_2 amrk_2).greg (zq_S_M_set v gthr_2 gwai_2 aval_2 amrk_2).gcon (zq_S_M_set v gthr_2 gwai_2 aval_2 amrk_2).gfld (zq_S_M_set v gthr_2 gwai_2 aval_2 amrk_2).gtrn (zq_S_M_set v gthr_2 gwai_2 aval_2 amrk_2).gins (zq_S_M_set v gthr_2 gwai_2 aval_2 amrk_2).glev (zq_S_M_set v gthr_2 gwai_2 aval_2 amrk_2).gkep (zq_S_M_set v gthr_2 gwai_2 aval_2 amrk_2).glvs (zq_S_M_set v gthr_2 gwai_2 aval_2 amrk_2).gkps (zq_S_M_set v gthr_2 gwai_2 aval_2 amrk_2).gwrd (zq_S_M_set v gthr_2 gwai_2 aval_2 amrk_2).gsta (zq_S_M_set v gthr_2 gwai_2 aval_2 amrk_2).gflt (zq_S_M_set v gthr_2 gwai_2 aval_2 amrk_2).gend (zq_S_M_set v gthr_2 gwai_2 aval_2 amrk_2).ghal (zq_S_M_set v gthr_2 gwai_2 aval_2 amrk_2).gwro (zq_S_M_set v gthr_2 gwai_2 aval_2 amrk_2).gwai (zq_S_M_set v gthr_2 gwai_2 aval_2 amrk_2).gwpl (zq_S_M_set v gthr_2 gwai_2 aval_2 amrk_2).gwrs (zq_S_M_set v gthr_2 gwai_2 aval_2 amrk_2).ghlt (zq_S_M_set v gthr_2 gwai_2 aval_2 amrk_2).glat (zq_S_M_set v gthr_2 gwai_2 aval_2 amrk_2).glpl  _ h) (cwV 0 ht (zq_gV zw_778 zw_779 zw_780 zw_393 zw_781) rfl rfl rfl zh_M_thrown ⟨Nat.le_of_ble_eq_true rfl, Nat.le_of_ble_eq_true rfl⟩) hE hP hD hS hA [35] [0, 1, 2, 3, 4, 5, 6, 7, 8, 9, 10, 11, 12, 13, 14, 15, 16, 17, 18, 19, 20, 21, 22, 23, 24, 25, 26, 27, 28, 29, 30, 31, 32, 33, 34, 36, 37, 38, 39, 40, 41, 42, 43, 44, 45, 46, 47, 48, 49, 50, 51, 52, 53, 54, 55, 56, 57, 58, 59, 60, 61, 62, 63, 64, 65, 66] 67 rfl (by decide +kernel) rfl (by decide +kernel) rfl rfl 0 rfl rfl rfl rfl hl.1 (Nat.le_of_ble_eq_true rfl) rfl zd_law_778 hf (fun r_3 w1 H locs hw hJ hS => ?_)
  obtain ⟨rfl, h⟩ := hw
  obtain ⟨hP, hD⟩ := hJ (zq_Wl kT adc adm ao (zq_S_L_set u rv_1 rm_1 mw_1) (zq_S_M_set v gthr_2 gwai_2 aval_2 amrk_2) fo_1) rfl rfl rfl
  refine lv_iload hx hb zd_law_781 (lv_at hl 1 rfl) ?_
  refine lv_icmp_eq (tgt := 788) hx hb zd_law_783 (by decide) (fun c_1 => ?_) (fun c_1 => ?_)
  · refine lv_iload hx hb zd_law_788 (lv_at hl 1 rfl) ?_
    refine lv_if_ne (tgt := 804) hx hb zd_law_790 (by decide) (fun c_2 => ?_) (fun c_2 => ?_)
    · refine lv_goto (tgt := 1209) hx hb zd_law_804 (by decide) ?_
      exact kk (zq_S_L_set u rv_1 rm_1 mw_1) (zq_S_M_set v gthr_2 gwai_2 aval_2 amrk_2) fo_1 H locs ls h.2.2 hP hD hS (lv_sub hl [2, 3, 4, 5, 6] rfl)
    · refine lv_aload_n hx hb zd_law_793 rfl (lv_at hl 5 rfl) ?_
      refine lv_iconst (v := 0) hx hb zd_law_794 (by decide) ?_
      refine zq_a_lald hx hb hK hP 66 1 rfl rfl (zq_in (by decide)) (j := 0) (by decide) zd_law_795 ?_
      refine lv_lload hx hb zd_law_796 (lv_at hl 0 rfl) ?_
      refine W.lcmp hx hb zd_law_798 ?_
      refine lv_if_eq (tgt := 804) hx hb zd_law_799 (by decide) (fun c_3 => ?_) (fun c_3 => ?_)
      · refine lv_goto (tgt := 1209) hx hb zd_law_804 (by decide) ?_
        exact kk (zq_S_L_set u rv_1 rm_1 mw_1) (zq_S_M_set v gthr_2 gwai_2 aval_2 amrk_2) fo_1 H locs ls h.2.2 hP hD hS (lv_sub hl [2, 3, 4, 5, 6] rfl)
      · exact absurd (zq_lc_eq.mpr (h.2.1 c_2)) c_3
  · exact absurd h.1 c_1
def zq_t9 (u : zq_C) (v : zq_M) (fo : Nat → Int64) (a1 : Int32) (post : zq_C → zq_M → Prop) : Prop := wp_L_get u.rn u.rv fo a1 (fun r_1 fo_1  => wp_M_get v.gthr v.greg v.gcon v.gfld v.gtrn v.gins v.glev v.gkep v.glvs v.gkps v.gwrd v.gsta v.gflt v.gend v.ghal v.gwro v.gwai v.gwpl v.gwrs v.ghlt v.glat v.glpl v.aval a1 (fun r_2 gthr_2 => wp_M_thrown (zq_S_M_get v gthr_2).gthr (zq_S_M_get v gthr_2).greg (zq_S_M_get v gthr_2).gcon (zq_S_M_get v gthr_2).gfld (zq_S_M_get v gthr_2).gtrn (zq_S_M_get v gthr_2).gins (zq_S_M_get v gthr_2).glev (zq_S_M_get v gthr_2).gkep (zq_S_M_get v gthr_2).glvs (zq_S_M_get v gthr_2).gkps (zq_S_M_get v gthr_2).gwrd (zq_S_M_get v gthr_2).gsta (zq_S_M_get v gthr_2).gflt (zq_S_M_get v gthr_2).gend (zq_S_M_get v gthr_2).ghal (zq_S_M_get v gthr_2).gwro (zq_S_M_get v gthr_2).gwai (zq_S_M_get v gthr_2).gwpl (zq_S_M_get v gthr_2).gwrs (zq_S_M_get v gthr_2).ghlt (zq_S_M_get v gthr_2).glat (zq_S_M_get v gthr_2).glpl  (fun r_3  => r_3 = r_1 ∧ (r_1 = 0 → fo_1 0 = r_2) ∧ post u (zq_S_M_get v gthr_2))))
set_option maxHeartbeats 4000000 in
set_option maxRecDepth 100000 in
theorem zq_arm9 {p : Program} {l : Launch} {e : Env} {s : State} {m : MethodId} {below : List Frame} {meth : Method} {c : Code} {D : va_G} {kT : Nat → ClassId} {b L : Nat} {xs : Nat → Int32} {adc adm : Nat → Nat} {ao : Nat} {H : Heap} {locs : List Loc} {cells slots : Nat} {Q : State → Prop} (X : zq_lx p l s m c D kT b L xs) (u : zq_C) (v : zq_M) (fo : Nat → Int64) {a1 : Int32} (post : zq_C → zq_M → Prop) {x4 : Int32} (hi1 : vp_in (x4 + 1) L) (ha1 : xs (x4 + 1).toNatClampNeg = a1) (h : zq_t9 u v fo a1 post) (hf : cells + 1 ≤ room_1.cells ∧ slots + 6 ≤ room_1.slots) (hP : va_P D vwCl (zq_Wl kT adc adm ao u v fo) H) (hD : va_D (zq_lA s) (zq_Wl kT adc adm ao u v fo)) (hS : va_S (zq_lA s) s.heap H locs) {ls : Array Slot} (hl : lv_has ls 8 [(0, .ref b), (1, .ref (adc 0)), (2, .ref (adm 0)), (3, .ref ao), (4, .int x4)])
    (kk : ∀ (u : zq_C) (v : zq_M) (fo : Nat → Int64) (H : Heap) (locs : List Loc) (ls : Array Slot), post u v → va_P D vwCl (zq_Wl kT adc adm ao u v fo) H → va_D (zq_lA s) (zq_Wl kT adc adm ao u v fo) → va_S (zq_lA s) s.heap H locs → lv_has ls 8 [(0, .ref b), (1, .ref (adc 0)), (2, .ref (adm 0)), (3, .ref ao), (4, .int x4)] → W p l e room_1 s m #[Value.ref b] below meth c H locs (cells + 1) (slots + 6) Q (F0 m 1209 ls [])) :
    W p l e room_1 s m #[Value.ref b] below meth c H locs cells slots Q (F0 m 807 ls []) := by
  obtain ⟨hst, hx, hb, hml, hown, ht, hE, hX, hN, hXs, hbl⟩ := X
  have hK := hE.1
  have hA : ∀ q : Nat, s.heap.size ≤ q → zq_lA s q := fun _ h => h
  have hbA : ¬ zq_lA s b := Nat.not_le.mpr hbl
  unfold zq_t9 at h
  refine lv_aload_n hx hb zd_law_807 rfl (lv_at hl 1 rfl) ?_
  refine lv_aload_n hx hb zd_law_808 rfl (lv_at hl 0 rfl) ?_
  refine lv_iload hx hb zd_law_809 (lv_at hl 4 rfl) ?_
  refine lv_iconst (v := 1) hx hb zd_law_811 (by decide) ?_
  refine lv_iadd hx hb zd_law_812 ?_
  refine zq_sld hx hb hXs hbl hbA hS hi1 ha1 zd_law_813 ?_
  refine lv_aload_n hx hb zd_law_814 rfl (lv_at hl 3 rfl) ?_
  refine zq_c_SW (rest := []) (adl := (zq_Al adc adm ao)) (wr := (zq_R_L_get kT adc adm ao u v fo)) ⟨hx, hb, hml, hown, ht⟩ (c_L_get l hst D kT adc ao u.rn u.rv fo a1 _ h) (zq_cwSW 3 ht (zq_gSW zw_839 zw_840 zw_772 zw_841) rfl rfl rfl zh_L_get ⟨Nat.le_of_ble_eq_true rfl, Nat.le_of_ble_eq_true rfl⟩) hE hX hN hP hD hS hA [0, 1, 3, 66] [2, 4, 5, 6, 7, 8, 9, 10, 11, 12, 13, 14, 15, 16, 17, 18, 19, 20, 21, 22, 23, 24, 25, 26, 27, 28, 29, 30, 31, 32, 33, 34, 35, 36, 37, 38, 39, 40, 41, 42, 43, 44, 45, 46, 47, 48, 49, 50, 51, 52, 53, 54, 55, 56, 57, 58, 59, 60, 61, 62, 63, 64, 65] 67 rfl (by decide +kernel) rfl (by decide +kernel) rfl rfl rfl hl.1 (Nat.le_of_ble_eq_true rfl) rfl zd_law_815 hf (fun r_1 w1 H locs hw hJ hS => ?_)
  obtain ⟨fo_1, rfl, h⟩ := hw
  obtain ⟨hP, hD⟩ := hJ (zq_Wl kT adc adm ao u v fo_1) rfl rfl rfl
  refine lv_istore (lv' := [(5, .int r_1), (0, .ref b), (1, .ref (adc 0)), (2, .ref (adm 0)), (3, .ref ao), (4, .int x4)]) hx hb zd_law_818 hl (by decide) rfl (fun ls hl => ?_)
  refine lv_aload_n hx hb zd_law_820 rfl (lv_at hl 3 rfl) ?_
  refine lv_aload_n hx hb zd_law_821 rfl (lv_at hl 1 rfl) ?_
  refine lv_iload hx hb zd_law_822 (lv_at hl 5 rfl) ?_
  refine lv_iconst (v := 1) hx hb zd_law_824 (by decide) ?_
  refine lv_iadd hx hb zd_law_825 ?_
  refine zq_sld hx hb hXs hbl hbA hS hi1 ha1 zd_law_826 ?_
  refine zq_c_Vl (rest := []) (adl := (zq_Al adc adm ao)) (wr := (zq_R_M_get kT adc adm ao u v fo_1)) ⟨hx, hb, hml, hown, ht⟩ (c_M_get l D kT adm v.gthr v.greg v.gcon v.gfld v.gtrn v.gins v.glev v.gkep v.glvs v.gkps v.gwrd v.gsta v.gflt v.gend v.ghal v.gwro v.gwai v.gwpl v.gwrs v.ghlt v.glat v.glpl v.aval a1 _ h) (cwV 1 ht (zq_gV zw_842 zw_843 zw_844 zw_393 zw_845) rfl rfl rfl zh_M_get ⟨Nat.le_of_ble_eq_true rfl, Nat.le_of_ble_eq_true rfl⟩) hE hP hD hS hA [35, 37] [0, 1, 2, 3, 4, 5, 6, 7, 8, 9, 10, 11, 12, 13, 14, 15, 16, 17, 18, 19, 20, 21, 22, 23, 24, 25, 26, 27, 28, 29, 30, 31, 32, 33, 34, 36, 38, 39, 40, 41, 42, 43, 44, 45, 46, 47, 48, 49, 50, 51, 52, 53, 54, 55, 56, 57, 58, 59, 60, 61, 62, 63, 64, 65, 66] 67 rfl (by decide +kernel) rfl (by decide +kernel) rfl rfl 0 rfl rfl rfl rfl hl.1 (Nat.le_of_ble_eq_true rfl) rfl zd_law_827 hf (fun r_2 w1 H locs hw hJ hS => ?_)
  obtain ⟨gthr_2, rfl, h⟩ := hw
  obtain ⟨hP, hD⟩ := hJ (zq_Wl kT adc adm ao u (zq_S_M_get v gthr_2) fo_1) rfl rfl rfl
  refine lv_lstore (lv' := [(6, .long r_2), (5, .int r_1), (0, .ref b), (1, .ref (adc 0)), (2, .ref (adm 0)), (3, .ref ao), (4, .int x4)]) hx hb zd_law_830 hl (by decide) rfl (fun ls hl => ?_)
  refine lv_aload_n hx hb zd_law_832 rfl (lv_at hl 4 rfl) ?_
  refine zq_c_Vi (rest := []) (adl := (zq_Al adc adm ao)) (wr := (zq_R_M_thrown kT adc adm ao u (zq_S_M_get v gthr_2) fo_1)) ⟨hx, hb, hml, hown, ht⟩ (c_M_thrown l D kT adm (zq_S_M_get v gthr_2).gthr (zq_S_M_get v gthr_2).greg (zq_S_M_get v gthr_2).gcon (zq_S_M_get v gthr_2).gfld (zq_S_M_get v gthr_2).gtrn (zq_S_M_get v gthr_2).gins (zq_S_M_get v gthr_2).glev (zq_S_M_get v gthr_2).gkep (zq_S_M_get v gthr_2).glvs (zq_S_M_get v gthr_2).gkps (zq_S_M_get v gthr_2).gwrd (zq_S_M_get v gthr_2).gsta (zq_S_M_get v gthr_2).gflt (zq_S_M_get v gthr_2).gend (zq_S_M_get v gthr_2).ghal (zq_S_M_get v gthr_2).gwro (zq_S_M_get v gthr_2).gwai (zq_S_M_get v gthr_2).gwpl (zq_S_M_get v gthr_2).gwrs (zq_S_M_get v gthr_2).ghlt (zq_S_M_get v gthr_2).glat (zq_S_M_get v gthr_2).glpl  _ h) (cwV 0 ht (zq_gV zw_778 zw_779 zw_780 zw_393 zw_781) rfl rfl rfl zh_M_thrown ⟨Nat.le_of_ble_eq_true rfl, Nat.le_of_ble_eq_true rfl⟩) hE hP hD hS hA [35] [0, 1, 2, 3, 4, 5, 6, 7, 8, 9, 10, 11, 12, 13, 14, 15, 16, 17, 18, 19, 20, 21, 22, 23, 24, 25, 26, 27, 28, 29, 30, 31, 32, 33, 34, 36, 37, 38, 39, 40, 41, 42, 43, 44, 45, 46, 47, 48, 49, 50, 51, 52, 53, 54, 55, 56, 57, 58, 59, 60, 61, 62, 63, 64, 65, 66] 67 rfl (by decide +kernel) rfl (by decide +kernel) rfl rfl 0 rfl rfl rfl rfl hl.1 (Nat.le_of_ble_eq_true rfl) rfl zd_law_833 hf (fun r_3 w1 H locs hw hJ hS => ?_)
  obtain ⟨rfl, h⟩ := hw
  obtain ⟨hP, hD⟩ := hJ (zq_Wl kT adc adm ao u (zq_S_M_get v gthr_2) fo_1) rfl rfl rfl
  refine lv_iload hx hb zd_law_836 (lv_at hl 1 rfl) ?_
  refine lv_icmp_eq (tgt := 843) hx hb zd_law_838 (by decide) (fun c_1 => ?_) (fun c_1 => ?_)
  · refine lv_iload hx hb zd_law_843 (lv_at hl 1 rfl) ?_
    refine lv_if_ne (tgt := 859) hx hb zd_law_845 (by decide) (fun c_2 => ?_) (fun c_2 => ?_)
    · refine lv_goto (tgt := 1209) hx hb zd_law_859 (by decide) ?_
      exact kk u (zq_S_M_get v gthr_2) fo_1 H locs ls h.2.2 hP hD hS (lv_sub hl [2, 3, 4, 5, 6] rfl)
    · refine lv_aload_n hx hb zd_law_848 rfl (lv_at hl 5 rfl) ?_
      refine lv_iconst (v := 0) hx hb zd_law_849 (by decide) ?_
      refine zq_a_lald hx hb hK hP 66 1 rfl rfl (zq_in (by decide)) (j := 0) (by decide) zd_law_850 ?_
      refine lv_lload hx hb zd_law_851 (lv_at hl 0 rfl) ?_
      refine W.lcmp hx hb zd_law_853 ?_
      refine lv_if_eq (tgt := 859) hx hb zd_law_854 (by decide) (fun c_3 => ?_) (fun c_3 => ?_)
      · refine lv_goto (tgt := 1209) hx hb zd_law_859 (by decide) ?_
        exact kk u (zq_S_M_get v gthr_2) fo_1 H locs ls h.2.2 hP hD hS (lv_sub hl [2, 3, 4, 5, 6] rfl)
      · exact absurd (zq_lc_eq.mpr (h.2.1 c_2)) c_3
  · exact absurd h.1 c_1
def zq_t10 (u : zq_C) (v : zq_M) (fo : Nat → Int64) (a1 : Int32) (post : zq_C → zq_M → Prop) : Prop := wp_L_mark u.rn u.rm fo a1 (fun r_1 fo_1  => wp_M_mark v.gthr v.greg v.gcon v.gfld v.gtrn v.gins v.glev v.gkep v.glvs v.gkps v.gwrd v.gsta v.gflt v.gend v.ghal v.gwro v.gwai v.gwpl v.gwrs v.ghlt v.glat v.glpl v.amrk a1 (fun r_2 gthr_2 => wp_M_thrown (zq_S_M_mark v gthr_2).gthr (zq_S_M_mark v gthr_2).greg (zq_S_M_mark v gthr_2).gcon (zq_S_M_mark v gthr_2).gfld (zq_S_M_mark v gthr_2).gtrn (zq_S_M_mark v gthr_2).gins (zq_S_M_mark v gthr_2).glev (zq_S_M_mark v gthr_2).gkep (zq_S_M_mark v gthr_2).glvs (zq_S_M_mark v gthr_2).gkps (zq_S_M_mark v gthr_2).gwrd (zq_S_M_mark v gthr_2).gsta (zq_S_M_mark v gthr_2).gflt (zq_S_M_mark v gthr_2).gend (zq_S_M_mark v gthr_2).ghal (zq_S_M_mark v gthr_2).gwro (zq_S_M_mark v gthr_2).gwai (zq_S_M_mark v gthr_2).gwpl (zq_S_M_mark v gthr_2).gwrs (zq_S_M_mark v gthr_2).ghlt (zq_S_M_mark v gthr_2).glat (zq_S_M_mark v gthr_2).glpl  (fun r_3  => r_3 = r_1 ∧ (r_1 = 0 → fo_1 0 = (if r_2 = 0 then 0 else 1)) ∧ post u (zq_S_M_mark v gthr_2))))
set_option maxHeartbeats 4000000 in
set_option maxRecDepth 100000 in
theorem zq_arm10 {p : Program} {l : Launch} {e : Env} {s : State} {m : MethodId} {below : List Frame} {meth : Method} {c : Code} {D : va_G} {kT : Nat → ClassId} {b L : Nat} {xs : Nat → Int32} {adc adm : Nat → Nat} {ao : Nat} {H : Heap} {locs : List Loc} {cells slots : Nat} {Q : State → Prop} (X : zq_lx p l s m c D kT b L xs) (u : zq_C) (v : zq_M) (fo : Nat → Int64) {a1 : Int32} (post : zq_C → zq_M → Prop) {x4 : Int32} (hi1 : vp_in (x4 + 1) L) (ha1 : xs (x4 + 1).toNatClampNeg = a1) (h : zq_t10 u v fo a1 post) (hf : cells + 1 ≤ room_1.cells ∧ slots + 6 ≤ room_1.slots) (hP : va_P D vwCl (zq_Wl kT adc adm ao u v fo) H) (hD : va_D (zq_lA s) (zq_Wl kT adc adm ao u v fo)) (hS : va_S (zq_lA s) s.heap H locs) {ls : Array Slot} (hl : lv_has ls 8 [(0, .ref b), (1, .ref (adc 0)), (2, .ref (adm 0)), (3, .ref ao), (4, .int x4)])
    (kk : ∀ (u : zq_C) (v : zq_M) (fo : Nat → Int64) (H : Heap) (locs : List Loc) (ls : Array Slot), post u v → va_P D vwCl (zq_Wl kT adc adm ao u v fo) H → va_D (zq_lA s) (zq_Wl kT adc adm ao u v fo) → va_S (zq_lA s) s.heap H locs → lv_has ls 8 [(0, .ref b), (1, .ref (adc 0)), (2, .ref (adm 0)), (3, .ref ao), (4, .int x4)] → W p l e room_1 s m #[Value.ref b] below meth c H locs (cells + 1) (slots + 6) Q (F0 m 1209 ls [])) :
    W p l e room_1 s m #[Value.ref b] below meth c H locs cells slots Q (F0 m 862 ls []) := by
  obtain ⟨hst, hx, hb, hml, hown, ht, hE, hX, hN, hXs, hbl⟩ := X
  have hK := hE.1
  have hA : ∀ q : Nat, s.heap.size ≤ q → zq_lA s q := fun _ h => h
  have hbA : ¬ zq_lA s b := Nat.not_le.mpr hbl
  unfold zq_t10 at h
  refine lv_aload_n hx hb zd_law_862 rfl (lv_at hl 1 rfl) ?_
  refine lv_aload_n hx hb zd_law_863 rfl (lv_at hl 0 rfl) ?_
  refine lv_iload hx hb zd_law_864 (lv_at hl 4 rfl) ?_
  refine lv_iconst (v := 1) hx hb zd_law_866 (by decide) ?_
  refine lv_iadd hx hb zd_law_867 ?_
  refine zq_sld hx hb hXs hbl hbA hS hi1 ha1 zd_law_868 ?_
  refine lv_aload_n hx hb zd_law_869 rfl (lv_at hl 3 rfl) ?_
  refine zq_c_SW (rest := []) (adl := (zq_Al adc adm ao)) (wr := (zq_R_L_mark kT adc adm ao u v fo)) ⟨hx, hb, hml, hown, ht⟩ (c_L_mark l hst D kT adc ao u.rn u.rm fo a1 _ h) (zq_cwSW 3 ht (zq_gSW zw_846 zw_847 zw_772 zw_848) rfl rfl rfl zh_L_mark ⟨Nat.le_of_ble_eq_true rfl, Nat.le_of_ble_eq_true rfl⟩) hE hX hN hP hD hS hA [0, 1, 4, 66] [2, 3, 5, 6, 7, 8, 9, 10, 11, 12, 13, 14, 15, 16, 17, 18, 19, 20, 21, 22, 23, 24, 25, 26, 27, 28, 29, 30, 31, 32, 33, 34, 35, 36, 37, 38, 39, 40, 41, 42, 43, 44, 45, 46, 47, 48, 49, 50, 51, 52, 53, 54, 55, 56, 57, 58, 59, 60, 61, 62, 63, 64, 65] 67 rfl (by decide +kernel) rfl (by decide +kernel) rfl rfl rfl hl.1 (Nat.le_of_ble_eq_true rfl) rfl zd_law_870 hf (fun r_1 w1 H locs hw hJ hS => ?_)
  obtain ⟨fo_1, rfl, h⟩ := hw
  obtain ⟨hP, hD⟩ := hJ (zq_Wl kT adc adm ao u v fo_1) rfl rfl rfl
  refine lv_istore (lv' := [(5, .int r_1), (0, .ref b), (1, .ref (adc 0)), (2, .ref (adm 0)), (3, .ref ao), (4, .int x4)]) hx hb zd_law_873 hl (by decide) rfl (fun ls hl => ?_)
  refine lv_aload_n hx hb zd_law_875 rfl (lv_at hl 3 rfl) ?_
  refine lv_aload_n hx hb zd_law_876 rfl (lv_at hl 1 rfl) ?_
  refine lv_iload hx hb zd_law_877 (lv_at hl 5 rfl) ?_
  refine lv_iconst (v := 1) hx hb zd_law_879 (by decide) ?_
  refine lv_iadd hx hb zd_law_880 ?_
  refine zq_sld hx hb hXs hbl hbA hS hi1 ha1 zd_law_881 ?_
  refine zq_c_Vi (rest := []) (adl := (zq_Al adc adm ao)) (wr := (zq_R_M_mark kT adc adm ao u v fo_1)) ⟨hx, hb, hml, hown, ht⟩ (c_M_mark l D kT adm v.gthr v.greg v.gcon v.gfld v.gtrn v.gins v.glev v.gkep v.glvs v.gkps v.gwrd v.gsta v.gflt v.gend v.ghal v.gwro v.gwai v.gwpl v.gwrs v.ghlt v.glat v.glpl v.amrk a1 _ h) (cwV 1 ht (zq_gV zw_849 zw_850 zw_851 zw_393 zw_852) rfl rfl rfl zh_M_mark ⟨Nat.le_of_ble_eq_true rfl, Nat.le_of_ble_eq_true rfl⟩) hE hP hD hS hA [35, 40] [0, 1, 2, 3, 4, 5, 6, 7, 8, 9, 10, 11, 12, 13, 14, 15, 16, 17, 18, 19, 20, 21, 22, 23, 24, 25, 26, 27, 28, 29, 30, 31, 32, 33, 34, 36, 37, 38, 39, 41, 42, 43, 44, 45, 46, 47, 48, 49, 50, 51, 52, 53, 54, 55, 56, 57, 58, 59, 60, 61, 62, 63, 64, 65, 66] 67 rfl (by decide +kernel) rfl (by decide +kernel) rfl rfl 0 rfl rfl rfl rfl hl.1 (Nat.le_of_ble_eq_true rfl) rfl zd_law_882 hf (fun r_2 w1 H locs hw hJ hS => ?_)
  obtain ⟨gthr_2, rfl, h⟩ := hw
  obtain ⟨hP, hD⟩ := hJ (zq_Wl kT adc adm ao u (zq_S_M_mark v gthr_2) fo_1) rfl rfl rfl
  refine lv_istore (lv' := [(6, .int r_2), (5, .int r_1), (0, .ref b), (1, .ref (adc 0)), (2, .ref (adm 0)), (3, .ref ao), (4, .int x4)]) hx hb zd_law_885 hl (by decide) rfl (fun ls hl => ?_)
  refine lv_aload_n hx hb zd_law_887 rfl (lv_at hl 4 rfl) ?_
  refine zq_c_Vi (rest := []) (adl := (zq_Al adc adm ao)) (wr := (zq_R_M_thrown kT adc adm ao u (zq_S_M_mark v gthr_2) fo_1)) ⟨hx, hb, hml, hown, ht⟩ (c_M_thrown l D kT adm (zq_S_M_mark v gthr_2).gthr (zq_S_M_mark v gthr_2).greg (zq_S_M_mark v gthr_2).gcon (zq_S_M_mark v gthr_2).gfld (zq_S_M_mark v gthr_2).gtrn (zq_S_M_mark v gthr_2).gins (zq_S_M_mark v gthr_2).glev (zq_S_M_mark v gthr_2).gkep (zq_S_M_mark v gthr_2).glvs (zq_S_M_mark v gthr_2).gkps (zq_S_M_mark v gthr_2).gwrd (zq_S_M_mark v gthr_2).gsta (zq_S_M_mark v gthr_2).gflt (zq_S_M_mark v gthr_2).gend (zq_S_M_mark v gthr_2).ghal (zq_S_M_mark v gthr_2).gwro (zq_S_M_mark v gthr_2).gwai (zq_S_M_mark v gthr_2).gwpl (zq_S_M_mark v gthr_2).gwrs (zq_S_M_mark v gthr_2).ghlt (zq_S_M_mark v gthr_2).glat (zq_S_M_mark v gthr_2).glpl  _ h) (cwV 0 ht (zq_gV zw_778 zw_779 zw_780 zw_393 zw_781) rfl rfl rfl zh_M_thrown ⟨Nat.le_of_ble_eq_true rfl, Nat.le_of_ble_eq_true rfl⟩) hE hP hD hS hA [35] [0, 1, 2, 3, 4, 5, 6, 7, 8, 9, 10, 11, 12, 13, 14, 15, 16, 17, 18, 19, 20, 21, 22, 23, 24, 25, 26, 27, 28, 29, 30, 31, 32, 33, 34, 36, 37, 38, 39, 40, 41, 42, 43, 44, 45, 46, 47, 48, 49, 50, 51, 52, 53, 54, 55, 56, 57, 58, 59, 60, 61, 62, 63, 64, 65, 66] 67 rfl (by decide +kernel) rfl (by decide +kernel) rfl rfl 0 rfl rfl rfl rfl hl.1 (Nat.le_of_ble_eq_true rfl) rfl zd_law_888 hf (fun r_3 w1 H locs hw hJ hS => ?_)
  obtain ⟨rfl, h⟩ := hw
  obtain ⟨hP, hD⟩ := hJ (zq_Wl kT adc adm ao u (zq_S_M_mark v gthr_2) fo_1) rfl rfl rfl
  refine lv_iload hx hb zd_law_891 (lv_at hl 1 rfl) ?_
  refine lv_icmp_eq (tgt := 898) hx hb zd_law_893 (by decide) (fun c_1 => ?_) (fun c_1 => ?_)
  · refine lv_iload hx hb zd_law_898 (lv_at hl 1 rfl) ?_
    refine lv_if_ne (tgt := 922) hx hb zd_law_900 (by decide) (fun c_2 => ?_) (fun c_2 => ?_)
    · refine lv_goto (tgt := 1209) hx hb zd_law_922 (by decide) ?_
      exact kk u (zq_S_M_mark v gthr_2) fo_1 H locs ls h.2.2 hP hD hS (lv_sub hl [2, 3, 4, 5, 6] rfl)
    · refine lv_aload_n hx hb zd_law_903 rfl (lv_at hl 5 rfl) ?_
      refine lv_iconst (v := 0) hx hb zd_law_904 (by decide) ?_
      refine zq_a_lald hx hb hK hP 66 1 rfl rfl (zq_in (by decide)) (j := 0) (by decide) zd_law_905 ?_
      refine lv_iload hx hb zd_law_906 (lv_at hl 0 rfl) ?_
      refine lv_if_eq (tgt := 915) hx hb zd_law_908 (by decide) (fun c_3 => ?_) (fun c_3 => ?_)
      · refine lv_lconst (v := 0) hx hb zd_law_915 (by decide) ?_
        refine W.lcmp hx hb zd_law_916 ?_
        refine lv_if_eq (tgt := 922) hx hb zd_law_917 (by decide) (fun c_4 => ?_) (fun c_4 => ?_)
        · refine lv_goto (tgt := 1209) hx hb zd_law_922 (by decide) ?_
          exact kk u (zq_S_M_mark v gthr_2) fo_1 H locs ls h.2.2 hP hD hS (lv_sub hl [2, 3, 4, 5, 6] rfl)
        · exact absurd (zq_lc_eq.mpr (by have z := h.2.1 c_2; rw [if_pos c_3] at z; exact z)) c_4
      · refine lv_lconst (v := 1) hx hb zd_law_911 (by decide) ?_
        refine lv_goto (tgt := 916) hx hb zd_law_912 (by decide) ?_
        refine W.lcmp hx hb zd_law_916 ?_
        refine lv_if_eq (tgt := 922) hx hb zd_law_917 (by decide) (fun c_5 => ?_) (fun c_5 => ?_)
        · refine lv_goto (tgt := 1209) hx hb zd_law_922 (by decide) ?_
          exact kk u (zq_S_M_mark v gthr_2) fo_1 H locs ls h.2.2 hP hD hS (lv_sub hl [2, 3, 4, 5, 6] rfl)
        · exact absurd (zq_lc_eq.mpr (by have z := h.2.1 c_2; rw [if_neg c_3] at z; exact z)) c_5
  · exact absurd h.1 c_1
def zq_t11 (u : zq_C) (v : zq_M) (fo : Nat → Int64) (a1 : Int32) (a2 : Int32) (post : zq_C → zq_M → Prop) : Prop := (if a2 = 0 then wp_L_line u.lo fo a1 0 (fun r_1 fo_1 lo_1 => wp_M_line v.gthr v.greg v.gcon v.gfld v.gtrn v.gins v.glev v.gkep v.glvs v.gkps v.gwrd v.gsta v.gflt v.gend v.ghal v.gwro v.gwai v.gwpl v.gwrs v.ghlt v.glat v.glpl v.aonn a1 0 (fun r_2 gthr_2 aonn_2 => wp_M_thrown (zq_S_M_line v gthr_2 aonn_2).gthr (zq_S_M_line v gthr_2 aonn_2).greg (zq_S_M_line v gthr_2 aonn_2).gcon (zq_S_M_line v gthr_2 aonn_2).gfld (zq_S_M_line v gthr_2 aonn_2).gtrn (zq_S_M_line v gthr_2 aonn_2).gins (zq_S_M_line v gthr_2 aonn_2).glev (zq_S_M_line v gthr_2 aonn_2).gkep (zq_S_M_line v gthr_2 aonn_2).glvs (zq_S_M_line v gthr_2 aonn_2).gkps (zq_S_M_line v gthr_2 aonn_2).gwrd (zq_S_M_line v gthr_2 aonn_2).gsta (zq_S_M_line v gthr_2 aonn_2).gflt (zq_S_M_line v gthr_2 aonn_2).gend (zq_S_M_line v gthr_2 aonn_2).ghal (zq_S_M_line v gthr_2 aonn_2).gwro (zq_S_M_line v gthr_2 aonn_2).gwai (zq_S_M_line v gthr_2 aonn_2).gwpl (zq_S_M_line v gthr_2 aonn_2).gwrs (zq_S_M_line v gthr_2 aonn_2).ghlt (zq_S_M_line v gthr_2 aonn_2).glat (zq_S_M_line v gthr_2 aonn_2).glpl  (fun r_3  => r_3 = r_1 ∧ (r_1 = 0 → fo_1 0 = (if r_2 = 0 then 0 else 1)) ∧ post (zq_S_L_line u lo_1) (zq_S_M_line v gthr_2 aonn_2)))) else wp_L_line u.lo fo a1 1 (fun r_1 fo_1 lo_1 => wp_M_line v.gthr v.greg v.gcon v.gfld v.gtrn v.gins v.glev v.gkep v.glvs v.gkps v.gwrd v.gsta v.gflt v.gend v.ghal v.gwro v.gwai v.gwpl v.gwrs v.ghlt v.glat v.glpl v.aonn a1 1 (fun r_2 gthr_2 aonn_2 => wp_M_thrown (zq_S_M_line v gthr_2 aonn_2).gthr (zq_S_M_line v gthr_2 aonn_2).greg (zq_S_M_line v gthr_2 aonn_2).gcon (zq_S_M_line v gthr_2 aonn_2).gfld (zq_S_M_line v gthr_2 aonn_2).gtrn (zq_S_M_line v gthr_2 aonn_2).gins (zq_S_M_line v gthr_2 aonn_2).glev (zq_S_M_line v gthr_2 aonn_2).gkep (zq_S_M_line v gthr_2 aonn_2).glvs (zq_S_M_line v gthr_2 aonn_2).gkps (zq_S_M_line v gthr_2 aonn_2).gwrd (zq_S_M_line v gthr_2 aonn_2).gsta (zq_S_M_line v gthr_2 aonn_2).gflt (zq_S_M_line v gthr_2 aonn_2).gend (zq_S_M_line v gthr_2 aonn_2).ghal (zq_S_M_line v gthr_2 aonn_2).gwro (zq_S_M_line v gthr_2 aonn_2).gwai (zq_S_M_line v gthr_2 aonn_2).gwpl (zq_S_M_line v gthr_2 aonn_2).gwrs (zq_S_M_line v gthr_2 aonn_2).ghlt (zq_S_M_line v gthr_2 aonn_2).glat (zq_S_M_line v gthr_2 aonn_2).glpl  (fun r_3  => r_3 = r_1 ∧ (r_1 = 0 → fo_1 0 = (if r_2 = 0 then 0 else 1)) ∧ post (zq_S_L_line u lo_1) (zq_S_M_line v gthr_2 aonn_2)))))
set_option maxHeartbeats 4000000 in
set_option maxRecDepth 100000 in
theorem zq_arm11 {p : Program} {l : Launch} {e : Env} {s : State} {m : MethodId} {below : List Frame} {meth : Method} {c : Code} {D : va_G} {kT : Nat → ClassId} {b L : Nat} {xs : Nat → Int32} {adc adm : Nat → Nat} {ao : Nat} {H : Heap} {locs : List Loc} {cells slots : Nat} {Q : State → Prop} (X : zq_lx p l s m c D kT b L xs) (u : zq_C) (v : zq_M) (fo : Nat → Int64) {a1 : Int32} {a2 : Int32} (post : zq_C → zq_M → Prop) {x4 : Int32} (hi1 : vp_in (x4 + 1) L) (ha1 : xs (x4 + 1).toNatClampNeg = a1) (hi2 : vp_in (x4 + 2) L) (ha2 : xs (x4 + 2).toNatClampNeg = a2) (h : zq_t11 u v fo a1 a2 post) (hf : cells + 1 ≤ room_1.cells ∧ slots + 6 ≤ room_1.slots) (hP : va_P D vwCl (zq_Wl kT adc adm ao u v fo) H) (hD : va_D (zq_lA s) (zq_Wl kT adc adm ao u v fo)) (hS : va_S (zq_lA s) s.heap H locs) {ls : Array Slot} (hl : lv_has ls 8 [(0, .ref b), (1, .ref (adc 0)), (2, .ref (adm 0)), (3, .ref ao), (4, .int x4)])
    (kk : ∀ (u : zq_C) (v : zq_M) (fo : Nat → Int64) (H : Heap) (locs : List Loc) (ls : Array Slot), post u v → va_P D vwCl (zq_Wl kT adc adm ao u v fo) H → va_D (zq_lA s) (zq_Wl kT adc adm ao u v fo) → va_S (zq_lA s) s.heap H locs → lv_has ls 8 [(0, .ref b), (1, .ref (adc 0)), (2, .ref (adm 0)), (3, .ref ao), (4, .int x4)] → W p l e room_1 s m #[Value.ref b] below meth c H locs (cells + 1) (slots + 6) Q (F0 m 1209 ls [])) :
    W p l e room_1 s m #[Value.ref b] below meth c H locs cells slots Q (F0 m 925 ls []) := by
  obtain ⟨hst, hx, hb, hml, hown, ht, hE, hX, hN, hXs, hbl⟩ := X
  have hK := hE.1
  have hA : ∀ q : Nat, s.heap.size ≤ q → zq_lA s q := fun _ h => h
  have hbA : ¬ zq_lA s b := Nat.not_le.mpr hbl
  unfold zq_t11 at h
  refine lv_aload_n hx hb zd_law_925 rfl (lv_at hl 1 rfl) ?_
  refine lv_aload_n hx hb zd_law_926 rfl (lv_at hl 0 rfl) ?_
  refine lv_iload hx hb zd_law_927 (lv_at hl 4 rfl) ?_
  refine lv_iconst (v := 1) hx hb zd_law_929 (by decide) ?_
  refine lv_iadd hx hb zd_law_930 ?_
  refine zq_sld hx hb hXs hbl hbA hS hi1 ha1 zd_law_931 ?_
  refine lv_aload_n hx hb zd_law_932 rfl (lv_at hl 0 rfl) ?_
  refine lv_iload hx hb zd_law_933 (lv_at hl 4 rfl) ?_
  refine lv_iconst (v := 2) hx hb zd_law_935 (by decide) ?_
  refine lv_iadd hx hb zd_law_936 ?_
  refine zq_sld hx hb hXs hbl hbA hS hi2 ha2 zd_law_937 ?_
  refine lv_if_eq (tgt := 945) hx hb zd_law_938 (by decide) (fun c_1 => ?_) (fun c_1 => ?_)
  · have h := zq_it c_1 h
    refine lv_iconst (v := 0) hx hb zd_law_945 (by decide) ?_
    refine lv_aload_n hx hb zd_law_946 rfl (lv_at hl 3 rfl) ?_
    refine zq_c_SW (rest := []) (adl := (zq_Al adc adm ao)) (wr := (zq_R_L_line kT adc adm ao u v fo)) ⟨hx, hb, hml, hown, ht⟩ (c_L_line l hst D kT adc ao u.lo fo a1 0 _ h) (zq_cwSW 4 ht (zq_gSW zw_853 zw_854 zw_772 zw_855) rfl rfl rfl zh_L_line ⟨Nat.le_of_ble_eq_true rfl, Nat.le_of_ble_eq_true rfl⟩) hE hX hN hP hD hS hA [0, 25, 26, 66] [1, 2, 3, 4, 5, 6, 7, 8, 9, 10, 11, 12, 13, 14, 15, 16, 17, 18, 19, 20, 21, 22, 23, 24, 27, 28, 29, 30, 31, 32, 33, 34, 35, 36, 37, 38, 39, 40, 41, 42, 43, 44, 45, 46, 47, 48, 49, 50, 51, 52, 53, 54, 55, 56, 57, 58, 59, 60, 61, 62, 63, 64, 65] 67 rfl (by decide +kernel) rfl (by decide +kernel) rfl rfl rfl hl.1 (Nat.le_of_ble_eq_true rfl) rfl zd_law_947 hf (fun r_1 w1 H locs hw hJ hS => ?_)
    obtain ⟨lo_1, fo_1, rfl, h⟩ := hw
    obtain ⟨hP, hD⟩ := hJ (zq_Wl kT adc adm ao (zq_S_L_line u lo_1) v fo_1) rfl rfl rfl
    refine lv_istore (lv' := [(5, .int r_1), (0, .ref b), (1, .ref (adc 0)), (2, .ref (adm 0)), (3, .ref ao), (4, .int x4)]) hx hb zd_law_950 hl (by decide) rfl (fun ls hl => ?_)
    refine lv_aload_n hx hb zd_law_952 rfl (lv_at hl 3 rfl) ?_
    refine lv_aload_n hx hb zd_law_953 rfl (lv_at hl 1 rfl) ?_
    refine lv_iload hx hb zd_law_954 (lv_at hl 5 rfl) ?_
    refine lv_iconst (v := 1) hx hb zd_law_956 (by decide) ?_
    refine lv_iadd hx hb zd_law_957 ?_
    refine zq_sld hx hb hXs hbl hbA hS hi1 ha1 zd_law_958 ?_
    refine lv_aload_n hx hb zd_law_959 rfl (lv_at hl 1 rfl) ?_
    refine lv_iload hx hb zd_law_960 (lv_at hl 5 rfl) ?_
    refine lv_iconst (v := 2) hx hb zd_law_962 (by decide) ?_
    refine lv_iadd hx hb zd_law_963 ?_
    refine zq_sld hx hb hXs hbl hbA hS hi2 ha2 zd_law_964 ?_
    refine lv_if_eq (tgt := 972) hx hb zd_law_965 (by decide) (fun c_2 => ?_) (fun c_2 => ?_)
    · refine lv_iconst (v := 0) hx hb zd_law_972 (by decide) ?_
      refine zq_c_Vi (rest := []) (adl := (zq_Al adc adm ao)) (wr := (zq_R_M_line kT adc adm ao (zq_S_L_line u lo_1) v fo_1)) ⟨hx, hb, hml, hown, ht⟩ (c_M_line l D kT adm v.gthr v.greg v.gcon v.gfld v.gtrn v.gins v.glev v.gkep v.glvs v.gkps v.gwrd v.gsta v.gflt v.gend v.ghal v.gwro v.gwai v.gwpl v.gwrs v.ghlt v.glat v.glpl v.aonn a1 0 _ h) (cwV 2 ht (zq_gV zw_856 zw_857 zw_858 zw_393 zw_859) rfl rfl rfl zh_M_line ⟨Nat.le_of_ble_eq_true rfl, Nat.le_of_ble_eq_true rfl⟩) hE hP hD hS hA [35, 57] [0, 1, 2, 3, 4, 5, 6, 7, 8, 9, 10, 11, 12, 13, 14, 15, 16, 17, 18, 19, 20, 21, 22, 23, 24, 25, 26, 27, 28, 29, 30, 31, 32, 33, 34, 36, 37, 38, 39, 40, 41, 42, 43, 44, 45, 46, 47, 48, 49, 50, 51, 52, 53, 54, 55, 56, 58, 59, 60, 61, 62, 63, 64, 65, 66] 67 rfl (by decide +kernel) rfl (by decide +kernel) rfl rfl 0 rfl rfl rfl rfl hl.1 (Nat.le_of_ble_eq_true rfl) rfl zd_law_973 hf (fun r_2 w1 H locs hw hJ hS => ?_)
      obtain ⟨gthr_2, aonn_2, rfl, h⟩ := hw
      obtain ⟨hP, hD⟩ := hJ (zq_Wl kT adc adm ao (zq_S_L_line u lo_1) (zq_S_M_line v gthr_2 aonn_2) fo_1) rfl rfl rfl
      refine lv_istore (lv' := [(6, .int r_2), (5, .int r_1), (0, .ref b), (1, .ref (adc 0)), (2, .ref (adm 0)), (3, .ref ao), (4, .int x4)]) hx hb zd_law_976 hl (by decide) rfl (fun ls hl => ?_)
      refine lv_aload_n hx hb zd_law_978 rfl (lv_at hl 4 rfl) ?_
      refine zq_c_Vi (rest := []) (adl := (zq_Al adc adm ao)) (wr := (zq_R_M_thrown kT adc adm ao (zq_S_L_line u lo_1) (zq_S_M_line v gthr_2 aonn_2) fo_1)) ⟨hx, hb, hml, hown, ht⟩ (c_M_thrown l D kT adm (zq_S_M_line v gthr_2 aonn_2).gthr (zq_S_M_line v gthr_2 aonn_2).greg (zq_S_M_line v gthr_2 aonn_2).gcon (zq_S_M_line v gthr_2 aonn_2).gfld (zq_S_M_line v gthr_2 aonn_2).gtrn (zq_S_M_line v gthr_2 aonn_2).gins (zq_S_M_line v gthr_2 aonn_2).glev (zq_S_M_line v gthr_2 aonn_2).gkep (zq_S_M_line v gthr_2 aonn_2).glvs (zq_S_M_line v gthr_2 aonn_2).gkps (zq_S_M_line v gthr_2 aonn_2).gwrd (zq_S_M_line v gthr_2 aonn_2).gsta (zq_S_M_line v gthr_2 aonn_2).gflt (zq_S_M_line v gthr_2 aonn_2).gend (zq_S_M_line v gthr_2 aonn_2).ghal (zq_S_M_line v gthr_2 aonn_2).gwro (zq_S_M_line v gthr_2 aonn_2).gwai (zq_S_M_line v gthr_2 aonn_2).gwpl (zq_S_M_line v gthr_2 aonn_2).gwrs (zq_S_M_line v gthr_2 aonn_2).ghlt (zq_S_M_line v gthr_2 aonn_2).glat (zq_S_M_line v gthr_2 aonn_2).glpl  _ h) (cwV 0 ht (zq_gV zw_778 zw_779 zw_780 zw_393 zw_781) rfl rfl rfl zh_M_thrown ⟨Nat.le_of_ble_eq_true rfl, Nat.le_of_ble_eq_true rfl⟩) hE hP hD hS hA [35] [0, 1, 2, 3, 4, 5, 6, 7, 8, 9, 10, 11, 12, 13, 14, 15, 16, 17, 18, 19, 20, 21, 22, 23, 24, 25, 26, 27, 28, 29, 30, 31, 32, 33, 34, 36, 37, 38, 39, 40, 41, 42, 43, 44, 45, 46, 47, 48, 49, 50, 51, 52, 53, 54, 55, 56, 57, 58, 59, 60, 61, 62, 63, 64, 65, 66] 67 rfl (by decide +kernel) rfl (by decide +kernel) rfl rfl 0 rfl rfl rfl rfl hl.1 (Nat.le_of_ble_eq_true rfl) rfl zd_law_979 hf (fun r_3 w1 H locs hw hJ hS => ?_)
      obtain ⟨rfl, h⟩ := hw
      obtain ⟨hP, hD⟩ := hJ (zq_Wl kT adc adm ao (zq_S_L_line u lo_1) (zq_S_M_line v gthr_2 aonn_2) fo_1) rfl rfl rfl
      refine lv_iload hx hb zd_law_982 (lv_at hl 1 rfl) ?_
      refine lv_icmp_eq (tgt := 989) hx hb zd_law_984 (by decide) (fun c_3 => ?_) (fun c_3 => ?_)
      · refine lv_iload hx hb zd_law_989 (lv_at hl 1 rfl) ?_
        refine lv_if_ne (tgt := 1013) hx hb zd_law_991 (by decide) (fun c_4 => ?_) (fun c_4 => ?_)
        · refine lv_goto (tgt := 1209) hx hb zd_law_1013 (by decide) ?_
          exact kk (zq_S_L_line u lo_1) (zq_S_M_line v gthr_2 aonn_2) fo_1 H locs ls h.2.2 hP hD hS (lv_sub hl [2, 3, 4, 5, 6] rfl)
        · refine lv_aload_n hx hb zd_law_994 rfl (lv_at hl 5 rfl) ?_
          refine lv_iconst (v := 0) hx hb zd_law_995 (by decide) ?_
          refine zq_a_lald hx hb hK hP 66 1 rfl rfl (zq_in (by decide)) (j := 0) (by decide) zd_law_996 ?_
          refine lv_iload hx hb zd_law_997 (lv_at hl 0 rfl) ?_
          refine lv_if_eq (tgt := 1006) hx hb zd_law_999 (by decide) (fun c_5 => ?_) (fun c_5 => ?_)
          · refine lv_lconst (v := 0) hx hb zd_law_1006 (by decide) ?_
            refine W.lcmp hx hb zd_law_1007 ?_
            refine lv_if_eq (tgt := 1013) hx hb zd_law_1008 (by decide) (fun c_6 => ?_) (fun c_6 => ?_)
            · refine lv_goto (tgt := 1209) hx hb zd_law_1013 (by decide) ?_
              exact kk (zq_S_L_line u lo_1) (zq_S_M_line v gthr_2 aonn_2) fo_1 H locs ls h.2.2 hP hD hS (lv_sub hl [2, 3, 4, 5, 6] rfl)
            · exact absurd (zq_lc_eq.mpr (by have z := h.2.1 c_4; rw [if_pos c_5] at z; exact z)) c_6
          · refine lv_lconst (v := 1) hx hb zd_law_1002 (by decide) ?_
            refine lv_goto (tgt := 1007) hx hb zd_law_1003 (by decide) ?_
            refine W.lcmp hx hb zd_law_1007 ?_
            refine lv_if_eq (tgt := 1013) hx hb zd_law_1008 (by decide) (fun c_7 => ?_) (fun c_7 => ?_)
            · refine lv_goto (tgt := 1209) hx hb zd_law_1013 (by decide) ?_
              exact kk (zq_S_L_line u lo_1) (zq_S_M_line v gthr_2 aonn_2) fo_1 H locs ls h.2.2 hP hD hS (lv_sub hl [2, 3, 4, 5, 6] rfl)
            · exact absurd (zq_lc_eq.mpr (by have z := h.2.1 c_4; rw [if_neg c_5] at z; exact z)) c_7
      · exact absurd h.1 c_3
    · exact absurd c_1 c_2
  · have h := zq_if c_1 h
    refine lv_iconst (v := 1) hx hb zd_law_941 (by decide) ?_
    refine lv_goto (tgt := 946) hx hb zd_law_942 (by decide) ?_
    refine lv_aload_n hx hb zd_law_946 rfl (lv_at hl 3 rfl) ?_
    refine zq_c_SW (rest := []) (adl := (zq_Al adc adm ao)) (wr := (zq_R_L_line kT adc adm ao u v fo)) ⟨hx, hb, hml, hown, ht⟩ (c_L_line l hst D kT adc ao u.lo fo a1 1 _ h) (zq_cwSW 4 ht (zq_gSW zw_853 zw_854 zw_772 zw_855) rfl rfl rfl zh_L_line ⟨Nat.le_of_ble_eq_true rfl, Nat.le_of_ble_eq_true rfl⟩) hE hX hN hP hD hS hA [0, 25, 26, 66] [1, 2, 3, 4, 5, 6, 7, 8, 9, 10, 11, 12, 13, 14, 15, 16, 17, 18, 19, 20, 21, 22, 23, 24, 27, 28, 29, 30, 31, 32, 33, 34, 35, 36, 37, 38, 39, 40, 41, 42, 43, 44, 45, 46, 47, 48, 49, 50, 51, 52, 53, 54, 55, 56, 57, 58, 59, 60, 61, 62, 63, 64, 65] 67 rfl (by decide +kernel) rfl (by decide +kernel) rfl rfl rfl hl.1 (Nat.le_of_ble_eq_true rfl) rfl zd_law_947 hf (fun r_1 w1 H locs hw hJ hS => ?_)
    obtain ⟨lo_1, fo_1, rfl, h⟩ := hw
    obtain ⟨hP, hD⟩ := hJ (zq_Wl kT adc adm ao (zq_S_L_line u lo_1) v fo_1) rfl rfl rfl
    refine lv_istore (lv' := [(5, .int r_1), (0, .ref b), (1, .ref (adc 0)), (2, .ref (adm 0)), (3, .ref ao), (4, .int x4)]) hx hb zd_law_950 hl (by decide) rfl (fun ls hl => ?_)
    refine lv_aload_n hx hb zd_law_952 rfl (lv_at hl 3 rfl) ?_
    refine lv_aload_n hx hb zd_law_953 rfl (lv_at hl 1 rfl) ?_
    refine lv_iload hx hb zd_law_954 (lv_at hl 5 rfl) ?_
    refine lv_iconst (v := 1) hx hb zd_law_956 (by decide) ?_
    refine lv_iadd hx hb zd_law_957 ?_
    refine zq_sld hx hb hXs hbl hbA hS hi1 ha1 zd_law_958 ?_
    refine lv_aload_n hx hb zd_law_959 rfl (lv_at hl 1 rfl) ?_
    refine lv_iload hx hb zd_law_960 (lv_at hl 5 rfl) ?_
    refine lv_iconst (v := 2) hx hb zd_law_962 (by decide) ?_
    refine lv_iadd hx hb zd_law_963 ?_
    refine zq_sld hx hb hXs hbl hbA hS hi2 ha2 zd_law_964 ?_
    refine lv_if_eq (tgt := 972) hx hb zd_law_965 (by decide) (fun c_8 => ?_) (fun c_8 => ?_)
    · exact absurd c_8 c_1
    · refine lv_iconst (v := 1) hx hb zd_law_968 (by decide) ?_
      refine lv_goto (tgt := 973) hx hb zd_law_969 (by decide) ?_
      refine zq_c_Vi (rest := []) (adl := (zq_Al adc adm ao)) (wr := (zq_R_M_line kT adc adm ao (zq_S_L_line u lo_1) v fo_1)) ⟨hx, hb, hml, hown, ht⟩ (c_M_line l D kT adm v.gthr v.greg v.gcon v.gfld v.gtrn v.gins v.glev v.gkep v.glvs v.gkps v.gwrd v.gsta v.gflt v.gend v.ghal v.gwro v.gwai v.gwpl v.gwrs v.ghlt v.glat v.glpl v.aonn a1 1 _ h) (cwV 2 ht (zq_gV zw_856 zw_857 zw_858 zw_393 zw_859) rfl rfl rfl zh_M_line ⟨Nat.le_of_ble_eq_true rfl, Nat.le_of_ble_eq_true rfl⟩) hE hP hD hS hA [35, 57] [0, 1, 2, 3, 4, 5, 6, 7, 8, 9, 10, 11, 12, 13, 14, 15, 16, 17, 18, 19, 20, 21, 22, 23, 24, 25, 26, 27, 28, 29, 30, 31, 32, 33, 34, 36, 37, 38, 39, 40, 41, 42, 43, 44, 45, 46, 47, 48, 49, 50, 51, 52, 53, 54, 55, 56, 58, 59, 60, 61, 62, 63, 64, 65, 66] 67 rfl (by decide +kernel) rfl (by decide +kernel) rfl rfl 0 rfl rfl rfl rfl hl.1 (Nat.le_of_ble_eq_true rfl) rfl zd_law_973 hf (fun r_2 w1 H locs hw hJ hS => ?_)
      obtain ⟨gthr_2, aonn_2, rfl, h⟩ := hw
      obtain ⟨hP, hD⟩ := hJ (zq_Wl kT adc adm ao (zq_S_L_line u lo_1) (zq_S_M_line v gthr_2 aonn_2) fo_1) rfl rfl rfl
      refine lv_istore (lv' := [(6, .int r_2), (5, .int r_1), (0, .ref b), (1, .ref (adc 0)), (2, .ref (adm 0)), (3, .ref ao), (4, .int x4)]) hx hb zd_law_976 hl (by decide) rfl (fun ls hl => ?_)
      refine lv_aload_n hx hb zd_law_978 rfl (lv_at hl 4 rfl) ?_
      refine zq_c_Vi (rest := []) (adl := (zq_Al adc adm ao)) (wr := (zq_R_M_thrown kT adc adm ao (zq_S_L_line u lo_1) (zq_S_M_line v gthr_2 aonn_2) fo_1)) ⟨hx, hb, hml, hown, ht⟩ (c_M_thrown l D kT adm (zq_S_M_line v gthr_2 aonn_2).gthr (zq_S_M_line v gthr_2 aonn_2).greg (zq_S_M_line v gthr_2 aonn_2).gcon (zq_S_M_line v gthr_2 aonn_2).gfld (zq_S_M_line v gthr_2 aonn_2).gtrn (zq_S_M_line v gthr_2 aonn_2).gins (zq_S_M_line v gthr_2 aonn_2).glev (zq_S_M_line v gthr_2 aonn_2).gkep (zq_S_M_line v gthr_2 aonn_2).glvs (zq_S_M_line v gthr_2 aonn_2).gkps (zq_S_M_line v gthr_2 aonn_2).gwrd (zq_S_M_line v gthr_2 aonn_2).gsta (zq_S_M_line v gthr_2 aonn_2).gflt (zq_S_M_line v gthr_2 aonn_2).gend (zq_S_M_line v gthr_2 aonn_2).ghal (zq_S_M_line v gthr_2 aonn_2).gwro (zq_S_M_line v gthr_2 aonn_2).gwai (zq_S_M_line v gthr_2 aonn_2).gwpl (zq_S_M_line v gthr_2 aonn_2).gwrs (zq_S_M_line v gthr_2 aonn_2).ghlt (zq_S_M_line v gthr_2 aonn_2).glat (zq_S_M_line v gthr_2 aonn_2).glpl  _ h) (cwV 0 ht (zq_gV zw_778 zw_779 zw_780 zw_393 zw_781) rfl rfl rfl zh_M_thrown ⟨Nat.le_of_ble_eq_true rfl, Nat.le_of_ble_eq_true rfl⟩) hE hP hD hS hA [35] [0, 1, 2, 3, 4, 5, 6, 7, 8, 9, 10, 11, 12, 13, 14, 15, 16, 17, 18, 19, 20, 21, 22, 23, 24, 25, 26, 27, 28, 29, 30, 31, 32, 33, 34, 36, 37, 38, 39, 40, 41, 42, 43, 44, 45, 46, 47, 48, 49, 50, 51, 52, 53, 54, 55, 56, 57, 58, 59, 60, 61, 62, 63, 64, 65, 66] 67 rfl (by decide +kernel) rfl (by decide +kernel) rfl rfl 0 rfl rfl rfl rfl hl.1 (Nat.le_of_ble_eq_true rfl) rfl zd_law_979 hf (fun r_3 w1 H locs hw hJ hS => ?_)
      obtain ⟨rfl, h⟩ := hw
      obtain ⟨hP, hD⟩ := hJ (zq_Wl kT adc adm ao (zq_S_L_line u lo_1) (zq_S_M_line v gthr_2 aonn_2) fo_1) rfl rfl rfl
      refine lv_iload hx hb zd_law_982 (lv_at hl 1 rfl) ?_
      refine lv_icmp_eq (tgt := 989) hx hb zd_law_984 (by decide) (fun c_9 => ?_) (fun c_9 => ?_)
      · refine lv_iload hx hb zd_law_989 (lv_at hl 1 rfl) ?_
        refine lv_if_ne (tgt := 1013) hx hb zd_law_991 (by decide) (fun c_10 => ?_) (fun c_10 => ?_)
        · refine lv_goto (tgt := 1209) hx hb zd_law_1013 (by decide) ?_
          exact kk (zq_S_L_line u lo_1) (zq_S_M_line v gthr_2 aonn_2) fo_1 H locs ls h.2.2 hP hD hS (lv_sub hl [2, 3, 4, 5, 6] rfl)
        · refine lv_aload_n hx hb zd_law_994 rfl (lv_at hl 5 rfl) ?_
          refine lv_iconst (v := 0) hx hb zd_law_995 (by decide) ?_
          refine zq_a_lald hx hb hK hP 66 1 rfl rfl (zq_in (by decide)) (j := 0) (by decide) zd_law_996 ?_
          refine lv_iload hx hb zd_law_997 (lv_at hl 0 rfl) ?_
          refine lv_if_eq (tgt := 1006) hx hb zd_law_999 (by decide) (fun c_11 => ?_) (fun c_11 => ?_)
          · refine lv_lconst (v := 0) hx hb zd_law_1006 (by decide) ?_
            refine W.lcmp hx hb zd_law_1007 ?_
            refine lv_if_eq (tgt := 1013) hx hb zd_law_1008 (by decide) (fun c_12 => ?_) (fun c_12 => ?_)
            · refine lv_goto (tgt := 1209) hx hb zd_law_1013 (by decide) ?_
              exact kk (zq_S_L_line u lo_1) (zq_S_M_line v gthr_2 aonn_2) fo_1 H locs ls h.2.2 hP hD hS (lv_sub hl [2, 3, 4, 5, 6] rfl)
            · exact absurd (zq_lc_eq.mpr (by have z := h.2.1 c_10; rw [if_pos c_11] at z; exact z)) c_12
          · refine lv_lconst (v := 1) hx hb zd_law_1002 (by decide) ?_
            refine lv_goto (tgt := 1007) hx hb zd_law_1003 (by decide) ?_
            refine W.lcmp hx hb zd_law_1007 ?_
            refine lv_if_eq (tgt := 1013) hx hb zd_law_1008 (by decide) (fun c_13 => ?_) (fun c_13 => ?_)
            · refine lv_goto (tgt := 1209) hx hb zd_law_1013 (by decide) ?_
              exact kk (zq_S_L_line u lo_1) (zq_S_M_line v gthr_2 aonn_2) fo_1 H locs ls h.2.2 hP hD hS (lv_sub hl [2, 3, 4, 5, 6] rfl)
            · exact absurd (zq_lc_eq.mpr (by have z := h.2.1 c_10; rw [if_neg c_11] at z; exact z)) c_13
      · exact absurd h.1 c_9
