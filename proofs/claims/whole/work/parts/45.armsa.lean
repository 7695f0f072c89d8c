def zq_t0 (u : zq_C) (v : zq_M) (fo : Nat → Int64) (a1 : Int32) (post : zq_C → zq_M → Prop) : Prop := wp_L_register u.rn u.rc u.rm fo a1 (fun r_1 fo_1 rn_1 rc_1 rm_1 => wp_M_register v.gthr v.greg v.gcon v.gfld v.gtrn v.gins v.glev v.gkep v.glvs v.gkps v.gwrd v.gsta v.gflt v.gend v.ghal v.gwro v.gwai v.gwpl v.gwrs v.ghlt v.glat v.glpl v.awid v.aval v.amrk a1 (fun r_2 gthr_2 greg_2 awid_2 aval_2 amrk_2 => wp_M_thrown (zq_S_M_register v gthr_2 greg_2 awid_2 aval_2 amrk_2).gthr (zq_S_M_register v gthr_2 greg_2 awid_2 aval_2 amrk_2).greg (zq_S_M_register v gthr_2 greg_2 awid_2 aval_2 amrk_2).gcon (zq_S_M_register v gthr_2 greg_2 awid_2 aval_2 amrk_2).gfld (zq_S_M_register v gthr_2 greg_2 awid_2 aval_2 amrk_2).gtrn (zq_S_M_register v gthr_2 greg_2 awid_2 aval_2 amrk_2).gins (zq_S_M_register v gthr_2 greg_2 awid_2 aval_2 amrk_2).glev (zq_S_M_register v gthr_2 greg_2 awid_2 aval_2 amrk_2).gkep (zq_S_M_register v gthr_2 greg_2 awid_2 aval_2 amrk_2).glvs (zq_S_M_register v gthr_2 greg_2 awid_2 aval_2 amrk_2).gkps (zq_S_M_register v gthr_2 greg_2 awid_2 aval_2 amrk_2).gwrd (zq_S_M_register v gthr_2 greg_2 awid_2 aval_2 amrk_2).gsta (zq_S_M_register v gthr_2 greg_2 awid_2 aval_2 amrk_2).gflt (zq_S_M_register v gthr_2 greg_2 awid_2 aval_2 amrk_2).gend (zq_S_M_register v gthr_2 greg_2 awid_2 aval_2 amrk_2).ghal (zq_S_M_register v gthr_2 greg_2 awid_2 aval_2 amrk_2).gwro (zq_S_M_register v gthr_2 greg_2 awid_2 aval_2 amrk_2).gwai (zq_S_M_register v gthr_2 greg_2 awid_2 aval_2 amrk_2).gwpl (zq_S_M_register v gthr_2 greg_2 awid_2 aval_2 amrk_2).gwrs (zq_S_M_register v gthr_2 greg_2 awid_2 aval_2 amrk_2).ghlt (zq_S_M_register v gthr_2 greg_2 awid_2 aval_2 amrk_2).glat (zq_S_M_register v gthr_2 greg_2 awid_2 aval_2 amrk_2).glpl  (fun r_3  => r_3 = r_1 ∧ (r_1 = 0 → fo_1 0 = zq_j_i2l r_2) ∧ post (zq_S_L_register u rn_1 rc_1 rm_1) (zq_S_M_register v gthr_2 greg_2 awid_2 aval_2 amrk_2))))
set_option maxHeartbeats 4000000 in
set_option maxRecDepth 100000 in
theorem zq_arm0 {p : Program} {l : Launch} {e : Env} {s : State} {m : MethodId} {below : List Frame} {meth : Method} {c : Code} {D : va_G} {kT : Nat → ClassId} {b L : Nat} {xs : Nat → Int32} {adc adm : Nat → Nat} {ao : Nat} {H : Heap} {locs : List Loc} {cells slots : Nat} {Q : State → Prop} (X : zq_lx p l s m c D kT b L xs) (u : zq_C) (v : zq_M) (fo : Nat → Int64) {a1 : Int32} (post : zq_C → zq_M → Prop) {x4 : Int32} (hi1 : vp_in (x4 + 1) L) (ha1 : xs (x4 + 1).toNatClampNeg = a1) (h : zq_t0 u v fo a1 post) (hf : cells + 1 ≤ room_1.cells ∧ slots + 6 ≤ room_1.slots) (hP : va_P D vwCl (zq_Wl kT adc adm ao u v fo) H) (hD : va_D (zq_lA s) (zq_Wl kT adc adm ao u v fo)) (hS : va_S (zq_lA s) s.heap H locs) {ls : Array Slot} (hl : lv_has ls 8 [(0, .ref b), (1, .ref (adc 0)), (2, .ref (adm 0)), (3, .ref ao), (4, .int x4)])
    (kk : ∀ (u : zq_C) (v : zq_M) (fo : Nat → Int64) (H : Heap) (locs : List Loc) (ls : Array Slot), post u v → va_P D vwCl (zq_Wl kT adc adm ao u v fo) H → va_D (zq_lA s) (zq_Wl kT adc adm ao u v fo) → va_S (zq_lA s) s.heap H locs → lv_has ls 8 [(0, .ref b), (1, .ref (adc 0)), (2, .ref (adm 0)), (3, .ref ao), (4, .int x4)] → W p l e room_1 s m #[Value.ref b] below meth c H locs (cells + 1) (slots + 6) Q (F0 m 1209 ls [])) :
    W p l e room_1 s m #[Value.ref b] below meth c H locs cells slots Q (F0 m 116 ls []) := by
  obtain ⟨hst, hx, hb, hml, hown, ht, hE, hX, hN, hXs, hbl⟩ := X
  have hK := hE.1
  have hA : ∀ q : Nat, s.heap.size ≤ q → zq_lA s q := fun _ h => h
  have hbA : ¬ zq_lA s b := Nat.not_le.mpr hbl
  unfold zq_t0 at h
  refine lv_aload_n hx hb zd_law_116 rfl (lv_at hl 1 rfl) ?_
  refine lv_aload_n hx hb zd_law_117 rfl (lv_at hl 0 rfl) ?_
  refine lv_iload hx hb zd_law_118 (lv_at hl 4 rfl) ?_
  refine lv_iconst (v := 1) hx hb zd_law_120 (by decide) ?_
  refine lv_iadd hx hb zd_law_121 ?_
  refine zq_sld hx hb hXs hbl hbA hS hi1 ha1 zd_law_122 ?_
  refine lv_aload_n hx hb zd_law_123 rfl (lv_at hl 3 rfl) ?_
  refine zq_c_SW (rest := []) (adl := (zq_Al adc adm ao)) (wr := (zq_R_L_register kT adc adm ao u v fo)) ⟨hx, hb, hml, hown, ht⟩ (c_L_register l hst D kT adc ao u.rn u.rc u.rm fo a1 _ h) (zq_cwSW 3 ht (zq_gSW zw_770 zw_771 zw_772 zw_773) rfl rfl rfl zh_L_register ⟨Nat.le_of_ble_eq_true rfl, Nat.le_of_ble_eq_true rfl⟩) hE hX hN hP hD hS hA [0, 1, 2, 4, 66] [3, 5, 6, 7, 8, 9, 10, 11, 12, 13, 14, 15, 16, 17, 18, 19, 20, 21, 22, 23, 24, 25, 26, 27, 28, 29, 30, 31, 32, 33, 34, 35, 36, 37, 38, 39, 40, 41, 42, 43, 44, 45, 46, 47, 48, 49, 50, 51, 52, 53, 54, 55, 56, 57, 58, 59, 60, 61, 62, 63, 64, 65] 67 rfl (by decide +kernel) rfl (by decide +kernel) rfl rfl rfl hl.1 (Nat.le_of_ble_eq_true rfl) rfl zd_law_124 hf (fun r_1 w1 H locs hw hJ hS => ?_)
  obtain ⟨rn_1, rc_1, rm_1, fo_1, rfl, h⟩ := hw
  obtain ⟨hP, hD⟩ := hJ (zq_Wl kT adc adm ao (zq_S_L_register u rn_1 rc_1 rm_1) v fo_1) rfl rfl rfl
  refine lv_istore (lv' := [(5, .int r_1), (0, .ref b), (1, .ref (adc 0)), (2, .ref (adm 0)), (3, .ref ao), (4, .int x4)]) hx hb zd_law_127 hl (by decide) rfl (fun ls hl => ?_)
  refine lv_aload_n hx hb zd_law_129 rfl (lv_at hl 3 rfl) ?_
  refine lv_aload_n hx hb zd_law_130 rfl (lv_at hl 1 rfl) ?_
  refine lv_iload hx hb zd_law_131 (lv_at hl 5 rfl) ?_
  refine lv_iconst (v := 1) hx hb zd_law_133 (by decide) ?_
  refine lv_iadd hx hb zd_law_134 ?_
  refine zq_sld hx hb hXs hbl hbA hS hi1 ha1 zd_law_135 ?_
  refine zq_c_Vi (rest := []) (adl := (zq_Al adc adm ao)) (wr := (zq_R_M_register kT adc adm ao (zq_S_L_register u rn_1 rc_1 rm_1) v fo_1)) ⟨hx, hb, hml, hown, ht⟩ (c_M_register l D kT adm v.gthr v.greg v.gcon v.gfld v.gtrn v.gins v.glev v.gkep v.glvs v.gkps v.gwrd v.gsta v.gflt v.gend v.ghal v.gwro v.gwai v.gwpl v.gwrs v.ghlt v.glat v.glpl v.awid v.aval v.amrk a1 _ h) (cwV 1 ht (zq_gV zw_774 zw_775 zw_776 zw_393 zw_777) rfl rfl rfl zh_M_register ⟨Nat.le_of_ble_eq_true rfl, Nat.le_of_ble_eq_true rfl⟩) hE hP hD hS hA [35, 36, 37, 40] [0, 1, 2, 3, 4, 5, 6, 7, 8, 9, 10, 11, 12, 13, 14, 15, 16, 17, 18, 19, 20, 21, 22, 23, 24, 25, 26, 27, 28, 29, 30, 31, 32, 33, 34, 38, 39, 41, 42, 43, 44, 45, 46, 47, 48, 49, 50, 51, 52, 53, 54, 55, 56, 57, 58, 59, 60, 61, 62, 63, 64, 65, 66] 67 rfl (by decide +kernel) rfl (by decide +kernel) rfl rfl 0 rfl rfl rfl rfl hl.1 (Nat.le_of_ble_eq_true rfl) rfl zd_law_136 hf (fun r_2 w1 H locs hw hJ hS => ?_)
  obtain ⟨gthr_2, greg_2, awid_2, aval_2, amrk_2, rfl, h⟩ := hw
  obtain ⟨hP, hD⟩ := hJ (zq_Wl kT adc adm ao (zq_S_L_register u rn_1 rc_1 rm_1) (zq_S_M_register v gthr_2 greg_2 awid_2 aval_2 amrk_2) fo_1) rfl rfl rfl
  refine lv_istore (lv' := [(6, .int r_2), (5, .int r_1), (0, .ref b), (1, .ref (adc 0)), (2, .ref (adm 0)), (3, .ref ao), (4, .int x4)]) hx hb zd_law_139 hl (by decide) rfl (fun ls hl => ?_)
  refine lv_aload_n hx hb zd_law_141 rfl (lv_at hl 4 rfl) ?_
  refine zq_c_Vi (rest := []) (adl := (zq_Al adc adm ao)) (wr := (zq_R_M_thrown kT adc adm ao (zq_S_L_register u rn_1 rc_1 rm_1) (zq_S_M_register v gthr_2 greg_2 awid_2 aval_2 amrk_2) fo_1)) ⟨hx, hb, hml, hown, ht⟩ (c_M_thrown l D kT adm (zq_S_M_register v gthr_2 greg_2 awid_2 aval_2 amrk_2).gthr (zq_S_M_register v gthr_2 greg_2 awid_2 aval_2 amrk_2).greg (zq_S_M_register v gthr_2 greg_2 awid_2 aval_2 amrk_2).gcon (zq_S_M_register v gthr_2 greg_2 awid_2 aval_2 amrk_2).gfld (zq_S_M_register v gthr_2 greg_2 awid_2 aval_2 amrk_2).gtrn (zq_S_M_register v gthr_2 greg_2 awid_2 aval_2 amrk_2).gins (zq_S_M_register v gthr_2 greg_2 awid_2 aval_2 amrk_2).glev (zq_S_M_register v gthr_2 greg_2 awid_2 aval_2 amrk_2).gkep (zq_S_M_register v gthr_2 greg_2 awid_2 aval_2 amrk_2).glvs (zq_S_M_register v gthr_2 greg_2 awid_2 aval_2 amrk_2).gkps (zq_S_M_register v gthr_2 greg_2 awid_2 aval_2 amrk_2).gwrd (zq_S_M_register v gthr_2 greg_2 awid_2 aval_2 amrk_2).gsta (zq_S_M_register v gthr_2 greg_2 awid_2 aval_2 amrk_2).gflt (zq_S_M_register v gthr_2 greg_2 awid_2 aval_2 amrk_2).gend (zq_S_M_register v gthr_2 greg_2 awid_2 aval_2 amrk_2).ghal (zq_S_M_register v gthr_2 greg_2 awid_2 aval_2 amrk_2).gwro (zq_S_M_register v gthr_2 greg_2 awid_2 aval_2 amrk_2).gwai (zq_S_M_register v gthr_2 greg_2 awid_2 aval_2 amrk_2).gwpl (zq_S_M_register v gthr_2 greg_2 awid_2 aval_2 amrk_2).gwrs (zq_S_M_register v gthr_2 greg_2 awid_2 aval_2 amrk_2).ghlt (zq_S_M_register v gthr_2 greg_2 awid_2 aval_2 amrk_2).glat (zq_S_M_register v gthr_2 greg_2 awid_2 aval_2 amrk_2).glpl  _ h) (cwV 0 ht (zq_gV zw_778 zw_779 zw_780 zw_393 zw_781) rfl rfl rfl zh_M_thrown ⟨Nat.le_of_ble_eq_true rfl, Nat.le_of_ble_eq_true rfl⟩) hE hP hD hS hA [35] [0, 1, 2, 3, 4, 5, 6, 7, 8, 9, 10, 11, 12, 13, 14, 15, 16, 17, 18, 19, 20, 21, 22, 23, 24, 25, 26, 27, 28, 29, 30, 31, 32, 33, 34, 36, 37, 38, 39, 40, 41, 42, 43, 44, 45, 46, 47, 48, 49, 50, 51, 52, 53, 54, 55, 56, 57, 58, 59, 60, 61, 62, 63, 64, 65, 66] 67 rfl (by decide +kernel) rfl (by decide +kernel) rfl rfl 0 rfl rfl rfl rfl hl.1 (Nat.le_of_ble_eq_true rfl) rfl zd_law_142 hf (fun r_3 w1 H locs hw hJ hS => ?_)
  obtain ⟨rfl, h⟩ := hw
  obtain ⟨hP, hD⟩ := hJ (zq_Wl kT adc adm ao (zq_S_L_register u rn_1 rc_1 rm_1) (zq_S_M_register v gthr_2 greg_2 awid_2 aval_2 amrk_2) fo_1) rfl rfl rfl
  refine lv_iload hx hb zd_law_145 (lv_at hl 1 rfl) ?_
  refine lv_icmp_eq (tgt := 152) hx hb zd_law_147 (by decide) (fun c_1 => ?_) (fun c_1 => ?_)
  · refine lv_iload hx hb zd_law_152 (lv_at hl 1 rfl) ?_
    refine lv_if_ne (tgt := 169) hx hb zd_law_154 (by decide) (fun c_2 => ?_) (fun c_2 => ?_)
    · refine lv_goto (tgt := 1209) hx hb zd_law_169 (by decide) ?_
      exact kk (zq_S_L_register u rn_1 rc_1 rm_1) (zq_S_M_register v gthr_2 greg_2 awid_2 aval_2 amrk_2) fo_1 H locs ls h.2.2 hP hD hS (lv_sub hl [2, 3, 4, 5, 6] rfl)
    · refine lv_aload_n hx hb zd_law_157 rfl (lv_at hl 5 rfl) ?_
      refine lv_iconst (v := 0) hx hb zd_law_158 (by decide) ?_
      refine zq_a_lald hx hb hK hP 66 1 rfl rfl (zq_in (by decide)) (j := 0) (by decide) zd_law_159 ?_
      refine lv_iload hx hb zd_law_160 (lv_at hl 0 rfl) ?_
      refine lv_i2l (v := (zq_j_i2l r_2)) hx hb zd_law_162 rfl ?_
      refine W.lcmp hx hb zd_law_163 ?_
      refine lv_if_eq (tgt := 169) hx hb zd_law_164 (by decide) (fun c_3 => ?_) (fun c_3 => ?_)
      · refine lv_goto (tgt := 1209) hx hb zd_law_169 (by decide) ?_
        exact kk (zq_S_L_register u rn_1 rc_1 rm_1) (zq_S_M_register v gthr_2 greg_2 awid_2 aval_2 amrk_2) fo_1 H locs ls h.2.2 hP hD hS (lv_sub hl [2, 3, 4, 5, 6] rfl)
      · exact absurd (zq_lc_eq.mpr (h.2.1 c_2)) c_3
  · exact absurd h.1 c_1
def zq_t1 (u : zq_C) (v : zq_M) (fo : Nat → Int64) (a1 : Int32) (a2 : Int32) (post : zq_C → zq_M → Prop) : Prop := wp_L_constant u.ocn u.ofn u.oc fo ((zq_j_lshl (zq_j_i2l a1) 32) ||| ((zq_j_i2l a2) &&& 4294967295)) (fun r_1 fo_1 ocn_1 oc_1 => wp_M_constant v.gthr v.greg v.gcon v.gfld v.gtrn v.gins v.glev v.gkep v.glvs v.gkps v.gwrd v.gsta v.gflt v.gend v.ghal v.gwro v.gwai v.gwpl v.gwrs v.ghlt v.glat v.glpl v.acst ((zq_j_lshl (zq_j_i2l a1) 32) ||| ((zq_j_i2l a2) &&& 4294967295)) (fun r_2 gthr_2 gcon_2 acst_2 => wp_M_thrown (zq_S_M_constant v gthr_2 gcon_2 acst_2).gthr (zq_S_M_constant v gthr_2 gcon_2 acst_2).greg (zq_S_M_constant v gthr_2 gcon_2 acst_2).gcon (zq_S_M_constant v gthr_2 gcon_2 acst_2).gfld (zq_S_M_constant v gthr_2 gcon_2 acst_2).gtrn (zq_S_M_constant v gthr_2 gcon_2 acst_2).gins (zq_S_M_constant v gthr_2 gcon_2 acst_2).glev (zq_S_M_constant v gthr_2 gcon_2 acst_2).gkep (zq_S_M_constant v gthr_2 gcon_2 acst_2).glvs (zq_S_M_constant v gthr_2 gcon_2 acst_2).gkps (zq_S_M_constant v gthr_2 gcon_2 acst_2).gwrd (zq_S_M_constant v gthr_2 gcon_2 acst_2).gsta (zq_S_M_constant v gthr_2 gcon_2 acst_2).gflt (zq_S_M_constant v gthr_2 gcon_2 acst_2).gend (zq_S_M_constant v gthr_2 gcon_2 acst_2).ghal (zq_S_M_constant v gthr_2 gcon_2 acst_2).gwro (zq_S_M_constant v gthr_2 gcon_2 acst_2).gwai (zq_S_M_constant v gthr_2 gcon_2 acst_2).gwpl (zq_S_M_constant v gthr_2 gcon_2 acst_2).gwrs (zq_S_M_constant v gthr_2 gcon_2 acst_2).ghlt (zq_S_M_constant v gthr_2 gcon_2 acst_2).glat (zq_S_M_constant v gthr_2 gcon_2 acst_2).glpl  (fun r_3  => r_3 = r_1 ∧ (r_1 = 0 → fo_1 0 = zq_j_i2l r_2) ∧ post (zq_S_L_constant u ocn_1 oc_1) (zq_S_M_constant v gthr_2 gcon_2 acst_2))))
set_option maxHeartbeats 4000000 in
set_option maxRecDepth 100000 in
theorem zq_arm1 {p : Program} {l : Launch} {e : Env} {s : State} {m : MethodId} {below : List Frame} {meth : Method} {c : Code} {D : va_G} {kT : Nat → ClassId} {b L : Nat} {xs : Nat → Int32} {adc adm : Nat → Nat} {ao : Nat} {H : Heap} {locs : List Loc} {cells slots : Nat} {Q : State → Prop} (X : zq_lx p l s m c D kT b L xs) (u : zq_C) (v : zq_M) (fo : Nat → Int64) {a1 : Int32} {a2 : Int32} (post : zq_C → zq_M → Prop) {x4 : Int32} (hi1 : vp_in (x4 + 1) L) (ha1 : xs (x4 + 1).toNatClampNeg = a1) (hi2 : vp_in (x4 + 2) L) (ha2 : xs (x4 + 2).toNatClampNeg = a2) (h : zq_t1 u v fo a1 a2 post) (hf : cells + 1 ≤ room_1.cells ∧ slots + 6 ≤ room_1.slots) (hP : va_P D vwCl (zq_Wl kT adc adm ao u v fo) H) (hD : va_D (zq_lA s) (zq_Wl kT adc adm ao u v fo)) (hS : va_S (zq_lA s) s.heap H locs) {ls : Array Slot} (hl : lv_has ls 8 [(0, .ref b), (1, .ref (adc 0)), (2, .ref (adm 0)), (3, .ref ao), (4, .int x4)])
    (kk : ∀ (u : zq_C) (v : zq_M) (fo : Nat → Int64) (H : Heap) (locs : List Loc) (ls : Array Slot), post u v → va_P D vwCl (zq_Wl kT adc adm ao u v fo) H → va_D (zq_lA s) (zq_Wl kT adc adm ao u v fo) → va_S (zq_lA s) s.heap H locs → lv_has ls 8 [(0, .ref b), (1, .ref (adc 0)), (2, .ref (adm 0)), (3, .ref ao), (4, .int x4)] → W p l e room_1 s m #[Value.ref b] below meth c H locs (cells + 1) (slots + 6) Q (F0 m 1209 ls [])) :
    W p l e room_1 s m #[Value.ref b] below meth c H locs cells slots Q (F0 m 172 ls []) := by
  obtain ⟨hst, hx, hb, hml, hown, ht, hE, hX, hN, hXs, hbl⟩ := X
  have hK := hE.1
  have hA : ∀ q : Nat, s.heap.size ≤ q → zq_lA s q := fun _ h => h
  have hbA : ¬ zq_lA s b := Nat.not_le.mpr hbl
  unfold zq_t1 at h
  refine lv_aload_n hx hb zd_law_172 rfl (lv_at hl 1 rfl) ?_
  refine lv_aload_n hx hb zd_law_173 rfl (lv_at hl 0 rfl) ?_
  refine lv_iload hx hb zd_law_174 (lv_at hl 4 rfl) ?_
  refine lv_iconst (v := 1) hx hb zd_law_176 (by decide) ?_
  refine lv_iadd hx hb zd_law_177 ?_
  refine zq_sld hx hb hXs hbl hbA hS hi1 ha1 zd_law_178 ?_
  refine lv_i2l (v := (zq_j_i2l a1)) hx hb zd_law_179 rfl ?_
  refine lv_bipush (v := 32) hx hb zd_law_180 (by decide) ?_
  refine lv_lshl (v := (zq_j_lshl (zq_j_i2l a1) 32)) hx hb zd_law_182 rfl ?_
  refine lv_aload_n hx hb zd_law_183 rfl (lv_at hl 0 rfl) ?_
  refine lv_iload hx hb zd_law_184 (lv_at hl 4 rfl) ?_
  refine lv_iconst (v := 2) hx hb zd_law_186 (by decide) ?_
  refine lv_iadd hx hb zd_law_187 ?_
  refine zq_sld hx hb hXs hbl hbA hS hi2 ha2 zd_law_188 ?_
  refine lv_i2l (v := (zq_j_i2l a2)) hx hb zd_law_189 rfl ?_
  refine W.ldc2 (v := 4294967295) hx hb hown (ht _ zw_782) rfl zd_law_190 ?_
  refine W.eq (g2 := F0 m 193 ls [.long 4294967295, .long (zq_j_i2l a2), .long (zq_j_lshl (zq_j_i2l a1) 32), .ref (adc 0)]) rfl ?_
  refine lv_land hx hb zd_law_193 ?_
  refine lv_lor hx hb zd_law_194 ?_
  refine lv_aload_n hx hb zd_law_195 rfl (lv_at hl 3 rfl) ?_
  refine zq_c_SW (rest := []) (adl := (zq_Al adc adm ao)) (wr := (zq_R_L_constant kT adc adm ao u v fo)) ⟨hx, hb, hml, hown, ht⟩ (c_L_constant l hst D kT adc ao u.ocn u.ofn u.oc fo ((zq_j_lshl (zq_j_i2l a1) 32) ||| ((zq_j_i2l a2) &&& 4294967295)) _ h) (zq_cwSW 3 ht (zq_gSW zw_783 zw_784 zw_772 zw_785) rfl rfl rfl zh_L_constant ⟨Nat.le_of_ble_eq_true rfl, Nat.le_of_ble_eq_true rfl⟩) hE hX hN hP hD hS hA [0, 7, 8, 66] [1, 2, 3, 4, 5, 6, 9, 10, 11, 12, 13, 14, 15, 16, 17, 18, 19, 20, 21, 22, 23, 24, 25, 26, 27, 28, 29, 30, 31, 32, 33, 34, 35, 36, 37, 38, 39, 40, 41, 42, 43, 44, 45, 46, 47, 48, 49, 50, 51, 52, 53, 54, 55, 56, 57, 58, 59, 60, 61, 62, 63, 64, 65] 67 rfl (by decide +kernel) rfl (by decide +kernel) rfl rfl rfl hl.1 (Nat.le_of_ble_eq_true rfl) rfl zd_law_196 hf (fun r_1 w1 H locs hw hJ hS => ?_)
  obtain ⟨ocn_1, oc_1, fo_1, rfl, h⟩ := hw
  obtain ⟨hP, hD⟩ := hJ (zq_Wl kT adc adm ao (zq_S_L_constant u ocn_1 oc_1) v fo_1) rfl rfl rfl
  refine lv_istore (lv' := [(5, .int r_1), (0, .ref b), (1, .ref (adc 0)), (2, .ref (adm 0)), (3, .ref ao), (4, .int x4)]) hx hb zd_law_199 hl (by decide) rfl (fun ls hl => ?_)
  refine lv_aload_n hx hb zd_law_201 rfl (lv_at hl 3 rfl) ?_
  refine lv_aload_n hx hb zd_law_202 rfl (lv_at hl 1 rfl) ?_
  refine lv_iload hx hb zd_law_203 (lv_at hl 5 rfl) ?_
  refine lv_iconst (v := 1) hx hb zd_law_205 (by decide) ?_
  refine lv_iadd hx hb zd_law_206 ?_
  refine zq_sld hx hb hXs hbl hbA hS hi1 ha1 zd_law_207 ?_
  refine lv_i2l (v := (zq_j_i2l a1)) hx hb zd_law_208 rfl ?_
  refine lv_bipush (v := 32) hx hb zd_law_209 (by decide) ?_
  refine lv_lshl (v := (zq_j_lshl (zq_j_i2l a1) 32)) hx hb zd_law_211 rfl ?_
  refine lv_aload_n hx hb zd_law_212 rfl (lv_at hl 1 rfl) ?_
  refine lv_iload hx hb zd_law_213 (lv_at hl 5 rfl) ?_
  refine lv_iconst (v := 2) hx hb zd_law_215 (by decide) ?_
  refine lv_iadd hx hb zd_law_216 ?_
  refine zq_sld hx hb hXs hbl hbA hS hi2 ha2 zd_law_217 ?_
  refine lv_i2l (v := (zq_j_i2l a2)) hx hb zd_law_218 rfl ?_
  refine W.ldc2 (v := 4294967295) hx hb hown (ht _ zw_782) rfl zd_law_219 ?_
  refine W.eq (g2 := F0 m 222 ls [.long 4294967295, .long (zq_j_i2l a2), .long (zq_j_lshl (zq_j_i2l a1) 32), .ref (adm 0)]) rfl ?_
  refine lv_land hx hb zd_law_222 ?_
  refine lv_lor hx hb zd_law_223 ?_
  refine zq_c_Vi (rest := []) (adl := (zq_Al adc adm ao)) (wr := (zq_R_M_constant kT adc adm ao (zq_S_L_constant u ocn_1 oc_1) v fo_1)) ⟨hx, hb, hml, hown, ht⟩ (c_M_constant l D kT adm v.gthr v.greg v.gcon v.gfld v.gtrn v.gins v.glev v.gkep v.glvs v.gkps v.gwrd v.gsta v.gflt v.gend v.ghal v.gwro v.gwai v.gwpl v.gwrs v.ghlt v.glat v.glpl v.acst ((zq_j_lshl (zq_j_i2l a1) 32) ||| ((zq_j_i2l a2) &&& 4294967295)) _ h) (cwV 1 ht (zq_gV zw_786 zw_787 zw_788 zw_393 zw_789) rfl rfl rfl zh_M_constant ⟨Nat.le_of_ble_eq_true rfl, Nat.le_of_ble_eq_true rfl⟩) hE hP hD hS hA [35, 45] [0, 1, 2, 3, 4, 5, 6, 7, 8, 9, 10, 11, 12, 13, 14, 15, 16, 17, 18, 19, 20, 21, 22, 23, 24, 25, 26, 27, 28, 29, 30, 31, 32, 33, 34, 36, 37, 38, 39, 40, 41, 42, 43, 44, 46, 47, 48, 49, 50, 51, 52, 53, 54, 55, 56, 57, 58, 59, 60, 61, 62, 63, 64, 65, 66] 67 rfl (by decide +kernel) rfl (by decide +kernel) rfl rfl 0 rfl rfl rfl rfl hl.1 (Nat.le_of_ble_eq_true rfl) rfl zd_law_224 hf (fun r_2 w1 H locs hw hJ hS => ?_)
  obtain ⟨gthr_2, gcon_2, acst_2, rfl, h⟩ := hw
  obtain ⟨hP, hD⟩ := hJ (zq_Wl kT adc adm ao (zq_S_L_constant u ocn_1 oc_1) (zq_S_M_constant v gthr_2 gcon_2 acst_2) fo_1) rfl rfl rfl
  refine lv_istore (lv' := [(6, .int r_2), (5, .int r_1), (0, .ref b), (1, .ref (adc 0)), (2, .ref (adm 0)), (3, .ref ao), (4, .int x4)]) hx hb zd_law_227 hl (by decide) rfl (fun ls hl => ?_)
  refine lv_aload_n hx hb zd_law_229 rfl (lv_at hl 4 rfl) ?_
  refine zq_c_Vi (rest := []) (adl := (zq_Al adc adm ao)) (wr := (zq_R_M_thrown kT adc adm ao (zq_S_L_constant u ocn_1 oc_1) (zq_S_M_constant v gthr_2 gcon_2 acst_2) fo_1)) ⟨hx, hb, hml, hown, ht⟩ (c_M_thrown l D kT adm (zq_S_M_constant v gthr_2 gcon_2 acst_2).gthr (zq_S_M_constant v gthr_2 gcon_2 acst_2).greg (zq_S_M_constant v gthr_2 gcon_2 acst_2).gcon (zq_S_M_constant v gthr_2 gcon_2 acst_2).gfld (zq_S_M_constant v gthr_2 gcon_2 acst_2).gtrn (zq_S_M_constant v gthr_2 gcon_2 acst_2).gins (zq_S_M_constant v gthr_2 gcon_2 acst_2).glev (zq_S_M_constant v gthr_2 gcon_2 acst_2).gkep (zq_S_M_constant v gthr_2 gcon_2 acst_2).glvs (zq_S_M_constant v gthr_2 gcon_2 acst_2).gkps (zq_S_M_constant v gthr_2 gcon_2 acst_2).gwrd (zq_S_M_constant v gthr_2 gcon_2 acst_2).gsta (zq_S_M_constant v gthr_2 gcon_2 acst_2).gflt (zq_S_M_constant v gthr_2 gcon_2 acst_2).gend (zq_S_M_constant v gthr_2 gcon_2 acst_2).ghal (zq_S_M_constant v gthr_2 gcon_2 acst_2).gwro (zq_S_M_constant v gthr_2 gcon_2 acst_2).gwai (zq_S_M_constant v gthr_2 gcon_2 acst_2).gwpl (zq_S_M_constant v gthr_2 gcon_2 acst_2).gwrs (zq_S_M_constant v gthr_2 gcon_2 acst_2).ghlt (zq_S_M_constant v gthr_2 gcon_2 acst_2).glat (zq_S_M_constant v gthr_2 gcon_2 acst_2).glpl  _ h) (cwV 0 ht (zq_gV zw_778 zw_779 zw_780 zw_393 zw_781) rfl rfl rfl zh_M_thrown ⟨Nat.le_of_ble_eq_true rfl, Nat.le_of_ble_eq_true rfl⟩) hE hP hD hS hA [35] [0, 1, 2, 3, 4, 5, 6, 7, 8, 9, 10, 11, 12, 13, 14, 15, 16, 17, 18, 19, 20, 21, 22, 23, 24, 25, 26, 27, 28, 29, 30, 31, 32, 33, 34, 36, 37, 38, 39, 40, 41, 42, 43, 44, 45, 46, 47, 48, 49, 50, 51, 52, 53, 54, 55, 56, 57, 58, 59, 60, 61, 62, 63, 64, 65, 66] 67 rfl (by decide +kernel) rfl (by decide +kernel) rfl rfl 0 rfl rfl rfl rfl hl.1 (Nat.le_of_ble_eq_true rfl) rfl zd_law_230 hf (fun r_3 w1 H locs hw hJ hS => ?_)
  obtain ⟨rfl, h⟩ := hw
  obtain ⟨hP, hD⟩ := hJ (zq_Wl kT adc adm ao (zq_S_L_constant u ocn_1 oc_1) (zq_S_M_constant v gthr_2 gcon_2 acst_2) fo_1) rfl rfl rfl
  refine lv_iload hx hb zd_law_233 (lv_at hl 1 rfl) ?_
  refine lv_icmp_eq (tgt := 240) hx hb zd_law_235 (by decide) (fun c_1 => ?_) (fun c_1 => ?_)
  · refine lv_iload hx hb zd_law_240 (lv_at hl 1 rfl) ?_
    refine lv_if_ne (tgt := 257) hx hb zd_law_242 (by decide) (fun c_2 => ?_) (fun c_2 => ?_)
    · refine lv_goto (tgt := 1209) hx hb zd_law_257 (by decide) ?_
      exact kk (zq_S_L_constant u ocn_1 oc_1) (zq_S_M_constant v gthr_2 gcon_2 acst_2) fo_1 H locs ls h.2.2 hP hD hS (lv_sub hl [2, 3, 4, 5, 6] rfl)
    · refine lv_aload_n hx hb zd_law_245 rfl (lv_at hl 5 rfl) ?_
      refine lv_iconst (v := 0) hx hb zd_law_246 (by decide) ?_
      refine zq_a_lald hx hb hK hP 66 1 rfl rfl (zq_in (by decide)) (j := 0) (by decide) zd_law_247 ?_
      refine lv_iload hx hb zd_law_248 (lv_at hl 0 rfl) ?_
      refine lv_i2l (v := (zq_j_i2l r_2)) hx hb zd_law_250 rfl ?_
      refine W.lcmp hx hb zd_law_251 ?_
      refine lv_if_eq (tgt := 257) hx hb zd_law_252 (by decide) (fun c_3 => ?_) (fun c_3 => ?_)
      · refine lv_goto (tgt := 1209) hx hb zd_law_257 (by decide) ?_
        exact kk (zq_S_L_constant u ocn_1 oc_1) (zq_S_M_constant v gthr_2 gcon_2 acst_2) fo_1 H locs ls h.2.2 hP hD hS (lv_sub hl [2, 3, 4, 5, 6] rfl)
      · exact absurd (zq_lc_eq.mpr (h.2.1 c_2)) c_3
  · exact absurd h.1 c_1
def zq_t2 (u : zq_C) (v : zq_M) (fo : Nat → Int64) (a1 : Int32) (a2 : Int32) (a3 : Int32) (post : zq_C → zq_M → Prop) : Prop := (if a3 = 0 then wp_L_field u.ocn u.ofn u.ofr u.oto u.osg fo a1 a2 0 (fun r_1 fo_1 ofn_1 ofr_1 oto_1 osg_1 => wp_M_field v.gthr v.greg v.gcon v.gfld v.gtrn v.gins v.glev v.gkep v.glvs v.gkps v.gwrd v.gsta v.gflt v.gend v.ghal v.gwro v.gwai v.gwpl v.gwrs v.ghlt v.glat v.glpl v.afrm v.atoo v.asgn a1 a2 0 (fun r_2 gthr_2 gfld_2 afrm_2 atoo_2 asgn_2 => wp_M_thrown (zq_S_M_field v gthr_2 gfld_2 afrm_2 atoo_2 asgn_2).gthr (zq_S_M_field v gthr_2 gfld_2 afrm_2 atoo_2 asgn_2).greg (zq_S_M_field v gthr_2 gfld_2 afrm_2 atoo_2 asgn_2).gcon (zq_S_M_field v gthr_2 gfld_2 afrm_2 atoo_2 asgn_2).gfld (zq_S_M_field v gthr_2 gfld_2 afrm_2 atoo_2 asgn_2).gtrn (zq_S_M_field v gthr_2 gfld_2 afrm_2 atoo_2 asgn_2).gins (zq_S_M_field v gthr_2 gfld_2 afrm_2 atoo_2 asgn_2).glev (zq_S_M_field v gthr_2 gfld_2 afrm_2 atoo_2 asgn_2).gkep (zq_S_M_field v gthr_2 gfld_2 afrm_2 atoo_2 asgn_2).glvs (zq_S_M_field v gthr_2 gfld_2 afrm_2 atoo_2 asgn_2).gkps (zq_S_M_field v gthr_2 gfld_2 afrm_2 atoo_2 asgn_2).gwrd (zq_S_M_field v gthr_2 gfld_2 afrm_2 atoo_2 asgn_2).gsta (zq_S_M_field v gthr_2 gfld_2 afrm_2 atoo_2 asgn_2).gflt (zq_S_M_field v gthr_2 gfld_2 afrm_2 atoo_2 asgn_2).gend (zq_S_M_field v gthr_2 gfld_2 afrm_2 atoo_2 asgn_2).ghal (zq_S_M_field v gthr_2 gfld_2 afrm_2 atoo_2 asgn_2).gwro (zq_S_M_field v gthr_2 gfld_2 afrm_2 atoo_2 asgn_2).gwai (zq_S_M_field v gthr_2 gfld_2 afrm_2 atoo_2 asgn_2).gwpl (zq_S_M_field v gthr_2 gfld_2 afrm_2 atoo_2 asgn_2).gwrs (zq_S_M_field v gthr_2 gfld_2 afrm_2 atoo_2 asgn_2).ghlt (zq_S_M_field v gthr_2 gfld_2 afrm_2 atoo_2 asgn_2).glat (zq_S_M_field v gthr_2 gfld_2 afrm_2 atoo_2 asgn_2).glpl  (fun r_3  => r_3 = r_1 ∧ (r_1 = 0 → fo_1 0 = zq_j_i2l r_2) ∧ post (zq_S_L_field u ofn_1 ofr_1 oto_1 osg_1) (zq_S_M_field v gthr_2 gfld_2 afrm_2 atoo_2 asgn_2)))) else wp_L_field u.ocn u.ofn u.ofr u.oto u.osg fo a1 a2 1 (fun r_1 fo_1 ofn_1 ofr_1 oto_1 osg_1 => wp_M_field v.gthr v.greg v.gcon v.gfld v.gtrn v.gins v.glev v.gkep v.glvs v.gkps v.gwrd v.gsta v.gflt v.gend v.ghal v.gwro v.gwai v.gwpl v.gwrs v.ghlt v.glat v.glpl v.afrm v.atoo v.asgn a1 a2 1 (fun r_2 gthr_2 gfld_2 afrm_2 atoo_2 asgn_2 => wp_M_thrown (zq_S_M_field v gthr_2 gfld_2 afrm_2 atoo_2 asgn_2).gthr (zq_S_M_field v gthr_2 gfld_2 afrm_2 atoo_2 asgn_2).greg (zq_S_M_field v gthr_2 gfld_2 afrm_2 atoo_2 asgn_2).gcon (zq_S_M_field v gthr_2 gfld_2 afrm_2 atoo_2 asgn_2).gfld (zq_S_M_field v gthr_2 gfld_2 afrm_2 atoo_2 asgn_2).gtrn (zq_S_M_field v gthr_2 gfld_2 afrm_2 atoo_2 asgn_2).gins (zq_S_M_field v gthr_2 gfld_2 afrm_2 atoo_2 asgn_2).glev (zq_S_M_field v gthr_2 gfld_2 afrm_2 atoo_2 asgn_2).gkep (zq_S_M_field v gthr_2 gfld_2 afrm_2 atoo_2 asgn_2).glvs (zq_S_M_field v gthr_2 gfld_2 afrm_2 atoo_2 asgn_2).gkps (zq_S_M_field v gthr_2 gfld_2 afrm_2 atoo_2 asgn_2).gwrd (zq_S_M_field v gthr_2 gfld_2 afrm_2 atoo_2 asgn_2).gsta (zq_S_M_field v gthr_2 gfld_2 afrm_2 atoo_2 asgn_2).gflt (zq_S_M_field v gthr_2 gfld_2 afrm_2 atoo_2 asgn_2).gend (zq_S_M_field v gthr_2 gfld_2 afrm_2 atoo_2 asgn_2).ghal (zq_S_M_field v gthr_2 gfld_2 afrm_2 atoo_2 asgn_2).gwro (zq_S_M_field v gthr_2 gfld_2 afrm_2 atoo_2 asgn_2).gwai (zq_S_M_field v gthr_2 gfld_2 afrm_2 atoo_2 asgn_2).gwpl (zq_S_M_field v gthr_2 gfld_2 afrm_2 atoo_2 asgn_2).gwrs (zq_S_M_field v gthr_2 gfld_2 afrm_2 atoo_2 asgn_2).ghlt (zq_S_M_field v gthr_2 gfld_2 afrm_2 atoo_2 asgn_2).glat (zq_S_M_field v gthr_2 gfld_2 afrm_2 atoo_2 asgn_2).glpl  (fun r_3  => r_3 = r_1 ∧ (r_1 = 0 → fo_1 0 = zq_j_i2l r_2) ∧ post (zq_S_L_field u ofn_1 ofr_1 oto_1 osg_1) (zq_S_M_field v gthr_2 gfld_2 afrm_2 atoo_2 asgn_2)))))
set_option maxHeartbeats 4000000 in
set_option maxRecDepth 100000 in
theorem zq_arm2 {p : Program} {l : Launch} {e : Env} {s : State} {m : MethodId} {below : List Frame} {meth : Method} {c : Code} {D : va_G} {kT : Nat → ClassId} {b L : Nat} {xs : Nat → Int32} {adc adm : Nat → Nat} {ao : Nat} {H : Heap} {locs : List Loc} {cells slots : Nat} {Q : State → Prop} (X : zq_lx p l s m c D kT b L xs) (u : zq_C) (v : zq_M) (fo : Nat → Int64) {a1 : Int32} {a2 : Int32} {a3 : Int32} (post : zq_C → zq_M → Prop) {x4 : Int32} (hi1 : vp_in (x4 + 1) L) (ha1 : xs (x4 + 1).toNatClampNeg = a1) (hi2 : vp_in (x4 + 2) L) (ha2 : xs (x4 + 2).toNatClampNeg = a2) (hi3 : vp_in (x4 + 3) L) (ha3 : xs (x4 + 3).toNatClampNeg = a3) (h : zq_t2 u v fo a1 a2 a3 post) (hf : cells + 1 ≤ room_1.cells ∧ slots + 6 ≤ room_1.slots) (hP : va_P D vwCl (zq_Wl kT adc adm ao u v fo) H) (hD : va_D (zq_lA s) (zq_Wl kT adc adm ao u v fo)) (hS : va_S (zq_lA s) s.heap H locs) {ls : Array Slot} (hl : lv_has ls 8 [(0, .ref b), (1, .ref (adc 0)), (2, .ref (adm 0)), (3, .ref ao), (4, .int x4)])
    (kk : ∀ (u : zq_C) (v : zq_M) (fo : Nat → Int64) (H : Heap) (locs : List Loc) (ls : Array Slot), post u v → va_P D vwCl (zq_Wl kT adc adm ao u v fo) H → va_D (zq_lA s) (zq_Wl kT adc adm ao u v fo) → va_S (zq_lA s) s.heap H locs → lv_has ls 8 [(0, .ref b), (1, .ref (adc 0)), (2, .ref (adm 0)), (3, .ref ao), (4, .int x4)] → W p l e room_1 s m #[Value.ref b] below meth c H locs (cells + 1) (slots + 6) Q (F0 m 1209 ls [])) :
    W p l e room_1 s m #[Value.ref b] below meth c H locs cells slots Q (F0 m 260 ls []) := by
  obtain ⟨hst, hx, hb, hml, hown, ht, hE, hX, hN, hXs, hbl⟩ := X
  have hK := hE.1
  have hA : ∀ q : Nat, s.heap.size ≤ q → zq_lA s q := fun _ h => h
  have hbA : ¬ zq_lA s b := Nat.not_le.mpr hbl
  unfold zq_t2 at h
  refine lv_aload_n hx hb zd_law_260 rfl (lv_at hl 1 rfl) ?_
  refine lv_aload_n hx hb zd_law_261 rfl (lv_at hl 0 rfl) ?_
  refine lv_iload hx hb zd_law_262 (lv_at hl 4 rfl) ?_
  refine lv_iconst (v := 1) hx hb zd_law_264 (by decide) ?_
  refine lv_iadd hx hb zd_law_265 ?_
  refine zq_sld hx hb hXs hbl hbA hS hi1 ha1 zd_law_266 ?_
  refine lv_aload_n hx hb zd_law_267 rfl (lv_at hl 0 rfl) ?_
  refine lv_iload hx hb zd_law_268 (lv_at hl 4 rfl) ?_
  refine lv_iconst (v := 2) hx hb zd_law_270 (by decide) ?_
  refine lv_iadd hx hb zd_law_271 ?_
  refine zq_sld hx hb hXs hbl hbA hS hi2 ha2 zd_law_272 ?_
  refine lv_aload_n hx hb zd_law_273 rfl (lv_at hl 0 rfl) ?_
  refine lv_iload hx hb zd_law_274 (lv_at hl 4 rfl) ?_
  refine lv_iconst (v := 3) hx hb zd_law_276 (by decide) ?_
  refine lv_iadd hx hb zd_law_277 ?_
  refine zq_sld hx hb hXs hbl hbA hS hi3 ha3 zd_law_278 ?_
  refine lv_if_eq (tgt := 286) hx hb zd_law_279 (by decide) (fun c_1 => ?_) (fun c_1 => ?_)
  · have h := zq_it c_1 h
    refine lv_iconst (v := 0) hx hb zd_law_286 (by decide) ?_
    refine lv_aload_n hx hb zd_law_287 rfl (lv_at hl 3 rfl) ?_
    refine zq_c_SW (rest := []) (adl := (zq_Al adc adm ao)) (wr := (zq_R_L_field kT adc adm ao u v fo)) ⟨hx, hb, hml, hown, ht⟩ (c_L_field l hst D kT adc ao u.ocn u.ofn u.ofr u.oto u.osg fo a1 a2 0 _ h) (zq_cwSW 5 ht (zq_gSW zw_790 zw_791 zw_772 zw_792) rfl rfl rfl zh_L_field ⟨Nat.le_of_ble_eq_true rfl, Nat.le_of_ble_eq_true rfl⟩) hE hX hN hP hD hS hA [0, 7, 9, 10, 11, 66] [1, 2, 3, 4, 5, 6, 8, 12, 13, 14, 15, 16, 17, 18, 19, 20, 21, 22, 23, 24, 25, 26, 27, 28, 29, 30, 31, 32, 33, 34, 35, 36, 37, 38, 39, 40, 41, 42, 43, 44, 45, 46, 47, 48, 49, 50, 51, 52, 53, 54, 55, 56, 57, 58, 59, 60, 61, 62, 63, 64, 65] 67 rfl (by decide +kernel) rfl (by decide +kernel) rfl rfl rfl hl.1 (Nat.le_of_ble_eq_true rfl) rfl zd_law_288 hf (fun r_1 w1 H locs hw hJ hS => ?_)
    obtain ⟨ofn_1, ofr_1, oto_1, osg_1, fo_1, rfl, h⟩ := hw
    obtain ⟨hP, hD⟩ := hJ (zq_Wl kT adc adm ao (zq_S_L_field u ofn_1 ofr_1 oto_1 osg_1) v fo_1) rfl rfl rfl
    refine lv_istore (lv' := [(5, .int r_1), (0, .ref b), (1, .ref (adc 0)), (2, .ref (adm 0)), (3, .ref ao), (4, .int x4)]) hx hb zd_law_291 hl (by decide) rfl (fun ls hl => ?_)
    refine lv_aload_n hx hb zd_law_293 rfl (lv_at hl 3 rfl) ?_
    refine lv_aload_n hx hb zd_law_294 rfl (lv_at hl 1 rfl) ?_
    refine lv_iload hx hb zd_law_295 (lv_at hl 5 rfl) ?_
    refine lv_iconst (v := 1) hx hb zd_law_297 (by decide) ?_
    refine lv_iadd hx hb zd_law_298 ?_
    refine zq_sld hx hb hXs hbl hbA hS hi1 ha1 zd_law_299 ?_
    refine lv_aload_n hx hb zd_law_300 rfl (lv_at hl 1 rfl) ?_
    refine lv_iload hx hb zd_law_301 (lv_at hl 5 rfl) ?_
    refine lv_iconst (v := 2) hx hb zd_law_303 (by decide) ?_
    refine lv_iadd hx hb zd_law_304 ?_
    refine zq_sld hx hb hXs hbl hbA hS hi2 ha2 zd_law_305 ?_
    refine lv_aload_n hx hb zd_law_306 rfl (lv_at hl 1 rfl) ?_
    refine lv_iload hx hb zd_law_307 (lv_at hl 5 rfl) ?_
    refine lv_iconst (v := 3) hx hb zd_law_309 (by decide) ?_
    refine lv_iadd hx hb zd_law_310 ?_
    refine zq_sld hx hb hXs hbl hbA hS hi3 ha3 zd_law_311 ?_
    refine lv_if_eq (tgt := 319) hx hb zd_law_312 (by decide) (fun c_2 => ?_) (fun c_2 => ?_)
    · refine lv_iconst (v := 0) hx hb zd_law_319 (by decide) ?_
      refine zq_c_Vi (rest := []) (adl := (zq_Al adc adm ao)) (wr := (zq_R_M_field kT adc adm ao (zq_S_L_field u ofn_1 ofr_1 oto_1 osg_1) v fo_1)) ⟨hx, hb, hml, hown, ht⟩ (c_M_field l D kT adm v.gthr v.greg v.gcon v.gfld v.gtrn v.gins v.glev v.gkep v.glvs v.gkps v.gwrd v.gsta v.gflt v.gend v.ghal v.gwro v.gwai v.gwpl v.gwrs v.ghlt v.glat v.glpl v.afrm v.atoo v.asgn a1 a2 0 _ h) (cwV 3 ht (zq_gV zw_793 zw_794 zw_795 zw_393 zw_796) rfl rfl rfl zh_M_field ⟨Nat.le_of_ble_eq_true rfl, Nat.le_of_ble_eq_true rfl⟩) hE hP hD hS hA [35, 46, 47, 48] [0, 1, 2, 3, 4, 5, 6, 7, 8, 9, 10, 11, 12, 13, 14, 15, 16, 17, 18, 19, 20, 21, 22, 23, 24, 25, 26, 27, 28, 29, 30, 31, 32, 33, 34, 36, 37, 38, 39, 40, 41, 42, 43, 44, 45, 49, 50, 51, 52, 53, 54, 55, 56, 57, 58, 59, 60, 61, 62, 63, 64, 65, 66] 67 rfl (by decide +kernel) rfl (by decide +kernel) rfl rfl 0 rfl rfl rfl rfl hl.1 (Nat.le_of_ble_eq_true rfl) rfl zd_law_320 hf (fun r_2 w1 H locs hw hJ hS => ?_)
      obtain ⟨gthr_2, gfld_2, afrm_2, atoo_2, asgn_2, rfl, h⟩ := hw
      obtain ⟨hP, hD⟩ := hJ (zq_Wl kT adc adm ao (zq_S_L_field u ofn_1 ofr_1 oto_1 osg_1) (zq_S_M_field v gthr_2 gfld_2 afrm_2 atoo_2 asgn_2) fo_1) rfl rfl rfl
      refine lv_istore (lv' := [(6, .int r_2), (5, .int r_1), (0, .ref b), (1, .ref (adc 0)), (2, .ref (adm 0)), (3, .ref ao), (4, .int x4)]) hx hb zd_law_323 hl (by decide) rfl (fun ls hl => ?_)
      refine lv_aload_n hx hb zd_law_325 rfl (lv_at hl 4 rfl) ?_
      refine zq_c_Vi (rest := []) (adl := (zq_Al adc adm ao)) (wr := (zq_R_M_thrown kT adc adm ao (zq_S_L_field u ofn_1 ofr_1 oto_1 osg_1) (zq_S_M_field v gthr_2 gfld_2 afrm_2 atoo_2 asgn_2) fo_1)) ⟨hx, hb, hml, hown, ht⟩ (c_M_thrown l D kT adm (zq_S_M_field v gthr_2 gfld_2 afrm_2 atoo_2 asgn_2).gthr (zq_S_M_field v gthr_2 gfld_2 afrm_2 atoo_2 asgn_2).greg (zq_S_M_field v gthr_2 gfld_2 afrm_2 atoo_2 asgn_2).gcon (zq_S_M_field v gthr_2 gfld_2 afrm_2 atoo_2 asgn_2).gfld (zq_S_M_field v gthr_2 gfld_2 afrm_2 atoo_2 asgn_2).gtrn (zq_S_M_field v gthr_2 gfld_2 afrm_2 atoo_2 asgn_2).gins (zq_S_M_field v gthr_2 gfld_2 afrm_2 atoo_2 asgn_2).glev (zq_S_M_field v gthr_2 gfld_2 afrm_2 atoo_2 asgn_2).gkep (zq_S_M_field v gthr_2 gfld_2 afrm_2 atoo_2 asgn_2).glvs (zq_S_M_field v gthr_2 gfld_2 afrm_2 atoo_2 asgn_2).gkps (zq_S_M_field v gthr_2 gfld_2 afrm_2 atoo_2 asgn_2).gwrd (zq_S_M_field v gthr_2 gfld_2 afrm_2 atoo_2 asgn_2).gsta (zq_S_M_field v gthr_2 gfld_2 afrm_2 atoo_2 asgn_2).gflt (zq_S_M_field v gthr_2 gfld_2 afrm_2 atoo_2 asgn_2).gend (zq_S_M_field v gthr_2 gfld_2 afrm_2 atoo_2 asgn_2).ghal (zq_S_M_field v gthr_2 gfld_2 afrm_2 atoo_2 asgn_2).gwro (zq_S_M_field v gthr_2 gfld_2 afrm_2 atoo_2 asgn_2).gwai (zq_S_M_field v gthr_2 gfld_2 afrm_2 atoo_2 asgn_2).gwpl (zq_S_M_field v gthr_2 gfld_2 afrm_2 atoo_2 asgn_2).gwrs (zq_S_M_field v gthr_2 gfld_2 afrm_2 atoo_2 asgn_2).ghlt (zq_S_M_field v gthr_2 gfld_2 afrm_2 atoo_2 asgn_2).glat (zq_S_M_field v gthr_2 gfld_2 afrm_2 atoo_2 asgn_2).glpl  _ h) (cwV 0 ht (zq_gV zw_778 zw_779 zw_780 zw_393 zw_781) rfl rfl rfl zh_M_thrown ⟨Nat.le_of_ble_eq_true rfl, Nat.le_of_ble_eq_true rfl⟩) hE hP hD hS hA [35] [0, 1, 2, 3, 4, 5, 6, 7, 8, 9, 10, 11, 12, 13, 14, 15, 16, 17, 18, 19, 20, 21, 22, 23, 24, 25, 26, 27, 28, 29, 30, 31, 32, 33, 34, 36, 37, 38, 39, 40, 41, 42, 43, 44, 45, 46, 47, 48, 49, 50, 51, 52, 53, 54, 55, 56, 57, 58, 59, 60, 61, 62, 63, 64, 65, 66] 67 rfl (by decide +kernel) rfl (by decide +kernel) rfl rfl 0 rfl rfl rfl rfl hl.1 (Nat.le_of_ble_eq_true rfl) rfl zd_law_326 hf (fun r_3 w1 H locs hw hJ hS => ?_)
      obtain ⟨rfl, h⟩ := hw
      obtain ⟨hP, hD⟩ := hJ (zq_Wl kT adc adm ao (zq_S_L_field u ofn_1 ofr_1 oto_1 osg_1) (zq_S_M_field v gthr_2 gfld_2 afrm_2 atoo_2 asgn_2) fo_1) rfl rfl rfl
      refine lv_iload hx hb zd_law_329 (lv_at hl 1 rfl) ?_
      refine lv_icmp_eq (tgt := 336) hx hb zd_law_331 (by decide) (fun c_3 => ?_) (fun c_3 => ?_)
      · refine lv_iload hx hb zd_law_336 (lv_at hl 1 rfl) ?_
        refine lv_if_ne (tgt := 353) hx hb zd_law_338 (by decide) (fun c_4 => ?_) (fun c_4 => ?_)
        · refine lv_goto (tgt := 1209) hx hb zd_law_353 (by decide) ?_
          exact kk (zq_S_L_field u ofn_1 ofr_1 oto_1 osg_1) (zq_S_M_field v gthr_2 gfld_2 afrm_2 atoo_2 asgn_2) fo_1 H locs ls h.2.2 hP hD hS (lv_sub hl [2, 3, 4, 5, 6] rfl)
        · refine lv_aload_n hx hb zd_law_341 rfl (lv_at hl 5 rfl) ?_
          refine lv_iconst (v := 0) hx hb zd_law_342 (by decide) ?_
          refine zq_a_lald hx hb hK hP 66 1 rfl rfl (zq_in (by decide)) (j := 0) (by decide) zd_law_343 ?_
          refine lv_iload hx hb zd_law_344 (lv_at hl 0 rfl) ?_
          refine lv_i2l (v := (zq_j_i2l r_2)) hx hb zd_law_346 rfl ?_
          refine W.lcmp hx hb zd_law_347 ?_
          refine lv_if_eq (tgt := 353) hx hb zd_law_348 (by decide) (fun c_5 => ?_) (fun c_5 => ?_)
          · refine lv_goto (tgt := 1209) hx hb zd_law_353 (by decide) ?_
            exact kk (zq_S_L_field u ofn_1 ofr_1 oto_1 osg_1) (zq_S_M_field v gthr_2 gfld_2 afrm_2 atoo_2 asgn_2) fo_1 H locs ls h.2.2 hP hD hS (lv_sub hl [2, 3, 4, 5, 6] rfl)
          · exact absurd (zq_lc_eq.mpr (h.2.1 c_4)) c_5
      · exact absurd h.1 c_3
    · exact absurd c_1 c_2
  · have h := zq_if c_1 h
    refine lv_iconst (v := 1) hx hb zd_law_282 (by decide) ?_
    refine lv_goto (tgt := 287) hx hb zd_law_283 (by decide) ?_
    refine lv_aload_n hx hb zd_law_287 rfl (lv_at hl 3 rfl) ?_
    refine zq_c_SW (rest := []) (adl := (zq_Al adc adm ao)) (wr := (zq_R_L_field kT adc adm ao u v fo)) ⟨hx, hb, hml, hown, ht⟩ (c_L_field l hst D kT adc ao u.ocn u.ofn u.ofr u.oto u.osg fo a1 a2 1 _ h) (zq_cwSW 5 ht (zq_gSW zw_790 zw_791 zw_772 zw_792) rfl rfl rfl zh_L_field ⟨Nat.le_of_ble_eq_true rfl, Nat.le_of_ble_eq_true rfl⟩) hE hX hN hP hD hS hA [0, 7, 9, 10, 11, 66] [1, 2, 3, 4, 5, 6, 8, 12, 13, 14, 15, 16, 17, 18, 19, 20, 21, 22, 23, 24, 25, 26, 27, 28, 29, 30, 31, 32, 33, 34, 35, 36, 37, 38, 39, 40, 41, 42, 43, 44, 45, 46, 47, 48, 49, 50, 51, 52, 53, 54, 55, 56, 57, 58, 59, 60, 61, 62, 63, 64, 65] 67 rfl (by decide +kernel) rfl (by decide +kernel) rfl rfl rfl hl.1 (Nat.le_of_ble_eq_true rfl) rfl zd_law_288 hf (fun r_1 w1 H locs hw hJ hS => ?_)
    obtain ⟨ofn_1, ofr_1, oto_1, osg_1, fo_1, rfl, h⟩ := hw
    obtain ⟨hP, hD⟩ := hJ (zq_Wl kT adc adm ao (zq_S_L_field u ofn_1 ofr_1 oto_1 osg_1) v fo_1) rfl rfl rfl
    refine lv_istore (lv' := [(5, .int r_1), (0, .ref b), (1, .ref (adc 0)), (2, .ref (adm 0)), (3, .ref ao), (4, .int x4)]) hx hb zd_law_291 hl (by decide) rfl (fun ls hl => ?_)
    refine lv_aload_n hx hb zd_law_293 rfl (lv_at hl 3 rfl) ?_
    refine lv_aload_n hx hb zd_law_294 rfl (lv_at hl 1 rfl) ?_
    refine lv_iload hx hb zd_law_295 (lv_at hl 5 rfl) ?_
    refine lv_iconst (v := 1) hx hb zd_law_297 (by decide) ?_
    refine lv_iadd hx hb zd_law_298 ?_
    refine zq_sld hx hb hXs hbl hbA hS hi1 ha1 zd_law_299 ?_
    refine lv_aload_n hx hb zd_law_300 rfl (lv_at hl 1 rfl) ?_
    refine lv_iload hx hb zd_law_301 (lv_at hl 5 rfl) ?_
    refine lv_iconst (v := 2) hx hb zd_law_303 (by decide) ?_
    refine lv_iadd hx hb zd_law_304 ?_
    refine zq_sld hx hb hXs hbl hbA hS hi2 ha2 zd_law_305 ?_
    refine lv_aload_n hx hb zd_law_306 rfl (lv_at hl 1 rfl) ?_
    refine lv_iload hx hb zd_law_307 (lv_at hl 5 rfl) ?_
    refine lv_iconst (v := 3) hx hb zd_law_309 (by decide) ?_
    refine lv_iadd hx hb zd_law_310 ?_
    refine zq_sld hx hb hXs hbl hbA hS hi3 ha3 zd_law_311 ?_
    refine lv_if_eq (tgt := 319) hx hb zd_law_312 (by decide) (fun c_6 => ?_) (fun c_6 => ?_)
    · exact absurd c_6 c_1
    · refine lv_iconst (v := 1) hx hb zd_law_315 (by decide) ?_
      refine lv_goto (tgt := 320) hx hb zd_law_316 (by decide) ?_
      refine zq_c_Vi (rest := []) (adl := (zq_Al adc adm ao)) (wr := (zq_R_M_field kT adc adm ao (zq_S_L_field u ofn_1 ofr_1 oto_1 osg_1) v fo_1)) ⟨hx, hb, hml, hown, ht⟩ (c_M_field l D kT adm v.gthr v.greg v.gcon v.gfld v.gtrn v.gins v.glev v.gkep v.glvs v.gkps v.gwrd v.gsta v.gflt v.gend v.ghal v.gwro v.gwai v.gwpl v.gwrs v.ghlt v.glat v.glpl v.afrm v.atoo v.asgn a1 a2 1 _ h) (cwV 3 ht (zq_gV zw_793 zw_794 zw_795 zw_393 zw_796) rfl rfl rfl zh_M_field ⟨Nat.le_of_ble_eq_true rfl, Nat.le_of_ble_eq_true rfl⟩) hE hP hD hS hA [35, 46, 47, 48] [0, 1, 2, 3, 4, 5, 6, 7, 8, 9, 10, 11, 12, 13, 14, 15, 16, 17, 18, 19, 20, 21, 22, 23, 24, 25, 26, 27, 28, 29, 30, 31, 32, 33, 34, 36, 37, 38, 39, 40, 41, 42, 43, 44, 45, 49, 50, 51, 52, 53, 54, 55, 56, 57, 58, 59, 60, 61, 62, 63, 64, 65, 66] 67 rfl (by decide +kernel) rfl (by decide +kernel) rfl rfl 0 rfl rfl rfl rfl hl.1 (Nat.le_of_ble_eq_true rfl) rfl zd_law_320 hf (fun r_2 w1 H locs hw hJ hS => ?_)
      obtain ⟨gthr_2, gfld_2, afrm_2, atoo_2, asgn_2, rfl, h⟩ := hw
      obtain ⟨hP, hD⟩ := hJ (zq_Wl kT adc adm ao (zq_S_L_field u ofn_1 ofr_1 oto_1 osg_1) (zq_S_M_field v gthr_2 gfld_2 afrm_2 atoo_2 asgn_2) fo_1) rfl rfl rfl
      refine lv_istore (lv' := [(6, .int r_2), (5, .int r_1), (0, .ref b), (1, .ref (adc 0)), (2, .ref (adm 0)), (3, .ref ao), (4, .int x4)]) hx hb zd_law_323 hl (by decide) rfl (fun ls hl => ?_)
      refine lv_aload_n hx hb zd_law_325 rfl (lv_at hl 4 rfl) ?_
      refine zq_c_Vi (rest := []) (adl := (zq_Al adc adm ao)) (wr := (zq_R_M_thrown kT adc adm ao (zq_S_L_field u ofn_1 ofr_1 oto_1 osg_1) (zq_S_M_field v gthr_2 gfld_2 afrm_2 atoo_2 asgn_2) fo_1)) ⟨hx, hb, hml, hown, ht⟩ (c_M_thrown l D kT adm (zq_S_M_field v gthr_2 gfld_2 afrm_2 atoo_2 asgn_2).gthr (zq_S_M_field v gthr_2 gfld_2 afrm_2 atoo_2 asgn_2).greg (zq_S_M_field v gthr_2 gfld_2 afrm_2 atoo_2 asgn_2).gcon (zq_S_M_field v gthr_2 gfld_2 afrm_2 atoo_2 asgn_2).gfld (zq_S_M_field v gthr_2 gfld_2 afrm_2 atoo_2 asgn_2).gtrn (zq_S_M_field v gthr_2 gfld_2 afrm_2 atoo_2 asgn_2).gins (zq_S_M_field v gthr_2 gfld_2 afrm_2 atoo_2 asgn_2).glev (zq_S_M_field v gthr_2 gfld_2 afrm_2 atoo_2 asgn_2).gkep (zq_S_M_field v gthr_2 gfld_2 afrm_2 atoo_2 asgn_2).glvs (zq_S_M_field v gthr_2 gfld_2 afrm_2 atoo_2 asgn_2).gkps (zq_S_M_field v gthr_2 gfld_2 afrm_2 atoo_2 asgn_2).gwrd (zq_S_M_field v gthr_2 gfld_2 afrm_2 atoo_2 asgn_2).gsta (zq_S_M_field v gthr_2 gfld_2 afrm_2 atoo_2 asgn_2).gflt (zq_S_M_field v gthr_2 gfld_2 afrm_2 atoo_2 asgn_2).gend (zq_S_M_field v gthr_2 gfld_2 afrm_2 atoo_2 asgn_2).ghal (zq_S_M_field v gthr_2 gfld_2 afrm_2 atoo_2 asgn_2).gwro (zq_S_M_field v gthr_2 gfld_2 afrm_2 atoo_2 asgn_2).gwai (zq_S_M_field v gthr_2 gfld_2 afrm_2 atoo_2 asgn_2).gwpl (zq_S_M_field v gthr_2 gfld_2 afrm_2 atoo_2 asgn_2).gwrs (zq_S_M_field v gthr_2 gfld_2 afrm_2 atoo_2 asgn_2).ghlt (zq_S_M_field v gthr_2 gfld_2 afrm_2 atoo_2 asgn_2).glat (zq_S_M_field v gthr_2 gfld_2 afrm_2 atoo_2 asgn_2).glpl  _ h) (cwV 0 ht (zq_gV zw_778 zw_779 zw_780 zw_393 zw_781) rfl rfl rfl zh_M_thrown ⟨Nat.le_of_ble_eq_true rfl, Nat.le_of_ble_eq_true rfl⟩) hE hP hD hS hA [35] [0, 1, 2, 3, 4, 5, 6, 7, 8, 9, 10, 11, 12, 13, 14, 15, 16, 17, 18, 19, 20, 21, 22, 23, 24, 25, 26, 27, 28, 29, 30, 31, 32, 33, 34, 36, 37, 38, 39, 40, 41, 42, 43, 44, 45, 46, 47, 48, 49, 50, 51, 52, 53, 54, 55, 56, 57, 58, 59, 60, 61, 62, 63, 64, 65, 66] 67 rfl (by decide +kernel) rfl (by decide +kernel) rfl rfl 0 rfl rfl rfl rfl hl.1 (Nat.le_of_ble_eq_true rfl) rfl zd_law_326 hf (fun r_3 w1 H locs hw hJ hS => ?_)
      obtain ⟨rfl, h⟩ := hw
      obtain ⟨hP, hD⟩ := hJ (zq_Wl kT adc adm ao (zq_S_L_field u ofn_1 ofr_1 oto_1 osg_1) (zq_S_M_field v gthr_2 gfld_2 afrm_2 atoo_2 asgn_2) fo_1) rfl rfl rfl
      refine lv_iload hx hb zd_law_329 (lv_at hl 1 rfl) ?_
      refine lv_icmp_eq (tgt := 336) hx hb zd_law_331 (by decide) (fun c_7 => ?_) (fun c_7 => ?_)
      · refine lv_iload hx hb zd_law_336 (lv_at hl 1 rfl) ?_
        refine lv_if_ne (tgt := 353) hx hb zd_law_338 (by decide) (fun c_8 => ?_) (fun c_8 => ?_)
        · refine lv_goto (tgt := 1209) hx hb zd_law_353 (by decide) ?_
          exact kk (zq_S_L_field u ofn_1 ofr_1 oto_1 osg_1) (zq_S_M_field v gthr_2 gfld_2 afrm_2 atoo_2 asgn_2) fo_1 H locs ls h.2.2 hP hD hS (lv_sub hl [2, 3, 4, 5, 6] rfl)
        · refine lv_aload_n hx hb zd_law_341 rfl (lv_at hl 5 rfl) ?_
          refine lv_iconst (v := 0) hx hb zd_law_342 (by decide) ?_
          refine zq_a_lald hx hb hK hP 66 1 rfl rfl (zq_in (by decide)) (j := 0) (by decide) zd_law_343 ?_
          refine lv_iload hx hb zd_law_344 (lv_at hl 0 rfl) ?_
          refine lv_i2l (v := (zq_j_i2l r_2)) hx hb zd_law_346 rfl ?_
          refine W.lcmp hx hb zd_law_347 ?_
          refine lv_if_eq (tgt := 353) hx hb zd_law_348 (by decide) (fun c_9 => ?_) (fun c_9 => ?_)
          · refine lv_goto (tgt := 1209) hx hb zd_law_353 (by decide) ?_
            exact kk (zq_S_L_field u ofn_1 ofr_1 oto_1 osg_1) (zq_S_M_field v gthr_2 gfld_2 afrm_2 atoo_2 asgn_2) fo_1 H locs ls h.2.2 hP hD hS (lv_sub hl [2, 3, 4, 5, 6] rfl)
          · exact absurd (zq_lc_eq.mpr (h.2.1 c_8)) c_9
      · exact absurd h.1 c_7
def zq_t3 (u : zq_C) (v : zq_M) (fo : Nat → Int64) (a1 : Int32) (a2 : Int32) (a3 : Int32) (a4 : Int32) (post : zq_C → zq_M → Prop) : Prop := wp_L_transfer u.rn u.ocn u.ofn u.ptn u.pin u.po u.pa u.pb u.pt fo a1 a2 a3 a4 (fun r_1 fo_1 ptn_1 po_1 pa_1 pb_1 pt_1 => wp_M_transfer v.gthr v.greg v.gcon v.gfld v.gtrn v.gins v.glev v.gkep v.glvs v.gkps v.gwrd v.gsta v.gflt v.gend v.ghal v.gwro v.gwai v.gwpl v.gwrs v.ghlt v.glat v.glpl v.aopp v.afst v.asnd v.atgt a1 a2 a3 a4 (fun r_2 gthr_2 gtrn_2 aopp_2 afst_2 asnd_2 atgt_2 => wp_M_thrown (zq_S_M_transfer v gthr_2 gtrn_2 aopp_2 afst_2 asnd_2 atgt_2).gthr (zq_S_M_transfer v gthr_2 gtrn_2 aopp_2 afst_2 asnd_2 atgt_2).greg (zq_S_M_transfer v gthr_2 gtrn_2 aopp_2 afst_2 asnd_2 atgt_2).gcon (zq_S_M_transfer v gthr_2 gtrn_2 aopp_2 afst_2 asnd_2 atgt_2).gfld (zq_S_M_transfer v gthr_2 gtrn_2 aopp_2 afst_2 asnd_2 atgt_2).gtrn (zq_S_M_transfer v gthr_2 gtrn_2 aopp_2 afst_2 asnd_2 atgt_2).gins (zq_S_M_transfer v gthr_2 gtrn_2 aopp_2 afst_2 asnd_2 atgt_2).glev (zq_S_M_transfer v gthr_2 gtrn_2 aopp_2 afst_2 asnd_2 atgt_2).gkep (zq_S_M_transfer v gthr_2 gtrn_2 aopp_2 afst_2 asnd_2 atgt_2).glvs (zq_S_M_transfer v gthr_2 gtrn_2 aopp_2 afst_2 asnd_2 atgt_2).gkps (zq_S_M_transfer v gthr_2 gtrn_2 aopp_2 afst_2 asnd_2 atgt_2).gwrd (zq_S_M_transfer v gthr_2 gtrn_2 aopp_2 afst_2 asnd_2 atgt_2).gsta (zq_S_M_transfer v gthr_2 gtrn_2 aopp_2 afst_2 asnd_2 atgt_2).gflt (zq_S_M_transfer v gthr_2 gtrn_2 aopp_2 afst_2 asnd_2 atgt_2).gend (zq_S_M_transfer v gthr_2 gtrn_2 aopp_2 afst_2 asnd_2 atgt_2).ghal (zq_S_M_transfer v gthr_2 gtrn_2 aopp_2 afst_2 asnd_2 atgt_2).gwro (zq_S_M_transfer v gthr_2 gtrn_2 aopp_2 afst_2 asnd_2 atgt_2).gwai (zq_S_M_transfer v gthr_2 gtrn_2 aopp_2 afst_2 asnd_2 atgt_2).gwpl (zq_S_M_transfer v gthr_2 gtrn_2 aopp_2 afst_2 asnd_2 atgt_2).gwrs (zq_S_M_transfer v gthr_2 gtrn_2 aopp_2 afst_2 asnd_2 atgt_2).ghlt (zq_S_M_transfer v gthr_2 gtrn_2 aopp_2 afst_2 asnd_2 atgt_2).glat (zq_S_M_transfer v gthr_2 gtrn_2 aopp_2 afst_2 asnd_2 atgt_2).glpl  (fun r_3  => r_3 = r_1 ∧ (r_1 = 0 → fo_1 0 = zq_j_i2l r_2) ∧ post (zq_S_L_transfer u ptn_1 po_1 pa_1 pb_1 pt_1) (zq_S_M_transfer v gthr_2 gtrn_2 aopp_2 afst_2 asnd_2 atgt_2))))
set_option maxHeartbeats 4000000 in
set_option maxRecDepth 100000 in
theorem zq_arm3 {p : Program} {l : Launch} {e : Env} {s : State} {m : MethodId} {below : List Frame} {meth : Method} {c : Code} {D : va_G} {kT : Nat → ClassId} {b L : Nat} {xs : Nat → Int32} {adc adm : Nat → Nat} {ao : Nat} {H : Heap} {locs : List Loc} {cells slots : Nat} {Q : State → Prop} (X : zq_lx p l s m c D kT b L xs) (u : zq_C) (v : zq_M) (fo : Nat → Int64) {a1 : Int32} {a2 : Int32} {a3 : Int32} {a4 : Int32} (post : zq_C → zq_M → Prop) {x4 : Int32} (hi1 : vp_in (x4 + 1) L) (ha1 : xs (x4 + 1).toNatClampNeg = a1) (hi2 : vp_in (x4 + 2) L) (ha2 : xs (x4 + 2).toNatClampNeg = a2) (hi3 : vp_in (x4 + 3) L) (ha3 : xs (x4 + 3).toNatClampNeg = a3) (hi4 : vp_in (x4 + 4) L) (ha4 : xs (x4 + 4).toNatClampNeg = a4) (h : zq_t3 u v fo a1 a2 a3 a4 post) (hf : cells + 1 ≤ room_1.cells ∧ slots + 6 ≤ room_1.slots) (hP : va_P D vwCl (zq_Wl kT adc adm ao u v fo) H) (hD : va_D (zq_lA s) (zq_Wl kT adc adm ao u v fo)) (hS : va_S (zq_lA s) s.heap H locs) {ls : Array Slot} (hl : lv_has ls 8 [(0, .ref b), (1, .ref (adc 0)), (2, .ref (adm 0)), (3, .ref ao), (4, .int x4)])
    (kk : ∀ (u : zq_C) (v : zq_M) (fo : Nat → Int64) (H : Heap) (locs : List Loc) (ls : Array Slot), post u v → va_P D vwCl (zq_Wl kT adc adm ao u v fo) H → va_D (zq_lA s) (zq_Wl kT adc adm ao u v fo) → va_S (zq_lA s) s.heap H locs → lv_has ls 8 [(0, .ref b), (1, .ref (adc 0)), (2, .ref (adm 0)), (3, .ref ao), (4, .int x4)] → W p l e room_1 s m #[Value.ref b] below meth c H locs (cells + 1) (slots + 6) Q (F0 m 1209 ls [])) :
    W p l e room_1 s m #[Value.ref b] below meth c H locs cells slots Q (F0 m 356 ls []) := by
  obtain ⟨hst, hx, hb, hml, hown, ht, hE, hX, hN, hXs, hbl⟩ := X
  have hK := hE.1
  have hA : ∀ q : Nat, s.heap.size ≤ q → zq_lA s q := fun _ h => h
  have hbA : ¬ zq_lA s b := Nat.not_le.mpr hbl
  unfold zq_t3 at h
  refine lv_aload_n hx hb zd_law_356 rfl (lv_at hl 1 rfl) ?_
  refine lv_aload_n hx hb zd_law_357 rfl (lv_at hl 0 rfl) ?_
  refine lv_iload hx hb zd_law_358 (lv_at hl 4 rfl) ?_
  refine lv_iconst (v := 1) hx hb zd_law_360 (by decide) ?_
  refine lv_iadd hx hb zd_law_361 ?_
  refine zq_sld hx hb hXs hbl hbA hS hi1 ha1 zd_law_362 ?_
  refine lv_aload_n hx hb zd_law_363 rfl (lv_at hl 0 rfl) ?_
  refine lv_iload hx hb zd_law_364 (lv_at hl 4 rfl) ?_
  refine lv_iconst (v := 2) hx hb zd_law_366 (by decide) ?_
  refine lv_iadd hx hb zd_law_367 ?_
  refine zq_sld hx hb hXs hbl hbA hS hi2 ha2 zd_law_368 ?_
  refine lv_aload_n hx hb zd_law_369 rfl (lv_at hl 0 rfl) ?_
  refine lv_iload hx hb zd_law_370 (lv_at hl 4 rfl) ?_
  refine lv_iconst (v := 3) hx hb zd_law_372 (by decide) ?_
  refine lv_iadd hx hb zd_law_373 ?_
  refine zq_sld hx hb hXs hbl hbA hS hi3 ha3 zd_law_374 ?_
  refine lv_aload_n hx hb zd_law_375 rfl (lv_at hl 0 rfl) ?_
  refine lv_iload hx hb zd_law_376 (lv_at hl 4 rfl) ?_
  refine lv_iconst (v := 4) hx hb zd_law_378 (by decide) ?_
  refine lv_iadd hx hb zd_law_379 ?_
  refine zq_sld hx hb hXs hbl hbA hS hi4 ha4 zd_law_380 ?_
  refine lv_aload_n hx hb zd_law_381 rfl (lv_at hl 3 rfl) ?_
  refine zq_c_SW (rest := []) (adl := (zq_Al adc adm ao)) (wr := (zq_R_L_transfer kT adc adm ao u v fo)) ⟨hx, hb, hml, hown, ht⟩ (c_L_transfer l hst D kT adc ao u.rn u.ocn u.ofn u.ptn u.pin u.po u.pa u.pb u.pt fo a1 a2 a3 a4 _ h) (zq_cwSW 6 ht (zq_gSW zw_797 zw_798 zw_772 zw_799) rfl rfl rfl zh_L_transfer ⟨Nat.le_of_ble_eq_true rfl, Nat.le_of_ble_eq_true rfl⟩) hE hX hN hP hD hS hA [0, 1, 7, 12, 13, 14, 15, 16, 66] [2, 3, 4, 5, 6, 8, 9, 10, 11, 17, 18, 19, 20, 21, 22, 23, 24, 25, 26, 27, 28, 29, 30, 31, 32, 33, 34, 35, 36, 37, 38, 39, 40, 41, 42, 43, 44, 45, 46, 47, 48, 49, 50, 51, 52, 53, 54, 55, 56, 57, 58, 59, 60, 61, 62, 63, 64, 65] 67 rfl (by decide +kernel) rfl (by decide +kernel) rfl rfl rfl hl.1 (Nat.le_of_ble_eq_true rfl) rfl zd_law_382 hf (fun r_1 w1 H locs hw hJ hS => ?_)
  obtain ⟨ptn_1, po_1, pa_1, pb_1, pt_1, fo_1, rfl, h⟩ := hw
  obtain ⟨hP, hD⟩ := hJ (zq_Wl kT adc adm ao (zq_S_L_transfer u ptn_1 po_1 pa_1 pb_1 pt_1) v fo_1) rfl rfl rfl
  refine lv_istore (lv' := [(5, .int r_1), (0, .ref b), (1, .ref (adc 0)), (2, .ref (adm 0)), (3, .ref ao), (4, .int x4)]) hx hb zd_law_385 hl (by decide) rfl (fun ls hl => ?_)
  refine lv_aload_n hx hb zd_law_387 rfl (lv_at hl 3 rfl) ?_
  refine lv_aload_n hx hb zd_law_388 rfl (lv_at hl 1 rfl) ?_
  refine lv_iload hx hb zd_law_389 (lv_at hl 5 rfl) ?_
  refine lv_iconst (v := 1) hx hb zd_law_391 (by decide) ?_
  refine lv_iadd hx hb zd_law_392 ?_
  refine zq_sld hx hb hXs hbl hbA hS hi1 ha1 zd_law_393 ?_
  refine lv_aload_n hx hb zd_law_394 rfl (lv_at hl 1 rfl) ?_
  refine lv_iload hx hb zd_law_395 (lv_at hl 5 rfl) ?_
  refine lv_iconst (v := 2) hx hb zd_law_397 (by decide) ?_
  refine lv_iadd hx hb zd_law_398 ?_
  refine zq_sld hx hb hXs hbl hbA hS hi2 ha2 zd_law_399 ?_
  refine lv_aload_n hx hb zd_law_400 rfl (lv_at hl 1 rfl) ?_
  refine lv_iload hx hb zd_law_401 (lv_at hl 5 rfl) ?_
  refine lv_iconst (v := 3) hx hb zd_law_403 (by decide) ?_
  refine lv_iadd hx hb zd_law_404 ?_
  refine zq_sld hx hb hXs hbl hbA hS hi3 ha3 zd_law_405 ?_
  refine lv_aload_n hx hb zd_law_406 rfl (lv_at hl 1 rfl) ?_
  refine lv_iload hx hb zd_law_407 (lv_at hl 5 rfl) ?_
  refine lv_iconst (v := 4) hx hb zd_law_409 (by decide) ?_
  refine lv_iadd hx hb zd_law_410 ?_
  refine zq_sld hx hb hXs hbl hbA hS hi4 ha4 zd_law_411 ?_
  refine zq_c_Vi (rest := []) (adl := (zq_Al adc adm ao)) (wr := (zq_R_M_transfer kT adc adm ao (zq_S_L_transfer u ptn_1 po_1 pa_1 pb_1 pt_1) v fo_1)) ⟨hx, hb, hml, hown, ht⟩ (c_M_transfer l D kT adm v.gthr v.greg v.gcon v.gfld v.gtrn v.gins v.glev v.gkep v.glvs v.gkps v.gwrd v.gsta v.gflt v.gend v.ghal v.gwro v.gwai v.gwpl v.gwrs v.ghlt v.glat v.glpl v.aopp v.afst v.asnd v.atgt a1 a2 a3 a4 _ h) (cwV 4 ht (zq_gV zw_800 zw_801 zw_802 zw_393 zw_803) rfl rfl rfl zh_M_transfer ⟨Nat.le_of_ble_eq_true rfl, Nat.le_of_ble_eq_true rfl⟩) hE hP hD hS hA [35, 49, 50, 51, 52] [0, 1, 2, 3, 4, 5, 6, 7, 8, 9, 10, 11, 12, 13, 14, 15, 16, 17, 18, 19, 20, 21, 22, 23, 24, 25, 26, 27, 28, 29, 30, 31, 32, 33, 34, 36, 37, 38, 39, 40, 41, 42, 43, 44, 45, 46, 47, 48, 53, 54, 55, 56, 57, 58, 59, 60, 61, 62, 63, 64, 65, 66] 67 rfl (by decide +kernel) rfl (by decide +kernel) rfl rfl 0 rfl rfl rfl rfl hl.1 (Nat.le_of_ble_eq_true rfl) rfl zd_law_412 hf (fun r_2 w1 H locs hw hJ hS => ?_)
  obtain ⟨gthr_2, gtrn_2, aopp_2, afst_2, asnd_2, atgt_2, rfl, h⟩ := hw
  obtain ⟨hP, hD⟩ := hJ (zq_Wl kT adc adm ao (zq_S_L_transfer u ptn_1 po_1 pa_1 pb_1 pt_1) (zq_S_M_transfer v gthr_2 gtrn_2 aopp_2 afst_2 asnd_2 atgt_2) fo_1) rfl rfl rfl
  refine lv_istore (lv' := [(6, .int r_2), (5, .int r_1), (0, .ref b), (1, .ref (adc 0)), (2, .ref (adm 0)), (3, .ref ao), (4, .int x4)]) hx hb zd_law_415 hl (by decide) rfl (fun ls hl => ?_)
  refine lv_aload_n hx hb zd_law_417 rfl (lv_at hl 4 rfl) ?_
  refine zq_c_Vi (rest := []) (adl := (zq_Al adc adm ao)) (wr := (zq_R_M_thrown kT adc adm ao (zq_S_L_transfer u ptn_1 po_1 pa_1 pb_1 pt_1) (zq_S_M_transfer v gthr_2 gtrn_2 aopp_2 afst_2 asnd_2 atgt_2) fo_1)) ⟨hx, hb, hml, hown, ht⟩ (c_M_thrown l D kT adm (zq_S_M_transfer v gthr_2 gtrn_2 aopp_2 afst_2 asnd_2 atgt_2).gthr (zq_S_M_transfer v gthr_2 gtrn_2 aopp_2 afst_2 asnd_2 atgt_2).greg (zq_S_M_transfer v gthr_2 gtrn_2 aopp_2 afst_2 asnd_2 atgt_2).gcon (zq_S_M_transfer v gthr_2 gtrn_2 aopp_2 afst_2 asnd_2 atgt_2).gfld (zq_S_M_transfer v gthr_2 gtrn_2 aopp_2 afst_2 asnd_2 atgt_2).gtrn (zq_S_M_transfer v gthr_2 gtrn_2 aopp_2 afst_2 asnd_2 atgt_2).gins (zq_S_M_transfer v gthr_2 gtrn_2 aopp_2 afst_2 asnd_2 atgt_2).glev (zq_S_M_transfer v gthr_2 gtrn_2 aopp_2 afst_2 asnd_2 atgt_2).gkep (zq_S_M_transfer v gthr_2 gtrn_2 aopp_2 afst_2 asnd_2 atgt_2).glvs (zq_S_M_transfer v gthr_2 gtrn_2 aopp_2 afst_2 asnd_2 atgt_2).gkps (zq_S_M_transfer v gthr_2 gtrn_2 aopp_2 afst_2 asnd_2 atgt_2).gwrd (zq_S_M_transfer v gthr_2 gtrn_2 aopp_2 afst_2 asnd_2 atgt_2).gsta (zq_S_M_transfer v gthr_2 gtrn_2 aopp_2 afst_2 asnd_2 atgt_2).gflt (zq_S_M_transfer v gthr_2 gtrn_2 aopp_2 afst_2 asnd_2 atgt_2).gend (zq_S_M_transfer v gthr_2 gtrn_2 aopp_2 afst_2 asnd_2 atgt_2).ghal (zq_S_M_transfer v gthr_2 gtrn_2 aopp_2 afst_2 asnd_2 atgt_2).gwro (zq_S_M_transfer v gthr_2 gtrn_2 aopp_2 afst_2 asnd_2 atgt_2).gwai (zq_S_M_transfer v gthr_2 gtrn_2 aopp_2 afst_2 asnd_2 atgt_2).gwpl (zq_S_M_transfer v gthr_2 gtrn_2 aopp_2 afst_2 asnd_2 atgt_2).gwrs (zq_S_M_transfer v gthr_2 gtrn_2 aopp_2 afst_2 asnd_2 atgt_2).ghlt (zq_S_M_transfer v gthr_2 gtrn_2 aopp_2 afst_2 asnd_2 atgt_2).glat (zq_S_M_transfer v gthr_2 gtrn_2 aopp_2 afst_2 asnd_2 atgt_2).glpl  _ h) (cwV 0 ht (zq_gV zw_778 zw_779 zw_780 zw_393 zw_781) rfl rfl rfl zh_M_thrown ⟨Nat.le_of_ble_eq_true rfl, Nat.le_of_ble_eq_true rfl⟩) hE hP hD hS hA [35] [0, 1, 2, 3, 4, 5, 6, 7, 8, 9, 10, 11, 12, 13, 14, 15, 16, 17, 18, 19, 20, 21, 22, 23, 24, 25, 26, 27, 28, 29, 30, 31, 32, 33, 34, 36, 37, 38, 39, 40, 41, 42, 43, 44, 45, 46, 47, 48, 49, 50, 51, 52, 53, 54, 55, 56, 57, 58, 59, 60, 61, 62, 63, 64, 65, 66] 67 rfl (by decide +kernel) rfl (by decide +kernel) rfl rfl 0 rfl rfl rfl rfl hl.1 (Nat.le_of_ble_eq_true rfl) rfl zd_law_418 hf (fun r_3 w1 H locs hw hJ hS => ?_)
  obtain ⟨rfl, h⟩ := hw
  obtain ⟨hP, hD⟩ := hJ (zq_Wl kT adc adm ao (zq_S_L_transfer u ptn_1 po_1 pa_1 pb_1 pt_1) (zq_S_M_transfer v gthr_2 gtrn_2 aopp_2 afst_2 asnd_2 atgt_2) fo_1) rfl rfl rfl
  refine lv_iload hx hb zd_law_421 (lv_at hl 1 rfl) ?_
  refine lv_icmp_eq (tgt := 428) hx hb zd_law_423 (by decide) (fun c_1 => ?_) (fun c_1 => ?_)
  · refine lv_iload hx hb zd_law_428 (lv_at hl 1 rfl) ?_
    refine lv_if_ne (tgt := 445) hx hb zd_law_430 (by decide) (fun c_2 => ?_) (fun c_2 => ?_)
    · refine lv_goto (tgt := 1209) hx hb zd_law_445 (by decide) ?_
      exact kk (zq_S_L_transfer u ptn_1 po_1 pa_1 pb_1 pt_1) (zq_S_M_transfer v gthr_2 gtrn_2 aopp_2 afst_2 asnd_2 atgt_2) fo_1 H locs ls h.2.2 hP hD hS (lv_sub hl [2, 3, 4, 5, 6] rfl)
    · refine lv_aload_n hx hb zd_law_433 rfl (lv_at hl 5 rfl) ?_
      refine lv_iconst (v := 0) hx hb zd_law_434 (by decide) ?_
      refine zq_a_lald hx hb hK hP 66 1 rfl rfl (zq_in (by decide)) (j := 0) (by decide) zd_law_435 ?_
      refine lv_iload hx hb zd_law_436 (lv_at hl 0 rfl) ?_
      refine lv_i2l (v := (zq_j_i2l r_2)) hx hb zd_law_438 rfl ?_
      refine W.lcmp hx hb zd_law_439 ?_
      refine lv_if_eq (tgt := 445) hx hb zd_law_440 (by decide) (fun c_3 => ?_) (fun c_3 => ?_)
      · refine lv_goto (tgt := 1209) hx hb zd_law_445 (by decide) ?_
        exact kk (zq_S_L_transfer u ptn_1 po_1 pa_1 pb_1 pt_1) (zq_S_M_transfer v gthr_2 gtrn_2 aopp_2 afst_2 asnd_2 atgt_2) fo_1 H locs ls h.2.2 hP hD hS (lv_sub hl [2, 3, 4, 5, 6] rfl)
      · exact absurd (zq_lc_eq.mpr (h.2.1 c_2)) c_3
  · exact absurd h.1 c_1
