def zq_t12 (u : zq_C) (v : zq_M) (fo : Nat → Int64) (a1 : Int32) (a2 : Int32) (post : zq_C → zq_M → Prop) : Prop := wp_L_enable u.lr fo a1 a2 (fun r_1 fo_1 lr_1 => wp_M_enable v.gthr v.greg v.gcon v.gfld v.gtrn v.gins v.glev v.gkep v.glvs v.gkps v.gwrd v.gsta v.gflt v.gend v.ghal v.gwro v.gwai v.gwpl v.gwrs v.ghlt v.glat v.glpl v.arnk a1 a2 (fun r_2 gthr_2 arnk_2 => wp_M_thrown (zq_S_M_enable v gthr_2 arnk_2).gthr (zq_S_M_enable v gthr_2 arnk_2).greg (zq_S_M_enable v gthr_2 arnk_2).gcon (zq_S_M_enable v gthr_2 arnk_2).gfld (zq_S_M_enable v gthr_2 arnk_2).gtrn (zq_S_M_enable v gthr_2 arnk_2).gins (zq_S_M_enable v gthr_2 arnk_2).glev (zq_S_M_enable v gthr_2 arnk_2).gkep (zq_S_M_enable v gthr_2 arnk_2).glvs (zq_S_M_enable v gthr_2 arnk_2).gkps (zq_S_M_enable v gthr_2 arnk_2).gwrd (zq_S_M_enable v gthr_2 arnk_2).gsta (zq_S_M_enable v gthr_2 arnk_2).gflt (zq_S_M_enable v gthr_2 arnk_2).gend (zq_S_M_enable v gthr_2 arnk_2).ghal (zq_S_M_enable v gthr_2 arnk_2).gwro (zq_S_M_enable v gthr_2 arnk_2).gwai (zq_S_M_enable v gthr_2 arnk_2).gwpl (zq_S_M_enable v gthr_2 arnk_2).gwrs (zq_S_M_enable v gthr_2 arnk_2).ghlt (zq_S_M_enable v gthr_2 arnk_2).glat (zq_S_M_enable v gthr_2 arnk_2).glpl  (fun r_3  => r_3 = r_1 ∧ (r_1 = 0 → fo_1 0 = zq_j_i2l r_2) ∧ post (zq_S_L_enable u lr_1) (zq_S_M_enable v gthr_2 arnk_2))))
set_option maxHeartbeats 4000000 in
set_option maxRecDepth 100000 in
theorem zq_arm12 {p : Program} {l : Launch} {e : Env} {s : State} {m : MethodId} {below : List Frame} {meth : Method} {c : Code} {D : va_G} {kT : Nat → ClassId} {b L : Nat} {xs : Nat → Int32} {adc adm : Nat → Nat} {ao : Nat} {H : Heap} {locs : List Loc} {cells slots : Nat} {Q : State → Prop} (X : zq_lx p l s m c D kT b L xs) (u : zq_C) (v : zq_M) (fo : Nat → Int64) {a1 : Int32} {a2 : Int32} (post : zq_C → zq_M → Prop) {x4 : Int32} (hi1 : vp_in (x4 + 1) L) (ha1 : xs (x4 + 1).toNatClampNeg = a1) (hi2 : vp_in (x4 + 2) L) (ha2 : xs (x4 + 2).toNatClampNeg = a2) (h : zq_t12 u v fo a1 a2 post) (hf : cells + 1 ≤ room_1.cells ∧ slots + 6 ≤ room_1.slots) (hP : va_P D vwCl (zq_Wl kT adc adm ao u v fo) H) (hD : va_D (zq_lA s) (zq_Wl kT adc adm ao u v fo)) (hS : va_S (zq_lA s) s.heap H locs) {ls : Array Slot} (hl : lv_has ls 8 [(0, .ref b), (1, .ref (adc 0)), (2, .ref (adm 0)), (3, .ref ao), (4, .int x4)])
    (kk : ∀ (u : zq_C) (v : zq_M) (fo : Nat → Int64) (H : Heap) (locs : List Loc) (ls : Array Slot), post u v → va_P D vwCl (zq_Wl kT adc adm ao u v fo) H → va_D (zq_lA s) (zq_Wl kT adc adm ao u v fo) → va_S (zq_lA s) s.heap H locs → lv_has ls 8 [(0, .ref b), (1, .ref (adc 0)), (2, .ref (adm 0)), (3, .ref ao), (4, .int x4)] → W p l e room_1 s m #[Value.ref b] below meth c H locs (cells + 1) (slots + 6) Q (F0 m 1209 ls [])) :
    W p l e room_1 s m #[Value.ref b] below meth c H locs cells slots Q (F0 m 1016 ls []) := by
  obtain ⟨hst, hx, hb, hml, hown, ht, hE, hX, hN, hXs, hbl⟩ := X
  have hK := hE.1
  have hA : ∀ q : Nat, s.heap.size ≤ q → zq_lA s q := fun _ h => h
  have hbA : ¬ zq_lA s b := Nat.not_le.mpr hbl
  unfold zq_t12 at h
  refine lv_aload_n hx hb zd_law_1016 rfl (lv_at hl 1 rfl) ?_
  refine lv_aload_n hx hb zd_law_1017 rfl (lv_at hl 0 rfl) ?_
  refine lv_iload hx hb zd_law_1018 (lv_at hl 4 rfl) ?_
  refine lv_iconst (v := 1) hx hb zd_law_1020 (by decide) ?_
  refine lv_iadd hx hb zd_law_1021 ?_
  refine zq_sld hx hb hXs hbl hbA hS hi1 ha1 zd_law_1022 ?_
  refine lv_aload_n hx hb zd_law_1023 rfl (lv_at hl 0 rfl) ?_
  refine lv_iload hx hb zd_law_1024 (lv_at hl 4 rfl) ?_
  refine lv_iconst (v := 2) hx hb zd_law_1026 (by decide) ?_
  refine lv_iadd hx hb zd_law_1027 ?_
  refine zq_sld hx hb hXs hbl hbA hS hi2 ha2 zd_law_1028 ?_
  refine lv_aload_n hx hb zd_law_1029 rfl (lv_at hl 3 rfl) ?_
  refine zq_c_SW (rest := []) (adl := (zq_Al adc adm ao)) (wr := (zq_R_L_enable kT adc adm ao u v fo)) ⟨hx, hb, hml, hown, ht⟩ (c_L_enable l hst D kT adc ao u.lr fo a1 a2 _ h) (zq_cwSW 4 ht (zq_gSW zw_860 zw_861 zw_772 zw_862) rfl rfl rfl zh_L_enable ⟨Nat.le_of_ble_eq_true rfl, Nat.le_of_ble_eq_true rfl⟩) hE hX hN hP hD hS hA [0, 25, 27, 66] [1, 2, 3, 4, 5, 6, 7, 8, 9, 10, 11, 12, 13, 14, 15, 16, 17, 18, 19, 20, 21, 22, 23, 24, 26, 28, 29, 30, 31, 32, 33, 34, 35, 36, 37, 38, 39, 40, 41, 42, 43, 44, 45, 46, 47, 48, 49, 50, 51, 52, 53, 54, 55, 56, 57, 58, 59, 60, 61, 62, 63, 64, 65] 67 rfl (by decide +kernel) rfl (by decide +kernel) rfl rfl rfl hl.1 (Nat.le_of_ble_eq_true rfl) rfl zd_law_1030 hf (fun r_1 w1 H locs hw hJ hS => ?_)
  obtain ⟨lr_1, fo_1, rfl, h⟩ := hw
  obtain ⟨hP, hD⟩ := hJ (zq_Wl kT adc adm ao (zq_S_L_enable u lr_1) v fo_1) rfl rfl rfl
  refine lv_istore (lv' := [(5, .int r_1), (0, .ref b), (1, .ref (adc 0)), (2, .ref (adm 0)), (3, .ref ao), (4, .int x4)]) hx hb zd_law_1033 hl (by decide) rfl (fun ls hl => ?_)
  refine lv_aload_n hx hb zd_law_1035 rfl (lv_at hl 3 rfl) ?_
  refine lv_aload_n hx hb zd_law_1036 rfl (lv_at hl 1 rfl) ?_
  refine lv_iload hx hb zd_law_1037 (lv_at hl 5 rfl) ?_
  refine lv_iconst (v := 1) hx hb zd_law_1039 (by decide) ?_
  refine lv_iadd hx hb zd_law_1040 ?_
  refine zq_sld hx hb hXs hbl hbA hS hi1 ha1 zd_law_1041 ?_
  refine lv_aload_n hx hb zd_law_1042 rfl (lv_at hl 1 rfl) ?_
  refine lv_iload hx hb zd_law_1043 (lv_at hl 5 rfl) ?_
  refine lv_iconst (v := 2) hx hb zd_law_1045 (by decide) ?_
  refine lv_iadd hx hb zd_law_1046 ?_
  refine zq_sld hx hb hXs hbl hbA hS hi2 ha2 zd_law_1047 ?_
  refine zq_c_Vi (rest := []) (adl := (zq_Al adc adm ao)) (wr := (zq_R_M_enable kT adc adm ao (zq_S_L_enable u lr_1) v fo_1)) ⟨hx, hb, hml, hown, ht⟩ (c_M_enable l D kT adm v.gthr v.greg v.gcon v.gfld v.gtrn v.gins v.glev v.gkep v.glvs v.gkps v.gwrd v.gsta v.gflt v.gend v.ghal v.gwro v.gwai v.gwpl v.gwrs v.ghlt v.glat v.glpl v.arnk a1 a2 _ h) (cwV 2 ht (zq_gV zw_863 zw_864 zw_865 zw_393 zw_866) rfl rfl rfl zh_M_enable ⟨Nat.le_of_ble_eq_true rfl, Nat.le_of_ble_eq_true rfl⟩) hE hP hD hS hA [35, 58] [0, 1, 2, 3, 4, 5, 6, 7, 8, 9, 10, 11, 12, 13, 14, 15, 16, 17, 18, 19, 20, 21, 22, 23, 24, 25, 26, 27, 28, 29, 30, 31, 32, 33, 34, 36, 37, 38, 39, 40, 41, 42, 43, 44, 45, 46, 47, 48, 49, 50, 51, 52, 53, 54, 55, 56, 57, 59, 60, 61, 62, 63, 64, 65, 66] 67 rfl (by decide +kernel) rfl (by decide +kernel) rfl rfl 0 rfl rfl rfl rfl hl.1 (Nat.le_of_ble_eq_true rfl) rfl zd_law_1048 hf (fun r_2 w1 H locs hw hJ hS => ?_)
  obtain ⟨gthr_2, arnk_2, rfl, h⟩ := hw
  obtain ⟨hP, hD⟩ := hJ (zq_Wl kT adc adm ao (zq_S_L_enable u lr_1) (zq_S_M_enable v gthr_2 arnk_2) fo_1) rfl rfl rfl
  refine lv_istore (lv' := [(6, .int r_2), (5, .int r_1), (0, .ref b), (1, .ref (adc 0)), (2, .ref (adm 0)), (3, .ref ao), (4, .int x4)]) hx hb zd_law_1051 hl (by decide) rfl (fun ls hl => ?_)
  refine lv_aload_n hx hb zd_law_1053 rfl (lv_at hl 4 rfl) ?_
  refine zq_c_Vi (rest := []) (adl := (zq_Al adc adm ao)) (wr := (zq_R_M_thrown kT adc adm ao (zq_S_L_enable u lr_1) (zq_S_M_enable v gthr_2 arnk_2) fo_1)) ⟨hx, hb, hml, hown, ht⟩ (c_M_thrown l D kT adm (zq_S_M_enable v gthr_2 arnk_2).gthr (zq_S_M_enable v gthr_2 arnk_2).greg (zq_S_M_enable v gthr_2 arnk_2).gcon (zq_S_M_enable v gthr_2 arnk_2).gfld (zq_S_M_enable v gthr_2 arnk_2).gtrn (zq_S_M_enable v gthr_2 arnk_2).gins (zq_S_M_enable v gthr_2 arnk_2).glev (zq_S_M_enable v gthr_2 arnk_2).gkep (zq_S_M_enable v gthr_2 arnk_2).glvs (zq_S_M_enable v gthr_2 arnk_2).gkps (zq_S_M_enable v gthr_2 arnk_2).gwrd (zq_S_M_enable v gthr_2 arnk_2).gsta (zq_S_M_enable v gthr_2 arnk_2).gflt (zq_S_M_enable v gthr_2 arnk_2).gend (zq_S_M_enable v gthr_2 arnk_2).ghal (zq_S_M_enable v gthr_2 arnk_2).gwro (zq_S_M_enable v gthr_2 arnk_2).gwai (zq_S_M_enable v gthr_2 arnk_2).gwpl (zq_S_M_enable v gthr_2 arnk_2).gwrs (zq_S_M_enable v gthr_2 arnk_2).ghlt (zq_S_M_enable v gthr_2 arnk_2).glat (zq_S_M_enable v gthr_2 arnk_2).glpl  _ h) (cwV 0 ht (zq_gV zw_778 zw_779 zw_780 zw_393 zw_781) rfl rfl rfl zh_M_thrown ⟨Nat.le_of_ble_eq_true rfl, Nat.le_of_ble_eq_true rfl⟩) hE hP hD hS hA [35] [0, 1, 2, 3, 4, 5, 6, 7, 8, 9, 10, 11, 12, 13, 14, 15, 16, 17, 18, 19, 20, 21, 22, 23, 24, 25, 26, 27, 28, 29, 30, 31, 32, 33, 34, 36, 37, 38, 39, 40, 41, 42, 43, 44, 45, 46, 47, 48, 49, 50, 51, 52, 53, 54, 55, 56, 57, 58, 59, 60, 61, 62, 63, 64, 65, 66] 67 rfl (by decide +kernel) rfl (by decide +kernel) rfl rfl 0 rfl rfl rfl rfl hl.1 (Nat.le_of_ble_eq_true rfl) rfl zd_law_1054 hf (fun r_3 w1 H locs hw hJ hS => ?_)
  obtain ⟨rfl, h⟩ := hw
  obtain ⟨hP, hD⟩ := hJ (zq_Wl kT adc adm ao (zq_S_L_enable u lr_1) (zq_S_M_enable v gthr_2 arnk_2) fo_1) rfl rfl rfl
  refine lv_iload hx hb zd_law_1057 (lv_at hl 1 rfl) ?_
  refine lv_icmp_eq (tgt := 1064) hx hb zd_law_1059 (by decide) (fun c_1 => ?_) (fun c_1 => ?_)
  · refine lv_iload hx hb zd_law_1064 (lv_at hl 1 rfl) ?_
    refine lv_if_ne (tgt := 1081) hx hb zd_law_1066 (by decide) (fun c_2 => ?_) (fun c_2 => ?_)
    · refine lv_goto (tgt := 1209) hx hb zd_law_1081 (by decide) ?_
      exact kk (zq_S_L_enable u lr_1) (zq_S_M_enable v gthr_2 arnk_2) fo_1 H locs ls h.2.2 hP hD hS (lv_sub hl [2, 3, 4, 5, 6] rfl)
    · refine lv_aload_n hx hb zd_law_1069 rfl (lv_at hl 5 rfl) ?_
      refine lv_iconst (v := 0) hx hb zd_law_1070 (by decide) ?_
      refine zq_a_lald hx hb hK hP 66 1 rfl rfl (zq_in (by decide)) (j := 0) (by decide) zd_law_1071 ?_
      refine lv_iload hx hb zd_law_1072 (lv_at hl 0 rfl) ?_
      refine lv_i2l (v := (zq_j_i2l r_2)) hx hb zd_law_1074 rfl ?_
      refine W.lcmp hx hb zd_law_1075 ?_
      refine lv_if_eq (tgt := 1081) hx hb zd_law_1076 (by decide) (fun c_3 => ?_) (fun c_3 => ?_)
      · refine lv_goto (tgt := 1209) hx hb zd_law_1081 (by decide) ?_
        exact kk (zq_S_L_enable u lr_1) (zq_S_M_enable v gthr_2 arnk_2) fo_1 H locs ls h.2.2 hP hD hS (lv_sub hl [2, 3, 4, 5, 6] rfl)
      · exact absurd (zq_lc_eq.mpr (h.2.1 c_2)) c_3
  · exact absurd h.1 c_1
def zq_t13 (u : zq_C) (v : zq_M) (fo : Nat → Int64) (a1 : Int32) (post : zq_C → zq_M → Prop) : Prop := wp_L_fault u.mw u.mh u.mk u.mp fo a1 (fun r_1 fo_1  => wp_M_fault v.gthr v.greg v.gcon v.gfld v.gtrn v.gins v.glev v.gkep v.glvs v.gkps v.gwrd v.gsta v.gflt v.gend v.ghal v.gwro v.gwai v.gwpl v.gwrs v.ghlt v.glat v.glpl a1 (fun r_2 gthr_2 => wp_M_thrown (zq_S_M_fault v gthr_2).gthr (zq_S_M_fault v gthr_2).greg (zq_S_M_fault v gthr_2).gcon (zq_S_M_fault v gthr_2).gfld (zq_S_M_fault v gthr_2).gtrn (zq_S_M_fault v gthr_2).gins (zq_S_M_fault v gthr_2).glev (zq_S_M_fault v gthr_2).gkep (zq_S_M_fault v gthr_2).glvs (zq_S_M_fault v gthr_2).gkps (zq_S_M_fault v gthr_2).gwrd (zq_S_M_fault v gthr_2).gsta (zq_S_M_fault v gthr_2).gflt (zq_S_M_fault v gthr_2).gend (zq_S_M_fault v gthr_2).ghal (zq_S_M_fault v gthr_2).gwro (zq_S_M_fault v gthr_2).gwai (zq_S_M_fault v gthr_2).gwpl (zq_S_M_fault v gthr_2).gwrs (zq_S_M_fault v gthr_2).ghlt (zq_S_M_fault v gthr_2).glat (zq_S_M_fault v gthr_2).glpl  (fun r_3  => r_3 = r_1 ∧ (r_1 = 0 → fo_1 0 = zq_j_i2l r_2) ∧ post u (zq_S_M_fault v gthr_2))))
set_option maxHeartbeats 4000000 in
set_option maxRecDepth 100000 in
theorem zq_arm13 {p : Program} {l : Launch} {e : Env} {s : State} {m : MethodId} {below : List Frame} {meth : Method} {c : Code} {D : va_G} {kT : Nat → ClassId} {b L : Nat} {xs : Nat → Int32} {adc adm : Nat → Nat} {ao : Nat} {H : Heap} {locs : List Loc} {cells slots : Nat} {Q : State → Prop} (X : zq_lx p l s m c D kT b L xs) (u : zq_C) (v : zq_M) (fo : Nat → Int64) {a1 : Int32} (post : zq_C → zq_M → Prop) {x4 : Int32} (hi1 : vp_in (x4 + 1) L) (ha1 : xs (x4 + 1).toNatClampNeg = a1) (h : zq_t13 u v fo a1 post) (hf : cells + 1 ≤ room_1.cells ∧ slots + 6 ≤ room_1.slots) (hP : va_P D vwCl (zq_Wl kT adc adm ao u v fo) H) (hD : va_D (zq_lA s) (zq_Wl kT adc adm ao u v fo)) (hS : va_S (zq_lA s) s.heap H locs) {ls : Array Slot} (hl : lv_has ls 8 [(0, .ref b), (1, .ref (adc 0)), (2, .ref (adm 0)), (3, .ref ao), (4, .int x4)])
    (kk : ∀ (u : zq_C) (v : zq_M) (fo : Nat → Int64) (H : Heap) (locs : List Loc) (ls : Array Slot), post u v → va_P D vwCl (zq_Wl kT adc adm ao u v fo) H → va_D (zq_lA s) (zq_Wl kT adc adm ao u v fo) → va_S (zq_lA s) s.heap H locs → lv_has ls 8 [(0, .ref b), (1, .ref (adc 0)), (2, .ref (adm 0)), (3, .ref ao), (4, .int x4)] → W p l e room_1 s m #[Value.ref b] below meth c H locs (cells + 1) (slots + 6) Q (F0 m 1209 ls [])) :
    W p l e room_1 s m #[Value.ref b] below meth c H locs cells slots Q (F0 m 1084 ls []) := by
  obtain ⟨hst, hx, hb, hml, hown, ht, hE, hX, hN, hXs, hbl⟩ := X
  have hK := hE.1
  have hA : ∀ q : Nat, s.heap.size ≤ q → zq_lA s q := fun _ h => h
  have hbA : ¬ zq_lA s b := Nat.not_le.mpr hbl
  unfold zq_t13 at h
  refine lv_aload_n hx hb zd_law_1084 rfl (lv_at hl 1 rfl) ?_
  refine lv_aload_n hx hb zd_law_1085 rfl (lv_at hl 0 rfl) ?_
  refine lv_iload hx hb zd_law_1086 (lv_at hl 4 rfl) ?_
  refine lv_iconst (v := 1) hx hb zd_law_1088 (by decide) ?_
  refine lv_iadd hx hb zd_law_1089 ?_
  refine zq_sld hx hb hXs hbl hbA hS hi1 ha1 zd_law_1090 ?_
  refine lv_aload_n hx hb zd_law_1091 rfl (lv_at hl 3 rfl) ?_
  refine zq_c_SW (rest := []) (adl := (zq_Al adc adm ao)) (wr := (zq_R_L_fault kT adc adm ao u v fo)) ⟨hx, hb, hml, hown, ht⟩ (c_L_fault l hst D kT adc ao u.mw u.mh u.mk u.mp fo a1 _ h) (zq_cwSW 3 ht (zq_gSW zw_867 zw_868 zw_772 zw_869) rfl rfl rfl zh_L_fault ⟨Nat.le_of_ble_eq_true rfl, Nat.le_of_ble_eq_true rfl⟩) hE hX hN hP hD hS hA [0, 33, 66] [1, 2, 3, 4, 5, 6, 7, 8, 9, 10, 11, 12, 13, 14, 15, 16, 17, 18, 19, 20, 21, 22, 23, 24, 25, 26, 27, 28, 29, 30, 31, 32, 34, 35, 36, 37, 38, 39, 40, 41, 42, 43, 44, 45, 46, 47, 48, 49, 50, 51, 52, 53, 54, 55, 56, 57, 58, 59, 60, 61, 62, 63, 64, 65] 67 rfl (by decide +kernel) rfl (by decide +kernel) rfl rfl rfl hl.1 (Nat.le_of_ble_eq_true rfl) rfl zd_law_1092 hf (fun r_1 w1 H locs hw hJ hS => ?_)
  obtain ⟨fo_1, rfl, h⟩ := hw
  obtain ⟨hP, hD⟩ := hJ (zq_Wl kT adc adm ao u v fo_1) rfl rfl rfl
  refine lv_istore (lv' := [(5, .int r_1), (0, .ref b), (1, .ref (adc 0)), (2, .ref (adm 0)), (3, .ref ao), (4, .int x4)]) hx hb zd_law_1095 hl (by decide) rfl (fun ls hl => ?_)
  refine lv_aload_n hx hb zd_law_1097 rfl (lv_at hl 3 rfl) ?_
  refine lv_aload_n hx hb zd_law_1098 rfl (lv_at hl 1 rfl) ?_
  refine lv_iload hx hb zd_law_1099 (lv_at hl 5 rfl) ?_
  refine lv_iconst (v := 1) hx hb zd_law_1101 (by decide) ?_
  refine lv_iadd hx hb zd_law_1102 ?_
  refine zq_sld hx hb hXs hbl hbA hS hi1 ha1 zd_law_1103 ?_
  refine zq_c_Vi (rest := []) (adl := (zq_Al adc adm ao)) (wr := (zq_R_M_fault kT adc adm ao u v fo_1)) ⟨hx, hb, hml, hown, ht⟩ (c_M_fault l D kT adm v.gthr v.greg v.gcon v.gfld v.gtrn v.gins v.glev v.gkep v.glvs v.gkps v.gwrd v.gsta v.gflt v.gend v.ghal v.gwro v.gwai v.gwpl v.gwrs v.ghlt v.glat v.glpl a1 _ h) (cwV 1 ht (zq_gV zw_870 zw_871 zw_872 zw_393 zw_873) rfl rfl rfl zh_M_fault ⟨Nat.le_of_ble_eq_true rfl, Nat.le_of_ble_eq_true rfl⟩) hE hP hD hS hA [35] [0, 1, 2, 3, 4, 5, 6, 7, 8, 9, 10, 11, 12, 13, 14, 15, 16, 17, 18, 19, 20, 21, 22, 23, 24, 25, 26, 27, 28, 29, 30, 31, 32, 33, 34, 36, 37, 38, 39, 40, 41, 42, 43, 44, 45, 46, 47, 48, 49, 50, 51, 52, 53, 54, 55, 56, 57, 58, 59, 60, 61, 62, 63, 64, 65, 66] 67 rfl (by decide +kernel) rfl (by decide +kernel) rfl rfl 0 rfl rfl rfl rfl hl.1 (Nat.le_of_ble_eq_true rfl) rfl zd_law_1104 hf (fun r_2 w1 H locs hw hJ hS => ?_)
  obtain ⟨gthr_2, rfl, h⟩ := hw
  obtain ⟨hP, hD⟩ := hJ (zq_Wl kT adc adm ao u (zq_S_M_fault v gthr_2) fo_1) rfl rfl rfl
  refine lv_istore (lv' := [(6, .int r_2), (5, .int r_1), (0, .ref b), (1, .ref (adc 0)), (2, .ref (adm 0)), (3, .ref ao), (4, .int x4)]) hx hb zd_law_1107 hl (by decide) rfl (fun ls hl => ?_)
  refine lv_aload_n hx hb zd_law_1109 rfl (lv_at hl 4 rfl) ?_
  refine zq_c_Vi (rest := []) (adl := (zq_Al adc adm ao)) (wr := (zq_R_M_thrown kT adc adm ao u (zq_S_M_fault v gthr_2) fo_1)) ⟨hx, hb, hml, hown, ht⟩ (c_M_thrown l D kT adm (zq_S_M_fault v gthr_2).gthr (zq_S_M_fault v gthr_2).greg (zq_S_M_fault v gthr_2).gcon (zq_S_M_fault v gthr_2).gfld (zq_S_M_fault v gthr_2).gtrn (zq_S_M_fault v gthr_2).gins (zq_S_M_fault v gthr_2).glev (zq_S_M_fault v gthr_2).gkep (zq_S_M_fault v gthr_2).glvs (zq_S_M_fault v gthr_2).gkps (zq_S_M_fault v gthr_2).gwrd (zq_S_M_fault v gthr_2).gsta (zq_S_M_fault v gthr_2).gflt (zq_S_M_fault v gthr_2).gend (zq_S_M_fault v gthr_2).ghal (zq_S_M_fault v gthr_2).gwro (zq_S_M_fault v gthr_2).gwai (zq_S_M_fault v gthr_2).gwpl (zq_S_M_fault v gthr_2).gwrs (zq_S_M_fault v gthr_2).ghlt (zq_S_M_fault v gthr_2).glat (zq_S_M_fault v gthr_2).glpl  _ h) (cwV 0 ht (zq_gV zw_778 zw_779 zw_780 zw_393 zw_781) rfl rfl rfl zh_M_thrown ⟨Nat.le_of_ble_eq_true rfl, Nat.le_of_ble_eq_true rfl⟩) hE hP hD hS hA [35] [0, 1, 2, 3, 4, 5, 6, 7, 8, 9, 10, 11, 12, 13, 14, 15, 16, 17, 18, 19, 20, 21, 22, 23, 24, 25, 26, 27, 28, 29, 30, 31, 32, 33, 34, 36, 37, 38, 39, 40, 41, 42, 43, 44, 45, 46, 47, 48, 49, 50, 51, 52, 53, 54, 55, 56, 57, 58, 59, 60, 61, 62, 63, 64, 65, 66] 67 rfl (by decide +kernel) rfl (by decide +kernel) rfl rfl 0 rfl rfl rfl rfl hl.1 (Nat.le_of_ble_eq_true rfl) rfl zd_law_1110 hf (fun r_3 w1 H locs hw hJ hS => ?_)
  obtain ⟨rfl, h⟩ := hw
  obtain ⟨hP, hD⟩ := hJ (zq_Wl kT adc adm ao u (zq_S_M_fault v gthr_2) fo_1) rfl rfl rfl
  refine lv_iload hx hb zd_law_1113 (lv_at hl 1 rfl) ?_
  refine lv_icmp_eq (tgt := 1120) hx hb zd_law_1115 (by decide) (fun c_1 => ?_) (fun c_1 => ?_)
  · refine lv_iload hx hb zd_law_1120 (lv_at hl 1 rfl) ?_
    refine lv_if_ne (tgt := 1137) hx hb zd_law_1122 (by decide) (fun c_2 => ?_) (fun c_2 => ?_)
    · refine lv_goto (tgt := 1209) hx hb zd_law_1137 (by decide) ?_
      exact kk u (zq_S_M_fault v gthr_2) fo_1 H locs ls h.2.2 hP hD hS (lv_sub hl [2, 3, 4, 5, 6] rfl)
    · refine lv_aload_n hx hb zd_law_1125 rfl (lv_at hl 5 rfl) ?_
      refine lv_iconst (v := 0) hx hb zd_law_1126 (by decide) ?_
      refine zq_a_lald hx hb hK hP 66 1 rfl rfl (zq_in (by decide)) (j := 0) (by decide) zd_law_1127 ?_
      refine lv_iload hx hb zd_law_1128 (lv_at hl 0 rfl) ?_
      refine lv_i2l (v := (zq_j_i2l r_2)) hx hb zd_law_1130 rfl ?_
      refine W.lcmp hx hb zd_law_1131 ?_
      refine lv_if_eq (tgt := 1137) hx hb zd_law_1132 (by decide) (fun c_3 => ?_) (fun c_3 => ?_)
      · refine lv_goto (tgt := 1209) hx hb zd_law_1137 (by decide) ?_
        exact kk u (zq_S_M_fault v gthr_2) fo_1 H locs ls h.2.2 hP hD hS (lv_sub hl [2, 3, 4, 5, 6] rfl)
      · exact absurd (zq_lc_eq.mpr (h.2.1 c_2)) c_3
  · exact absurd h.1 c_1
def zq_t14 (u : zq_C) (v : zq_M) (fo : Nat → Int64)  (post : zq_C → zq_M → Prop) : Prop := wp_PS_halted u.mw u.mh u.mk u.mp  (fun r_1  => wp_M_halted v.gthr v.greg v.gcon v.gfld v.gtrn v.gins v.glev v.gkep v.glvs v.gkps v.gwrd v.gsta v.gflt v.gend v.ghal v.gwro v.gwai v.gwpl v.gwrs v.ghlt v.glat v.glpl  (fun r_2 gthr_2 => r_1 = r_2 ∧ post u (zq_S_M_halted v gthr_2)))
set_option maxHeartbeats 4000000 in
set_option maxRecDepth 100000 in
theorem zq_arm14 {p : Program} {l : Launch} {e : Env} {s : State} {m : MethodId} {below : List Frame} {meth : Method} {c : Code} {D : va_G} {kT : Nat → ClassId} {b L : Nat} {xs : Nat → Int32} {adc adm : Nat → Nat} {ao : Nat} {H : Heap} {locs : List Loc} {cells slots : Nat} {Q : State → Prop} (X : zq_lx p l s m c D kT b L xs) (u : zq_C) (v : zq_M) (fo : Nat → Int64)  (post : zq_C → zq_M → Prop) {x4 : Int32}  (h : zq_t14 u v fo  post) (hf : cells + 1 ≤ room_1.cells ∧ slots + 6 ≤ room_1.slots) (hP : va_P D vwCl (zq_Wl kT adc adm ao u v fo) H) (hD : va_D (zq_lA s) (zq_Wl kT adc adm ao u v fo)) (hS : va_S (zq_lA s) s.heap H locs) {ls : Array Slot} (hl : lv_has ls 8 [(0, .ref b), (1, .ref (adc 0)), (2, .ref (adm 0)), (3, .ref ao), (4, .int x4)])
    (kk : ∀ (u : zq_C) (v : zq_M) (fo : Nat → Int64) (H : Heap) (locs : List Loc) (ls : Array Slot), post u v → va_P D vwCl (zq_Wl kT adc adm ao u v fo) H → va_D (zq_lA s) (zq_Wl kT adc adm ao u v fo) → va_S (zq_lA s) s.heap H locs → lv_has ls 8 [(0, .ref b), (1, .ref (adc 0)), (2, .ref (adm 0)), (3, .ref ao), (4, .int x4)] → W p l e room_1 s m #[Value.ref b] below meth c H locs (cells + 1) (slots + 6) Q (F0 m 1209 ls [])) :
    W p l e room_1 s m #[Value.ref b] below meth c H locs cells slots Q (F0 m 1140 ls []) := by
  obtain ⟨hst, hx, hb, hml, hown, ht, hE, hX, hN, hXs, hbl⟩ := X
  have hK := hE.1
  have hA : ∀ q : Nat, s.heap.size ≤ q → zq_lA s q := fun _ h => h
  have hbA : ¬ zq_lA s b := Nat.not_le.mpr hbl
  unfold zq_t14 at h
  refine lv_aload_n hx hb zd_law_1140 rfl (lv_at hl 1 rfl) ?_
  refine zq_c_Vi (rest := []) (adl := (zq_Al adc adm ao)) (wr := (zq_R_PS_halted kT adc adm ao u v fo)) ⟨hx, hb, hml, hown, ht⟩ (c_PS_halted l D kT adc u.mw u.mh u.mk u.mp  _ h) (cwV 0 ht (zq_gV zw_874 zw_875 zw_876 zw_708 zw_877) rfl rfl rfl zh_PS_halted ⟨Nat.le_of_ble_eq_true rfl, Nat.le_of_ble_eq_true rfl⟩) hE hP hD hS hA [0, 33] [1, 2, 3, 4, 5, 6, 7, 8, 9, 10, 11, 12, 13, 14, 15, 16, 17, 18, 19, 20, 21, 22, 23, 24, 25, 26, 27, 28, 29, 30, 31, 32, 34, 35, 36, 37, 38, 39, 40, 41, 42, 43, 44, 45, 46, 47, 48, 49, 50, 51, 52, 53, 54, 55, 56, 57, 58, 59, 60, 61, 62, 63, 64, 65, 66] 67 rfl (by decide +kernel) rfl (by decide +kernel) rfl rfl 0 rfl rfl rfl rfl hl.1 (Nat.le_of_ble_eq_true rfl) rfl zd_law_1141 ⟨Nat.le_of_succ_le hf.1, Nat.le_trans (Nat.le_add_right _ 6) hf.2⟩ (fun r_1 w1 H locs hw hJ hS => ?_)
  obtain ⟨rfl, h⟩ := hw
  obtain ⟨hP, hD⟩ := hJ (zq_Wl kT adc adm ao u v fo) rfl rfl rfl
  refine lv_aload_n hx hb zd_law_1144 rfl (lv_at hl 2 rfl) ?_
  refine zq_c_Vi (rest := [.int r_1]) (adl := (zq_Al adc adm ao)) (wr := (zq_R_M_halted kT adc adm ao u v fo)) ⟨hx, hb, hml, hown, ht⟩ (c_M_halted l D kT adm v.gthr v.greg v.gcon v.gfld v.gtrn v.gins v.glev v.gkep v.glvs v.gkps v.gwrd v.gsta v.gflt v.gend v.ghal v.gwro v.gwai v.gwpl v.gwrs v.ghlt v.glat v.glpl  _ h) (cwV 0 ht (zq_gV zw_878 zw_879 zw_880 zw_393 zw_881) rfl rfl rfl zh_M_halted ⟨Nat.le_of_ble_eq_true rfl, Nat.le_of_ble_eq_true rfl⟩) hE hP hD hS hA [35] [0, 1, 2, 3, 4, 5, 6, 7, 8, 9, 10, 11, 12, 13, 14, 15, 16, 17, 18, 19, 20, 21, 22, 23, 24, 25, 26, 27, 28, 29, 30, 31, 32, 33, 34, 36, 37, 38, 39, 40, 41, 42, 43, 44, 45, 46, 47, 48, 49, 50, 51, 52, 53, 54, 55, 56, 57, 58, 59, 60, 61, 62, 63, 64, 65, 66] 67 rfl (by decide +kernel) rfl (by decide +kernel) rfl rfl 0 rfl rfl rfl rfl hl.1 (Nat.le_of_ble_eq_true rfl) rfl zd_law_1145 ⟨Nat.le_of_succ_le hf.1, Nat.le_trans (Nat.le_add_right _ 6) hf.2⟩ (fun r_2 w1 H locs hw hJ hS => ?_)
  obtain ⟨gthr_2, rfl, h⟩ := hw
  obtain ⟨hP, hD⟩ := hJ (zq_Wl kT adc adm ao u (zq_S_M_halted v gthr_2) fo) rfl rfl rfl
  refine lv_icmp_eq (tgt := 1209) hx hb zd_law_1148 (by decide) (fun c_1 => ?_) (fun c_1 => ?_)
  · refine W.widen (k := cells + 1) (n := slots + 6) (by omega) (by omega) ?_
    exact kk u (zq_S_M_halted v gthr_2) fo H locs ls h.2 hP hD hS (lv_sub hl [0, 1, 2, 3, 4] rfl)
  · exact absurd h.1 c_1
def zq_t15 (u : zq_C) (v : zq_M) (fo : Nat → Int64) (a1 : Int32) (post : zq_C → zq_M → Prop) : Prop := wp_L_counter u.kn u.kv u.cn fo a1 (fun r_1 fo_1  => wp_M_counter v.gthr v.greg v.gcon v.gfld v.gtrn v.gins v.glev v.gkep v.glvs v.gkps v.gwrd v.gsta v.gflt v.gend v.ghal v.gwro v.gwai v.gwpl v.gwrs v.ghlt v.glat v.glpl v.acnt a1 (fun r_2 gthr_2 => wp_M_thrown (zq_S_M_counter v gthr_2).gthr (zq_S_M_counter v gthr_2).greg (zq_S_M_counter v gthr_2).gcon (zq_S_M_counter v gthr_2).gfld (zq_S_M_counter v gthr_2).gtrn (zq_S_M_counter v gthr_2).gins (zq_S_M_counter v gthr_2).glev (zq_S_M_counter v gthr_2).gkep (zq_S_M_counter v gthr_2).glvs (zq_S_M_counter v gthr_2).gkps (zq_S_M_counter v gthr_2).gwrd (zq_S_M_counter v gthr_2).gsta (zq_S_M_counter v gthr_2).gflt (zq_S_M_counter v gthr_2).gend (zq_S_M_counter v gthr_2).ghal (zq_S_M_counter v gthr_2).gwro (zq_S_M_counter v gthr_2).gwai (zq_S_M_counter v gthr_2).gwpl (zq_S_M_counter v gthr_2).gwrs (zq_S_M_counter v gthr_2).ghlt (zq_S_M_counter v gthr_2).glat (zq_S_M_counter v gthr_2).glpl  (fun r_3  => r_3 = r_1 ∧ (r_1 = 0 → fo_1 0 = zq_j_i2l r_2) ∧ post u (zq_S_M_counter v gthr_2))))
set_option maxHeartbeats 4000000 in
set_option maxRecDepth 100000 in
theorem zq_arm15 {p : Program} {l : Launch} {e : Env} {s : State} {m : MethodId} {below : List Frame} {meth : Method} {c : Code} {D : va_G} {kT : Nat → ClassId} {b L : Nat} {xs : Nat → Int32} {adc adm : Nat → Nat} {ao : Nat} {H : Heap} {locs : List Loc} {cells slots : Nat} {Q : State → Prop} (X : zq_lx p l s m c D kT b L xs) (u : zq_C) (v : zq_M) (fo : Nat → Int64) {a1 : Int32} (post : zq_C → zq_M → Prop) {x4 : Int32} (hi1 : vp_in (x4 + 1) L) (ha1 : xs (x4 + 1).toNatClampNeg = a1) (h : zq_t15 u v fo a1 post) (hf : cells + 1 ≤ room_1.cells ∧ slots + 6 ≤ room_1.slots) (hP : va_P D vwCl (zq_Wl kT adc adm ao u v fo) H) (hD : va_D (zq_lA s) (zq_Wl kT adc adm ao u v fo)) (hS : va_S (zq_lA s) s.heap H locs) {ls : Array Slot} (hl : lv_has ls 8 [(0, .ref b), (1, .ref (adc 0)), (2, .ref (adm 0)), (3, .ref ao), (4, .int x4)])
    (kk : ∀ (u : zq_C) (v : zq_M) (fo : Nat → Int64) (H : Heap) (locs : List Loc) (ls : Array Slot), post u v → va_P D vwCl (zq_Wl kT adc adm ao u v fo) H → va_D (zq_lA s) (zq_Wl kT adc adm ao u v fo) → va_S (zq_lA s) s.heap H locs → lv_has ls 8 [(0, .ref b), (1, .ref (adc 0)), (2, .ref (adm 0)), (3, .ref ao), (4, .int x4)] → W p l e room_1 s m #[Value.ref b] below meth c H locs (cells + 1) (slots + 6) Q (F0 m 1209 ls [])) :
    W p l e room_1 s m #[Value.ref b] below meth c H locs cells slots Q (F0 m 1153 ls []) := by
  obtain ⟨hst, hx, hb, hml, hown, ht, hE, hX, hN, hXs, hbl⟩ := X
  have hK := hE.1
  have hA : ∀ q : Nat, s.heap.size ≤ q → zq_lA s q := fun _ h => h
  have hbA : ¬ zq_lA s b := Nat.not_le.mpr hbl
  unfold zq_t15 at h
  refine lv_aload_n hx hb zd_law_1153 rfl (lv_at hl 1 rfl) ?_
  refine lv_aload_n hx hb zd_law_1154 rfl (lv_at hl 0 rfl) ?_
  refine lv_iload hx hb zd_law_1155 (lv_at hl 4 rfl) ?_
  refine lv_iconst (v := 1) hx hb zd_law_1157 (by decide) ?_
  refine lv_iadd hx hb zd_law_1158 ?_
  refine zq_sld hx hb hXs hbl hbA hS hi1 ha1 zd_law_1159 ?_
  refine lv_aload_n hx hb zd_law_1160 rfl (lv_at hl 3 rfl) ?_
  refine zq_c_SW (rest := []) (adl := (zq_Al adc adm ao)) (wr := (zq_R_L_counter kT adc adm ao u v fo)) ⟨hx, hb, hml, hown, ht⟩ (c_L_counter l hst D kT adc ao u.kn u.kv u.cn fo a1 _ h) (zq_cwSW 3 ht (zq_gSW zw_882 zw_883 zw_772 zw_884) rfl rfl rfl zh_L_counter ⟨Nat.le_of_ble_eq_true rfl, Nat.le_of_ble_eq_true rfl⟩) hE hX hN hP hD hS hA [0, 22, 34, 66] [1, 2, 3, 4, 5, 6, 7, 8, 9, 10, 11, 12, 13, 14, 15, 16, 17, 18, 19, 20, 21, 23, 24, 25, 26, 27, 28, 29, 30, 31, 32, 33, 35, 36, 37, 38, 39, 40, 41, 42, 43, 44, 45, 46, 47, 48, 49, 50, 51, 52, 53, 54, 55, 56, 57, 58, 59, 60, 61, 62, 63, 64, 65] 67 rfl (by decide +kernel) rfl (by decide +kernel) rfl rfl rfl hl.1 (Nat.le_of_ble_eq_true rfl) rfl zd_law_1161 hf (fun r_1 w1 H locs hw hJ hS => ?_)
  obtain ⟨fo_1, rfl, h⟩ := hw
  obtain ⟨hP, hD⟩ := hJ (zq_Wl kT adc adm ao u v fo_1) rfl rfl rfl
  refine lv_istore (lv' := [(5, .int r_1), (0, .ref b), (1, .ref (adc 0)), (2, .ref (adm 0)), (3, .ref ao), (4, .int x4)]) hx hb zd_law_1164 hl (by decide) rfl (fun ls hl => ?_)
  refine lv_aload_n hx hb zd_law_1166 rfl (lv_at hl 3 rfl) ?_
  refine lv_aload_n hx hb zd_law_1167 rfl (lv_at hl 1 rfl) ?_
  refine lv_iload hx hb zd_law_1168 (lv_at hl 5 rfl) ?_
  refine lv_iconst (v := 1) hx hb zd_law_1170 (by decide) ?_
  refine lv_iadd hx hb zd_law_1171 ?_
  refine zq_sld hx hb hXs hbl hbA hS hi1 ha1 zd_law_1172 ?_
  refine zq_c_Vi (rest := []) (adl := (zq_Al adc adm ao)) (wr := (zq_R_M_counter kT adc adm ao u v fo_1)) ⟨hx, hb, hml, hown, ht⟩ (c_M_counter l D kT adm v.gthr v.greg v.gcon v.gfld v.gtrn v.gins v.glev v.gkep v.glvs v.gkps v.gwrd v.gsta v.gflt v.gend v.ghal v.gwro v.gwai v.gwpl v.gwrs v.ghlt v.glat v.glpl v.acnt a1 _ h) (cwV 1 ht (zq_gV zw_885 zw_886 zw_887 zw_393 zw_888) rfl rfl rfl zh_M_counter ⟨Nat.le_of_ble_eq_true rfl, Nat.le_of_ble_eq_true rfl⟩) hE hP hD hS hA [35, 65] [0, 1, 2, 3, 4, 5, 6, 7, 8, 9, 10, 11, 12, 13, 14, 15, 16, 17, 18, 19, 20, 21, 22, 23, 24, 25, 26, 27, 28, 29, 30, 31, 32, 33, 34, 36, 37, 38, 39, 40, 41, 42, 43, 44, 45, 46, 47, 48, 49, 50, 51, 52, 53, 54, 55, 56, 57, 58, 59, 60, 61, 62, 63, 64, 66] 67 rfl (by decide +kernel) rfl (by decide +kernel) rfl rfl 0 rfl rfl rfl rfl hl.1 (Nat.le_of_ble_eq_true rfl) rfl zd_law_1173 hf (fun r_2 w1 H locs hw hJ hS => ?_)
  obtain ⟨gthr_2, rfl, h⟩ := hw
  obtain ⟨hP, hD⟩ := hJ (zq_Wl kT adc adm ao u (zq_S_M_counter v gthr_2) fo_1) rfl rfl rfl
  refine lv_istore (lv' := [(6, .int r_2), (5, .int r_1), (0, .ref b), (1, .ref (adc 0)), (2, .ref (adm 0)), (3, .ref ao), (4, .int x4)]) hx hb zd_law_1176 hl (by decide) rfl (fun ls hl => ?_)
  refine lv_aload_n hx hb zd_law_1178 rfl (lv_at hl 4 rfl) ?_
  refine zq_c_Vi (rest := []) (adl := (zq_Al adc adm ao)) (wr := (zq_R_M_thrown kT adc adm ao u (zq_S_M_counter v gthr_2) fo_1)) ⟨hx, hb, hml, hown, ht⟩ (c_M_thrown l D kT adm (zq_S_M_counter v gthr_2).gthr (zq_S_M_counter v gthr_2).greg (zq_S_M_counter v gthr_2).gcon (zq_S_M_counter v gthr_2).gfld (zq_S_M_counter v gthr_2).gtrn (zq_S_M_counter v gthr_2).gins (zq_S_M_counter v gthr_2).glev (zq_S_M_counter v gthr_2).gkep (zq_S_M_counter v gthr_2).glvs (zq_S_M_counter v gthr_2).gkps (zq_S_M_counter v gthr_2).gwrd (zq_S_M_counter v gthr_2).gsta (zq_S_M_counter v gthr_2).gflt (zq_S_M_counter v gthr_2).gend (zq_S_M_counter v gthr_2).ghal (zq_S_M_counter v gthr_2).gwro (zq_S_M_counter v gthr_2).gwai (zq_S_M_counter v gthr_2).gwpl (zq_S_M_counter v gthr_2).gwrs (zq_S_M_counter v gthr_2).ghlt (zq_S_M_counter v gthr_2).glat (zq_S_M_counter v gthr_2).glpl  _ h) (cwV 0 ht (zq_gV zw_778 zw_779 zw_780 zw_393 zw_781) rfl rfl rfl zh_M_thrown ⟨Nat.le_of_ble_eq_true rfl, Nat.le_of_ble_eq_true rfl⟩) hE hP hD hS hA [35] [0, 1, 2, 3, 4, 5, 6, 7, 8, 9, 10, 11, 12, 13, 14, 15, 16, 17, 18, 19, 20, 21, 22, 23, 24, 25, 26, 27, 28, 29, 30, 31, 32, 33, 34, 36, 37, 38, 39, 40, 41, 42, 43, 44, 45, 46, 47, 48, 49, 50, 51, 52, 53, 54, 55, 56, 57, 58, 59, 60, 61, 62, 63, 64, 65, 66] 67 rfl (by decide +kernel) rfl (by decide +kernel) rfl rfl 0 rfl rfl rfl rfl hl.1 (Nat.le_of_ble_eq_true rfl) rfl zd_law_1179 hf (fun r_3 w1 H locs hw hJ hS => ?_)
  obtain ⟨rfl, h⟩ := hw
  obtain ⟨hP, hD⟩ := hJ (zq_Wl kT adc adm ao u (zq_S_M_counter v gthr_2) fo_1) rfl rfl rfl
  refine lv_iload hx hb zd_law_1182 (lv_at hl 1 rfl) ?_
  refine lv_icmp_eq (tgt := 1189) hx hb zd_law_1184 (by decide) (fun c_1 => ?_) (fun c_1 => ?_)
  · refine lv_iload hx hb zd_law_1189 (lv_at hl 1 rfl) ?_
    refine lv_if_ne (tgt := 1206) hx hb zd_law_1191 (by decide) (fun c_2 => ?_) (fun c_2 => ?_)
    · refine lv_goto (tgt := 1209) hx hb zd_law_1206 (by decide) ?_
      exact kk u (zq_S_M_counter v gthr_2) fo_1 H locs ls h.2.2 hP hD hS (lv_sub hl [2, 3, 4, 5, 6] rfl)
    · refine lv_aload_n hx hb zd_law_1194 rfl (lv_at hl 5 rfl) ?_
      refine lv_iconst (v := 0) hx hb zd_law_1195 (by decide) ?_
      refine zq_a_lald hx hb hK hP 66 1 rfl rfl (zq_in (by decide)) (j := 0) (by decide) zd_law_1196 ?_
      refine lv_iload hx hb zd_law_1197 (lv_at hl 0 rfl) ?_
      refine lv_i2l (v := (zq_j_i2l r_2)) hx hb zd_law_1199 rfl ?_
      refine W.lcmp hx hb zd_law_1200 ?_
      refine lv_if_eq (tgt := 1206) hx hb zd_law_1201 (by decide) (fun c_3 => ?_) (fun c_3 => ?_)
      · refine lv_goto (tgt := 1209) hx hb zd_law_1206 (by decide) ?_
        exact kk u (zq_S_M_counter v gthr_2) fo_1 H locs ls h.2.2 hP hD hS (lv_sub hl [2, 3, 4, 5, 6] rfl)
      · exact absurd (zq_lc_eq.mpr (h.2.1 c_2)) c_3
  · exact absurd h.1 c_1
