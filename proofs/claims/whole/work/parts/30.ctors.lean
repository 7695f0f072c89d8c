set_option maxHeartbeats 4000000 in
set_option maxRecDepth 100000 in
theorem c_Registers_init (l : Launch) (D : va_G) (kT : Nat → ClassId) (h0 : Nat)  : zq_MC l zy_Registers_init zs_Registers_init ({ frames := 1, cells := 3, slots := 72, locals := 12 }) D kT [.ref h0] [(h0, .inr (0, [.null, .null, .null, .int 0]))] (fun w' => ∃ (q1 : Nat) (q2 : Nat) (q3 : Nat), w' = [(h0, .inr (0, [.ref q1, .ref q2, .ref q3, .int 1])), (q1, .inl (kT 1, 24, .inr (.inl (vp_updL (fun _ => 0) 0 65535)))), (q2, .inl (kT 1, 24, .inr (.inl (fun _ => 0)))), (q3, .inl (kT 2, 24, .inl (fun _ => 0)))]) 3 72 := by
  refine zq_MC_of (cc := zb_Registers_init) (maxL := 1) (own := zR_Registers) (by decide) rfl rfl (Nat.le_of_ble_eq_true rfl) rfl ?_
  intro p e s m AV below meth c A QQ H locs ls hx hb hml hown ht hE hA hin hret hP hD hS hl
  have hK := hE.1
  have hl : lv_has ls 1 [(0, .ref h0)] := hl
  refine lv_aload_n hx hb zd_Registers_init_0 rfl (lv_at hl 0 rfl) ?_
  refine W.objInit hx hb hown (ht _ zw_580) (ht _ zw_581) (ht _ zw_582) rfl (by rw [hml]; exact hl.1) rfl zd_Registers_init_1 (Nat.le_of_ble_eq_true rfl) (Nat.le_of_ble_eq_true rfl) ?_
  refine W.eq (g2 := F0 m 4 ls []) rfl ?_
  refine lv_aload_n hx hb zd_Registers_init_4 rfl (lv_at hl 0 rfl) ?_
  refine lv_bipush (v := 24) hx hb zd_Registers_init_5 (by decide) ?_
  refine zq_newa (D := D) (atype := .long) (ty := .long) (n := 24) (a0 := (24, .inr (.inl (fun _ => 0)))) (N' := 24) hx hb (ht _ zw_583) rfl hK hP hD hS hA 1 rfl (fun _ => rfl) (by decide) (by decide) (by decide) (Nat.le_of_ble_eq_true rfl) (Nat.le_of_ble_eq_true rfl) zd_Registers_init_7 (fun q1 H hP hD hS => ?_)
  have hP : va_P D vwCl [(h0, .inr (0, [.null, .null, .null, .int 0])), (q1, .inl (kT 1, 24, .inr (.inl (fun _ => 0))))] H := hP
  have hD : va_D A [(h0, .inr (0, [.null, .null, .null, .int 0])), (q1, .inl (kT 1, 24, .inr (.inl (fun _ => 0))))] := hD
  refine va_putF (D := D) (ci := 0) (v := .ref q1) (ty := (.array .long)) (C := zR_Registers) (T := zF_Registers) (N := 4) hx hb ht zi_Registers zt_Registers zt_Registers_ok zn_Registers hown hK hP hD hS 0 rfl rfl 0 (by decide) (ht _ zw_120) (fun _ h9 => h9) rfl hin rfl (by decide +kernel) rfl rfl (Nat.le_of_ble_eq_true rfl) zd_Registers_init_9 (fun H locs hP hD hS => ?_)
  have hP : va_P D vwCl [(h0, .inr (0, [.ref q1, .null, .null, .int 0])), (q1, .inl (kT 1, 24, .inr (.inl (fun _ => 0))))] H := hP
  have hD : va_D A [(h0, .inr (0, [.ref q1, .null, .null, .int 0])), (q1, .inl (kT 1, 24, .inr (.inl (fun _ => 0))))] := hD
  refine lv_aload_n hx hb zd_Registers_init_12 rfl (lv_at hl 0 rfl) ?_
  refine lv_bipush (v := 24) hx hb zd_Registers_init_13 (by decide) ?_
  refine zq_newa (D := D) (atype := .long) (ty := .long) (n := 24) (a0 := (24, .inr (.inl (fun _ => 0)))) (N' := 24) hx hb (ht _ zw_583) rfl hK hP hD hS hA 1 rfl (fun _ => rfl) (by decide) (by decide) (by decide) (Nat.le_of_ble_eq_true rfl) (Nat.le_of_ble_eq_true rfl) zd_Registers_init_15 (fun q2 H hP hD hS => ?_)
  have hP : va_P D vwCl [(h0, .inr (0, [.ref q1, .null, .null, .int 0])), (q1, .inl (kT 1, 24, .inr (.inl (fun _ => 0)))), (q2, .inl (kT 1, 24, .inr (.inl (fun _ => 0))))] H := hP
  have hD : va_D A [(h0, .inr (0, [.ref q1, .null, .null, .int 0])), (q1, .inl (kT 1, 24, .inr (.inl (fun _ => 0)))), (q2, .inl (kT 1, 24, .inr (.inl (fun _ => 0))))] := hD
  refine va_putF (D := D) (ci := 0) (v := .ref q2) (ty := (.array .long)) (C := zR_Registers) (T := zF_Registers) (N := 4) hx hb ht zi_Registers zt_Registers zt_Registers_ok zn_Registers hown hK hP hD hS 0 rfl rfl 1 (by decide) (ht _ zw_124) (fun _ h9 => h9) rfl hin rfl (by decide +kernel) rfl rfl (Nat.le_of_ble_eq_true rfl) zd_Registers_init_17 (fun H locs hP hD hS => ?_)
  have hP : va_P D vwCl [(h0, .inr (0, [.ref q1, .ref q2, .null, .int 0])), (q1, .inl (kT 1, 24, .inr (.inl (fun _ => 0)))), (q2, .inl (kT 1, 24, .inr (.inl (fun _ => 0))))] H := hP
  have hD : va_D A [(h0, .inr (0, [.ref q1, .ref q2, .null, .int 0])), (q1, .inl (kT 1, 24, .inr (.inl (fun _ => 0)))), (q2, .inl (kT 1, 24, .inr (.inl (fun _ => 0))))] := hD
  refine lv_aload_n hx hb zd_Registers_init_20 rfl (lv_at hl 0 rfl) ?_
  refine lv_bipush (v := 24) hx hb zd_Registers_init_21 (by decide) ?_
  refine zq_newa (D := D) (atype := .boolean) (ty := .boolean) (n := 24) (a0 := (24, .inl (fun _ => 0))) (N' := 24) hx hb (ht _ zw_584) rfl hK hP hD hS hA 2 rfl (fun _ => rfl) (by decide) (by decide) (by decide) (Nat.le_of_ble_eq_true rfl) (Nat.le_of_ble_eq_true rfl) zd_Registers_init_23 (fun q3 H hP hD hS => ?_)
  have hP : va_P D vwCl [(h0, .inr (0, [.ref q1, .ref q2, .null, .int 0])), (q1, .inl (kT 1, 24, .inr (.inl (fun _ => 0)))), (q2, .inl (kT 1, 24, .inr (.inl (fun _ => 0)))), (q3, .inl (kT 2, 24, .inl (fun _ => 0)))] H := hP
  have hD : va_D A [(h0, .inr (0, [.ref q1, .ref q2, .null, .int 0])), (q1, .inl (kT 1, 24, .inr (.inl (fun _ => 0)))), (q2, .inl (kT 1, 24, .inr (.inl (fun _ => 0)))), (q3, .inl (kT 2, 24, .inl (fun _ => 0)))] := hD
  refine va_putF (D := D) (ci := 0) (v := .ref q3) (ty := (.array .boolean)) (C := zR_Registers) (T := zF_Registers) (N := 4) hx hb ht zi_Registers zt_Registers zt_Registers_ok zn_Registers hown hK hP hD hS 0 rfl rfl 2 (by decide) (ht _ zw_123) (fun _ h9 => h9) rfl hin rfl (by decide +kernel) rfl rfl (Nat.le_of_ble_eq_true rfl) zd_Registers_init_25 (fun H locs hP hD hS => ?_)
  have hP : va_P D vwCl [(h0, .inr (0, [.ref q1, .ref q2, .ref q3, .int 0])), (q1, .inl (kT 1, 24, .inr (.inl (fun _ => 0)))), (q2, .inl (kT 1, 24, .inr (.inl (fun _ => 0)))), (q3, .inl (kT 2, 24, .inl (fun _ => 0)))] H := hP
  have hD : va_D A [(h0, .inr (0, [.ref q1, .ref q2, .ref q3, .int 0])), (q1, .inl (kT 1, 24, .inr (.inl (fun _ => 0)))), (q2, .inl (kT 1, 24, .inr (.inl (fun _ => 0)))), (q3, .inl (kT 2, 24, .inl (fun _ => 0)))] := hD
  refine lv_aload_n hx hb zd_Registers_init_28 rfl (lv_at hl 0 rfl) ?_
  refine va_get (D := D) (ci := 0) (v := .ref q1) (C := zR_Registers) (T := zF_Registers) (N := 4) hx hb ht zi_Registers hown hK hP 0 rfl rfl 0 (by decide) (ht _ zw_120) (fun _ h9 => h9) rfl zd_Registers_init_29 ?_
  refine lv_iconst (v := 0) hx hb zd_Registers_init_32 (by decide) ?_
  refine W.ldc2 (v := 65535) hx hb hown (ht _ zw_585) rfl zd_Registers_init_33 ?_
  refine W.eq (g2 := F0 m 36 ls [.long 65535, .int 0, .ref q1]) rfl ?_
  refine zq_a_last (D := D) (j := 0) hx hb hK hP hD hS 1 1 rfl rfl (zq_in (by decide)) (by decide) zd_Registers_init_36 (fun H locs hP hD hS => ?_)
  have hP : va_P D vwCl [(h0, .inr (0, [.ref q1, .ref q2, .ref q3, .int 0])), (q1, .inl (kT 1, 24, .inr (.inl (vp_updL (fun _ => 0) 0 65535)))), (q2, .inl (kT 1, 24, .inr (.inl (fun _ => 0)))), (q3, .inl (kT 2, 24, .inl (fun _ => 0)))] H := hP
  have hD : va_D A [(h0, .inr (0, [.ref q1, .ref q2, .ref q3, .int 0])), (q1, .inl (kT 1, 24, .inr (.inl (vp_updL (fun _ => 0) 0 65535)))), (q2, .inl (kT 1, 24, .inr (.inl (fun _ => 0)))), (q3, .inl (kT 2, 24, .inl (fun _ => 0)))] := hD
  refine lv_aload_n hx hb zd_Registers_init_37 rfl (lv_at hl 0 rfl) ?_
  refine lv_iconst (v := 1) hx hb zd_Registers_init_38 (by decide) ?_
  refine va_put (D := D) (ci := 0) (v := .int 1) (ty := .int) (C := zR_Registers) (T := zF_Registers) (N := 4) hx hb ht zi_Registers zt_Registers zt_Registers_ok zn_Registers hown hK hP hD hS 0 rfl rfl 3 (by decide) (ht _ zw_121) (fun _ h9 => h9) rfl (by decide +kernel) rfl rfl (Nat.le_of_ble_eq_true rfl) zd_Registers_init_39 (fun H locs hP hD hS => ?_)
  have hP : va_P D vwCl [(h0, .inr (0, [.ref q1, .ref q2, .ref q3, .int 1])), (q1, .inl (kT 1, 24, .inr (.inl (vp_updL (fun _ => 0) 0 65535)))), (q2, .inl (kT 1, 24, .inr (.inl (fun _ => 0)))), (q3, .inl (kT 2, 24, .inl (fun _ => 0)))] H := hP
  have hD : va_D A [(h0, .inr (0, [.ref q1, .ref q2, .ref q3, .int 1])), (q1, .inl (kT 1, 24, .inr (.inl (vp_updL (fun _ => 0) 0 65535)))), (q2, .inl (kT 1, 24, .inr (.inl (fun _ => 0)))), (q3, .inl (kT 2, 24, .inl (fun _ => 0)))] := hD
  exact hret _ H locs 42 ls ⟨q1, q2, q3, rfl⟩ hP hD hS zd_Registers_init_42
set_option maxHeartbeats 4000000 in
set_option maxRecDepth 100000 in
theorem c_Bytes_init (l : Launch) (D : va_G) (kT : Nat → ClassId) (h0 : Nat)  : zq_MC l zy_Bytes_init zs_Bytes_init ({ frames := 1, cells := 1, slots := 4096, locals := 12 }) D kT [.ref h0] [(h0, .inr (1, [.null]))] (fun w' => ∃ (q1 : Nat), w' = [(h0, .inr (1, [.ref q1])), (q1, .inl (kT 3, 4096, .inl (fun _ => 0)))]) 1 4096 := by
  refine zq_MC_of (cc := zb_Bytes_init) (maxL := 1) (own := zR_Bytes) (by decide) rfl rfl (Nat.le_of_ble_eq_true rfl) rfl ?_
  intro p e s m AV below meth c A QQ H locs ls hx hb hml hown ht hE hA hin hret hP hD hS hl
  have hK := hE.1
  have hl : lv_has ls 1 [(0, .ref h0)] := hl
  refine lv_aload_n hx hb zd_Bytes_init_0 rfl (lv_at hl 0 rfl) ?_
  refine W.objInit hx hb hown (ht _ zw_586) (ht _ zw_581) (ht _ zw_582) rfl (by rw [hml]; exact hl.1) rfl zd_Bytes_init_1 (Nat.le_of_ble_eq_true rfl) (Nat.le_of_ble_eq_true rfl) ?_
  refine W.eq (g2 := F0 m 4 ls []) rfl ?_
  refine lv_aload_n hx hb zd_Bytes_init_4 rfl (lv_at hl 0 rfl) ?_
  refine lv_sipush (v := 4096) hx hb zd_Bytes_init_5 (by decide) ?_
  refine zq_newa (D := D) (atype := .byte) (ty := .byte) (n := 4096) (a0 := (4096, .inl (fun _ => 0))) (N' := 4096) hx hb (ht _ zw_587) rfl hK hP hD hS hA 3 rfl (fun _ => rfl) (by decide) (by decide) (by decide) (Nat.le_of_ble_eq_true rfl) (Nat.le_of_ble_eq_true rfl) zd_Bytes_init_8 (fun q1 H hP hD hS => ?_)
  have hP : va_P D vwCl [(h0, .inr (1, [.null])), (q1, .inl (kT 3, 4096, .inl (fun _ => 0)))] H := hP
  have hD : va_D A [(h0, .inr (1, [.null])), (q1, .inl (kT 3, 4096, .inl (fun _ => 0)))] := hD
  refine va_putF (D := D) (ci := 1) (v := .ref q1) (ty := (.array .byte)) (C := zR_Bytes) (T := zF_Bytes) (N := 1) hx hb ht zi_Bytes zt_Bytes zt_Bytes_ok zn_Bytes hown hK hP hD hS 0 rfl rfl 0 (by decide) (ht _ zw_136) (fun _ h9 => h9) rfl hin rfl (by decide +kernel) rfl rfl (Nat.le_of_ble_eq_true rfl) zd_Bytes_init_10 (fun H locs hP hD hS => ?_)
  have hP : va_P D vwCl [(h0, .inr (1, [.ref q1])), (q1, .inl (kT 3, 4096, .inl (fun _ => 0)))] H := hP
  have hD : va_D A [(h0, .inr (1, [.ref q1])), (q1, .inl (kT 3, 4096, .inl (fun _ => 0)))] := hD
  exact hret _ H locs 13 ls ⟨q1, rfl⟩ hP hD hS zd_Bytes_init_13
set_option maxHeartbeats 4000000 in
set_option maxRecDepth 100000 in
theorem c_Operands_init (l : Launch) (D : va_G) (kT : Nat → ClassId) (h0 : Nat) (r1 : Nat) : zq_MC l zy_Operands_init zs_Operands_init ({ frames := 1, cells := 4, slots := 64, locals := 12 }) D kT [.ref h0, .ref r1] [(h0, .inr (2, [.null, .null, .null, .null, .null, .int 0, .int 0]))] (fun w' => ∃ (q1 : Nat) (q2 : Nat) (q3 : Nat) (q4 : Nat), w' = [(h0, .inr (2, [.ref r1, .ref q1, .ref q2, .ref q3, .ref q4, .int 0, .int 0])), (q1, .inl (kT 1, 16, .inr (.inl (fun _ => 0)))), (q2, .inl (kT 0, 16, .inl (fun _ => 0))), (q3, .inl (kT 0, 16, .inl (fun _ => 0))), (q4, .inl (kT 2, 16, .inl (fun _ => 0)))]) 4 64 := by
  refine zq_MC_of (cc := zb_Operands_init) (maxL := 2) (own := zR_Operands) (by decide) rfl rfl (Nat.le_of_ble_eq_true rfl) rfl ?_
  intro p e s m AV below meth c A QQ H locs ls hx hb hml hown ht hE hA hin hret hP hD hS hl
  have hK := hE.1
  have hl : lv_has ls 2 [(0, .ref h0), (1, .ref r1)] := hl
  refine lv_aload_n hx hb zd_Operands_init_0 rfl (lv_at hl 0 rfl) ?_
  refine W.objInit hx hb hown (ht _ zw_588) (ht _ zw_581) (ht _ zw_582) rfl (by rw [hml]; exact hl.1) rfl zd_Operands_init_1 (Nat.le_of_ble_eq_true rfl) (Nat.le_of_ble_eq_true rfl) ?_
  refine W.eq (g2 := F0 m 4 ls []) rfl ?_
  refine lv_aload_n hx hb zd_Operands_init_4 rfl (lv_at hl 0 rfl) ?_
  refine lv_bipush (v := 16) hx hb zd_Operands_init_5 (by decide) ?_
  refine zq_newa (D := D) (atype := .long) (ty := .long) (n := 16) (a0 := (16, .inr (.inl (fun _ => 0)))) (N' := 16) hx hb (ht _ zw_583) rfl hK hP hD hS hA 1 rfl (fun _ => rfl) (by decide) (by decide) (by decide) (Nat.le_of_ble_eq_true rfl) (Nat.le_of_ble_eq_true rfl) zd_Operands_init_7 (fun q1 H hP hD hS => ?_)
  have hP : va_P D vwCl [(h0, .inr (2, [.null, .null, .null, .null, .null, .int 0, .int 0])), (q1, .inl (kT 1, 16, .inr (.inl (fun _ => 0))))] H := hP
  have hD : va_D A [(h0, .inr (2, [.null, .null, .null, .null, .null, .int 0, .int 0])), (q1, .inl (kT 1, 16, .inr (.inl (fun _ => 0))))] := hD
  refine va_putF (D := D) (ci := 2) (v := .ref q1) (ty := (.array .long)) (C := zR_Operands) (T := zF_Operands) (N := 7) hx hb ht zi_Operands zt_Operands zt_Operands_ok zn_Operands hown hK hP hD hS 0 rfl rfl 1 (by decide) (ht _ zw_137) (fun _ h9 => h9) rfl hin rfl (by decide +kernel) rfl rfl (Nat.le_of_ble_eq_true rfl) zd_Operands_init_9 (fun H locs hP hD hS => ?_)
  have hP : va_P D vwCl [(h0, .inr (2, [.null, .ref q1, .null, .null, .null, .int 0, .int 0])), (q1, .inl (kT 1, 16, .inr (.inl (fun _ => 0))))] H := hP
  have hD : va_D A [(h0, .inr (2, [.null, .ref q1, .null, .null, .null, .int 0, .int 0])), (q1, .inl (kT 1, 16, .inr (.inl (fun _ => 0))))] := hD
  refine lv_aload_n hx hb zd_Operands_init_12 rfl (lv_at hl 0 rfl) ?_
  refine lv_bipush (v := 16) hx hb zd_Operands_init_13 (by decide) ?_
  refine zq_newa (D := D) (atype := .int) (ty := .int) (n := 16) (a0 := (16, .inl (fun _ => 0))) (N' := 16) hx hb (ht _ zw_589) rfl hK hP hD hS hA 0 rfl (fun _ => rfl) (by decide) (by decide) (by decide) (Nat.le_of_ble_eq_true rfl) (Nat.le_of_ble_eq_true rfl) zd_Operands_init_15 (fun q2 H hP hD hS => ?_)
  have hP : va_P D vwCl [(h0, .inr (2, [.null, .ref q1, .null, .null, .null, .int 0, .int 0])), (q1, .inl (kT 1, 16, .inr (.inl (fun _ => 0)))), (q2, .inl (kT 0, 16, .inl (fun _ => 0)))] H := hP
  have hD : va_D A [(h0, .inr (2, [.null, .ref q1, .null, .null, .null, .int 0, .int 0])), (q1, .inl (kT 1, 16, .inr (.inl (fun _ => 0)))), (q2, .inl (kT 0, 16, .inl (fun _ => 0)))] := hD
  refine va_putF (D := D) (ci := 2) (v := .ref q2) (ty := (.array .int)) (C := zR_Operands) (T := zF_Operands) (N := 7) hx hb ht zi_Operands zt_Operands zt_Operands_ok zn_Operands hown hK hP hD hS 0 rfl rfl 2 (by decide) (ht _ zw_139) (fun _ h9 => h9) rfl hin rfl (by decide +kernel) rfl rfl (Nat.le_of_ble_eq_true rfl) zd_Operands_init_17 (fun H locs hP hD hS => ?_)
  have hP : va_P D vwCl [(h0, .inr (2, [.null, .ref q1, .ref q2, .null, .null, .int 0, .int 0])), (q1, .inl (kT 1, 16, .inr (.inl (fun _ => 0)))), (q2, .inl (kT 0, 16, .inl (fun _ => 0)))] H := hP
  have hD : va_D A [(h0, .inr (2, [.null, .ref q1, .ref q2, .null, .null, .int 0, .int 0])), (q1, .inl (kT 1, 16, .inr (.inl (fun _ => 0)))), (q2, .inl (kT 0, 16, .inl (fun _ => 0)))] := hD
  refine lv_aload_n hx hb zd_Operands_init_20 rfl (lv_at hl 0 rfl) ?_
  refine lv_bipush (v := 16) hx hb zd_Operands_init_21 (by decide) ?_
  refine zq_newa (D := D) (atype := .int) (ty := .int) (n := 16) (a0 := (16, .inl (fun _ => 0))) (N' := 16) hx hb (ht _ zw_589) rfl hK hP hD hS hA 0 rfl (fun _ => rfl) (by decide) (by decide) (by decide) (Nat.le_of_ble_eq_true rfl) (Nat.le_of_ble_eq_true rfl) zd_Operands_init_23 (fun q3 H hP hD hS => ?_)
  have hP : va_P D vwCl [(h0, .inr (2, [.null, .ref q1, .ref q2, .null, .null, .int 0, .int 0])), (q1, .inl (kT 1, 16, .inr (.inl (fun _ => 0)))), (q2, .inl (kT 0, 16, .inl (fun _ => 0))), (q3, .inl (kT 0, 16, .inl (fun _ => 0)))] H := hP
  have hD : va_D A [(h0, .inr (2, [.null, .ref q1, .ref q2, .null, .null, .int 0, .int 0])), (q1, .inl (kT 1, 16, .inr (.inl (fun _ => 0)))), (q2, .inl (kT 0, 16, .inl (fun _ => 0))), (q3, .inl (kT 0, 16, .inl (fun _ => 0)))] := hD
  refine va_putF (D := D) (ci := 2) (v := .ref q3) (ty := (.array .int)) (C := zR_Operands) (T := zF_Operands) (N := 7) hx hb ht zi_Operands zt_Operands zt_Operands_ok zn_Operands hown hK hP hD hS 0 rfl rfl 3 (by decide) (ht _ zw_141) (fun _ h9 => h9) rfl hin rfl (by decide +kernel) rfl rfl (Nat.le_of_ble_eq_true rfl) zd_Operands_init_25 (fun H locs hP hD hS => ?_)
  have hP : va_P D vwCl [(h0, .inr (2, [.null, .ref q1, .ref q2, .ref q3, .null, .int 0, .int 0])), (q1, .inl (kT 1, 16, .inr (.inl (fun _ => 0)))), (q2, .inl (kT 0, 16, .inl (fun _ => 0))), (q3, .inl (kT 0, 16, .inl (fun _ => 0)))] H := hP
  have hD : va_D A [(h0, .inr (2, [.null, .ref q1, .ref q2, .ref q3, .null, .int 0, .int 0])), (q1, .inl (kT 1, 16, .inr (.inl (fun _ => 0)))), (q2, .inl (kT 0, 16, .inl (fun _ => 0))), (q3, .inl (kT 0, 16, .inl (fun _ => 0)))] := hD
  refine lv_aload_n hx hb zd_Operands_init_28 rfl (lv_at hl 0 rfl) ?_
  refine lv_bipush (v := 16) hx hb zd_Operands_init_29 (by decide) ?_
  refine zq_newa (D := D) (atype := .boolean) (ty := .boolean) (n := 16) (a0 := (16, .inl (fun _ => 0))) (N' := 16) hx hb (ht _ zw_584) rfl hK hP hD hS hA 2 rfl (fun _ => rfl) (by decide) (by decide) (by decide) (Nat.le_of_ble_eq_true rfl) (Nat.le_of_ble_eq_true rfl) zd_Operands_init_31 (fun q4 H hP hD hS => ?_)
  have hP : va_P D vwCl [(h0, .inr (2, [.null, .ref q1, .ref q2, .ref q3, .null, .int 0, .int 0])), (q1, .inl (kT 1, 16, .inr (.inl (fun _ => 0)))), (q2, .inl (kT 0, 16, .inl (fun _ => 0))), (q3, .inl (kT 0, 16, .inl (fun _ => 0))), (q4, .inl (kT 2, 16, .inl (fun _ => 0)))] H := hP
  have hD : va_D A [(h0, .inr (2, [.null, .ref q1, .ref q2, .ref q3, .null, .int 0, .int 0])), (q1, .inl (kT 1, 16, .inr (.inl (fun _ => 0)))), (q2, .inl (kT 0, 16, .inl (fun _ => 0))), (q3, .inl (kT 0, 16, .inl (fun _ => 0))), (q4, .inl (kT 2, 16, .inl (fun _ => 0)))] := hD
  refine va_putF (D := D) (ci := 2) (v := .ref q4) (ty := (.array .boolean)) (C := zR_Operands) (T := zF_Operands) (N := 7) hx hb ht zi_Operands zt_Operands zt_Operands_ok zn_Operands hown hK hP hD hS 0 rfl rfl 4 (by decide) (ht _ zw_142) (fun _ h9 => h9) rfl hin rfl (by decide +kernel) rfl rfl (Nat.le_of_ble_eq_true rfl) zd_Operands_init_33 (fun H locs hP hD hS => ?_)
  have hP : va_P D vwCl [(h0, .inr (2, [.null, .ref q1, .ref q2, .ref q3, .ref q4, .int 0, .int 0])), (q1, .inl (kT 1, 16, .inr (.inl (fun _ => 0)))), (q2, .inl (kT 0, 16, .inl (fun _ => 0))), (q3, .inl (kT 0, 16, .inl (fun _ => 0))), (q4, .inl (kT 2, 16, .inl (fun _ => 0)))] H := hP
  have hD : va_D A [(h0, .inr (2, [.null, .ref q1, .ref q2, .ref q3, .ref q4, .int 0, .int 0])), (q1, .inl (kT 1, 16, .inr (.inl (fun _ => 0)))), (q2, .inl (kT 0, 16, .inl (fun _ => 0))), (q3, .inl (kT 0, 16, .inl (fun _ => 0))), (q4, .inl (kT 2, 16, .inl (fun _ => 0)))] := hD
  refine lv_aload_n hx hb zd_Operands_init_36 rfl (lv_at hl 0 rfl) ?_
  refine lv_aload_n hx hb zd_Operands_init_37 rfl (lv_at hl 1 rfl) ?_
  refine va_putF (D := D) (ci := 2) (v := .ref r1) (ty := (.object "PlainSteps$Registers")) (C := zR_Operands) (T := zF_Operands) (N := 7) hx hb ht zi_Operands zt_Operands zt_Operands_ok zn_Operands hown hK hP hD hS 0 rfl rfl 0 (by decide) (ht _ zw_143) (fun _ h9 => h9) rfl hin rfl (by decide +kernel) rfl rfl (Nat.le_of_ble_eq_true rfl) zd_Operands_init_38 (fun H locs hP hD hS => ?_)
  have hP : va_P D vwCl [(h0, .inr (2, [.ref r1, .ref q1, .ref q2, .ref q3, .ref q4, .int 0, .int 0])), (q1, .inl (kT 1, 16, .inr (.inl (fun _ => 0)))), (q2, .inl (kT 0, 16, .inl (fun _ => 0))), (q3, .inl (kT 0, 16, .inl (fun _ => 0))), (q4, .inl (kT 2, 16, .inl (fun _ => 0)))] H := hP
  have hD : va_D A [(h0, .inr (2, [.ref r1, .ref q1, .ref q2, .ref q3, .ref q4, .int 0, .int 0])), (q1, .inl (kT 1, 16, .inr (.inl (fun _ => 0)))), (q2, .inl (kT 0, 16, .inl (fun _ => 0))), (q3, .inl (kT 0, 16, .inl (fun _ => 0))), (q4, .inl (kT 2, 16, .inl (fun _ => 0)))] := hD
  exact hret _ H locs 41 ls ⟨q1, q2, q3, q4, rfl⟩ hP hD hS zd_Operands_init_41
set_option maxHeartbeats 4000000 in
set_option maxRecDepth 100000 in
theorem c_Program_init (l : Launch) (D : va_G) (kT : Nat → ClassId) (h0 : Nat)  : zq_MC l zy_Program_init zs_Program_init ({ frames := 1, cells := 9, slots := 1000, locals := 12 }) D kT [.ref h0] [(h0, .inr (3, [.null, .null, .null, .null, .int 0, .null, .null, .null, .null, .null, .int 0]))] (fun w' => ∃ (q1 : Nat) (q2 : Nat) (q3 : Nat) (q4 : Nat) (q5 : Nat) (q6 : Nat) (q7 : Nat) (q8 : Nat) (q9 : Nat), w' = [(h0, .inr (3, [.ref q1, .ref q2, .ref q3, .ref q4, .int 0, .ref q5, .ref q6, .ref q7, .ref q8, .ref q9, .int 0])), (q1, .inl (kT 0, 200, .inl (fun _ => 0))), (q2, .inl (kT 0, 200, .inl (fun _ => 0))), (q3, .inl (kT 0, 200, .inl (fun _ => 0))), (q4, .inl (kT 0, 200, .inl (fun _ => 0))), (q5, .inl (kT 0, 40, .inl (fun _ => 0))), (q6, .inl (kT 0, 40, .inl (fun _ => 0))), (q7, .inl (kT 0, 40, .inl (fun _ => 0))), (q8, .inl (kT 0, 40, .inl (fun _ => 0))), (q9, .inl (kT 0, 40, .inl (fun _ => 0)))]) 9 1000 := by
  refine zq_MC_of (cc := zb_Program_init) (maxL := 1) (own := zR_Program) (by decide) rfl rfl (Nat.le_of_ble_eq_true rfl) rfl ?_
  intro p e s m AV below meth c A QQ H locs ls hx hb hml hown ht hE hA hin hret hP hD hS hl
  have hK := hE.1
  have hl : lv_has ls 1 [(0, .ref h0)] := hl
  refine lv_aload_n hx hb zd_Program_init_0 rfl (lv_at hl 0 rfl) ?_
  refine W.objInit hx hb hown (ht _ zw_590) (ht _ zw_581) (ht _ zw_582) rfl (by rw [hml]; exact hl.1) rfl zd_Program_init_1 (Nat.le_of_ble_eq_true rfl) (Nat.le_of_ble_eq_true rfl) ?_
  refine W.eq (g2 := F0 m 4 ls []) rfl ?_
  refine lv_aload_n hx hb zd_Program_init_4 rfl (lv_at hl 0 rfl) ?_
  refine lv_sipush (v := 200) hx hb zd_Program_init_5 (by decide) ?_
  refine zq_newa (D := D) (atype := .int) (ty := .int) (n := 200) (a0 := (200, .inl (fun _ => 0))) (N' := 200) hx hb (ht _ zw_589) rfl hK hP hD hS hA 0 rfl (fun _ => rfl) (by decide) (by decide) (by decide) (Nat.le_of_ble_eq_true rfl) (Nat.le_of_ble_eq_true rfl) zd_Program_init_8 (fun q1 H hP hD hS => ?_)
  have hP : va_P D vwCl [(h0, .inr (3, [.null, .null, .null, .null, .int 0, .null, .null, .null, .null, .null, .int 0])), (q1, .inl (kT 0, 200, .inl (fun _ => 0)))] H := hP
  have hD : va_D A [(h0, .inr (3, [.null, .null, .null, .null, .int 0, .null, .null, .null, .null, .null, .int 0])), (q1, .inl (kT 0, 200, .inl (fun _ => 0)))] := hD
  refine va_putF (D := D) (ci := 3) (v := .ref q1) (ty := (.array .int)) (C := zR_Program) (T := zF_Program) (N := 11) hx hb ht zi_Program zt_Program zt_Program_ok zn_Program hown hK hP hD hS 0 rfl rfl 0 (by decide) (ht _ zw_161) (fun _ h9 => h9) rfl hin rfl (by decide +kernel) rfl rfl (Nat.le_of_ble_eq_true rfl) zd_Program_init_10 (fun H locs hP hD hS => ?_)
  have hP : va_P D vwCl [(h0, .inr (3, [.ref q1, .null, .null, .null, .int 0, .null, .null, .null, .null, .null, .int 0])), (q1, .inl (kT 0, 200, .inl (fun _ => 0)))] H := hP
  have hD : va_D A [(h0, .inr (3, [.ref q1, .null, .null, .null, .int 0, .null, .null, .null, .null, .null, .int 0])), (q1, .inl (kT 0, 200, .inl (fun _ => 0)))] := hD
  refine lv_aload_n hx hb zd_Program_init_13 rfl (lv_at hl 0 rfl) ?_
  refine lv_sipush (v := 200) hx hb zd_Program_init_14 (by decide) ?_
  refine zq_newa (D := D) (atype := .int) (ty := .int) (n := 200) (a0 := (200, .inl (fun _ => 0))) (N' := 200) hx hb (ht _ zw_589) rfl hK hP hD hS hA 0 rfl (fun _ => rfl) (by decide) (by decide) (by decide) (Nat.le_of_ble_eq_true rfl) (Nat.le_of_ble_eq_true rfl) zd_Program_init_17 (fun q2 H hP hD hS => ?_)
  have hP : va_P D vwCl [(h0, .inr (3, [.ref q1, .null, .null, .null, .int 0, .null, .null, .null, .null, .null, .int 0])), (q1, .inl (kT 0, 200, .inl (fun _ => 0))), (q2, .inl (kT 0, 200, .inl (fun _ => 0)))] H := hP
  have hD : va_D A [(h0, .inr (3, [.ref q1, .null, .null, .null, .int 0, .null, .null, .null, .null, .null, .int 0])), (q1, .inl (kT 0, 200, .inl (fun _ => 0))), (q2, .inl (kT 0, 200, .inl (fun _ => 0)))] := hD
  refine va_putF (D := D) (ci := 3) (v := .ref q2) (ty := (.array .int)) (C := zR_Program) (T := zF_Program) (N := 11) hx hb ht zi_Program zt_Program zt_Program_ok zn_Program hown hK hP hD hS 0 rfl rfl 1 (by decide) (ht _ zw_163) (fun _ h9 => h9) rfl hin rfl (by decide +kernel) rfl rfl (Nat.le_of_ble_eq_true rfl) zd_Program_init_19 (fun H locs hP hD hS => ?_)
  have hP : va_P D vwCl [(h0, .inr (3, [.ref q1, .ref q2, .null, .null, .int 0, .null, .null, .null, .null, .null, .int 0])), (q1, .inl (kT 0, 200, .inl (fun _ => 0))), (q2, .inl (kT 0, 200, .inl (fun _ => 0)))] H := hP
  have hD : va_D A [(h0, .inr (3, [.ref q1, .ref q2, .null, .null, .int 0, .null, .null, .null, .null, .null, .int 0])), (q1, .inl (kT 0, 200, .inl (fun _ => 0))), (q2, .inl (kT 0, 200, .inl (fun _ => 0)))] := hD
  refine lv_aload_n hx hb zd_Program_init_22 rfl (lv_at hl 0 rfl) ?_
  refine lv_sipush (v := 200) hx hb zd_Program_init_23 (by decide) ?_
  refine zq_newa (D := D) (atype := .int) (ty := .int) (n := 200) (a0 := (200, .inl (fun _ => 0))) (N' := 200) hx hb (ht _ zw_589) rfl hK hP hD hS hA 0 rfl (fun _ => rfl) (by decide) (by decide) (by decide) (Nat.le_of_ble_eq_true rfl) (Nat.le_of_ble_eq_true rfl) zd_Program_init_26 (fun q3 H hP hD hS => ?_)
  have hP : va_P D vwCl [(h0, .inr (3, [.ref q1, .ref q2, .null, .null, .int 0, .null, .null, .null, .null, .null, .int 0])), (q1, .inl (kT 0, 200, .inl (fun _ => 0))), (q2, .inl (kT 0, 200, .inl (fun _ => 0))), (q3, .inl (kT 0, 200, .inl (fun _ => 0)))] H := hP
  have hD : va_D A [(h0, .inr (3, [.ref q1, .ref q2, .null, .null, .int 0, .null, .null, .null, .null, .null, .int 0])), (q1, .inl (kT 0, 200, .inl (fun _ => 0))), (q2, .inl (kT 0, 200, .inl (fun _ => 0))), (q3, .inl (kT 0, 200, .inl (fun _ => 0)))] := hD
  refine va_putF (D := D) (ci := 3) (v := .ref q3) (ty := (.array .int)) (C := zR_Program) (T := zF_Program) (N := 11) hx hb ht zi_Program zt_Program zt_Program_ok zn_Program hown hK hP hD hS 0 rfl rfl 2 (by decide) (ht _ zw_164) (fun _ h9 => h9) rfl hin rfl (by decide +kernel) rfl rfl (Nat.le_of_ble_eq_true rfl) zd_Program_init_28 (fun H locs hP hD hS => ?_)
  have hP : va_P D vwCl [(h0, .inr (3, [.ref q1, .ref q2, .ref q3, .null, .int 0, .null, .null, .null, .null, .null, .int 0])), (q1, .inl (kT 0, 200, .inl (fun _ => 0))), (q2, .inl (kT 0, 200, .inl (fun _ => 0))), (q3, .inl (kT 0, 200, .inl (fun _ => 0)))] H := hP
  have hD : va_D A [(h0, .inr (3, [.ref q1, .ref q2, .ref q3, .null, .int 0, .null, .null, .null, .null, .null, .int 0])), (q1, .inl (kT 0, 200, .inl (fun _ => 0))), (q2, .inl (kT 0, 200, .inl (fun _ => 0))), (q3, .inl (kT 0, 200, .inl (fun _ => 0)))] := hD
  refine lv_aload_n hx hb zd_Program_init_31 rfl (lv_at hl 0 rfl) ?_
  refine lv_sipush (v := 200) hx hb zd_Program_init_32 (by decide) ?_
  refine zq_newa (D := D) (atype := .int) (ty := .int) (n := 200) (a0 := (200, .inl (fun _ => 0))) (N' := 200) hx hb (ht _ zw_589) rfl hK hP hD hS hA 0 rfl (fun _ => rfl) (by decide) (by decide) (by decide) (Nat.le_of_ble_eq_true rfl) (Nat.le_of_ble_eq_true rfl) zd_Program_init_35 (fun q4 H hP hD hS => ?_)
  have hP : va_P D vwCl [(h0, .inr (3, [.ref q1, .ref q2, .ref q3, .null, .int 0, .null, .null, .null, .null, .null, .int 0])), (q1, .inl (kT 0, 200, .inl (fun _ => 0))), (q2, .inl (kT 0, 200, .inl (fun _ => 0))), (q3, .inl (kT 0, 200, .inl (fun _ => 0))), (q4, .inl (kT 0, 200, .inl (fun _ => 0)))] H := hP
  have hD : va_D A [(h0, .inr (3, [.ref q1, .ref q2, .ref q3, .null, .int 0, .null, .null, .null, .null, .null, .int 0])), (q1, .inl (kT 0, 200, .inl (fun _ => 0))), (q2, .inl (kT 0, 200, .inl (fun _ => 0))), (q3, .inl (kT 0, 200, .inl (fun _ => 0))), (q4, .inl (kT 0, 200, .inl (fun _ => 0)))] := hD
  refine va_putF (D := D) (ci := 3) (v := .ref q4) (ty := (.array .int)) (C := zR_Program) (T := zF_Program) (N := 11) hx hb ht zi_Program zt_Program zt_Program_ok zn_Program hown hK hP hD hS 0 rfl rfl 3 (by decide) (ht _ zw_165) (fun _ h9 => h9) rfl hin rfl (by decide +kernel) rfl rfl (Nat.le_of_ble_eq_true rfl) zd_Program_init_37 (fun H locs hP hD hS => ?_)
  have hP : va_P D vwCl [(h0, .inr (3, [.ref q1, .ref q2, .ref q3, .ref q4, .int 0, .null, .null, .null, .null, .null, .int 0])), (q1, .inl (kT 0, 200, .inl (fun _ => 0))), (q2, .inl (kT 0, 200, .inl (fun _ => 0))), (q3, .inl (kT 0, 200, .inl (fun _ => 0))), (q4, .inl (kT 0, 200, .inl (fun _ => 0)))] H := hP
  have hD : va_D A [(h0, .inr (3, [.ref q1, .ref q2, .ref q3, .ref q4, .int 0, .null, .null, .null, .null, .null, .int 0])), (q1, .inl (kT 0, 200, .inl (fun _ => 0))), (q2, .inl (kT 0, 200, .inl (fun _ => 0))), (q3, .inl (kT 0, 200, .inl (fun _ => 0))), (q4, .inl (kT 0, 200, .inl (fun _ => 0)))] := hD
  refine lv_aload_n hx hb zd_Program_init_40 rfl (lv_at hl 0 rfl) ?_
  refine lv_bipush (v := 40) hx hb zd_Program_init_41 (by decide) ?_
  refine zq_newa (D := D) (atype := .int) (ty := .int) (n := 40) (a0 := (40, .inl (fun _ => 0))) (N' := 40) hx hb (ht _ zw_589) rfl hK hP hD hS hA 0 rfl (fun _ => rfl) (by decide) (by decide) (by decide) (Nat.le_of_ble_eq_true rfl) (Nat.le_of_ble_eq_true rfl) zd_Program_init_43 (fun q5 H hP hD hS => ?_)
  have hP : va_P D vwCl [(h0, .inr (3, [.ref q1, .ref q2, .ref q3, .ref q4, .int 0, .null, .null, .null, .null, .null, .int 0])), (q1, .inl (kT 0, 200, .inl (fun _ => 0))), (q2, .inl (kT 0, 200, .inl (fun _ => 0))), (q3, .inl (kT 0, 200, .inl (fun _ => 0))), (q4, .inl (kT 0, 200, .inl (fun _ => 0))), (q5, .inl (kT 0, 40, .inl (fun _ => 0)))] H := hP
  have hD : va_D A [(h0, .inr (3, [.ref q1, .ref q2, .ref q3, .ref q4, .int 0, .null, .null, .null, .null, .null, .int 0])), (q1, .inl (kT 0, 200, .inl (fun _ => 0))), (q2, .inl (kT 0, 200, .inl (fun _ => 0))), (q3, .inl (kT 0, 200, .inl (fun _ => 0))), (q4, .inl (kT 0, 200, .inl (fun _ => 0))), (q5, .inl (kT 0, 40, .inl (fun _ => 0)))] := hD
  refine va_putF (D := D) (ci := 3) (v := .ref q5) (ty := (.array .int)) (C := zR_Program) (T := zF_Program) (N := 11) hx hb ht zi_Program zt_Program zt_Program_ok zn_Program hown hK hP hD hS 0 rfl rfl 5 (by decide) (ht _ zw_166) (fun _ h9 => h9) rfl hin rfl (by decide +kernel) rfl rfl (Nat.le_of_ble_eq_true rfl) zd_Program_init_45 (fun H locs hP hD hS => ?_)
  have hP : va_P D vwCl [(h0, .inr (3, [.ref q1, .ref q2, .ref q3, .ref q4, .int 0, .ref q5, .null, .null, .null, .null, .int 0])), (q1, .inl (kT 0, 200, .inl (fun _ => 0))), (q2, .inl (kT 0, 200, .inl (fun _ => 0))), (q3, .inl (kT 0, 200, .inl (fun _ => 0))), (q4, .inl (kT 0, 200, .inl (fun _ => 0))), (q5, .inl (kT 0, 40, .inl (fun _ => 0)))] H := hP
  have hD : va_D A [(h0, .inr (3, [.ref q1, .ref q2, .ref q3, .ref q4, .int 0, .ref q5, .null, .null, .null, .null, .int 0])), (q1, .inl (kT 0, 200, .inl (fun _ => 0))), (q2, .inl (kT 0, 200, .inl (fun _ => 0))), (q3, .inl (kT 0, 200, .inl (fun _ => 0))), (q4, .inl (kT 0, 200, .inl (fun _ => 0))), (q5, .inl (kT 0, 40, .inl (fun _ => 0)))] := hD
  refine lv_aload_n hx hb zd_Program_init_48 rfl (lv_at hl 0 rfl) ?_
  refine lv_bipush (v := 40) hx hb zd_Program_init_49 (by decide) ?_
  refine zq_newa (D := D) (atype := .int) (ty := .int) (n := 40) (a0 := (40, .inl (fun _ => 0))) (N' := 40) hx hb (ht _ zw_589) rfl hK hP hD hS hA 0 rfl (fun _ => rfl) (by decide) (by decide) (by decide) (Nat.le_of_ble_eq_true rfl) (Nat.le_of_ble_eq_true rfl) zd_Program_init_51 (fun q6 H hP hD hS => ?_)
  have hP : va_P D vwCl [(h0, .inr (3, [.ref q1, .ref q2, .ref q3, .ref q4, .int 0, .ref q5, .null, .null, .null, .null, .int 0])), (q1, .inl (kT 0, 200, .inl (fun _ => 0))), (q2, .inl (kT 0, 200, .inl (fun _ => 0))), (q3, .inl (kT 0, 200, .inl (fun _ => 0))), (q4, .inl (kT 0, 200, .inl (fun _ => 0))), (q5, .inl (kT 0, 40, .inl (fun _ => 0))), (q6, .inl (kT 0, 40, .inl (fun _ => 0)))] H := hP
  have hD : va_D A [(h0, .inr (3, [.ref q1, .ref q2, .ref q3, .ref q4, .int 0, .ref q5, .null, .null, .null, .null, .int 0])), (q1, .inl (kT 0, 200, .inl (fun _ => 0))), (q2, .inl (kT 0, 200, .inl (fun _ => 0))), (q3, .inl (kT 0, 200, .inl (fun _ => 0))), (q4, .inl (kT 0, 200, .inl (fun _ => 0))), (q5, .inl (kT 0, 40, .inl (fun _ => 0))), (q6, .inl (kT 0, 40, .inl (fun _ => 0)))] := hD
  refine va_putF (D := D) (ci := 3) (v := .ref q6) (ty := (.array .int)) (C := zR_Program) (T := zF_Program) (N := 11) hx hb ht zi_Program zt_Program zt_Program_ok zn_Program hown hK hP hD hS 0 rfl rfl 6 (by decide) (ht _ zw_168) (fun _ h9 => h9) rfl hin rfl (by decide +kernel) rfl rfl (Nat.le_of_ble_eq_true rfl) zd_Program_init_53 (fun H locs hP hD hS => ?_)
  have hP : va_P D vwCl [(h0, .inr (3, [.ref q1, .ref q2, .ref q3, .ref q4, .int 0, .ref q5, .ref q6, .null, .null, .null, .int 0])), (q1, .inl (kT 0, 200, .inl (fun _ => 0))), (q2, .inl (kT 0, 200, .inl (fun _ => 0))), (q3, .inl (kT 0, 200, .inl (fun _ => 0))), (q4, .inl (kT 0, 200, .inl (fun _ => 0))), (q5, .inl (kT 0, 40, .inl (fun _ => 0))), (q6, .inl (kT 0, 40, .inl (fun _ => 0)))] H := hP
  have hD : va_D A [(h0, .inr (3, [.ref q1, .ref q2, .ref q3, .ref q4, .int 0, .ref q5, .ref q6, .null, .null, .null, .int 0])), (q1, .inl (kT 0, 200, .inl (fun _ => 0))), (q2, .inl (kT 0, 200, .inl (fun _ => 0))), (q3, .inl (kT 0, 200, .inl (fun _ => 0))), (q4, .inl (kT 0, 200, .inl (fun _ => 0))), (q5, .inl (kT 0, 40, .inl (fun _ => 0))), (q6, .inl (kT 0, 40, .inl (fun _ => 0)))] := hD
  refine lv_aload_n hx hb zd_Program_init_56 rfl (lv_at hl 0 rfl) ?_
  refine lv_bipush (v := 40) hx hb zd_Program_init_57 (by decide) ?_
  refine zq_newa (D := D) (atype := .int) (ty := .int) (n := 40) (a0 := (40, .inl (fun _ => 0))) (N' := 40) hx hb (ht _ zw_589) rfl hK hP hD hS hA 0 rfl (fun _ => rfl) (by decide) (by decide) (by decide) (Nat.le_of_ble_eq_true rfl) (Nat.le_of_ble_eq_true rfl) zd_Program_init_59 (fun q7 H hP hD hS => ?_)
  have hP : va_P D vwCl [(h0, .inr (3, [.ref q1, .ref q2, .ref q3, .ref q4, .int 0, .ref q5, .ref q6, .null, .null, .null, .int 0])), (q1, .inl (kT 0, 200, .inl (fun _ => 0))), (q2, .inl (kT 0, 200, .inl (fun _ => 0))), (q3, .inl (kT 0, 200, .inl (fun _ => 0))), (q4, .inl (kT 0, 200, .inl (fun _ => 0))), (q5, .inl (kT 0, 40, .inl (fun _ => 0))), (q6, .inl (kT 0, 40, .inl (fun _ => 0))), (q7, .inl (kT 0, 40, .inl (fun _ => 0)))] H := hP
  have hD : va_D A [(h0, .inr (3, [.ref q1, .ref q2, .ref q3, .ref q4, .int 0, .ref q5, .ref q6, .null, .null, .null, .int 0])), (q1, .inl (kT 0, 200, .inl (fun _ => 0))), (q2, .inl (kT 0, 200, .inl (fun _ => 0))), (q3, .inl (kT 0, 200, .inl (fun _ => 0))), (q4, .inl (kT 0, 200, .inl (fun _ => 0))), (q5, .inl (kT 0, 40, .inl (fun _ => 0))), (q6, .inl (kT 0, 40, .inl (fun _ => 0))), (q7, .inl (kT 0, 40, .inl (fun _ => 0)))] := hD
  refine va_putF (D := D) (ci := 3) (v := .ref q7) (ty := (.array .int)) (C := zR_Program) (T := zF_Program) (N := 11) hx hb ht zi_Program zt_Program zt_Program_ok zn_Program hown hK hP hD hS 0 rfl rfl 7 (by decide) (ht _ zw_169) (fun _ h9 => h9) rfl hin rfl (by decide +kernel) rfl rfl (Nat.le_of_ble_eq_true rfl) zd_Program_init_61 (fun H locs hP hD hS => ?_)
  have hP : va_P D vwCl [(h0, .inr (3, [.ref q1, .ref q2, .ref q3, .ref q4, .int 0, .ref q5, .ref q6, .ref q7, .null, .null, .int 0])), (q1, .inl (kT 0, 200, .inl (fun _ => 0))), (q2, .inl (kT 0, 200, .inl (fun _ => 0))), (q3, .inl (kT 0, 200, .inl (fun _ => 0))), (q4, .inl (kT 0, 200, .inl (fun _ => 0))), (q5, .inl (kT 0, 40, .inl (fun _ => 0))), (q6, .inl (kT 0, 40, .inl (fun _ => 0))), (q7, .inl (kT 0, 40, .inl (fun _ => 0)))] H := hP
  have hD : va_D A [(h0, .inr (3, [.ref q1, .ref q2, .ref q3, .ref q4, .int 0, .ref q5, .ref q6, .ref q7, .null, .null, .int 0])), (q1, .inl (kT 0, 200, .inl (fun _ => 0))), (q2, .inl (kT 0, 200, .inl (fun _ => 0))), (q3, .inl (kT 0, 200, .inl (fun _ => 0))), (q4, .inl (kT 0, 200, .inl (fun _ => 0))), (q5, .inl (kT 0, 40, .inl (fun _ => 0))), (q6, .inl (kT 0, 40, .inl (fun _ => 0))), (q7, .inl (kT 0, 40, .inl (fun _ => 0)))] := hD
  refine lv_aload_n hx hb zd_Program_init_64 rfl (lv_at hl 0 rfl) ?_
  refine lv_bipush (v := 40) hx hb zd_Program_init_65 (by decide) ?_
  refine zq_newa (D := D) (atype := .int) (ty := .int) (n := 40) (a0 := (40, .inl (fun _ => 0))) (N' := 40) hx hb (ht _ zw_589) rfl hK hP hD hS hA 0 rfl (fun _ => rfl) (by decide) (by decide) (by decide) (Nat.le_of_ble_eq_true rfl) (Nat.le_of_ble_eq_true rfl) zd_Program_init_67 (fun q8 H hP hD hS => ?_)
  have hP : va_P D vwCl [(h0, .inr (3, [.ref q1, .ref q2, .ref q3, .ref q4, .int 0, .ref q5, .ref q6, .ref q7, .null, .null, .int 0])), (q1, .inl (kT 0, 200, .inl (fun _ => 0))), (q2, .inl (kT 0, 200, .inl (fun _ => 0))), (q3, .inl (kT 0, 200, .inl (fun _ => 0))), (q4, .inl (kT 0, 200, .inl (fun _ => 0))), (q5, .inl (kT 0, 40, .inl (fun _ => 0))), (q6, .inl (kT 0, 40, .inl (fun _ => 0))), (q7, .inl (kT 0, 40, .inl (fun _ => 0))), (q8, .inl (kT 0, 40, .inl (fun _ => 0)))] H := hP
  have hD : va_D A [(h0, .inr (3, [.ref q1, .ref q2, .ref q3, .ref q4, .int 0, .ref q5, .ref q6, .ref q7, .null, .null, .int 0])), (q1, .inl (kT 0, 200, .inl (fun _ => 0))), (q2, .inl (kT 0, 200, .inl (fun _ => 0))), (q3, .inl (kT 0, 200, .inl (fun _ => 0))), (q4, .inl (kT 0, 200, .inl (fun _ => 0))), (q5, .inl (kT 0, 40, .inl (fun _ => 0))), (q6, .inl (kT 0, 40, .inl (fun _ => 0))), (q7, .inl (kT 0, 40, .inl (fun _ => 0))), (q8, .inl (kT 0, 40, .inl (fun _ => 0)))] := hD
  refine va_putF (D := D) (ci := 3) (v := .ref q8) (ty := (.array .int)) (C := zR_Program) (T := zF_Program) (N := 11) hx hb ht zi_Program zt_Program zt_Program_ok zn_Program hown hK hP hD hS 0 rfl rfl 8 (by decide) (ht _ zw_170) (fun _ h9 => h9) rfl hin rfl (by decide +kernel) rfl rfl (Nat.le_of_ble_eq_true rfl) zd_Program_init_69 (fun H locs hP hD hS => ?_)
  have hP : va_P D vwCl [(h0, .inr (3, [.ref q1, .ref q2, .ref q3, .ref q4, .int 0, .ref q5, .ref q6, .ref q7, .ref q8, .null, .int 0])), (q1, .inl (kT 0, 200, .inl (fun _ => 0))), (q2, .inl (kT 0, 200, .inl (fun _ => 0))), (q3, .inl (kT 0, 200, .inl (fun _ => 0))), (q4, .inl (kT 0, 200, .inl (fun _ => 0))), (q5, .inl (kT 0, 40, .inl (fun _ => 0))), (q6, .inl (kT 0, 40, .inl (fun _ => 0))), (q7, .inl (kT 0, 40, .inl (fun _ => 0))), (q8, .inl (kT 0, 40, .inl (fun _ => 0)))] H := hP
  have hD : va_D A [(h0, .inr (3, [.ref q1, .ref q2, .ref q3, .ref q4, .int 0, .ref q5, .ref q6, .ref q7, .ref q8, .null, .int 0])), (q1, .inl (kT 0, 200, .inl (fun _ => 0))), (q2, .inl (kT 0, 200, .inl (fun _ => 0))), (q3, .inl (kT 0, 200, .inl (fun _ => 0))), (q4, .inl (kT 0, 200, .inl (fun _ => 0))), (q5, .inl (kT 0, 40, .inl (fun _ => 0))), (q6, .inl (kT 0, 40, .inl (fun _ => 0))), (q7, .inl (kT 0, 40, .inl (fun _ => 0))), (q8, .inl (kT 0, 40, .inl (fun _ => 0)))] := hD
  refine lv_aload_n hx hb zd_Program_init_72 rfl (lv_at hl 0 rfl) ?_
  refine lv_bipush (v := 40) hx hb zd_Program_init_73 (by decide) ?_
  refine zq_newa (D := D) (atype := .int) (ty := .int) (n := 40) (a0 := (40, .inl (fun _ => 0))) (N' := 40) hx hb (ht _ zw_589) rfl hK hP hD hS hA 0 rfl (fun _ => rfl) (by decide) (by decide) (by decide) (Nat.le_of_ble_eq_true rfl) (Nat.le_of_ble_eq_true rfl) zd_Program_init_75 (fun q9 H hP hD hS => ?_)
  have hP : va_P D vwCl [(h0, .inr (3, [.ref q1, .ref q2, .ref q3, .ref q4, .int 0, .ref q5, .ref q6, .ref q7, .ref q8, .null, .int 0])), (q1, .inl (kT 0, 200, .inl (fun _ => 0))), (q2, .inl (kT 0, 200, .inl (fun _ => 0))), (q3, .inl (kT 0, 200, .inl (fun _ => 0))), (q4, .inl (kT 0, 200, .inl (fun _ => 0))), (q5, .inl (kT 0, 40, .inl (fun _ => 0))), (q6, .inl (kT 0, 40, .inl (fun _ => 0))), (q7, .inl (kT 0, 40, .inl (fun _ => 0))), (q8, .inl (kT 0, 40, .inl (fun _ => 0))), (q9, .inl (kT 0, 40, .inl (fun _ => 0)))] H := hP
  have hD : va_D A [(h0, .inr (3, [.ref q1, .ref q2, .ref q3, .ref q4, .int 0, .ref q5, .ref q6, .ref q7, .ref q8, .null, .int 0])), (q1, .inl (kT 0, 200, .inl (fun _ => 0))), (q2, .inl (kT 0, 200, .inl (fun _ => 0))), (q3, .inl (kT 0, 200, .inl (fun _ => 0))), (q4, .inl (kT 0, 200, .inl (fun _ => 0))), (q5, .inl (kT 0, 40, .inl (fun _ => 0))), (q6, .inl (kT 0, 40, .inl (fun _ => 0))), (q7, .inl (kT 0, 40, .inl (fun _ => 0))), (q8, .inl (kT 0, 40, .inl (fun _ => 0))), (q9, .inl (kT 0, 40, .inl (fun _ => 0)))] := hD
  refine va_putF (D := D) (ci := 3) (v := .ref q9) (ty := (.array .int)) (C := zR_Program) (T := zF_Program) (N := 11) hx hb ht zi_Program zt_Program zt_Program_ok zn_Program hown hK hP hD hS 0 rfl rfl 9 (by decide) (ht _ zw_171) (fun _ h9 => h9) rfl hin rfl (by decide +kernel) rfl rfl (Nat.le_of_ble_eq_true rfl) zd_Program_init_77 (fun H locs hP hD hS => ?_)
  have hP : va_P D vwCl [(h0, .inr (3, [.ref q1, .ref q2, .ref q3, .ref q4, .int 0, .ref q5, .ref q6, .ref q7, .ref q8, .ref q9, .int 0])), (q1, .inl (kT 0, 200, .inl (fun _ => 0))), (q2, .inl (kT 0, 200, .inl (fun _ => 0))), (q3, .inl (kT 0, 200, .inl (fun _ => 0))), (q4, .inl (kT 0, 200, .inl (fun _ => 0))), (q5, .inl (kT 0, 40, .inl (fun _ => 0))), (q6, .inl (kT 0, 40, .inl (fun _ => 0))), (q7, .inl (kT 0, 40, .inl (fun _ => 0))), (q8, .inl (kT 0, 40, .inl (fun _ => 0))), (q9, .inl (kT 0, 40, .inl (fun _ => 0)))] H := hP
  have hD : va_D A [(h0, .inr (3, [.ref q1, .ref q2, .ref q3, .ref q4, .int 0, .ref q5, .ref q6, .ref q7, .ref q8, .ref q9, .int 0])), (q1, .inl (kT 0, 200, .inl (fun _ => 0))), (q2, .inl (kT 0, 200, .inl (fun _ => 0))), (q3, .inl (kT 0, 200, .inl (fun _ => 0))), (q4, .inl (kT 0, 200, .inl (fun _ => 0))), (q5, .inl (kT 0, 40, .inl (fun _ => 0))), (q6, .inl (kT 0, 40, .inl (fun _ => 0))), (q7, .inl (kT 0, 40, .inl (fun _ => 0))), (q8, .inl (kT 0, 40, .inl (fun _ => 0))), (q9, .inl (kT 0, 40, .inl (fun _ => 0)))] := hD
  exact hret _ H locs 80 ls ⟨q1, q2, q3, q4, q5, q6, q7, q8, q9, rfl⟩ hP hD hS zd_Program_init_80
set_option maxHeartbeats 4000000 in
set_option maxRecDepth 100000 in
theorem c_Kept_init (l : Launch) (D : va_G) (kT : Nat → ClassId) (h0 : Nat)  : zq_MC l zy_Kept_init zs_Kept_init ({ frames := 1, cells := 2, slots := 16, locals := 12 }) D kT [.ref h0] [(h0, .inr (4, [.null, .null, .int 0, .int 0]))] (fun w' => ∃ (q1 : Nat) (q2 : Nat), w' = [(h0, .inr (4, [.ref q1, .ref q2, .int 0, .int 0])), (q1, .inl (kT 0, 8, .inl (fun _ => 0))), (q2, .inl (kT 0, 8, .inl (fun _ => 0)))]) 2 16 := by
  refine zq_MC_of (cc := zb_Kept_init) (maxL := 1) (own := zR_Kept) (by decide) rfl rfl (Nat.le_of_ble_eq_true rfl) rfl ?_
  intro p e s m AV below meth c A QQ H locs ls hx hb hml hown ht hE hA hin hret hP hD hS hl
  have hK := hE.1
  have hl : lv_has ls 1 [(0, .ref h0)] := hl
  refine lv_aload_n hx hb zd_Kept_init_0 rfl (lv_at hl 0 rfl) ?_
  refine W.objInit hx hb hown (ht _ zw_591) (ht _ zw_581) (ht _ zw_582) rfl (by rw [hml]; exact hl.1) rfl zd_Kept_init_1 (Nat.le_of_ble_eq_true rfl) (Nat.le_of_ble_eq_true rfl) ?_
  refine W.eq (g2 := F0 m 4 ls []) rfl ?_
  refine lv_aload_n hx hb zd_Kept_init_4 rfl (lv_at hl 0 rfl) ?_
  refine lv_bipush (v := 8) hx hb zd_Kept_init_5 (by decide) ?_
  refine zq_newa (D := D) (atype := .int) (ty := .int) (n := 8) (a0 := (8, .inl (fun _ => 0))) (N' := 8) hx hb (ht _ zw_589) rfl hK hP hD hS hA 0 rfl (fun _ => rfl) (by decide) (by decide) (by decide) (Nat.le_of_ble_eq_true rfl) (Nat.le_of_ble_eq_true rfl) zd_Kept_init_7 (fun q1 H hP hD hS => ?_)
  have hP : va_P D vwCl [(h0, .inr (4, [.null, .null, .int 0, .int 0])), (q1, .inl (kT 0, 8, .inl (fun _ => 0)))] H := hP
  have hD : va_D A [(h0, .inr (4, [.null, .null, .int 0, .int 0])), (q1, .inl (kT 0, 8, .inl (fun _ => 0)))] := hD
  refine va_putF (D := D) (ci := 4) (v := .ref q1) (ty := (.array .int)) (C := zR_Kept) (T := zF_Kept) (N := 4) hx hb ht zi_Kept zt_Kept zt_Kept_ok zn_Kept hown hK hP hD hS 0 rfl rfl 0 (by decide) (ht _ zw_173) (fun _ h9 => h9) rfl hin rfl (by decide +kernel) rfl rfl (Nat.le_of_ble_eq_true rfl) zd_Kept_init_9 (fun H locs hP hD hS => ?_)
  have hP : va_P D vwCl [(h0, .inr (4, [.ref q1, .null, .int 0, .int 0])), (q1, .inl (kT 0, 8, .inl (fun _ => 0)))] H := hP
  have hD : va_D A [(h0, .inr (4, [.ref q1, .null, .int 0, .int 0])), (q1, .inl (kT 0, 8, .inl (fun _ => 0)))] := hD
  refine lv_aload_n hx hb zd_Kept_init_12 rfl (lv_at hl 0 rfl) ?_
  refine lv_bipush (v := 8) hx hb zd_Kept_init_13 (by decide) ?_
  refine zq_newa (D := D) (atype := .int) (ty := .int) (n := 8) (a0 := (8, .inl (fun _ => 0))) (N' := 8) hx hb (ht _ zw_589) rfl hK hP hD hS hA 0 rfl (fun _ => rfl) (by decide) (by decide) (by decide) (Nat.le_of_ble_eq_true rfl) (Nat.le_of_ble_eq_true rfl) zd_Kept_init_15 (fun q2 H hP hD hS => ?_)
  have hP : va_P D vwCl [(h0, .inr (4, [.ref q1, .null, .int 0, .int 0])), (q1, .inl (kT 0, 8, .inl (fun _ => 0))), (q2, .inl (kT 0, 8, .inl (fun _ => 0)))] H := hP
  have hD : va_D A [(h0, .inr (4, [.ref q1, .null, .int 0, .int 0])), (q1, .inl (kT 0, 8, .inl (fun _ => 0))), (q2, .inl (kT 0, 8, .inl (fun _ => 0)))] := hD
  refine va_putF (D := D) (ci := 4) (v := .ref q2) (ty := (.array .int)) (C := zR_Kept) (T := zF_Kept) (N := 4) hx hb ht zi_Kept zt_Kept zt_Kept_ok zn_Kept hown hK hP hD hS 0 rfl rfl 1 (by decide) (ht _ zw_174) (fun _ h9 => h9) rfl hin rfl (by decide +kernel) rfl rfl (Nat.le_of_ble_eq_true rfl) zd_Kept_init_17 (fun H locs hP hD hS => ?_)
  have hP : va_P D vwCl [(h0, .inr (4, [.ref q1, .ref q2, .int 0, .int 0])), (q1, .inl (kT 0, 8, .inl (fun _ => 0))), (q2, .inl (kT 0, 8, .inl (fun _ => 0)))] H := hP
  have hD : va_D A [(h0, .inr (4, [.ref q1, .ref q2, .int 0, .int 0])), (q1, .inl (kT 0, 8, .inl (fun _ => 0))), (q2, .inl (kT 0, 8, .inl (fun _ => 0)))] := hD
  exact hret _ H locs 20 ls ⟨q1, q2, rfl⟩ hP hD hS zd_Kept_init_20
set_option maxHeartbeats 4000000 in
set_option maxRecDepth 100000 in
theorem c_Lines_init (l : Launch) (D : va_G) (kT : Nat → ClassId) (h0 : Nat)  : zq_MC l zy_Lines_init zs_Lines_init ({ frames := 1, cells := 2, slots := 16, locals := 12 }) D kT [.ref h0] [(h0, .inr (5, [.null, .null]))] (fun w' => ∃ (q1 : Nat) (q2 : Nat), w' = [(h0, .inr (5, [.ref q1, .ref q2])), (q1, .inl (kT 2, 8, .inl (fun _ => 0))), (q2, .inl (kT 0, 8, .inl (upd (upd (upd (upd (upd (upd (upd (upd (fun _ => 0) 0 1) 1 1) 2 1) 3 1) 4 1) 5 1) 6 1) 7 1)))]) 2 16 := by
  refine zq_MC_of (cc := zb_Lines_init) (maxL := 2) (own := zR_Lines) (by decide) rfl rfl (Nat.le_of_ble_eq_true rfl) rfl ?_
  intro p e s m AV below meth c A QQ H locs ls hx hb hml hown ht hE hA hin hret hP hD hS hl
  have hK := hE.1
  have hl : lv_has ls 2 [(0, .ref h0)] := hl
  refine lv_aload_n hx hb zd_Lines_init_0 rfl (lv_at hl 0 rfl) ?_
  refine W.objInit hx hb hown (ht _ zw_592) (ht _ zw_581) (ht _ zw_582) rfl (by rw [hml]; exact hl.1) rfl zd_Lines_init_1 (Nat.le_of_ble_eq_true rfl) (Nat.le_of_ble_eq_true rfl) ?_
  refine W.eq (g2 := F0 m 4 ls []) rfl ?_
  refine lv_aload_n hx hb zd_Lines_init_4 rfl (lv_at hl 0 rfl) ?_
  refine lv_bipush (v := 8) hx hb zd_Lines_init_5 (by decide) ?_
  refine zq_newa (D := D) (atype := .boolean) (ty := .boolean) (n := 8) (a0 := (8, .inl (fun _ => 0))) (N' := 8) hx hb (ht _ zw_584) rfl hK hP hD hS hA 2 rfl (fun _ => rfl) (by decide) (by decide) (by decide) (Nat.le_of_ble_eq_true rfl) (Nat.le_of_ble_eq_true rfl) zd_Lines_init_7 (fun q1 H hP hD hS => ?_)
  have hP : va_P D vwCl [(h0, .inr (5, [.null, .null])), (q1, .inl (kT 2, 8, .inl (fun _ => 0)))] H := hP
  have hD : va_D A [(h0, .inr (5, [.null, .null])), (q1, .inl (kT 2, 8, .inl (fun _ => 0)))] := hD
  refine va_putF (D := D) (ci := 5) (v := .ref q1) (ty := (.array .boolean)) (C := zR_Lines) (T := zF_Lines) (N := 2) hx hb ht zi_Lines zt_Lines zt_Lines_ok zn_Lines hown hK hP hD hS 0 rfl rfl 0 (by decide) (ht _ zw_176) (fun _ h9 => h9) rfl hin rfl (by decide +kernel) rfl rfl (Nat.le_of_ble_eq_true rfl) zd_Lines_init_9 (fun H locs hP hD hS => ?_)
  have hP : va_P D vwCl [(h0, .inr (5, [.ref q1, .null])), (q1, .inl (kT 2, 8, .inl (fun _ => 0)))] H := hP
  have hD : va_D A [(h0, .inr (5, [.ref q1, .null])), (q1, .inl (kT 2, 8, .inl (fun _ => 0)))] := hD
  refine lv_aload_n hx hb zd_Lines_init_12 rfl (lv_at hl 0 rfl) ?_
  refine lv_bipush (v := 8) hx hb zd_Lines_init_13 (by decide) ?_
  refine zq_newa (D := D) (atype := .int) (ty := .int) (n := 8) (a0 := (8, .inl (fun _ => 0))) (N' := 8) hx hb (ht _ zw_589) rfl hK hP hD hS hA 0 rfl (fun _ => rfl) (by decide) (by decide) (by decide) (Nat.le_of_ble_eq_true rfl) (Nat.le_of_ble_eq_true rfl) zd_Lines_init_15 (fun q2 H hP hD hS => ?_)
  have hP : va_P D vwCl [(h0, .inr (5, [.ref q1, .null])), (q1, .inl (kT 2, 8, .inl (fun _ => 0))), (q2, .inl (kT 0, 8, .inl (fun _ => 0)))] H := hP
  have hD : va_D A [(h0, .inr (5, [.ref q1, .null])), (q1, .inl (kT 2, 8, .inl (fun _ => 0))), (q2, .inl (kT 0, 8, .inl (fun _ => 0)))] := hD
  refine va_putF (D := D) (ci := 5) (v := .ref q2) (ty := (.array .int)) (C := zR_Lines) (T := zF_Lines) (N := 2) hx hb ht zi_Lines zt_Lines zt_Lines_ok zn_Lines hown hK hP hD hS 0 rfl rfl 1 (by decide) (ht _ zw_177) (fun _ h9 => h9) rfl hin rfl (by decide +kernel) rfl rfl (Nat.le_of_ble_eq_true rfl) zd_Lines_init_17 (fun H locs hP hD hS => ?_)
  have hP : va_P D vwCl [(h0, .inr (5, [.ref q1, .ref q2])), (q1, .inl (kT 2, 8, .inl (fun _ => 0))), (q2, .inl (kT 0, 8, .inl (fun _ => 0)))] H := hP
  have hD : va_D A [(h0, .inr (5, [.ref q1, .ref q2])), (q1, .inl (kT 2, 8, .inl (fun _ => 0))), (q2, .inl (kT 0, 8, .inl (fun _ => 0)))] := hD
  refine lv_iconst (v := 0) hx hb zd_Lines_init_20 (by decide) ?_
  refine lv_istore_n (lv' := [(1, .int 0), (0, .ref h0)]) hx hb zd_Lines_init_21 rfl hl (by decide) rfl (fun ls hl => ?_)
  refine lv_iload_n hx hb zd_Lines_init_22 rfl (lv_at hl 0 rfl) ?_
  refine lv_bipush (v := 8) hx hb zd_Lines_init_23 (by decide) ?_
  refine lv_icmp_ge (tgt := 41) hx hb zd_Lines_init_25 (by decide) (fun c1 => ?_) (fun c1 => ?_)
  · exact absurd c1 (by decide)
  refine lv_aload_n hx hb zd_Lines_init_28 rfl (lv_at hl 1 rfl) ?_
  refine va_get (D := D) (ci := 5) (v := .ref q2) (C := zR_Lines) (T := zF_Lines) (N := 2) hx hb ht zi_Lines hown hK hP 0 rfl rfl 1 (by decide) (ht _ zw_177) (fun _ h9 => h9) rfl zd_Lines_init_29 ?_
  refine lv_iload_n hx hb zd_Lines_init_32 rfl (lv_at hl 0 rfl) ?_
  refine lv_iconst (v := 1) hx hb zd_Lines_init_33 (by decide) ?_
  refine zq_a_iast (D := D) (j := 0) hx hb hK hP hD hS 2 0 rfl rfl (zq_in (by decide)) (by decide) zd_Lines_init_34 (fun H locs hP hD hS => ?_)
  have hP : va_P D vwCl [(h0, .inr (5, [.ref q1, .ref q2])), (q1, .inl (kT 2, 8, .inl (fun _ => 0))), (q2, .inl (kT 0, 8, .inl (upd (fun _ => 0) 0 1)))] H := hP
  have hD : va_D A [(h0, .inr (5, [.ref q1, .ref q2])), (q1, .inl (kT 2, 8, .inl (fun _ => 0))), (q2, .inl (kT 0, 8, .inl (upd (fun _ => 0) 0 1)))] := hD
  refine lv_iinc (v := 1) (lv' := [(1, .int 1), (0, .ref h0)]) hx hb zd_Lines_init_35 hl (k := 0) rfl (by decide) (by decide) rfl (fun ls hl => ?_)
  refine lv_goto (tgt := 22) hx hb zd_Lines_init_38 (by decide) ?_
  refine lv_iload_n hx hb zd_Lines_init_22 rfl (lv_at hl 0 rfl) ?_
  refine lv_bipush (v := 8) hx hb zd_Lines_init_23 (by decide) ?_
  refine lv_icmp_ge (tgt := 41) hx hb zd_Lines_init_25 (by decide) (fun c2 => ?_) (fun c2 => ?_)
  · exact absurd c2 (by decide)
  refine lv_aload_n hx hb zd_Lines_init_28 rfl (lv_at hl 1 rfl) ?_
  refine va_get (D := D) (ci := 5) (v := .ref q2) (C := zR_Lines) (T := zF_Lines) (N := 2) hx hb ht zi_Lines hown hK hP 0 rfl rfl 1 (by decide) (ht _ zw_177) (fun _ h9 => h9) rfl zd_Lines_init_29 ?_
  refine lv_iload_n hx hb zd_Lines_init_32 rfl (lv_at hl 0 rfl) ?_
  refine lv_iconst (v := 1) hx hb zd_Lines_init_33 (by decide) ?_
  refine zq_a_iast (D := D) (j := 1) hx hb hK hP hD hS 2 0 rfl rfl (zq_in (by decide)) (by decide) zd_Lines_init_34 (fun H locs hP hD hS => ?_)
  have hP : va_P D vwCl [(h0, .inr (5, [.ref q1, .ref q2])), (q1, .inl (kT 2, 8, .inl (fun _ => 0))), (q2, .inl (kT 0, 8, .inl (upd (upd (fun _ => 0) 0 1) 1 1)))] H := hP
  have hD : va_D A [(h0, .inr (5, [.ref q1, .ref q2])), (q1, .inl (kT 2, 8, .inl (fun _ => 0))), (q2, .inl (kT 0, 8, .inl (upd (upd (fun _ => 0) 0 1) 1 1)))] := hD
  refine lv_iinc (v := 2) (lv' := [(1, .int 2), (0, .ref h0)]) hx hb zd_Lines_init_35 hl (k := 0) rfl (by decide) (by decide) rfl (fun ls hl => ?_)
  refine lv_goto (tgt := 22) hx hb zd_Lines_init_38 (by decide) ?_
  refine lv_iload_n hx hb zd_Lines_init_22 rfl (lv_at hl 0 rfl) ?_
  refine lv_bipush (v := 8) hx hb zd_Lines_init_23 (by decide) ?_
  refine lv_icmp_ge (tgt := 41) hx hb zd_Lines_init_25 (by decide) (fun c3 => ?_) (fun c3 => ?_)
  · exact absurd c3 (by decide)
  refine lv_aload_n hx hb zd_Lines_init_28 rfl (lv_at hl 1 rfl) ?_
  refine va_get (D := D) (ci := 5) (v := .ref q2) (C := zR_Lines) (T := zF_Lines) (N := 2) hx hb ht zi_Lines hown hK hP 0 rfl rfl 1 (by decide) (ht _ zw_177) (fun _ h9 => h9) rfl zd_Lines_init_29 ?_
  refine lv_iload_n hx hb zd_Lines_init_32 rfl (lv_at hl 0 rfl) ?_
  refine lv_iconst (v := 1) hx hb zd_Lines_init_33 (by decide) ?_
  refine zq_a_iast (D := D) (j := 2) hx hb hK hP hD hS 2 0 rfl rfl (zq_in (by decide)) (by decide) zd_Lines_init_34 (fun H locs hP hD hS => ?_)
  have hP : va_P D vwCl [(h0, .inr (5, [.ref q1, .ref q2])), (q1, .inl (kT 2, 8, .inl (fun _ => 0))), (q2, .inl (kT 0, 8, .inl (upd (upd (upd (fun _ => 0) 0 1) 1 1) 2 1)))] H := hP
  have hD : va_D A [(h0, .inr (5, [.ref q1, .ref q2])), (q1, .inl (kT 2, 8, .inl (fun _ => 0))), (q2, .inl (kT 0, 8, .inl (upd (upd (upd (fun _ => 0) 0 1) 1 1) 2 1)))] := hD
  refine lv_iinc (v := 3) (lv' := [(1, .int 3), (0, .ref h0)]) hx hb zd_Lines_init_35 hl (k := 0) rfl (by decide) (by decide) rfl (fun ls hl => ?_)
  refine lv_goto (tgt := 22) hx hb zd_Lines_init_38 (by decide) ?_
  refine lv_iload_n hx hb zd_Lines_init_22 rfl (lv_at hl 0 rfl) ?_
  refine lv_bipush (v := 8) hx hb zd_Lines_init_23 (by decide) ?_
  refine lv_icmp_ge (tgt := 41) hx hb zd_Lines_init_25 (by decide) (fun c4 => ?_) (fun c4 => ?_)
  · exact absurd c4 (by decide)
  refine lv_aload_n hx hb zd_Lines_init_28 rfl (lv_at hl 1 rfl) ?_
  refine va_get (D := D) (ci := 5) (v := .ref q2) (C := zR_Lines) (T := zF_Lines) (N := 2) hx hb ht zi_Lines hown hK hP 0 rfl rfl 1 (by decide) (ht _ zw_177) (fun _ h9 => h9) rfl zd_Lines_init_29 ?_
  refine lv_iload_n hx hb zd_Lines_init_32 rfl (lv_at hl 0 rfl) ?_
  refine lv_iconst (v := 1) hx hb zd_Lines_init_33 (by decide) ?_
  refine zq_a_iast (D := D) (j := 3) hx hb hK hP hD hS 2 0 rfl rfl (zq_in (by decide)) (by decide) zd_Lines_init_34 (fun H locs hP hD hS => ?_)
  have hP : va_P D vwCl [(h0, .inr (5, [.ref q1, .ref q2])), (q1, .inl (kT 2, 8, .inl (fun _ => 0))), (q2, .inl (kT 0, 8, .inl (upd (upd (upd (upd (fun _ => 0) 0 1) 1 1) 2 1) 3 1)))] H := hP
  have hD : va_D A [(h0, .inr (5, [.ref q1, .ref q2])), (q1, .inl (kT 2, 8, .inl (fun _ => 0))), (q2, .inl (kT 0, 8, .inl (upd (upd (upd (upd (fun _ => 0) 0 1) 1 1) 2 1) 3 1)))] := hD
  refine lv_iinc (v := 4) (lv' := [(1, .int 4), (0, .ref h0)]) hx hb zd_Lines_init_35 hl (k := 0) rfl (by decide) (by decide) rfl (fun ls hl => ?_)
  refine lv_goto (tgt := 22) hx hb zd_Lines_init_38 (by decide) ?_
  refine lv_iload_n hx hb zd_Lines_init_22 rfl (lv_at hl 0 rfl) ?_
  refine lv_bipush (v := 8) hx hb zd_Lines_init_23 (by decide) ?_
  refine lv_icmp_ge (tgt := 41) hx hb zd_Lines_init_25 (by decide) (fun c5 => ?_) (fun c5 => ?_)
  · exact absurd c5 (by decide)
  refine lv_aload_n hx hb zd_Lines_init_28 rfl (lv_at hl 1 rfl) ?_
  refine va_get (D := D) (ci := 5) (v := .ref q2) (C := zR_Lines) (T := zF_Lines) (N := 2) hx hb ht zi_Lines hown hK hP 0 rfl rfl 1 (by decide) (ht _ zw_177) (fun _ h9 => h9) rfl zd_Lines_init_29 ?_
  refine lv_iload_n hx hb zd_Lines_init_32 rfl (lv_at hl 0 rfl) ?_
  refine lv_iconst (v := 1) hx hb zd_Lines_init_33 (by decide) ?_
  refine zq_a_iast (D := D) (j := 4) hx hb hK hP hD hS 2 0 rfl rfl (zq_in (by decide)) (by decide) zd_Lines_init_34 (fun H locs hP hD hS => ?_)
  have hP : va_P D vwCl [(h0, .inr (5, [.ref q1, .ref q2])), (q1, .inl (kT 2, 8, .inl (fun _ => 0))), (q2, .inl (kT 0, 8, .inl (upd (upd (upd (upd (upd (fun _ => 0) 0 1) 1 1) 2 1) 3 1) 4 1)))] H := hP
  have hD : va_D A [(h0, .inr (5, [.ref q1, .ref q2])), (q1, .inl (kT 2, 8, .inl (fun _ => 0))), (q2, .inl (kT 0, 8, .inl (upd (upd (upd (upd (upd (fun _ => 0) 0 1) 1 1) 2 1) 3 1) 4 1)))] := hD
  refine lv_iinc (v := 5) (lv' := [(1, .int 5), (0, .ref h0)]) hx hb zd_Lines_init_35 hl (k := 0) rfl (by decide) (by decide) rfl (fun ls hl => ?_)
  refine lv_goto (tgt := 22) hx hb zd_Lines_init_38 (by decide) ?_
  refine lv_iload_n hx hb zd_Lines_init_22 rfl (lv_at hl 0 rfl) ?_
  refine lv_bipush (v := 8) hx hb zd_Lines_init_23 (by decide) ?_
  refine lv_icmp_ge (tgt := 41) hx hb zd_Lines_init_25 (by decide) (fun c6 => ?_) (fun c6 => ?_)
  · exact absurd c6 (by decide)
  refine lv_aload_n hx hb zd_Lines_init_28 rfl (lv_at hl 1 rfl) ?_
  refine va_get (D := D) (ci := 5) (v := .ref q2) (C := zR_Lines) (T := zF_Lines) (N := 2) hx hb ht zi_Lines hown hK hP 0 rfl rfl 1 (by decide) (ht _ zw_177) (fun _ h9 => h9) rfl zd_Lines_init_29 ?_
  refine lv_iload_n hx hb zd_Lines_init_32 rfl (lv_at hl 0 rfl) ?_
  refine lv_iconst (v := 1) hx hb zd_Lines_init_33 (by decide) ?_
  refine zq_a_iast (D := D) (j := 5) hx hb hK hP hD hS 2 0 rfl rfl (zq_in (by decide)) (by decide) zd_Lines_init_34 (fun H locs hP hD hS => ?_)
  have hP : va_P D vwCl [(h0, .inr (5, [.ref q1, .ref q2])), (q1, .inl (kT 2, 8, .inl (fun _ => 0))), (q2, .inl (kT 0, 8, .inl (upd (upd (upd (upd (upd (upd (fun _ => 0) 0 1) 1 1) 2 1) 3 1) 4 1) 5 1)))] H := hP
  have hD : va_D A [(h0, .inr (5, [.ref q1, .ref q2])), (q1, .inl (kT 2, 8, .inl (fun _ => 0))), (q2, .inl (kT 0, 8, .inl (upd (upd (upd (upd (upd (upd (fun _ => 0) 0 1) 1 1) 2 1) 3 1) 4 1) 5 1)))] := hD
  refine lv_iinc (v := 6) (lv' := [(1, .int 6), (0, .ref h0)]) hx hb zd_Lines_init_35 hl (k := 0) rfl (by decide) (by decide) rfl (fun ls hl => ?_)
  refine lv_goto (tgt := 22) hx hb zd_Lines_init_38 (by decide) ?_
  refine lv_iload_n hx hb zd_Lines_init_22 rfl (lv_at hl 0 rfl) ?_
  refine lv_bipush (v := 8) hx hb zd_Lines_init_23 (by decide) ?_
  refine lv_icmp_ge (tgt := 41) hx hb zd_Lines_init_25 (by decide) (fun c7 => ?_) (fun c7 => ?_)
  · exact absurd c7 (by decide)
  refine lv_aload_n hx hb zd_Lines_init_28 rfl (lv_at hl 1 rfl) ?_
  refine va_get (D := D) (ci := 5) (v := .ref q2) (C := zR_Lines) (T := zF_Lines) (N := 2) hx hb ht zi_Lines hown hK hP 0 rfl rfl 1 (by decide) (ht _ zw_177) (fun _ h9 => h9) rfl zd_Lines_init_29 ?_
  refine lv_iload_n hx hb zd_Lines_init_32 rfl (lv_at hl 0 rfl) ?_
  refine lv_iconst (v := 1) hx hb zd_Lines_init_33 (by decide) ?_
  refine zq_a_iast (D := D) (j := 6) hx hb hK hP hD hS 2 0 rfl rfl (zq_in (by decide)) (by decide) zd_Lines_init_34 (fun H locs hP hD hS => ?_)
  have hP : va_P D vwCl [(h0, .inr (5, [.ref q1, .ref q2])), (q1, .inl (kT 2, 8, .inl (fun _ => 0))), (q2, .inl (kT 0, 8, .inl (upd (upd (upd (upd (upd (upd (upd (fun _ => 0) 0 1) 1 1) 2 1) 3 1) 4 1) 5 1) 6 1)))] H := hP
  have hD : va_D A [(h0, .inr (5, [.ref q1, .ref q2])), (q1, .inl (kT 2, 8, .inl (fun _ => 0))), (q2, .inl (kT 0, 8, .inl (upd (upd (upd (upd (upd (upd (upd (fun _ => 0) 0 1) 1 1) 2 1) 3 1) 4 1) 5 1) 6 1)))] := hD
  refine lv_iinc (v := 7) (lv' := [(1, .int 7), (0, .ref h0)]) hx hb zd_Lines_init_35 hl (k := 0) rfl (by decide) (by decide) rfl (fun ls hl => ?_)
  refine lv_goto (tgt := 22) hx hb zd_Lines_init_38 (by decide) ?_
  refine lv_iload_n hx hb zd_Lines_init_22 rfl (lv_at hl 0 rfl) ?_
  refine lv_bipush (v := 8) hx hb zd_Lines_init_23 (by decide) ?_
  refine lv_icmp_ge (tgt := 41) hx hb zd_Lines_init_25 (by decide) (fun c8 => ?_) (fun c8 => ?_)
  · exact absurd c8 (by decide)
  refine lv_aload_n hx hb zd_Lines_init_28 rfl (lv_at hl 1 rfl) ?_
  refine va_get (D := D) (ci := 5) (v := .ref q2) (C := zR_Lines) (T := zF_Lines) (N := 2) hx hb ht zi_Lines hown hK hP 0 rfl rfl 1 (by decide) (ht _ zw_177) (fun _ h9 => h9) rfl zd_Lines_init_29 ?_
  refine lv_iload_n hx hb zd_Lines_init_32 rfl (lv_at hl 0 rfl) ?_
  refine lv_iconst (v := 1) hx hb zd_Lines_init_33 (by decide) ?_
  refine zq_a_iast (D := D) (j := 7) hx hb hK hP hD hS 2 0 rfl rfl (zq_in (by decide)) (by decide) zd_Lines_init_34 (fun H locs hP hD hS => ?_)
  have hP : va_P D vwCl [(h0, .inr (5, [.ref q1, .ref q2])), (q1, .inl (kT 2, 8, .inl (fun _ => 0))), (q2, .inl (kT 0, 8, .inl (upd (upd (upd (upd (upd (upd (upd (upd (fun _ => 0) 0 1) 1 1) 2 1) 3 1) 4 1) 5 1) 6 1) 7 1)))] H := hP
  have hD : va_D A [(h0, .inr (5, [.ref q1, .ref q2])), (q1, .inl (kT 2, 8, .inl (fun _ => 0))), (q2, .inl (kT 0, 8, .inl (upd (upd (upd (upd (upd (upd (upd (upd (fun _ => 0) 0 1) 1 1) 2 1) 3 1) 4 1) 5 1) 6 1) 7 1)))] := hD
  refine lv_iinc (v := 8) (lv' := [(1, .int 8), (0, .ref h0)]) hx hb zd_Lines_init_35 hl (k := 0) rfl (by decide) (by decide) rfl (fun ls hl => ?_)
  refine lv_goto (tgt := 22) hx hb zd_Lines_init_38 (by decide) ?_
  refine lv_iload_n hx hb zd_Lines_init_22 rfl (lv_at hl 0 rfl) ?_
  refine lv_bipush (v := 8) hx hb zd_Lines_init_23 (by decide) ?_
  refine lv_icmp_ge (tgt := 41) hx hb zd_Lines_init_25 (by decide) (fun c9 => ?_) (fun c9 => ?_)
  rotate_left
  · exact absurd c9 (by decide)
  exact hret _ H locs 41 ls ⟨q1, q2, rfl⟩ hP hD hS zd_Lines_init_41
set_option maxHeartbeats 4000000 in
set_option maxRecDepth 100000 in
theorem c_Writes_init (l : Launch) (D : va_G) (kT : Nat → ClassId) (h0 : Nat) (r1 : Nat) (r2 : Nat) : zq_MC l zy_Writes_init zs_Writes_init ({ frames := 1, cells := 3, slots := 600, locals := 12 }) D kT [.ref h0, .ref r1, .ref r2] [(h0, .inr (6, [.null, .null, .null, .null, .null, .int 0]))] (fun w' => ∃ (q1 : Nat) (q2 : Nat) (q3 : Nat), w' = [(h0, .inr (6, [.ref r1, .ref r2, .ref q1, .ref q2, .ref q3, .int 0])), (q1, .inl (kT 0, 200, .inl (fun _ => 0))), (q2, .inl (kT 0, 200, .inl (fun _ => 0))), (q3, .inl (kT 1, 200, .inr (.inl (fun _ => 0))))]) 3 600 := by
  refine zq_MC_of (cc := zb_Writes_init) (maxL := 3) (own := zR_Writes) (by decide) rfl rfl (Nat.le_of_ble_eq_true rfl) rfl ?_
  intro p e s m AV below meth c A QQ H locs ls hx hb hml hown ht hE hA hin hret hP hD hS hl
  have hK := hE.1
  have hl : lv_has ls 3 [(0, .ref h0), (1, .ref r1), (2, .ref r2)] := hl
  refine lv_aload_n hx hb zd_Writes_init_0 rfl (lv_at hl 0 rfl) ?_
  refine W.objInit hx hb hown (ht _ zw_593) (ht _ zw_581) (ht _ zw_582) rfl (by rw [hml]; exact hl.1) rfl zd_Writes_init_1 (Nat.le_of_ble_eq_true rfl) (Nat.le_of_ble_eq_true rfl) ?_
  refine W.eq (g2 := F0 m 4 ls []) rfl ?_
  refine lv_aload_n hx hb zd_Writes_init_4 rfl (lv_at hl 0 rfl) ?_
  refine lv_sipush (v := 200) hx hb zd_Writes_init_5 (by decide) ?_
  refine zq_newa (D := D) (atype := .int) (ty := .int) (n := 200) (a0 := (200, .inl (fun _ => 0))) (N' := 200) hx hb (ht _ zw_589) rfl hK hP hD hS hA 0 rfl (fun _ => rfl) (by decide) (by decide) (by decide) (Nat.le_of_ble_eq_true rfl) (Nat.le_of_ble_eq_true rfl) zd_Writes_init_8 (fun q1 H hP hD hS => ?_)
  have hP : va_P D vwCl [(h0, .inr (6, [.null, .null, .null, .null, .null, .int 0])), (q1, .inl (kT 0, 200, .inl (fun _ => 0)))] H := hP
  have hD : va_D A [(h0, .inr (6, [.null, .null, .null, .null, .null, .int 0])), (q1, .inl (kT 0, 200, .inl (fun _ => 0)))] := hD
  refine va_putF (D := D) (ci := 6) (v := .ref q1) (ty := (.array .int)) (C := zR_Writes) (T := zF_Writes) (N := 6) hx hb ht zi_Writes zt_Writes zt_Writes_ok zn_Writes hown hK hP hD hS 0 rfl rfl 2 (by decide) (ht _ zw_179) (fun _ h9 => h9) rfl hin rfl (by decide +kernel) rfl rfl (Nat.le_of_ble_eq_true rfl) zd_Writes_init_10 (fun H locs hP hD hS => ?_)
  have hP : va_P D vwCl [(h0, .inr (6, [.null, .null, .ref q1, .null, .null, .int 0])), (q1, .inl (kT 0, 200, .inl (fun _ => 0)))] H := hP
  have hD : va_D A [(h0, .inr (6, [.null, .null, .ref q1, .null, .null, .int 0])), (q1, .inl (kT 0, 200, .inl (fun _ => 0)))] := hD
  refine lv_aload_n hx hb zd_Writes_init_13 rfl (lv_at hl 0 rfl) ?_
  refine lv_sipush (v := 200) hx hb zd_Writes_init_14 (by decide) ?_
  refine zq_newa (D := D) (atype := .int) (ty := .int) (n := 200) (a0 := (200, .inl (fun _ => 0))) (N' := 200) hx hb (ht _ zw_589) rfl hK hP hD hS hA 0 rfl (fun _ => rfl) (by decide) (by decide) (by decide) (Nat.le_of_ble_eq_true rfl) (Nat.le_of_ble_eq_true rfl) zd_Writes_init_17 (fun q2 H hP hD hS => ?_)
  have hP : va_P D vwCl [(h0, .inr (6, [.null, .null, .ref q1, .null, .null, .int 0])), (q1, .inl (kT 0, 200, .inl (fun _ => 0))), (q2, .inl (kT 0, 200, .inl (fun _ => 0)))] H := hP
  have hD : va_D A [(h0, .inr (6, [.null, .null, .ref q1, .null, .null, .int 0])), (q1, .inl (kT 0, 200, .inl (fun _ => 0))), (q2, .inl (kT 0, 200, .inl (fun _ => 0)))] := hD
  refine va_putF (D := D) (ci := 6) (v := .ref q2) (ty := (.array .int)) (C := zR_Writes) (T := zF_Writes) (N := 6) hx hb ht zi_Writes zt_Writes zt_Writes_ok zn_Writes hown hK hP hD hS 0 rfl rfl 3 (by decide) (ht _ zw_180) (fun _ h9 => h9) rfl hin rfl (by decide +kernel) rfl rfl (Nat.le_of_ble_eq_true rfl) zd_Writes_init_19 (fun H locs hP hD hS => ?_)
  have hP : va_P D vwCl [(h0, .inr (6, [.null, .null, .ref q1, .ref q2, .null, .int 0])), (q1, .inl (kT 0, 200, .inl (fun _ => 0))), (q2, .inl (kT 0, 200, .inl (fun _ => 0)))] H := hP
  have hD : va_D A [(h0, .inr (6, [.null, .null, .ref q1, .ref q2, .null, .int 0])), (q1, .inl (kT 0, 200, .inl (fun _ => 0))), (q2, .inl (kT 0, 200, .inl (fun _ => 0)))] := hD
  refine lv_aload_n hx hb zd_Writes_init_22 rfl (lv_at hl 0 rfl) ?_
  refine lv_sipush (v := 200) hx hb zd_Writes_init_23 (by decide) ?_
  refine zq_newa (D := D) (atype := .long) (ty := .long) (n := 200) (a0 := (200, .inr (.inl (fun _ => 0)))) (N' := 200) hx hb (ht _ zw_583) rfl hK hP hD hS hA 1 rfl (fun _ => rfl) (by decide) (by decide) (by decide) (Nat.le_of_ble_eq_true rfl) (Nat.le_of_ble_eq_true rfl) zd_Writes_init_26 (fun q3 H hP hD hS => ?_)
  have hP : va_P D vwCl [(h0, .inr (6, [.null, .null, .ref q1, .ref q2, .null, .int 0])), (q1, .inl (kT 0, 200, .inl (fun _ => 0))), (q2, .inl (kT 0, 200, .inl (fun _ => 0))), (q3, .inl (kT 1, 200, .inr (.inl (fun _ => 0))))] H := hP
  have hD : va_D A [(h0, .inr (6, [.null, .null, .ref q1, .ref q2, .null, .int 0])), (q1, .inl (kT 0, 200, .inl (fun _ => 0))), (q2, .inl (kT 0, 200, .inl (fun _ => 0))), (q3, .inl (kT 1, 200, .inr (.inl (fun _ => 0))))] := hD
  refine va_putF (D := D) (ci := 6) (v := .ref q3) (ty := (.array .long)) (C := zR_Writes) (T := zF_Writes) (N := 6) hx hb ht zi_Writes zt_Writes zt_Writes_ok zn_Writes hown hK hP hD hS 0 rfl rfl 4 (by decide) (ht _ zw_181) (fun _ h9 => h9) rfl hin rfl (by decide +kernel) rfl rfl (Nat.le_of_ble_eq_true rfl) zd_Writes_init_28 (fun H locs hP hD hS => ?_)
  have hP : va_P D vwCl [(h0, .inr (6, [.null, .null, .ref q1, .ref q2, .ref q3, .int 0])), (q1, .inl (kT 0, 200, .inl (fun _ => 0))), (q2, .inl (kT 0, 200, .inl (fun _ => 0))), (q3, .inl (kT 1, 200, .inr (.inl (fun _ => 0))))] H := hP
  have hD : va_D A [(h0, .inr (6, [.null, .null, .ref q1, .ref q2, .ref q3, .int 0])), (q1, .inl (kT 0, 200, .inl (fun _ => 0))), (q2, .inl (kT 0, 200, .inl (fun _ => 0))), (q3, .inl (kT 1, 200, .inr (.inl (fun _ => 0))))] := hD
  refine lv_aload_n hx hb zd_Writes_init_31 rfl (lv_at hl 0 rfl) ?_
  refine lv_aload_n hx hb zd_Writes_init_32 rfl (lv_at hl 1 rfl) ?_
  refine va_putF (D := D) (ci := 6) (v := .ref r1) (ty := (.object "PlainSteps$Registers")) (C := zR_Writes) (T := zF_Writes) (N := 6) hx hb ht zi_Writes zt_Writes zt_Writes_ok zn_Writes hown hK hP hD hS 0 rfl rfl 0 (by decide) (ht _ zw_182) (fun _ h9 => h9) rfl hin rfl (by decide +kernel) rfl rfl (Nat.le_of_ble_eq_true rfl) zd_Writes_init_33 (fun H locs hP hD hS => ?_)
  have hP : va_P D vwCl [(h0, .inr (6, [.ref r1, .null, .ref q1, .ref q2, .ref q3, .int 0])), (q1, .inl (kT 0, 200, .inl (fun _ => 0))), (q2, .inl (kT 0, 200, .inl (fun _ => 0))), (q3, .inl (kT 1, 200, .inr (.inl (fun _ => 0))))] H := hP
  have hD : va_D A [(h0, .inr (6, [.ref r1, .null, .ref q1, .ref q2, .ref q3, .int 0])), (q1, .inl (kT 0, 200, .inl (fun _ => 0))), (q2, .inl (kT 0, 200, .inl (fun _ => 0))), (q3, .inl (kT 1, 200, .inr (.inl (fun _ => 0))))] := hD
  refine lv_aload_n hx hb zd_Writes_init_36 rfl (lv_at hl 0 rfl) ?_
  refine lv_aload_n hx hb zd_Writes_init_37 rfl (lv_at hl 2 rfl) ?_
  refine va_putF (D := D) (ci := 6) (v := .ref r2) (ty := (.object "PlainSteps$Bytes")) (C := zR_Writes) (T := zF_Writes) (N := 6) hx hb ht zi_Writes zt_Writes zt_Writes_ok zn_Writes hown hK hP hD hS 0 rfl rfl 1 (by decide) (ht _ zw_184) (fun _ h9 => h9) rfl hin rfl (by decide +kernel) rfl rfl (Nat.le_of_ble_eq_true rfl) zd_Writes_init_38 (fun H locs hP hD hS => ?_)
  have hP : va_P D vwCl [(h0, .inr (6, [.ref r1, .ref r2, .ref q1, .ref q2, .ref q3, .int 0])), (q1, .inl (kT 0, 200, .inl (fun _ => 0))), (q2, .inl (kT 0, 200, .inl (fun _ => 0))), (q3, .inl (kT 1, 200, .inr (.inl (fun _ => 0))))] H := hP
  have hD : va_D A [(h0, .inr (6, [.ref r1, .ref r2, .ref q1, .ref q2, .ref q3, .int 0])), (q1, .inl (kT 0, 200, .inl (fun _ => 0))), (q2, .inl (kT 0, 200, .inl (fun _ => 0))), (q3, .inl (kT 1, 200, .inr (.inl (fun _ => 0))))] := hD
  exact hret _ H locs 41 ls ⟨q1, q2, q3, rfl⟩ hP hD hS zd_Writes_init_41
set_option maxHeartbeats 4000000 in
set_option maxRecDepth 100000 in
theorem c_Work_init (l : Launch) (D : va_G) (kT : Nat → ClassId) (h0 : Nat) (r1 : Nat) (r2 : Nat) (r3 : Nat) (r4 : Nat) (r5 : Nat) (r6 : Nat) : zq_MC l zy_Work_init zs_Work_init ({ frames := 2, cells := 4, slots := 606, locals := 34 }) D kT [.ref h0, .ref r1, .ref r2, .ref r3, .ref r4, .ref r5, .ref r6] [(h0, .inr (7, [.null, .null, .null, .null, .null, .null, .null, .int 0, .int 0, .int 0, .int 0, .int 0, .int 0, .int 0]))] (fun w' => ∃ (q1 : Nat) (q2 : Nat) (q3 : Nat) (q4 : Nat), w' = [(h0, .inr (7, [.ref r1, .ref r2, .ref r3, .ref r4, .ref r5, .ref q1, .ref r6, .int 0, .int 0, .int 0, .int 0, .int 0, .int 0, .int 0])), (q1, .inr (6, [.ref r1, .ref r2, .ref q2, .ref q3, .ref q4, .int 0])), (q2, .inl (kT 0, 200, .inl (fun _ => 0))), (q3, .inl (kT 0, 200, .inl (fun _ => 0))), (q4, .inl (kT 1, 200, .inr (.inl (fun _ => 0))))]) 4 606 := by
  refine zq_MC_of (cc := zb_Work_init) (maxL := 7) (own := zR_Work) (by decide) rfl rfl (Nat.le_of_ble_eq_true rfl) rfl ?_
  intro p e s m AV below meth c A QQ H locs ls hx hb hml hown ht hE hA hin hret hP hD hS hl
  have hK := hE.1
  have hl : lv_has ls 7 [(0, .ref h0), (1, .ref r1), (2, .ref r2), (3, .ref r3), (4, .ref r4), (5, .ref r5), (6, .ref r6)] := hl
  refine lv_aload_n hx hb zd_Work_init_0 rfl (lv_at hl 0 rfl) ?_
  refine W.objInit hx hb hown (ht _ zw_594) (ht _ zw_581) (ht _ zw_582) rfl (by rw [hml]; exact hl.1) rfl zd_Work_init_1 (Nat.le_of_ble_eq_true rfl) (Nat.le_of_ble_eq_true rfl) ?_
  refine W.eq (g2 := F0 m 4 ls []) rfl ?_
  refine lv_aload_n hx hb zd_Work_init_4 rfl (lv_at hl 0 rfl) ?_
  refine lv_aload_n hx hb zd_Work_init_5 rfl (lv_at hl 1 rfl) ?_
  refine va_putF (D := D) (ci := 7) (v := .ref r1) (ty := (.object "PlainSteps$Registers")) (C := zR_Work) (T := zF_Work) (N := 14) hx hb ht zi_Work zt_Work zt_Work_ok zn_Work hown hK hP hD hS 0 rfl rfl 0 (by decide) (ht _ zw_297) (fun _ h9 => h9) rfl hin rfl (by decide +kernel) rfl rfl (Nat.le_of_ble_eq_true rfl) zd_Work_init_6 (fun H locs hP hD hS => ?_)
  have hP : va_P D vwCl [(h0, .inr (7, [.ref r1, .null, .null, .null, .null, .null, .null, .int 0, .int 0, .int 0, .int 0, .int 0, .int 0, .int 0]))] H := hP
  have hD : va_D A [(h0, .inr (7, [.ref r1, .null, .null, .null, .null, .null, .null, .int 0, .int 0, .int 0, .int 0, .int 0, .int 0, .int 0]))] := hD
  refine lv_aload_n hx hb zd_Work_init_9 rfl (lv_at hl 0 rfl) ?_
  refine lv_aload_n hx hb zd_Work_init_10 rfl (lv_at hl 2 rfl) ?_
  refine va_putF (D := D) (ci := 7) (v := .ref r2) (ty := (.object "PlainSteps$Bytes")) (C := zR_Work) (T := zF_Work) (N := 14) hx hb ht zi_Work zt_Work zt_Work_ok zn_Work hown hK hP hD hS 0 rfl rfl 1 (by decide) (ht _ zw_248) (fun _ h9 => h9) rfl hin rfl (by decide +kernel) rfl rfl (Nat.le_of_ble_eq_true rfl) zd_Work_init_11 (fun H locs hP hD hS => ?_)
  have hP : va_P D vwCl [(h0, .inr (7, [.ref r1, .ref r2, .null, .null, .null, .null, .null, .int 0, .int 0, .int 0, .int 0, .int 0, .int 0, .int 0]))] H := hP
  have hD : va_D A [(h0, .inr (7, [.ref r1, .ref r2, .null, .null, .null, .null, .null, .int 0, .int 0, .int 0, .int 0, .int 0, .int 0, .int 0]))] := hD
  refine lv_aload_n hx hb zd_Work_init_14 rfl (lv_at hl 0 rfl) ?_
  refine lv_aload_n hx hb zd_Work_init_15 rfl (lv_at hl 3 rfl) ?_
  refine va_putF (D := D) (ci := 7) (v := .ref r3) (ty := (.object "PlainSteps$Operands")) (C := zR_Work) (T := zF_Work) (N := 14) hx hb ht zi_Work zt_Work zt_Work_ok zn_Work hown hK hP hD hS 0 rfl rfl 2 (by decide) (ht _ zw_264) (fun _ h9 => h9) rfl hin rfl (by decide +kernel) rfl rfl (Nat.le_of_ble_eq_true rfl) zd_Work_init_16 (fun H locs hP hD hS => ?_)
  have hP : va_P D vwCl [(h0, .inr (7, [.ref r1, .ref r2, .ref r3, .null, .null, .null, .null, .int 0, .int 0, .int 0, .int 0, .int 0, .int 0, .int 0]))] H := hP
  have hD : va_D A [(h0, .inr (7, [.ref r1, .ref r2, .ref r3, .null, .null, .null, .null, .int 0, .int 0, .int 0, .int 0, .int 0, .int 0, .int 0]))] := hD
  refine lv_aload_n hx hb zd_Work_init_19 rfl (lv_at hl 0 rfl) ?_
  refine lv_aload hx hb zd_Work_init_20 (lv_at hl 4 rfl) ?_
  refine va_putF (D := D) (ci := 7) (v := .ref r4) (ty := (.object "PlainSteps$Program")) (C := zR_Work) (T := zF_Work) (N := 14) hx hb ht zi_Work zt_Work zt_Work_ok zn_Work hown hK hP hD hS 0 rfl rfl 3 (by decide) (ht _ zw_213) (fun _ h9 => h9) rfl hin rfl (by decide +kernel) rfl rfl (Nat.le_of_ble_eq_true rfl) zd_Work_init_22 (fun H locs hP hD hS => ?_)
  have hP : va_P D vwCl [(h0, .inr (7, [.ref r1, .ref r2, .ref r3, .ref r4, .null, .null, .null, .int 0, .int 0, .int 0, .int 0, .int 0, .int 0, .int 0]))] H := hP
  have hD : va_D A [(h0, .inr (7, [.ref r1, .ref r2, .ref r3, .ref r4, .null, .null, .null, .int 0, .int 0, .int 0, .int 0, .int 0, .int 0, .int 0]))] := hD
  refine lv_aload_n hx hb zd_Work_init_25 rfl (lv_at hl 0 rfl) ?_
  refine lv_aload hx hb zd_Work_init_26 (lv_at hl 5 rfl) ?_
  refine va_putF (D := D) (ci := 7) (v := .ref r5) (ty := (.object "PlainSteps$Kept")) (C := zR_Work) (T := zF_Work) (N := 14) hx hb ht zi_Work zt_Work zt_Work_ok zn_Work hown hK hP hD hS 0 rfl rfl 4 (by decide) (ht _ zw_257) (fun _ h9 => h9) rfl hin rfl (by decide +kernel) rfl rfl (Nat.le_of_ble_eq_true rfl) zd_Work_init_28 (fun H locs hP hD hS => ?_)
  have hP : va_P D vwCl [(h0, .inr (7, [.ref r1, .ref r2, .ref r3, .ref r4, .ref r5, .null, .null, .int 0, .int 0, .int 0, .int 0, .int 0, .int 0, .int 0]))] H := hP
  have hD : va_D A [(h0, .inr (7, [.ref r1, .ref r2, .ref r3, .ref r4, .ref r5, .null, .null, .int 0, .int 0, .int 0, .int 0, .int 0, .int 0, .int 0]))] := hD
  refine lv_aload_n hx hb zd_Work_init_31 rfl (lv_at hl 0 rfl) ?_
  refine lv_aload hx hb zd_Work_init_32 (lv_at hl 6 rfl) ?_
  refine va_putF (D := D) (ci := 7) (v := .ref r6) (ty := (.array .int)) (C := zR_Work) (T := zF_Work) (N := 14) hx hb ht zi_Work zt_Work zt_Work_ok zn_Work hown hK hP hD hS 0 rfl rfl 6 (by decide) (ht _ zw_254) (fun _ h9 => h9) rfl hin rfl (by decide +kernel) rfl rfl (Nat.le_of_ble_eq_true rfl) zd_Work_init_34 (fun H locs hP hD hS => ?_)
  have hP : va_P D vwCl [(h0, .inr (7, [.ref r1, .ref r2, .ref r3, .ref r4, .ref r5, .null, .ref r6, .int 0, .int 0, .int 0, .int 0, .int 0, .int 0, .int 0]))] H := hP
  have hD : va_D A [(h0, .inr (7, [.ref r1, .ref r2, .ref r3, .ref r4, .ref r5, .null, .ref r6, .int 0, .int 0, .int 0, .int 0, .int 0, .int 0, .int 0]))] := hD
  refine lv_aload_n hx hb zd_Work_init_37 rfl (lv_at hl 0 rfl) ?_
  refine va_new (ci := 6) (fs := [.null, .null, .null, .null, .null, .int 0]) (C := zR_Writes) (T := zF_Writes) (N := 6) hx hb ht zi_Writes zt_Writes zt_Writes_ok hown (ht _ zw_595) (ht _ zw_596) (ht _ zw_192) hK hP hD hS hA rfl (fun j hj => by rcases (show j = 0 ∨ j = 1 ∨ j = 2 ∨ j = 3 ∨ j = 4 ∨ j = 5 by omega) with rfl | rfl | rfl | rfl | rfl | rfl <;> rfl) (Nat.le_of_ble_eq_true rfl) (Nat.le_of_ble_eq_true rfl) zd_Work_init_38 (fun q1 H hP hD hS => ?_)
  have hP : va_P D vwCl [(h0, .inr (7, [.ref r1, .ref r2, .ref r3, .ref r4, .ref r5, .null, .ref r6, .int 0, .int 0, .int 0, .int 0, .int 0, .int 0, .int 0])), (q1, .inr (6, [.null, .null, .null, .null, .null, .int 0]))] H := hP
  have hD : va_D A [(h0, .inr (7, [.ref r1, .ref r2, .ref r3, .ref r4, .ref r5, .null, .ref r6, .int 0, .int 0, .int 0, .int 0, .int 0, .int 0, .int 0])), (q1, .inr (6, [.null, .null, .null, .null, .null, .int 0]))] := hD
  refine lv_dup hx hb zd_Work_init_41 rfl ?_
  refine lv_aload_n hx hb zd_Work_init_42 rfl (lv_at hl 1 rfl) ?_
  refine lv_aload_n hx hb zd_Work_init_43 rfl (lv_at hl 2 rfl) ?_
  refine zq_c_I (rest := [.ref q1, .ref h0]) (wr := [(h0, .inr (7, [.ref r1, .ref r2, .ref r3, .ref r4, .ref r5, .null, .ref r6, .int 0, .int 0, .int 0, .int 0, .int 0, .int 0, .int 0]))]) ⟨hx, hb, hml, hown, ht⟩ (c_Writes_init l D kT q1 r1 r2) (cwI 2 ht (zq_gI zw_597) rfl rfl rfl (ht _ zw_192) (ht _ zw_598) (ht _ zw_599) rfl zh_Writes_init ⟨Nat.le_of_ble_eq_true rfl, Nat.le_of_ble_eq_true rfl⟩) hE hP hD hS hA [1] [0] rfl rfl rfl rfl (by decide) rfl hl.1 (Nat.le_of_ble_eq_true rfl) rfl zd_Work_init_44 ⟨Nat.le_of_ble_eq_true rfl, Nat.le_of_ble_eq_true rfl⟩ (fun w1 H locs hw hP hD hS => ?_)
  obtain ⟨q2, q3, q4, rfl⟩ := hw
  have hP : va_P D vwCl [(h0, .inr (7, [.ref r1, .ref r2, .ref r3, .ref r4, .ref r5, .null, .ref r6, .int 0, .int 0, .int 0, .int 0, .int 0, .int 0, .int 0])), (q1, .inr (6, [.ref r1, .ref r2, .ref q2, .ref q3, .ref q4, .int 0])), (q2, .inl (kT 0, 200, .inl (fun _ => 0))), (q3, .inl (kT 0, 200, .inl (fun _ => 0))), (q4, .inl (kT 1, 200, .inr (.inl (fun _ => 0))))] H := hP
  have hD : va_D A [(h0, .inr (7, [.ref r1, .ref r2, .ref r3, .ref r4, .ref r5, .null, .ref r6, .int 0, .int 0, .int 0, .int 0, .int 0, .int 0, .int 0])), (q1, .inr (6, [.ref r1, .ref r2, .ref q2, .ref q3, .ref q4, .int 0])), (q2, .inl (kT 0, 200, .inl (fun _ => 0))), (q3, .inl (kT 0, 200, .inl (fun _ => 0))), (q4, .inl (kT 1, 200, .inr (.inl (fun _ => 0))))] := hD
  refine va_putF (D := D) (ci := 7) (v := .ref q1) (ty := (.object "PlainSteps$Writes")) (C := zR_Work) (T := zF_Work) (N := 14) hx hb ht zi_Work zt_Work zt_Work_ok zn_Work hown hK hP hD hS 0 rfl rfl 5 (by decide) (ht _ zw_225) (fun _ h9 => h9) rfl hin rfl (by decide +kernel) rfl rfl (Nat.le_of_ble_eq_true rfl) zd_Work_init_47 (fun H locs hP hD hS => ?_)
  have hP : va_P D vwCl [(h0, .inr (7, [.ref r1, .ref r2, .ref r3, .ref r4, .ref r5, .ref q1, .ref r6, .int 0, .int 0, .int 0, .int 0, .int 0, .int 0, .int 0])), (q1, .inr (6, [.ref r1, .ref r2, .ref q2, .ref q3, .ref q4, .int 0])), (q2, .inl (kT 0, 200, .inl (fun _ => 0))), (q3, .inl (kT 0, 200, .inl (fun _ => 0))), (q4, .inl (kT 1, 200, .inr (.inl (fun _ => 0))))] H := hP
  have hD : va_D A [(h0, .inr (7, [.ref r1, .ref r2, .ref r3, .ref r4, .ref r5, .ref q1, .ref r6, .int 0, .int 0, .int 0, .int 0, .int 0, .int 0, .int 0])), (q1, .inr (6, [.ref r1, .ref r2, .ref q2, .ref q3, .ref q4, .int 0])), (q2, .inl (kT 0, 200, .inl (fun _ => 0))), (q3, .inl (kT 0, 200, .inl (fun _ => 0))), (q4, .inl (kT 1, 200, .inr (.inl (fun _ => 0))))] := hD
  exact hret _ H locs 50 ls ⟨q1, q2, q3, q4, rfl⟩ hP hD hS zd_Work_init_50
set_option maxHeartbeats 4000000 in
set_option maxRecDepth 100000 in
theorem c_Machine_init (l : Launch) (D : va_G) (kT : Nat → ClassId) (h0 : Nat) (r1 : Nat) (r2 : Nat) (r3 : Nat) (r4 : Nat) (r5 : Nat) (r6 : Nat) (r7 : Nat) : zq_MC l zy_Machine_init zs_Machine_init ({ frames := 1, cells := 0, slots := 0, locals := 12 }) D kT [.ref h0, .ref r1, .ref r2, .ref r3, .ref r4, .ref r5, .ref r6, .ref r7] [(h0, .inr (8, [.null, .null, .null, .null, .null, .null, .null, .int 0, .int 0, .int 0, .int 0]))] (fun w' => w' = [(h0, .inr (8, [.ref r1, .ref r2, .ref r3, .ref r4, .ref r5, .ref r6, .ref r7, .int (-1), .int 0, .int 0, .int 0]))]) 0 0 := by
  refine zq_MC_of (cc := zb_Machine_init) (maxL := 8) (own := zR_Machine) (by decide) rfl rfl (Nat.le_of_ble_eq_true rfl) rfl ?_
  intro p e s m AV below meth c A QQ H locs ls hx hb hml hown ht hE hA hin hret hP hD hS hl
  have hK := hE.1
  have hl : lv_has ls 8 [(0, .ref h0), (1, .ref r1), (2, .ref r2), (3, .ref r3), (4, .ref r4), (5, .ref r5), (6, .ref r6), (7, .ref r7)] := hl
  refine lv_aload_n hx hb zd_Machine_init_0 rfl (lv_at hl 0 rfl) ?_
  refine W.objInit hx hb hown (ht _ zw_600) (ht _ zw_581) (ht _ zw_582) rfl (by rw [hml]; exact hl.1) rfl zd_Machine_init_1 (Nat.le_of_ble_eq_true rfl) (Nat.le_of_ble_eq_true rfl) ?_
  refine W.eq (g2 := F0 m 4 ls []) rfl ?_
  refine lv_aload_n hx hb zd_Machine_init_4 rfl (lv_at hl 0 rfl) ?_
  refine lv_iconst (v := (-1)) hx hb zd_Machine_init_5 (by decide) ?_
  refine va_put (D := D) (ci := 8) (v := .int (-1)) (ty := .int) (C := zR_Machine) (T := zF_Machine) (N := 11) hx hb ht zi_Machine zt_Machine zt_Machine_ok zn_Machine hown hK hP hD hS 0 rfl rfl 7 (by decide) (ht _ zw_323) (fun _ h9 => h9) rfl (by decide +kernel) rfl rfl (Nat.le_of_ble_eq_true rfl) zd_Machine_init_6 (fun H locs hP hD hS => ?_)
  have hP : va_P D vwCl [(h0, .inr (8, [.null, .null, .null, .null, .null, .null, .null, .int (-1), .int 0, .int 0, .int 0]))] H := hP
  have hD : va_D A [(h0, .inr (8, [.null, .null, .null, .null, .null, .null, .null, .int (-1), .int 0, .int 0, .int 0]))] := hD
  refine lv_aload_n hx hb zd_Machine_init_9 rfl (lv_at hl 0 rfl) ?_
  refine lv_iconst (v := 0) hx hb zd_Machine_init_10 (by decide) ?_
  refine va_put (D := D) (ci := 8) (v := .int 0) (ty := .int) (C := zR_Machine) (T := zF_Machine) (N := 11) hx hb ht zi_Machine zt_Machine zt_Machine_ok zn_Machine hown hK hP hD hS 0 rfl rfl 8 (by decide) (ht _ zw_351) (fun _ h9 => h9) rfl (by decide +kernel) rfl rfl (Nat.le_of_ble_eq_true rfl) zd_Machine_init_11 (fun H locs hP hD hS => ?_)
  have hP : va_P D vwCl [(h0, .inr (8, [.null, .null, .null, .null, .null, .null, .null, .int (-1), .int 0, .int 0, .int 0]))] H := hP
  have hD : va_D A [(h0, .inr (8, [.null, .null, .null, .null, .null, .null, .null, .int (-1), .int 0, .int 0, .int 0]))] := hD
  refine lv_aload_n hx hb zd_Machine_init_14 rfl (lv_at hl 0 rfl) ?_
  refine lv_aload_n hx hb zd_Machine_init_15 rfl (lv_at hl 1 rfl) ?_
  refine va_putF (D := D) (ci := 8) (v := .ref r1) (ty := (.object "PlainSteps$Registers")) (C := zR_Machine) (T := zF_Machine) (N := 11) hx hb ht zi_Machine zt_Machine zt_Machine_ok zn_Machine hown hK hP hD hS 0 rfl rfl 0 (by decide) (ht _ zw_335) (fun _ h9 => h9) rfl hin rfl (by decide +kernel) rfl rfl (Nat.le_of_ble_eq_true rfl) zd_Machine_init_16 (fun H locs hP hD hS => ?_)
  have hP : va_P D vwCl [(h0, .inr (8, [.ref r1, .null, .null, .null, .null, .null, .null, .int (-1), .int 0, .int 0, .int 0]))] H := hP
  have hD : va_D A [(h0, .inr (8, [.ref r1, .null, .null, .null, .null, .null, .null, .int (-1), .int 0, .int 0, .int 0]))] := hD
  refine lv_aload_n hx hb zd_Machine_init_19 rfl (lv_at hl 0 rfl) ?_
  refine lv_aload_n hx hb zd_Machine_init_20 rfl (lv_at hl 2 rfl) ?_
  refine va_putF (D := D) (ci := 8) (v := .ref r2) (ty := (.object "PlainSteps$Bytes")) (C := zR_Machine) (T := zF_Machine) (N := 11) hx hb ht zi_Machine zt_Machine zt_Machine_ok zn_Machine hown hK hP hD hS 0 rfl rfl 1 (by decide) (ht _ zw_363) (fun _ h9 => h9) rfl hin rfl (by decide +kernel) rfl rfl (Nat.le_of_ble_eq_true rfl) zd_Machine_init_21 (fun H locs hP hD hS => ?_)
  have hP : va_P D vwCl [(h0, .inr (8, [.ref r1, .ref r2, .null, .null, .null, .null, .null, .int (-1), .int 0, .int 0, .int 0]))] H := hP
  have hD : va_D A [(h0, .inr (8, [.ref r1, .ref r2, .null, .null, .null, .null, .null, .int (-1), .int 0, .int 0, .int 0]))] := hD
  refine lv_aload_n hx hb zd_Machine_init_24 rfl (lv_at hl 0 rfl) ?_
  refine lv_aload_n hx hb zd_Machine_init_25 rfl (lv_at hl 3 rfl) ?_
  refine va_putF (D := D) (ci := 8) (v := .ref r3) (ty := (.object "PlainSteps$Program")) (C := zR_Machine) (T := zF_Machine) (N := 11) hx hb ht zi_Machine zt_Machine zt_Machine_ok zn_Machine hown hK hP hD hS 0 rfl rfl 2 (by decide) (ht _ zw_366) (fun _ h9 => h9) rfl hin rfl (by decide +kernel) rfl rfl (Nat.le_of_ble_eq_true rfl) zd_Machine_init_26 (fun H locs hP hD hS => ?_)
  have hP : va_P D vwCl [(h0, .inr (8, [.ref r1, .ref r2, .ref r3, .null, .null, .null, .null, .int (-1), .int 0, .int 0, .int 0]))] H := hP
  have hD : va_D A [(h0, .inr (8, [.ref r1, .ref r2, .ref r3, .null, .null, .null, .null, .int (-1), .int 0, .int 0, .int 0]))] := hD
  refine lv_aload_n hx hb zd_Machine_init_29 rfl (lv_at hl 0 rfl) ?_
  refine lv_aload hx hb zd_Machine_init_30 (lv_at hl 4 rfl) ?_
  refine va_putF (D := D) (ci := 8) (v := .ref r4) (ty := (.object "PlainSteps$Kept")) (C := zR_Machine) (T := zF_Machine) (N := 11) hx hb ht zi_Machine zt_Machine zt_Machine_ok zn_Machine hown hK hP hD hS 0 rfl rfl 3 (by decide) (ht _ zw_329) (fun _ h9 => h9) rfl hin rfl (by decide +kernel) rfl rfl (Nat.le_of_ble_eq_true rfl) zd_Machine_init_32 (fun H locs hP hD hS => ?_)
  have hP : va_P D vwCl [(h0, .inr (8, [.ref r1, .ref r2, .ref r3, .ref r4, .null, .null, .null, .int (-1), .int 0, .int 0, .int 0]))] H := hP
  have hD : va_D A [(h0, .inr (8, [.ref r1, .ref r2, .ref r3, .ref r4, .null, .null, .null, .int (-1), .int 0, .int 0, .int 0]))] := hD
  refine lv_aload_n hx hb zd_Machine_init_35 rfl (lv_at hl 0 rfl) ?_
  refine lv_aload hx hb zd_Machine_init_36 (lv_at hl 5 rfl) ?_
  refine va_putF (D := D) (ci := 8) (v := .ref r5) (ty := (.object "PlainSteps$Lines")) (C := zR_Machine) (T := zF_Machine) (N := 11) hx hb ht zi_Machine zt_Machine zt_Machine_ok zn_Machine hown hK hP hD hS 0 rfl rfl 4 (by decide) (ht _ zw_340) (fun _ h9 => h9) rfl hin rfl (by decide +kernel) rfl rfl (Nat.le_of_ble_eq_true rfl) zd_Machine_init_38 (fun H locs hP hD hS => ?_)
  have hP : va_P D vwCl [(h0, .inr (8, [.ref r1, .ref r2, .ref r3, .ref r4, .ref r5, .null, .null, .int (-1), .int 0, .int 0, .int 0]))] H := hP
  have hD : va_D A [(h0, .inr (8, [.ref r1, .ref r2, .ref r3, .ref r4, .ref r5, .null, .null, .int (-1), .int 0, .int 0, .int 0]))] := hD
  refine lv_aload_n hx hb zd_Machine_init_41 rfl (lv_at hl 0 rfl) ?_
  refine lv_aload hx hb zd_Machine_init_42 (lv_at hl 6 rfl) ?_
  refine va_putF (D := D) (ci := 8) (v := .ref r6) (ty := (.object "PlainSteps$Work")) (C := zR_Machine) (T := zF_Machine) (N := 11) hx hb ht zi_Machine zt_Machine zt_Machine_ok zn_Machine hown hK hP hD hS 0 rfl rfl 5 (by decide) (ht _ zw_358) (fun _ h9 => h9) rfl hin rfl (by decide +kernel) rfl rfl (Nat.le_of_ble_eq_true rfl) zd_Machine_init_44 (fun H locs hP hD hS => ?_)
  have hP : va_P D vwCl [(h0, .inr (8, [.ref r1, .ref r2, .ref r3, .ref r4, .ref r5, .ref r6, .null, .int (-1), .int 0, .int 0, .int 0]))] H := hP
  have hD : va_D A [(h0, .inr (8, [.ref r1, .ref r2, .ref r3, .ref r4, .ref r5, .ref r6, .null, .int (-1), .int 0, .int 0, .int 0]))] := hD
  refine lv_aload_n hx hb zd_Machine_init_47 rfl (lv_at hl 0 rfl) ?_
  refine lv_aload hx hb zd_Machine_init_48 (lv_at hl 7 rfl) ?_
  refine va_putF (D := D) (ci := 8) (v := .ref r7) (ty := (.array .int)) (C := zR_Machine) (T := zF_Machine) (N := 11) hx hb ht zi_Machine zt_Machine zt_Machine_ok zn_Machine hown hK hP hD hS 0 rfl rfl 6 (by decide) (ht _ zw_334) (fun _ h9 => h9) rfl hin rfl (by decide +kernel) rfl rfl (Nat.le_of_ble_eq_true rfl) zd_Machine_init_50 (fun H locs hP hD hS => ?_)
  have hP : va_P D vwCl [(h0, .inr (8, [.ref r1, .ref r2, .ref r3, .ref r4, .ref r5, .ref r6, .ref r7, .int (-1), .int 0, .int 0, .int 0]))] H := hP
  have hD : va_D A [(h0, .inr (8, [.ref r1, .ref r2, .ref r3, .ref r4, .ref r5, .ref r6, .ref r7, .int (-1), .int 0, .int 0, .int 0]))] := hD
  exact hret _ H locs 53 ls rfl hP hD hS zd_Machine_init_53
