abbrev W_Program_addTransfer (kT : Nat → ClassId) (ad : Nat → Nat) (ptn : Int32) (pin : Int32) (po : Nat → Int32) (pa : Nat → Int32) (pb : Nat → Int32) (pt : Nat → Int32) : va_W := [(ad 12, .inr (3, [.ref (ad 13), .ref (ad 14), .ref (ad 15), .ref (ad 16), .int ptn, .ref (ad 17), .ref (ad 18), .ref (ad 19), .ref (ad 20), .ref (ad 21), .int pin])), (ad 13, .inl (kT 0, 200, .inl po)), (ad 14, .inl (kT 0, 200, .inl pa)), (ad 15, .inl (kT 0, 200, .inl pb)), (ad 16, .inl (kT 0, 200, .inl pt))]
abbrev A_Program_addTransfer (ad : Nat → Nat) : List Nat := [ad 12, ad 13, ad 14, ad 15, ad 16]
def wp_Program_addTransfer (ptn : Int32) (pin : Int32) (po : Nat → Int32) (pa : Nat → Int32) (pb : Nat → Int32) (pt : Nat → Int32) (p0 : Int32) (p1 : Int32) (p2 : Int32) (p3 : Int32) (post : Int32 → Int32 → (Nat → Int32) → (Nat → Int32) → (Nat → Int32) → (Nat → Int32) → Prop) : Prop := vp_in ptn 200 ∧ vp_in ptn 200 ∧ vp_in ptn 200 ∧ vp_in ptn 200 ∧ post (ptn + 1) (ptn + 1) (upd po ptn.toNatClampNeg p0) (upd pa ptn.toNatClampNeg p1) (upd pb ptn.toNatClampNeg p2) (upd pt ptn.toNatClampNeg p3)
set_option maxHeartbeats 4000000 in
set_option maxRecDepth 100000 in
theorem c_Program_addTransfer (l : Launch) (D : va_G) (kT : Nat → ClassId) (ad : Nat → Nat) (ptn : Int32) (pin : Int32) (po : Nat → Int32) (pa : Nat → Int32) (pb : Nat → Int32) (pt : Nat → Int32) (p0 : Int32) (p1 : Int32) (p2 : Int32) (p3 : Int32) (post : Int32 → Int32 → (Nat → Int32) → (Nat → Int32) → (Nat → Int32) → (Nat → Int32) → Prop) (h : wp_Program_addTransfer ptn pin po pa pb pt p0 p1 p2 p3 post) : zq_Mi l zy_Program_addTransfer zs_Program_addTransfer ({ frames := 0, cells := 0, slots := 0, locals := 0 }) D kT [.ref (ad 12), .int p0, .int p1, .int p2, .int p3] (W_Program_addTransfer kT ad ptn pin po pa pb pt) (fun r w' => ∃ (ptn' : Int32) (po' : Nat → Int32) (pa' : Nat → Int32) (pb' : Nat → Int32) (pt' : Nat → Int32), w' = (W_Program_addTransfer kT ad ptn' pin po' pa' pb' pt') ∧ post r ptn' po' pa' pb' pt') := by
  refine zq_Mi_of (adl := (A_Program_addTransfer ad)) (cc := zb_Program_addTransfer) (maxL := 5) (own := zR_Program) rfl (by decide) rfl rfl (Nat.le_of_ble_eq_true rfl) ?_
  intro p e s m AV below meth c A QQ H locs ls hx hb hml hown ht hE hA hret hP hD hS hl
  have hK := hE.1
  have hl : lv_has ls 5 [(0, .ref (ad 12)), (1, .int p0), (2, .int p1), (3, .int p2), (4, .int p3)] := hl
  refine lv_aload_n hx hb zd_Program_addTransfer_0 rfl (lv_at hl 0 rfl) ?_
  refine va_get (D := D) (ci := 3) (v := .ref (ad 13)) (C := zR_Program) (T := zF_Program) (N := 11) hx hb ht zi_Program hown hK hP 0 rfl rfl 0 (by decide) (ht _ zw_161) (fun _ h9 => h9) rfl zd_Program_addTransfer_1 ?_
  refine lv_aload_n hx hb zd_Program_addTransfer_4 rfl (lv_at hl 0 rfl) ?_
  refine va_get (D := D) (ci := 3) (v := .int ptn) (C := zR_Program) (T := zF_Program) (N := 11) hx hb ht zi_Program hown hK hP 0 rfl rfl 4 (by decide) (ht _ zw_162) (fun _ h9 => h9) rfl zd_Program_addTransfer_5 ?_
  refine lv_iload_n hx hb zd_Program_addTransfer_8 rfl (lv_at hl 1 rfl) ?_
  obtain ⟨hi_1, h⟩ := h
  refine zq_a_iast (D := D) hx hb hK hP hD hS 1 0 rfl rfl hi_1 rfl zd_Program_addTransfer_9 (fun H locs hP hD hS => ?_)
  have hP : va_P D vwCl (W_Program_addTransfer kT ad ptn pin (upd po ptn.toNatClampNeg p0) pa pb pt) H := hP
  have hD : va_D A (W_Program_addTransfer kT ad ptn pin (upd po ptn.toNatClampNeg p0) pa pb pt) := hD
  refine lv_aload_n hx hb zd_Program_addTransfer_10 rfl (lv_at hl 0 rfl) ?_
  refine va_get (D := D) (ci := 3) (v := .ref (ad 14)) (C := zR_Program) (T := zF_Program) (N := 11) hx hb ht zi_Program hown hK hP 0 rfl rfl 1 (by decide) (ht _ zw_163) (fun _ h9 => h9) rfl zd_Program_addTransfer_11 ?_
  refine lv_aload_n hx hb zd_Program_addTransfer_14 rfl (lv_at hl 0 rfl) ?_
  refine va_get (D := D) (ci := 3) (v := .int ptn) (C := zR_Program) (T := zF_Program) (N := 11) hx hb ht zi_Program hown hK hP 0 rfl rfl 4 (by decide) (ht _ zw_162) (fun _ h9 => h9) rfl zd_Program_addTransfer_15 ?_
  refine lv_iload_n hx hb zd_Program_addTransfer_18 rfl (lv_at hl 2 rfl) ?_
  obtain ⟨hi_2, h⟩ := h
  refine zq_a_iast (D := D) hx hb hK hP hD hS 2 0 rfl rfl hi_2 rfl zd_Program_addTransfer_19 (fun H locs hP hD hS => ?_)
  have hP : va_P D vwCl (W_Program_addTransfer kT ad ptn pin (upd po ptn.toNatClampNeg p0) (upd pa ptn.toNatClampNeg p1) pb pt) H := hP
  have hD : va_D A (W_Program_addTransfer kT ad ptn pin (upd po ptn.toNatClampNeg p0) (upd pa ptn.toNatClampNeg p1) pb pt) := hD
  refine lv_aload_n hx hb zd_Program_addTransfer_20 rfl (lv_at hl 0 rfl) ?_
  refine va_get (D := D) (ci := 3) (v := .ref (ad 15)) (C := zR_Program) (T := zF_Program) (N := 11) hx hb ht zi_Program hown hK hP 0 rfl rfl 2 (by decide) (ht _ zw_164) (fun _ h9 => h9) rfl zd_Program_addTransfer_21 ?_
  refine lv_aload_n hx hb zd_Program_addTransfer_24 rfl (lv_at hl 0 rfl) ?_
  refine va_get (D := D) (ci := 3) (v := .int ptn) (C := zR_Program) (T := zF_Program) (N := 11) hx hb ht zi_Program hown hK hP 0 rfl rfl 4 (by decide) (ht _ zw_162) (fun _ h9 => h9) rfl zd_Program_addTransfer_25 ?_
  refine lv_iload_n hx hb zd_Program_addTransfer_28 rfl (lv_at hl 3 rfl) ?_
  obtain ⟨hi_3, h⟩ := h
  refine zq_a_iast (D := D) hx hb hK hP hD hS 3 0 rfl rfl hi_3 rfl zd_Program_addTransfer_29 (fun H locs hP hD hS => ?_)
  have hP : va_P D vwCl (W_Program_addTransfer kT ad ptn pin (upd po ptn.toNatClampNeg p0) (upd pa ptn.toNatClampNeg p1) (upd pb ptn.toNatClampNeg p2) pt) H := hP
  have hD : va_D A (W_Program_addTransfer kT ad ptn pin (upd po ptn.toNatClampNeg p0) (upd pa ptn.toNatClampNeg p1) (upd pb ptn.toNatClampNeg p2) pt) := hD
  refine lv_aload_n hx hb zd_Program_addTransfer_30 rfl (lv_at hl 0 rfl) ?_
  refine va_get (D := D) (ci := 3) (v := .ref (ad 16)) (C := zR_Program) (T := zF_Program) (N := 11) hx hb ht zi_Program hown hK hP 0 rfl rfl 3 (by decide) (ht _ zw_165) (fun _ h9 => h9) rfl zd_Program_addTransfer_31 ?_
  refine lv_aload_n hx hb zd_Program_addTransfer_34 rfl (lv_at hl 0 rfl) ?_
  refine va_get (D := D) (ci := 3) (v := .int ptn) (C := zR_Program) (T := zF_Program) (N := 11) hx hb ht zi_Program hown hK hP 0 rfl rfl 4 (by decide) (ht _ zw_162) (fun _ h9 => h9) rfl zd_Program_addTransfer_35 ?_
  refine lv_iload hx hb zd_Program_addTransfer_38 (lv_at hl 4 rfl) ?_
  obtain ⟨hi_4, h⟩ := h
  refine zq_a_iast (D := D) hx hb hK hP hD hS 4 0 rfl rfl hi_4 rfl zd_Program_addTransfer_40 (fun H locs hP hD hS => ?_)
  have hP : va_P D vwCl (W_Program_addTransfer kT ad ptn pin (upd po ptn.toNatClampNeg p0) (upd pa ptn.toNatClampNeg p1) (upd pb ptn.toNatClampNeg p2) (upd pt ptn.toNatClampNeg p3)) H := hP
  have hD : va_D A (W_Program_addTransfer kT ad ptn pin (upd po ptn.toNatClampNeg p0) (upd pa ptn.toNatClampNeg p1) (upd pb ptn.toNatClampNeg p2) (upd pt ptn.toNatClampNeg p3)) := hD
  refine lv_aload_n hx hb zd_Program_addTransfer_41 rfl (lv_at hl 0 rfl) ?_
  refine lv_dup hx hb zd_Program_addTransfer_42 rfl ?_
  refine va_get (D := D) (ci := 3) (v := .int ptn) (C := zR_Program) (T := zF_Program) (N := 11) hx hb ht zi_Program hown hK hP 0 rfl rfl 4 (by decide) (ht _ zw_162) (fun _ h9 => h9) rfl zd_Program_addTransfer_43 ?_
  refine lv_iconst (v := 1) hx hb zd_Program_addTransfer_46 (by decide) ?_
  refine lv_iadd hx hb zd_Program_addTransfer_47 ?_
  refine va_put (D := D) (ci := 3) (v := .int (ptn + 1)) (ty := .int) (C := zR_Program) (T := zF_Program) (N := 11) hx hb ht zi_Program zt_Program zt_Program_ok zn_Program hown hK hP hD hS 0 rfl rfl 4 (by decide) (ht _ zw_162) (fun _ h9 => h9) rfl (by decide +kernel) rfl rfl (Nat.le_of_ble_eq_true rfl) zd_Program_addTransfer_48 (fun H locs hP hD hS => ?_)
  have hP : va_P D vwCl (W_Program_addTransfer kT ad (ptn + 1) pin (upd po ptn.toNatClampNeg p0) (upd pa ptn.toNatClampNeg p1) (upd pb ptn.toNatClampNeg p2) (upd pt ptn.toNatClampNeg p3)) H := hP
  have hD : va_D A (W_Program_addTransfer kT ad (ptn + 1) pin (upd po ptn.toNatClampNeg p0) (upd pa ptn.toNatClampNeg p1) (upd pb ptn.toNatClampNeg p2) (upd pt ptn.toNatClampNeg p3)) := hD
  refine lv_aload_n hx hb zd_Program_addTransfer_51 rfl (lv_at hl 0 rfl) ?_
  refine va_get (D := D) (ci := 3) (v := .int (ptn + 1)) (C := zR_Program) (T := zF_Program) (N := 11) hx hb ht zi_Program hown hK hP 0 rfl rfl 4 (by decide) (ht _ zw_162) (fun _ h9 => h9) rfl zd_Program_addTransfer_52 ?_
  exact hret (ptn + 1)  _ H locs 55 ls ⟨(ptn + 1), (upd po ptn.toNatClampNeg p0), (upd pa ptn.toNatClampNeg p1), (upd pb ptn.toNatClampNeg p2), (upd pt ptn.toNatClampNeg p3), rfl, h⟩ hP rfl hS zd_Program_addTransfer_55
abbrev W_Program_addInstruction (kT : Nat → ClassId) (ad : Nat → Nat) (ptn : Int32) (pin : Int32) (pm : Nat → Int32) (pv : Nat → Int32) (pw : Nat → Int32) (pst : Nat → Int32) (pe : Nat → Int32) : va_W := [(ad 12, .inr (3, [.ref (ad 13), .ref (ad 14), .ref (ad 15), .ref (ad 16), .int ptn, .ref (ad 17), .ref (ad 18), .ref (ad 19), .ref (ad 20), .ref (ad 21), .int pin])), (ad 17, .inl (kT 0, 40, .inl pm)), (ad 18, .inl (kT 0, 40, .inl pv)), (ad 19, .inl (kT 0, 40, .inl pw)), (ad 20, .inl (kT 0, 40, .inl pst)), (ad 21, .inl (kT 0, 40, .inl pe))]
abbrev A_Program_addInstruction (ad : Nat → Nat) : List Nat := [ad 12, ad 17, ad 18, ad 19, ad 20, ad 21]
def wp_Program_addInstruction_60 (ptn : Int32) (pin : Int32) (pm : Nat → Int32) (pv : Nat → Int32) (pw : Nat → Int32) (pst : Nat → Int32) (pe : Nat → Int32) (z0 : Int32) (z1 : Int32) (post : Int32 → Int32 → (Nat → Int32) → (Nat → Int32) → (Nat → Int32) → (Nat → Int32) → (Nat → Int32) → Prop) : Prop := vp_in z1 40 ∧ vp_in pin 40 ∧ post ((pin + 1) - 1) (pin + 1) pm pv pw (upd pst z1.toNatClampNeg z0) (upd pe pin.toNatClampNeg ptn)
def wp_Program_addInstruction (ptn : Int32) (pin : Int32) (pm : Nat → Int32) (pv : Nat → Int32) (pw : Nat → Int32) (pst : Nat → Int32) (pe : Nat → Int32) (p0 : Int32) (p1 : Int32) (p2 : Int32) (post : Int32 → Int32 → (Nat → Int32) → (Nat → Int32) → (Nat → Int32) → (Nat → Int32) → (Nat → Int32) → Prop) : Prop := vp_in pin 40 ∧ vp_in pin 40 ∧ vp_in pin 40 ∧ (if pin = 0 then wp_Program_addInstruction_60 ptn pin (upd pm pin.toNatClampNeg p0) (upd pv pin.toNatClampNeg p1) (upd pw pin.toNatClampNeg p2) pst pe 0 pin post else vp_in (pin - 1) 40 ∧ wp_Program_addInstruction_60 ptn pin (upd pm pin.toNatClampNeg p0) (upd pv pin.toNatClampNeg p1) (upd pw pin.toNatClampNeg p2) pst pe (pe ((pin - 1)).toNatClampNeg) pin post)
set_option maxHeartbeats 4000000 in
set_option maxRecDepth 100000 in
theorem c_Program_addInstruction (l : Launch) (D : va_G) (kT : Nat → ClassId) (ad : Nat → Nat) (ptn : Int32) (pin : Int32) (pm : Nat → Int32) (pv : Nat → Int32) (pw : Nat → Int32) (pst : Nat → Int32) (pe : Nat → Int32) (p0 : Int32) (p1 : Int32) (p2 : Int32) (post : Int32 → Int32 → (Nat → Int32) → (Nat → Int32) → (Nat → Int32) → (Nat → Int32) → (Nat → Int32) → Prop) (h : wp_Program_addInstruction ptn pin pm pv pw pst pe p0 p1 p2 post) : zq_Mi l zy_Program_addInstruction zs_Program_addInstruction ({ frames := 0, cells := 0, slots := 0, locals := 0 }) D kT [.ref (ad 12), .int p0, .int p1, .int p2] (W_Program_addInstruction kT ad ptn pin pm pv pw pst pe) (fun r w' => ∃ (pin' : Int32) (pm' : Nat → Int32) (pv' : Nat → Int32) (pw' : Nat → Int32) (pst' : Nat → Int32) (pe' : Nat → Int32), w' = (W_Program_addInstruction kT ad ptn pin' pm' pv' pw' pst' pe') ∧ post r pin' pm' pv' pw' pst' pe') := by
  refine zq_Mi_of (adl := (A_Program_addInstruction ad)) (cc := zb_Program_addInstruction) (maxL := 4) (own := zR_Program) rfl (by decide) rfl rfl (Nat.le_of_ble_eq_true rfl) ?_
  intro p e s m AV below meth c A QQ H locs ls hx hb hml hown ht hE hA hret hP hD hS hl
  have hK := hE.1
  have hl : lv_has ls 4 [(0, .ref (ad 12)), (1, .int p0), (2, .int p1), (3, .int p2)] := hl
  have B60 : ∀  (pin : Int32) (pm : Nat → Int32) (pv : Nat → Int32) (pw : Nat → Int32) (pst : Nat → Int32) (pe : Nat → Int32) (z0 : Int32) (z1 : Int32) (H : Heap) (locs : List Loc) (ls : Array Slot), wp_Program_addInstruction_60 ptn pin pm pv pw pst pe z0 z1 post → va_P D vwCl (W_Program_addInstruction kT ad ptn pin pm pv pw pst pe) H → va_D A (W_Program_addInstruction kT ad ptn pin pm pv pw pst pe) → va_S A s.heap H locs → lv_has ls 4 [(0, .ref (ad 12))] → W p l e ({ frames := 0, cells := 0, slots := 0, locals := 0 }) s m AV below meth c H locs 0 0 QQ (F0 m 60 ls [.int z0, .int z1, .ref (ad 20)]) := by
    intro pin pm pv pw pst pe z0 z1 H locs ls h hP hD hS hl
    obtain ⟨hi_6, h⟩ := h
    refine zq_a_iast (D := D) hx hb hK hP hD hS 4 0 rfl rfl hi_6 rfl zd_Program_addInstruction_60 (fun H locs hP hD hS => ?_)
    have hP : va_P D vwCl (W_Program_addInstruction kT ad ptn pin pm pv pw (upd pst z1.toNatClampNeg z0) pe) H := hP
    have hD : va_D A (W_Program_addInstruction kT ad ptn pin pm pv pw (upd pst z1.toNatClampNeg z0) pe) := hD
    refine lv_aload_n hx hb zd_Program_addInstruction_61 rfl (lv_at hl 0 rfl) ?_
    refine va_get (D := D) (ci := 3) (v := .ref (ad 21)) (C := zR_Program) (T := zF_Program) (N := 11) hx hb ht zi_Program hown hK hP 0 rfl rfl 9 (by decide) (ht _ zw_171) (fun _ h9 => h9) rfl zd_Program_addInstruction_62 ?_
    refine lv_aload_n hx hb zd_Program_addInstruction_65 rfl (lv_at hl 0 rfl) ?_
    refine va_get (D := D) (ci := 3) (v := .int pin) (C := zR_Program) (T := zF_Program) (N := 11) hx hb ht zi_Program hown hK hP 0 rfl rfl 10 (by decide) (ht _ zw_167) (fun _ h9 => h9) rfl zd_Program_addInstruction_66 ?_
    refine lv_aload_n hx hb zd_Program_addInstruction_69 rfl (lv_at hl 0 rfl) ?_
    refine va_get (D := D) (ci := 3) (v := .int ptn) (C := zR_Program) (T := zF_Program) (N := 11) hx hb ht zi_Program hown hK hP 0 rfl rfl 4 (by decide) (ht _ zw_162) (fun _ h9 => h9) rfl zd_Program_addInstruction_70 ?_
    obtain ⟨hi_7, h⟩ := h
    refine zq_a_iast (D := D) hx hb hK hP hD hS 5 0 rfl rfl hi_7 rfl zd_Program_addInstruction_73 (fun H locs hP hD hS => ?_)
    have hP : va_P D vwCl (W_Program_addInstruction kT ad ptn pin pm pv pw (upd pst z1.toNatClampNeg z0) (upd pe pin.toNatClampNeg ptn)) H := hP
    have hD : va_D A (W_Program_addInstruction kT ad ptn pin pm pv pw (upd pst z1.toNatClampNeg z0) (upd pe pin.toNatClampNeg ptn)) := hD
    refine lv_aload_n hx hb zd_Program_addInstruction_74 rfl (lv_at hl 0 rfl) ?_
    refine lv_dup hx hb zd_Program_addInstruction_75 rfl ?_
    refine va_get (D := D) (ci := 3) (v := .int pin) (C := zR_Program) (T := zF_Program) (N := 11) hx hb ht zi_Program hown hK hP 0 rfl rfl 10 (by decide) (ht _ zw_167) (fun _ h9 => h9) rfl zd_Program_addInstruction_76 ?_
    refine lv_iconst (v := 1) hx hb zd_Program_addInstruction_79 (by decide) ?_
    refine lv_iadd hx hb zd_Program_addInstruction_80 ?_
    refine va_put (D := D) (ci := 3) (v := .int (pin + 1)) (ty := .int) (C := zR_Program) (T := zF_Program) (N := 11) hx hb ht zi_Program zt_Program zt_Program_ok zn_Program hown hK hP hD hS 0 rfl rfl 10 (by decide) (ht _ zw_167) (fun _ h9 => h9) rfl (by decide +kernel) rfl rfl (Nat.le_of_ble_eq_true rfl) zd_Program_addInstruction_81 (fun H locs hP hD hS => ?_)
    have hP : va_P D vwCl (W_Program_addInstruction kT ad ptn (pin + 1) pm pv pw (upd pst z1.toNatClampNeg z0) (upd pe pin.toNatClampNeg ptn)) H := hP
    have hD : va_D A (W_Program_addInstruction kT ad ptn (pin + 1) pm pv pw (upd pst z1.toNatClampNeg z0) (upd pe pin.toNatClampNeg ptn)) := hD
    refine lv_aload_n hx hb zd_Program_addInstruction_84 rfl (lv_at hl 0 rfl) ?_
    refine va_get (D := D) (ci := 3) (v := .int (pin + 1)) (C := zR_Program) (T := zF_Program) (N := 11) hx hb ht zi_Program hown hK hP 0 rfl rfl 10 (by decide) (ht _ zw_167) (fun _ h9 => h9) rfl zd_Program_addInstruction_85 ?_
    refine lv_iconst (v := 1) hx hb zd_Program_addInstruction_88 (by decide) ?_
    refine lv_isub hx hb zd_Program_addInstruction_89 ?_
    exact hret ((pin + 1) - 1)  _ H locs 90 ls ⟨(pin + 1), pm, pv, pw, (upd pst z1.toNatClampNeg z0), (upd pe pin.toNatClampNeg ptn), rfl, h⟩ hP rfl hS zd_Program_addInstruction_90
  refine lv_aload_n hx hb zd_Program_addInstruction_0 rfl (lv_at hl 0 rfl) ?_
  refine va_get (D := D) (ci := 3) (v := .ref (ad 17)) (C := zR_Program) (T := zF_Program) (N := 11) hx hb ht zi_Program hown hK hP 0 rfl rfl 5 (by decide) (ht _ zw_166) (fun _ h9 => h9) rfl zd_Program_addInstruction_1 ?_
  refine lv_aload_n hx hb zd_Program_addInstruction_4 rfl (lv_at hl 0 rfl) ?_
  refine va_get (D := D) (ci := 3) (v := .int pin) (C := zR_Program) (T := zF_Program) (N := 11) hx hb ht zi_Program hown hK hP 0 rfl rfl 10 (by decide) (ht _ zw_167) (fun _ h9 => h9) rfl zd_Program_addInstruction_5 ?_
  refine lv_iload_n hx hb zd_Program_addInstruction_8 rfl (lv_at hl 1 rfl) ?_
  obtain ⟨hi_1, h⟩ := h
  refine zq_a_iast (D := D) hx hb hK hP hD hS 1 0 rfl rfl hi_1 rfl zd_Program_addInstruction_9 (fun H locs hP hD hS => ?_)
  have hP : va_P D vwCl (W_Program_addInstruction kT ad ptn pin (upd pm pin.toNatClampNeg p0) pv pw pst pe) H := hP
  have hD : va_D A (W_Program_addInstruction kT ad ptn pin (upd pm pin.toNatClampNeg p0) pv pw pst pe) := hD
  refine lv_aload_n hx hb zd_Program_addInstruction_10 rfl (lv_at hl 0 rfl) ?_
  refine va_get (D := D) (ci := 3) (v := .ref (ad 18)) (C := zR_Program) (T := zF_Program) (N := 11) hx hb ht zi_Program hown hK hP 0 rfl rfl 6 (by decide) (ht _ zw_168) (fun _ h9 => h9) rfl zd_Program_addInstruction_11 ?_
  refine lv_aload_n hx hb zd_Program_addInstruction_14 rfl (lv_at hl 0 rfl) ?_
  refine va_get (D := D) (ci := 3) (v := .int pin) (C := zR_Program) (T := zF_Program) (N := 11) hx hb ht zi_Program hown hK hP 0 rfl rfl 10 (by decide) (ht _ zw_167) (fun _ h9 => h9) rfl zd_Program_addInstruction_15 ?_
  refine lv_iload_n hx hb zd_Program_addInstruction_18 rfl (lv_at hl 2 rfl) ?_
  obtain ⟨hi_2, h⟩ := h
  refine zq_a_iast (D := D) hx hb hK hP hD hS 2 0 rfl rfl hi_2 rfl zd_Program_addInstruction_19 (fun H locs hP hD hS => ?_)
  have hP : va_P D vwCl (W_Program_addInstruction kT ad ptn pin (upd pm pin.toNatClampNeg p0) (upd pv pin.toNatClampNeg p1) pw pst pe) H := hP
  have hD : va_D A (W_Program_addInstruction kT ad ptn pin (upd pm pin.toNatClampNeg p0) (upd pv pin.toNatClampNeg p1) pw pst pe) := hD
  refine lv_aload_n hx hb zd_Program_addInstruction_20 rfl (lv_at hl 0 rfl) ?_
  refine va_get (D := D) (ci := 3) (v := .ref (ad 19)) (C := zR_Program) (T := zF_Program) (N := 11) hx hb ht zi_Program hown hK hP 0 rfl rfl 7 (by decide) (ht _ zw_169) (fun _ h9 => h9) rfl zd_Program_addInstruction_21 ?_
  refine lv_aload_n hx hb zd_Program_addInstruction_24 rfl (lv_at hl 0 rfl) ?_
  refine va_get (D := D) (ci := 3) (v := .int pin) (C := zR_Program) (T := zF_Program) (N := 11) hx hb ht zi_Program hown hK hP 0 rfl rfl 10 (by decide) (ht _ zw_167) (fun _ h9 => h9) rfl zd_Program_addInstruction_25 ?_
  refine lv_iload_n hx hb zd_Program_addInstruction_28 rfl (lv_at hl 3 rfl) ?_
  obtain ⟨hi_3, h⟩ := h
  refine zq_a_iast (D := D) hx hb hK hP hD hS 3 0 rfl rfl hi_3 rfl zd_Program_addInstruction_29 (fun H locs hP hD hS => ?_)
  have hP : va_P D vwCl (W_Program_addInstruction kT ad ptn pin (upd pm pin.toNatClampNeg p0) (upd pv pin.toNatClampNeg p1) (upd pw pin.toNatClampNeg p2) pst pe) H := hP
  have hD : va_D A (W_Program_addInstruction kT ad ptn pin (upd pm pin.toNatClampNeg p0) (upd pv pin.toNatClampNeg p1) (upd pw pin.toNatClampNeg p2) pst pe) := hD
  refine lv_aload_n hx hb zd_Program_addInstruction_30 rfl (lv_at hl 0 rfl) ?_
  refine va_get (D := D) (ci := 3) (v := .ref (ad 20)) (C := zR_Program) (T := zF_Program) (N := 11) hx hb ht zi_Program hown hK hP 0 rfl rfl 8 (by decide) (ht _ zw_170) (fun _ h9 => h9) rfl zd_Program_addInstruction_31 ?_
  refine lv_aload_n hx hb zd_Program_addInstruction_34 rfl (lv_at hl 0 rfl) ?_
  refine va_get (D := D) (ci := 3) (v := .int pin) (C := zR_Program) (T := zF_Program) (N := 11) hx hb ht zi_Program hown hK hP 0 rfl rfl 10 (by decide) (ht _ zw_167) (fun _ h9 => h9) rfl zd_Program_addInstruction_35 ?_
  refine lv_aload_n hx hb zd_Program_addInstruction_38 rfl (lv_at hl 0 rfl) ?_
  refine va_get (D := D) (ci := 3) (v := .int pin) (C := zR_Program) (T := zF_Program) (N := 11) hx hb ht zi_Program hown hK hP 0 rfl rfl 10 (by decide) (ht _ zw_167) (fun _ h9 => h9) rfl zd_Program_addInstruction_39 ?_
  refine lv_if_ne (tgt := 49) hx hb zd_Program_addInstruction_42 (by decide) (fun c_4 => ?_) (fun c_4 => ?_)
  · have h := zq_if c_4 h
    refine lv_aload_n hx hb zd_Program_addInstruction_49 rfl (lv_at hl 0 rfl) ?_
    refine va_get (D := D) (ci := 3) (v := .ref (ad 21)) (C := zR_Program) (T := zF_Program) (N := 11) hx hb ht zi_Program hown hK hP 0 rfl rfl 9 (by decide) (ht _ zw_171) (fun _ h9 => h9) rfl zd_Program_addInstruction_50 ?_
    refine lv_aload_n hx hb zd_Program_addInstruction_53 rfl (lv_at hl 0 rfl) ?_
    refine va_get (D := D) (ci := 3) (v := .int pin) (C := zR_Program) (T := zF_Program) (N := 11) hx hb ht zi_Program hown hK hP 0 rfl rfl 10 (by decide) (ht _ zw_167) (fun _ h9 => h9) rfl zd_Program_addInstruction_54 ?_
    refine lv_iconst (v := 1) hx hb zd_Program_addInstruction_57 (by decide) ?_
    refine lv_isub hx hb zd_Program_addInstruction_58 ?_
    obtain ⟨hi_5, h⟩ := h
    refine zq_a_iald (D := D) hx hb hK hP 5 0 rfl rfl hi_5 rfl zd_Program_addInstruction_59 ?_
    exact B60 pin (upd pm pin.toNatClampNeg p0) (upd pv pin.toNatClampNeg p1) (upd pw pin.toNatClampNeg p2) pst pe (pe ((pin - 1)).toNatClampNeg) pin H locs ls h hP hD hS (lv_sub hl [0] rfl)
  · have h := zq_it c_4 h
    refine lv_iconst (v := 0) hx hb zd_Program_addInstruction_45 (by decide) ?_
    refine lv_goto (tgt := 60) hx hb zd_Program_addInstruction_46 (by decide) ?_
    exact B60 pin (upd pm pin.toNatClampNeg p0) (upd pv pin.toNatClampNeg p1) (upd pw pin.toNatClampNeg p2) pst pe 0 pin H locs ls h hP hD hS (lv_sub hl [0] rfl)
abbrev W_Program_find (kT : Nat → ClassId) (ad : Nat → Nat) (ptn : Int32) (pin : Int32) (pm : Nat → Int32) (pv : Nat → Int32) : va_W := [(ad 12, .inr (3, [.ref (ad 13), .ref (ad 14), .ref (ad 15), .ref (ad 16), .int ptn, .ref (ad 17), .ref (ad 18), .ref (ad 19), .ref (ad 20), .ref (ad 21), .int pin])), (ad 17, .inl (kT 0, 40, .inl pm)), (ad 18, .inl (kT 0, 40, .inl pv))]
abbrev A_Program_find (ad : Nat → Nat) : List Nat := [ad 12, ad 17, ad 18]
def wp_Program_find_2 (ptn : Int32) (pin : Int32) (pm : Nat → Int32) (pv : Nat → Int32) (post : Int32 → Prop) : Nat → Int32 → Int32 → Prop
  | 0 => fun _ _ => False
  | n + 1 => fun y1 y2 => (if pin ≤ y2 then post (-1)  else vp_in y2 40 ∧ vp_in y2 40 ∧ (if (y1 &&& (pm y2.toNatClampNeg)) = (pv y2.toNatClampNeg) then post y2  else wp_Program_find_2 ptn pin pm pv post n y1 (y2 + 1)))
def wp_Program_find (ptn : Int32) (pin : Int32) (pm : Nat → Int32) (pv : Nat → Int32) (p0 : Int32) (post : Int32 → Prop) : Prop := ∃ n, wp_Program_find_2 ptn pin pm pv post n p0 0
set_option maxHeartbeats 4000000 in
set_option maxRecDepth 100000 in
theorem c_Program_find (l : Launch) (D : va_G) (kT : Nat → ClassId) (ad : Nat → Nat) (ptn : Int32) (pin : Int32) (pm : Nat → Int32) (pv : Nat → Int32) (p0 : Int32) (post : Int32 → Prop) (h : wp_Program_find ptn pin pm pv p0 post) : zq_Mi l zy_Program_find zs_Program_find ({ frames := 0, cells := 0, slots := 0, locals := 0 }) D kT [.ref (ad 12), .int p0] (W_Program_find kT ad ptn pin pm pv) (fun r w' => w' = (W_Program_find kT ad ptn pin pm pv) ∧ post r ) := by
  refine zq_Mi_of (adl := (A_Program_find ad)) (cc := zb_Program_find) (maxL := 3) (own := zR_Program) rfl (by decide) rfl rfl (Nat.le_of_ble_eq_true rfl) ?_
  intro p e s m AV below meth c A QQ H locs ls hx hb hml hown ht hE hA hret hP hD hS hl
  have hK := hE.1
  have hl : lv_has ls 3 [(0, .ref (ad 12)), (1, .int p0)] := hl
  have B2 : ∀ (n : Nat)  (y1 : Int32) (y2 : Int32) (H : Heap) (locs : List Loc) (ls : Array Slot), wp_Program_find_2 ptn pin pm pv post n y1 y2 → va_P D vwCl (W_Program_find kT ad ptn pin pm pv) H → va_D A (W_Program_find kT ad ptn pin pm pv) → va_S A s.heap H locs → lv_has ls 3 [(0, .ref (ad 12)), (1, .int y1), (2, .int y2)] → W p l e ({ frames := 0, cells := 0, slots := 0, locals := 0 }) s m AV below meth c H locs 0 0 QQ (F0 m 2 ls []) := by
    intro n
    induction n with
    | zero =>
      intro y1 y2 H locs ls h
      exact h.elim
    | succ n ih =>
      intro y1 y2 H locs ls h hP hD hS hl
      refine lv_iload_n hx hb zd_Program_find_2 rfl (lv_at hl 2 rfl) ?_
      refine lv_aload_n hx hb zd_Program_find_3 rfl (lv_at hl 0 rfl) ?_
      refine va_get (D := D) (ci := 3) (v := .int pin) (C := zR_Program) (T := zF_Program) (N := 11) hx hb ht zi_Program hown hK hP 0 rfl rfl 10 (by decide) (ht _ zw_167) (fun _ h9 => h9) rfl zd_Program_find_4 ?_
      refine lv_icmp_ge (tgt := 35) hx hb zd_Program_find_7 (by decide) (fun c_1 => ?_) (fun c_1 => ?_)
      · have h := zq_it c_1 h
        refine lv_iconst (v := (-1)) hx hb zd_Program_find_35 (by decide) ?_
        exact hret (-1)  _ H locs 36 ls ⟨rfl, h⟩ hP rfl hS zd_Program_find_36
      · have h := zq_if c_1 h
        refine lv_iload_n hx hb zd_Program_find_10 rfl (lv_at hl 1 rfl) ?_
        refine lv_aload_n hx hb zd_Program_find_11 rfl (lv_at hl 0 rfl) ?_
        refine va_get (D := D) (ci := 3) (v := .ref (ad 17)) (C := zR_Program) (T := zF_Program) (N := 11) hx hb ht zi_Program hown hK hP 0 rfl rfl 5 (by decide) (ht _ zw_166) (fun _ h9 => h9) rfl zd_Program_find_12 ?_
        refine lv_iload_n hx hb zd_Program_find_15 rfl (lv_at hl 2 rfl) ?_
        obtain ⟨hi_2, h⟩ := h
        refine zq_a_iald (D := D) hx hb hK hP 1 0 rfl rfl hi_2 rfl zd_Program_find_16 ?_
        refine lv_iand hx hb zd_Program_find_17 ?_
        refine lv_aload_n hx hb zd_Program_find_18 rfl (lv_at hl 0 rfl) ?_
        refine va_get (D := D) (ci := 3) (v := .ref (ad 18)) (C := zR_Program) (T := zF_Program) (N := 11) hx hb ht zi_Program hown hK hP 0 rfl rfl 6 (by decide) (ht _ zw_168) (fun _ h9 => h9) rfl zd_Program_find_19 ?_
        refine lv_iload_n hx hb zd_Program_find_22 rfl (lv_at hl 2 rfl) ?_
        obtain ⟨hi_3, h⟩ := h
        refine zq_a_iald (D := D) hx hb hK hP 2 0 rfl rfl hi_3 rfl zd_Program_find_23 ?_
        refine lv_icmp_ne (tgt := 29) hx hb zd_Program_find_24 (by decide) (fun c_4 => ?_) (fun c_4 => ?_)
        · have h := zq_if c_4 h
          refine lv_iinc (v := (y2 + 1)) (lv' := [(2, .int (y2 + 1)), (0, .ref (ad 12)), (1, .int y1)]) hx hb zd_Program_find_29 hl (k := 2) rfl rfl (by decide) rfl (fun ls hl => ?_)
          refine lv_goto (tgt := 2) hx hb zd_Program_find_32 (by decide) ?_
          exact ih y1 (y2 + 1) H locs ls h hP hD hS (lv_sub hl [1, 2, 0] rfl)
        · have h := zq_it c_4 h
          refine lv_iload_n hx hb zd_Program_find_27 rfl (lv_at hl 2 rfl) ?_
          exact hret y2  _ H locs 28 ls ⟨rfl, h⟩ hP rfl hS zd_Program_find_28
  refine lv_iconst (v := 0) hx hb zd_Program_find_0 (by decide) ?_
  refine lv_istore_n (lv' := [(2, .int 0), (0, .ref (ad 12)), (1, .int p0)]) hx hb zd_Program_find_1 rfl hl (by decide) rfl (fun ls hl => ?_)
  obtain ⟨n, h⟩ := h
  exact B2 n p0 0 H locs ls h hP hD hS (lv_sub hl [1, 2, 0] rfl)
abbrev W_Program_is (kT : Nat → ClassId) (ad : Nat → Nat) (ptn : Int32) (pin : Int32) (pw : Nat → Int32) : va_W := [(ad 12, .inr (3, [.ref (ad 13), .ref (ad 14), .ref (ad 15), .ref (ad 16), .int ptn, .ref (ad 17), .ref (ad 18), .ref (ad 19), .ref (ad 20), .ref (ad 21), .int pin])), (ad 19, .inl (kT 0, 40, .inl pw))]
abbrev A_Program_is (ad : Nat → Nat) : List Nat := [ad 12, ad 19]
def wp_Program_is (ptn : Int32) (pin : Int32) (pw : Nat → Int32) (p0 : Int32) (p1 : Int32) (post : Int32 → Prop) : Prop := vp_in p0 40 ∧ (if ((pw p0.toNatClampNeg) &&& p1) = 0 then post 0  else post 1 )
set_option maxHeartbeats 4000000 in
set_option maxRecDepth 100000 in
theorem c_Program_is (l : Launch) (D : va_G) (kT : Nat → ClassId) (ad : Nat → Nat) (ptn : Int32) (pin : Int32) (pw : Nat → Int32) (p0 : Int32) (p1 : Int32) (post : Int32 → Prop) (h : wp_Program_is ptn pin pw p0 p1 post) : zq_Mi l zy_Program_is zs_Program_is ({ frames := 0, cells := 0, slots := 0, locals := 0 }) D kT [.ref (ad 12), .int p0, .int p1] (W_Program_is kT ad ptn pin pw) (fun r w' => w' = (W_Program_is kT ad ptn pin pw) ∧ post r ) := by
  refine zq_Mz_of (adl := (A_Program_is ad)) (cc := zb_Program_is) (maxL := 3) (own := zR_Program) rfl (by decide) rfl rfl (Nat.le_of_ble_eq_true rfl) ?_
  intro p e s m AV below meth c A QQ H locs ls hx hb hml hown ht hE hA hret hP hD hS hl
  have hK := hE.1
  have hl : lv_has ls 3 [(0, .ref (ad 12)), (1, .int p0), (2, .int p1)] := hl
  refine lv_aload_n hx hb zd_Program_is_0 rfl (lv_at hl 0 rfl) ?_
  refine va_get (D := D) (ci := 3) (v := .ref (ad 19)) (C := zR_Program) (T := zF_Program) (N := 11) hx hb ht zi_Program hown hK hP 0 rfl rfl 7 (by decide) (ht _ zw_169) (fun _ h9 => h9) rfl zd_Program_is_1 ?_
  refine lv_iload_n hx hb zd_Program_is_4 rfl (lv_at hl 1 rfl) ?_
  obtain ⟨hi_1, h⟩ := h
  refine zq_a_iald (D := D) hx hb hK hP 1 0 rfl rfl hi_1 rfl zd_Program_is_5 ?_
  refine lv_iload_n hx hb zd_Program_is_6 rfl (lv_at hl 2 rfl) ?_
  refine lv_iand hx hb zd_Program_is_7 ?_
  refine lv_if_eq (tgt := 15) hx hb zd_Program_is_8 (by decide) (fun c_2 => ?_) (fun c_2 => ?_)
  · have h := zq_it c_2 h
    refine lv_iconst (v := 0) hx hb zd_Program_is_15 (by decide) ?_
    exact hret 0 rfl _ H locs 16 ls ⟨rfl, h⟩ hP rfl hS zd_Program_is_16
  · have h := zq_if c_2 h
    refine lv_iconst (v := 1) hx hb zd_Program_is_11 (by decide) ?_
    refine lv_goto (tgt := 16) hx hb zd_Program_is_12 (by decide) ?_
    exact hret 1 rfl _ H locs 16 ls ⟨rfl, h⟩ hP rfl hS zd_Program_is_16
