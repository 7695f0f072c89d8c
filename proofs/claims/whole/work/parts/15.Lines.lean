abbrev W_Lines_has (kT : Nat → ClassId) (ad : Nat → Nat)  : va_W := [(ad 25, .inr (5, [.ref (ad 26), .ref (ad 27)]))]
abbrev A_Lines_has (ad : Nat → Nat) : List Nat := [ad 25]
def wp_Lines_has  (p0 : Int32) (post : Int32 → Prop) : Prop := (if p0 < 0 then post 0  else (if 8 ≤ p0 then post 0  else post 1 ))
set_option maxHeartbeats 4000000 in
set_option maxRecDepth 100000 in
theorem c_Lines_has (l : Launch) (D : va_G) (kT : Nat → ClassId) (ad : Nat → Nat)  (p0 : Int32) (post : Int32 → Prop) (h : wp_Lines_has  p0 post) : zq_Mi l zy_Lines_has zs_Lines_has ({ frames := 0, cells := 0, slots := 0, locals := 0 }) D kT [.ref (ad 25), .int p0] (W_Lines_has kT ad ) (fun r w' => w' = (W_Lines_has kT ad ) ∧ post r ) := by
  refine zq_Mz_of (adl := (A_Lines_has ad)) (cc := zb_Lines_has) (maxL := 2) (own := zR_Lines) rfl (by decide) rfl rfl (Nat.le_of_ble_eq_true rfl) ?_
  intro p e s m AV below meth c A QQ H locs ls hx hb hml hown ht hE hA hret hP hD hS hl
  have hK := hE.1
  have hl : lv_has ls 2 [(0, .ref (ad 25)), (1, .int p0)] := hl
  unfold wp_Lines_has at h
  refine lv_iload_n hx hb zd_Lines_has_0 rfl (lv_at hl 1 rfl) ?_
  refine lv_if_lt (tgt := 14) hx hb zd_Lines_has_1 (by decide) (fun c_1 => ?_) (fun c_1 => ?_)
  · have h := zq_it c_1 h
    refine lv_iconst (v := 0) hx hb zd_Lines_has_14 (by decide) ?_
    exact hret 0 rfl _ H locs 15 ls ⟨rfl, h⟩ hP rfl hS zd_Lines_has_15
  · have h := zq_if c_1 h
    refine lv_iload_n hx hb zd_Lines_has_4 rfl (lv_at hl 1 rfl) ?_
    refine lv_bipush (v := 8) hx hb zd_Lines_has_5 (by decide) ?_
    refine lv_icmp_ge (tgt := 14) hx hb zd_Lines_has_7 (by decide) (fun c_2 => ?_) (fun c_2 => ?_)
    · have h := zq_it c_2 h
      refine lv_iconst (v := 0) hx hb zd_Lines_has_14 (by decide) ?_
      exact hret 0 rfl _ H locs 15 ls ⟨rfl, h⟩ hP rfl hS zd_Lines_has_15
    · have h := zq_if c_2 h
      refine lv_iconst (v := 1) hx hb zd_Lines_has_10 (by decide) ?_
      refine lv_goto (tgt := 15) hx hb zd_Lines_has_11 (by decide) ?_
      exact hret 1 rfl _ H locs 15 ls ⟨rfl, h⟩ hP rfl hS zd_Lines_has_15
abbrev W_Lines_turn (kT : Nat → ClassId) (ad : Nat → Nat) (lo : Nat → Int32) : va_W := [(ad 25, .inr (5, [.ref (ad 26), .ref (ad 27)])), (ad 26, .inl (kT 2, 8, .inl lo))]
abbrev A_Lines_turn (ad : Nat → Nat) : List Nat := [ad 25, ad 26]
def wp_Lines_turn (lo : Nat → Int32) (p0 : Int32) (p1 : Int32) (post : Int32 → (Nat → Int32) → Prop) : Prop := vp_in p0 8 ∧ vp_in p0 8 ∧ zq_bz (lo p0.toNatClampNeg) ∧ post (lo p0.toNatClampNeg) (upd lo p0.toNatClampNeg (vp_nar .boolean p1))
set_option maxHeartbeats 4000000 in
set_option maxRecDepth 100000 in
theorem c_Lines_turn (l : Launch) (D : va_G) (kT : Nat → ClassId) (ad : Nat → Nat) (lo : Nat → Int32) (p0 : Int32) (p1 : Int32) (post : Int32 → (Nat → Int32) → Prop) (h : wp_Lines_turn lo p0 p1 post) : zq_Mi l zy_Lines_turn zs_Lines_turn ({ frames := 0, cells := 0, slots := 0, locals := 0 }) D kT [.ref (ad 25), .int p0, .int p1] (W_Lines_turn kT ad lo) (fun r w' => ∃ (lo' : Nat → Int32), w' = (W_Lines_turn kT ad lo') ∧ post r lo') := by
  refine zq_Mz_of (adl := (A_Lines_turn ad)) (cc := zb_Lines_turn) (maxL := 4) (own := zR_Lines) rfl (by decide) rfl rfl (Nat.le_of_ble_eq_true rfl) ?_
  intro p e s m AV below meth c A QQ H locs ls hx hb hml hown ht hE hA hret hP hD hS hl
  have hK := hE.1
  have hl : lv_has ls 4 [(0, .ref (ad 25)), (1, .int p0), (2, .int p1)] := hl
  refine lv_aload_n hx hb zd_Lines_turn_0 rfl (lv_at hl 0 rfl) ?_
  refine va_get (D := D) (ci := 5) (v := .ref (ad 26)) (C := zR_Lines) (T := zF_Lines) (N := 2) hx hb ht zi_Lines hown hK hP 0 rfl rfl 0 (by decide) (ht _ zw_176) (fun _ h9 => h9) rfl zd_Lines_turn_1 ?_
  refine lv_iload_n hx hb zd_Lines_turn_4 rfl (lv_at hl 1 rfl) ?_
  obtain ⟨hi_1, h⟩ := h
  refine zq_a_zald (D := D) hx hb hK hP 1 2 rfl rfl hi_1 rfl zd_Lines_turn_5 ?_
  refine lv_istore_n (lv' := [(3, .int (lo p0.toNatClampNeg)), (0, .ref (ad 25)), (1, .int p0), (2, .int p1)]) hx hb zd_Lines_turn_6 rfl hl (by decide) rfl (fun ls hl => ?_)
  refine lv_aload_n hx hb zd_Lines_turn_7 rfl (lv_at hl 1 rfl) ?_
  refine va_get (D := D) (ci := 5) (v := .ref (ad 26)) (C := zR_Lines) (T := zF_Lines) (N := 2) hx hb ht zi_Lines hown hK hP 0 rfl rfl 0 (by decide) (ht _ zw_176) (fun _ h9 => h9) rfl zd_Lines_turn_8 ?_
  refine lv_iload_n hx hb zd_Lines_turn_11 rfl (lv_at hl 2 rfl) ?_
  refine lv_iload_n hx hb zd_Lines_turn_12 rfl (lv_at hl 3 rfl) ?_
  obtain ⟨hi_2, h⟩ := h
  refine zq_a_zast (D := D) hx hb hK hP hD hS 1 2 rfl rfl hi_2 rfl zd_Lines_turn_13 (fun H locs hP hD hS => ?_)
  have hP : va_P D vwCl (W_Lines_turn kT ad (upd lo p0.toNatClampNeg (vp_nar .boolean p1))) H := hP
  have hD : va_D A (W_Lines_turn kT ad (upd lo p0.toNatClampNeg (vp_nar .boolean p1))) := hD
  refine lv_iload_n hx hb zd_Lines_turn_14 rfl (lv_at hl 0 rfl) ?_
  obtain ⟨hb_3, h⟩ := h
  exact hret (lo p0.toNatClampNeg) (zq_bzn hb_3) _ H locs 15 ls ⟨(upd lo p0.toNatClampNeg (vp_nar .boolean p1)), rfl, h⟩ hP rfl hS zd_Lines_turn_15
abbrev W_Lines_giveRank (kT : Nat → ClassId) (ad : Nat → Nat) (lr : Nat → Int32) : va_W := [(ad 25, .inr (5, [.ref (ad 26), .ref (ad 27)])), (ad 27, .inl (kT 0, 8, .inl lr))]
abbrev A_Lines_giveRank (ad : Nat → Nat) : List Nat := [ad 25, ad 27]
def wp_Lines_giveRank (lr : Nat → Int32) (p0 : Int32) (p1 : Int32) (post : Int32 → (Nat → Int32) → Prop) : Prop := vp_in p0 8 ∧ vp_in p0 8 ∧ post (lr p0.toNatClampNeg) (upd lr p0.toNatClampNeg p1)
set_option maxHeartbeats 4000000 in
set_option maxRecDepth 100000 in
theorem c_Lines_giveRank (l : Launch) (D : va_G) (kT : Nat → ClassId) (ad : Nat → Nat) (lr : Nat → Int32) (p0 : Int32) (p1 : Int32) (post : Int32 → (Nat → Int32) → Prop) (h : wp_Lines_giveRank lr p0 p1 post) : zq_Mi l zy_Lines_giveRank zs_Lines_giveRank ({ frames := 0, cells := 0, slots := 0, locals := 0 }) D kT [.ref (ad 25), .int p0, .int p1] (W_Lines_giveRank kT ad lr) (fun r w' => ∃ (lr' : Nat → Int32), w' = (W_Lines_giveRank kT ad lr') ∧ post r lr') := by
  refine zq_Mi_of (adl := (A_Lines_giveRank ad)) (cc := zb_Lines_giveRank) (maxL := 4) (own := zR_Lines) rfl (by decide) rfl rfl (Nat.le_of_ble_eq_true rfl) ?_
  intro p e s m AV below meth c A QQ H locs ls hx hb hml hown ht hE hA hret hP hD hS hl
  have hK := hE.1
  have hl : lv_has ls 4 [(0, .ref (ad 25)), (1, .int p0), (2, .int p1)] := hl
  refine lv_aload_n hx hb zd_Lines_giveRank_0 rfl (lv_at hl 0 rfl) ?_
  refine va_get (D := D) (ci := 5) (v := .ref (ad 27)) (C := zR_Lines) (T := zF_Lines) (N := 2) hx hb ht zi_Lines hown hK hP 0 rfl rfl 1 (by decide) (ht _ zw_177) (fun _ h9 => h9) rfl zd_Lines_giveRank_1 ?_
  refine lv_iload_n hx hb zd_Lines_giveRank_4 rfl (lv_at hl 1 rfl) ?_
  obtain ⟨hi_1, h⟩ := h
  refine zq_a_iald (D := D) hx hb hK hP 1 0 rfl rfl hi_1 rfl zd_Lines_giveRank_5 ?_
  refine lv_istore_n (lv' := [(3, .int (lr p0.toNatClampNeg)), (0, .ref (ad 25)), (1, .int p0), (2, .int p1)]) hx hb zd_Lines_giveRank_6 rfl hl (by decide) rfl (fun ls hl => ?_)
  refine lv_aload_n hx hb zd_Lines_giveRank_7 rfl (lv_at hl 1 rfl) ?_
  refine va_get (D := D) (ci := 5) (v := .ref (ad 27)) (C := zR_Lines) (T := zF_Lines) (N := 2) hx hb ht zi_Lines hown hK hP 0 rfl rfl 1 (by decide) (ht _ zw_177) (fun _ h9 => h9) rfl zd_Lines_giveRank_8 ?_
  refine lv_iload_n hx hb zd_Lines_giveRank_11 rfl (lv_at hl 2 rfl) ?_
  refine lv_iload_n hx hb zd_Lines_giveRank_12 rfl (lv_at hl 3 rfl) ?_
  obtain ⟨hi_2, h⟩ := h
  refine zq_a_iast (D := D) hx hb hK hP hD hS 1 0 rfl rfl hi_2 rfl zd_Lines_giveRank_13 (fun H locs hP hD hS => ?_)
  have hP : va_P D vwCl (W_Lines_giveRank kT ad (upd lr p0.toNatClampNeg p1)) H := hP
  have hD : va_D A (W_Lines_giveRank kT ad (upd lr p0.toNatClampNeg p1)) := hD
  refine lv_iload_n hx hb zd_Lines_giveRank_14 rfl (lv_at hl 0 rfl) ?_
  exact hret (lr p0.toNatClampNeg)  _ H locs 15 ls ⟨(upd lr p0.toNatClampNeg p1), rfl, h⟩ hP rfl hS zd_Lines_giveRank_15
abbrev W_Lines_rankOf (kT : Nat → ClassId) (ad : Nat → Nat) (lr : Nat → Int32) : va_W := [(ad 25, .inr (5, [.ref (ad 26), .ref (ad 27)])), (ad 27, .inl (kT 0, 8, .inl lr))]
abbrev A_Lines_rankOf (ad : Nat → Nat) : List Nat := [ad 25, ad 27]
def wp_Lines_rankOf (lr : Nat → Int32) (p0 : Int32) (post : Int32 → Prop) : Prop := vp_in p0 8 ∧ post (lr p0.toNatClampNeg) 
set_option maxHeartbeats 4000000 in
set_option maxRecDepth 100000 in
theorem c_Lines_rankOf (l : Launch) (D : va_G) (kT : Nat → ClassId) (ad : Nat → Nat) (lr : Nat → Int32) (p0 : Int32) (post : Int32 → Prop) (h : wp_Lines_rankOf lr p0 post) : zq_Mi l zy_Lines_rankOf zs_Lines_rankOf ({ frames := 0, cells := 0, slots := 0, locals := 0 }) D kT [.ref (ad 25), .int p0] (W_Lines_rankOf kT ad lr) (fun r w' => w' = (W_Lines_rankOf kT ad lr) ∧ post r ) := by
  refine zq_Mi_of (adl := (A_Lines_rankOf ad)) (cc := zb_Lines_rankOf) (maxL := 2) (own := zR_Lines) rfl (by decide) rfl rfl (Nat.le_of_ble_eq_true rfl) ?_
  intro p e s m AV below meth c A QQ H locs ls hx hb hml hown ht hE hA hret hP hD hS hl
  have hK := hE.1
  have hl : lv_has ls 2 [(0, .ref (ad 25)), (1, .int p0)] := hl
  refine lv_aload_n hx hb zd_Lines_rankOf_0 rfl (lv_at hl 0 rfl) ?_
  refine va_get (D := D) (ci := 5) (v := .ref (ad 27)) (C := zR_Lines) (T := zF_Lines) (N := 2) hx hb ht zi_Lines hown hK hP 0 rfl rfl 1 (by decide) (ht _ zw_177) (fun _ h9 => h9) rfl zd_Lines_rankOf_1 ?_
  refine lv_iload_n hx hb zd_Lines_rankOf_4 rfl (lv_at hl 1 rfl) ?_
  obtain ⟨hi_1, h⟩ := h
  refine zq_a_iald (D := D) hx hb hK hP 1 0 rfl rfl hi_1 rfl zd_Lines_rankOf_5 ?_
  exact hret (lr p0.toNatClampNeg)  _ H locs 6 ls ⟨rfl, h⟩ hP rfl hS zd_Lines_rankOf_6
abbrev W_Lines_mostUrgent (kT : Nat → ClassId) (ad : Nat → Nat) (lo : Nat → Int32) (lr : Nat → Int32) : va_W := [(ad 25, .inr (5, [.ref (ad 26), .ref (ad 27)])), (ad 26, .inl (kT 2, 8, .inl lo)), (ad 27, .inl (kT 0, 8, .inl lr))]
abbrev A_Lines_mostUrgent (ad : Nat → Nat) : List Nat := [ad 25, ad 26, ad 27]
def wp_Lines_mostUrgent_7 (lo : Nat → Int32) (lr : Nat → Int32) (post : Int32 → Prop) : Nat → Int32 → Int32 → Int32 → Prop
  | 0 => fun _ _ _ => False
  | n + 1 => fun y2 y3 y4 => (if 8 ≤ y4 then post y2  else vp_in y4 8 ∧ (if (lo y4.toNatClampNeg) = 0 then wp_Lines_mostUrgent_7 lo lr post n y2 y3 (y4 + 1) else vp_in y4 8 ∧ (if (lr y4.toNatClampNeg) ≤ y3 then wp_Lines_mostUrgent_7 lo lr post n y2 y3 (y4 + 1) else vp_in y4 8 ∧ wp_Lines_mostUrgent_7 lo lr post n y4 (lr y4.toNatClampNeg) (y4 + 1))))
def wp_Lines_mostUrgent (lo : Nat → Int32) (lr : Nat → Int32) (p0 : Int32) (post : Int32 → Prop) : Prop := ∃ n, wp_Lines_mostUrgent_7 lo lr post n (-1) p0 0
set_option maxHeartbeats 4000000 in
set_option maxRecDepth 100000 in
theorem c_Lines_mostUrgent (l : Launch) (D : va_G) (kT : Nat → ClassId) (ad : Nat → Nat) (lo : Nat → Int32) (lr : Nat → Int32) (p0 : Int32) (post : Int32 → Prop) (h : wp_Lines_mostUrgent lo lr p0 post) : zq_Mi l zy_Lines_mostUrgent zs_Lines_mostUrgent ({ frames := 0, cells := 0, slots := 0, locals := 0 }) D kT [.ref (ad 25), .int p0] (W_Lines_mostUrgent kT ad lo lr) (fun r w' => w' = (W_Lines_mostUrgent kT ad lo lr) ∧ post r ) := by
  refine zq_Mi_of (adl := (A_Lines_mostUrgent ad)) (cc := zb_Lines_mostUrgent) (maxL := 5) (own := zR_Lines) rfl (by decide) rfl rfl (Nat.le_of_ble_eq_true rfl) ?_
  intro p e s m AV below meth c A QQ H locs ls hx hb hml hown ht hE hA hret hP hD hS hl
  have hK := hE.1
  have hl : lv_has ls 5 [(0, .ref (ad 25)), (1, .int p0)] := hl
  have B7 : ∀ (n : Nat)  (y2 : Int32) (y3 : Int32) (y4 : Int32) (H : Heap) (locs : List Loc) (ls : Array Slot), wp_Lines_mostUrgent_7 lo lr post n y2 y3 y4 → va_P D vwCl (W_Lines_mostUrgent kT ad lo lr) H → va_D A (W_Lines_mostUrgent kT ad lo lr) → va_S A s.heap H locs → lv_has ls 5 [(0, .ref (ad 25)), (2, .int y2), (3, .int y3), (4, .int y4)] → W p l e ({ frames := 0, cells := 0, slots := 0, locals := 0 }) s m AV below meth c H locs 0 0 QQ (F0 m 7 ls []) := by
    intro n
    induction n with
    | zero =>
      intro y2 y3 y4 H locs ls h
      exact h.elim
    | succ n ih =>
      intro y2 y3 y4 H locs ls h hP hD hS hl
      refine lv_iload hx hb zd_Lines_mostUrgent_7 (lv_at hl 3 rfl) ?_
      refine lv_bipush (v := 8) hx hb zd_Lines_mostUrgent_9 (by decide) ?_
      refine lv_icmp_ge (tgt := 52) hx hb zd_Lines_mostUrgent_11 (by decide) (fun c_1 => ?_) (fun c_1 => ?_)
      · have h := zq_it c_1 h
        refine lv_iload_n hx hb zd_Lines_mostUrgent_52 rfl (lv_at hl 1 rfl) ?_
        exact hret y2  _ H locs 53 ls ⟨rfl, h⟩ hP rfl hS zd_Lines_mostUrgent_53
      · have h := zq_if c_1 h
        refine lv_aload_n hx hb zd_Lines_mostUrgent_14 rfl (lv_at hl 0 rfl) ?_
        refine va_get (D := D) (ci := 5) (v := .ref (ad 26)) (C := zR_Lines) (T := zF_Lines) (N := 2) hx hb ht zi_Lines hown hK hP 0 rfl rfl 0 (by decide) (ht _ zw_176) (fun _ h9 => h9) rfl zd_Lines_mostUrgent_15 ?_
        refine lv_iload hx hb zd_Lines_mostUrgent_18 (lv_at hl 3 rfl) ?_
        obtain ⟨hi_2, h⟩ := h
        refine zq_a_zald (D := D) hx hb hK hP 1 2 rfl rfl hi_2 rfl zd_Lines_mostUrgent_20 ?_
        refine lv_if_eq (tgt := 46) hx hb zd_Lines_mostUrgent_21 (by decide) (fun c_3 => ?_) (fun c_3 => ?_)
        · have h := zq_it c_3 h
          refine lv_iinc (v := (y4 + 1)) (lv' := [(4, .int (y4 + 1)), (0, .ref (ad 25)), (2, .int y2), (3, .int y3)]) hx hb zd_Lines_mostUrgent_46 hl (k := 3) rfl rfl (by decide) rfl (fun ls hl => ?_)
          refine lv_goto (tgt := 7) hx hb zd_Lines_mostUrgent_49 (by decide) ?_
          exact ih y2 y3 (y4 + 1) H locs ls h hP hD hS (lv_sub hl [1, 2, 3, 0] rfl)
        · have h := zq_if c_3 h
          refine lv_aload_n hx hb zd_Lines_mostUrgent_24 rfl (lv_at hl 0 rfl) ?_
          refine va_get (D := D) (ci := 5) (v := .ref (ad 27)) (C := zR_Lines) (T := zF_Lines) (N := 2) hx hb ht zi_Lines hown hK hP 0 rfl rfl 1 (by decide) (ht _ zw_177) (fun _ h9 => h9) rfl zd_Lines_mostUrgent_25 ?_
          refine lv_iload hx hb zd_Lines_mostUrgent_28 (lv_at hl 3 rfl) ?_
          obtain ⟨hi_4, h⟩ := h
          refine zq_a_iald (D := D) hx hb hK hP 2 0 rfl rfl hi_4 rfl zd_Lines_mostUrgent_30 ?_
          refine lv_iload_n hx hb zd_Lines_mostUrgent_31 rfl (lv_at hl 2 rfl) ?_
          refine lv_icmp_le (tgt := 46) hx hb zd_Lines_mostUrgent_32 (by decide) (fun c_5 => ?_) (fun c_5 => ?_)
          · have h := zq_it c_5 h
            refine lv_iinc (v := (y4 + 1)) (lv' := [(4, .int (y4 + 1)), (0, .ref (ad 25)), (2, .int y2), (3, .int y3)]) hx hb zd_Lines_mostUrgent_46 hl (k := 3) rfl rfl (by decide) rfl (fun ls hl => ?_)
            refine lv_goto (tgt := 7) hx hb zd_Lines_mostUrgent_49 (by decide) ?_
            exact ih y2 y3 (y4 + 1) H locs ls h hP hD hS (lv_sub hl [1, 2, 3, 0] rfl)
          · have h := zq_if c_5 h
            refine lv_iload hx hb zd_Lines_mostUrgent_35 (lv_at hl 3 rfl) ?_
            refine lv_istore_n (lv' := [(2, .int y4), (0, .ref (ad 25)), (3, .int y3), (4, .int y4)]) hx hb zd_Lines_mostUrgent_37 rfl hl (by decide) rfl (fun ls hl => ?_)
            refine lv_aload_n hx hb zd_Lines_mostUrgent_38 rfl (lv_at hl 1 rfl) ?_
            refine va_get (D := D) (ci := 5) (v := .ref (ad 27)) (C := zR_Lines) (T := zF_Lines) (N := 2) hx hb ht zi_Lines hown hK hP 0 rfl rfl 1 (by decide) (ht _ zw_177) (fun _ h9 => h9) rfl zd_Lines_mostUrgent_39 ?_
            refine lv_iload hx hb zd_Lines_mostUrgent_42 (lv_at hl 3 rfl) ?_
            obtain ⟨hi_6, h⟩ := h
            refine zq_a_iald (D := D) hx hb hK hP 2 0 rfl rfl hi_6 rfl zd_Lines_mostUrgent_44 ?_
            refine lv_istore_n (lv' := [(3, .int (lr y4.toNatClampNeg)), (2, .int y4), (0, .ref (ad 25)), (4, .int y4)]) hx hb zd_Lines_mostUrgent_45 rfl hl (by decide) rfl (fun ls hl => ?_)
            refine lv_iinc (v := (y4 + 1)) (lv' := [(4, .int (y4 + 1)), (3, .int (lr y4.toNatClampNeg)), (2, .int y4), (0, .ref (ad 25))]) hx hb zd_Lines_mostUrgent_46 hl (k := 3) rfl rfl (by decide) rfl (fun ls hl => ?_)
            refine lv_goto (tgt := 7) hx hb zd_Lines_mostUrgent_49 (by decide) ?_
            exact ih y4 (lr y4.toNatClampNeg) (y4 + 1) H locs ls h hP hD hS (lv_sub hl [3, 2, 1, 0] rfl)
  refine lv_iconst (v := (-1)) hx hb zd_Lines_mostUrgent_0 (by decide) ?_
  refine lv_istore_n (lv' := [(2, .int (-1)), (0, .ref (ad 25)), (1, .int p0)]) hx hb zd_Lines_mostUrgent_1 rfl hl (by decide) rfl (fun ls hl => ?_)
  refine lv_iload_n hx hb zd_Lines_mostUrgent_2 rfl (lv_at hl 2 rfl) ?_
  refine lv_istore_n (lv' := [(3, .int p0), (2, .int (-1)), (0, .ref (ad 25)), (1, .int p0)]) hx hb zd_Lines_mostUrgent_3 rfl hl (by decide) rfl (fun ls hl => ?_)
  refine lv_iconst (v := 0) hx hb zd_Lines_mostUrgent_4 (by decide) ?_
  refine lv_istore (lv' := [(4, .int 0), (3, .int p0), (2, .int (-1)), (0, .ref (ad 25)), (1, .int p0)]) hx hb zd_Lines_mostUrgent_5 hl (by decide) rfl (fun ls hl => ?_)
  obtain ⟨n, h⟩ := h
  exact B7 n (-1) p0 0 H locs ls h hP hD hS (lv_sub hl [3, 2, 1, 0] rfl)
