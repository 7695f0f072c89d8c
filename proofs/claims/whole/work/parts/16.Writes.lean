abbrev W_Writes_clear (kT : Nat → ClassId) (ad : Nat → Nat) (wn : Int32) : va_W := [(ad 28, .inr (6, [.ref (ad 1), .ref (ad 5), .ref (ad 29), .ref (ad 30), .ref (ad 31), .int wn]))]
abbrev A_Writes_clear (ad : Nat → Nat) : List Nat := [ad 28]
def wp_Writes_clear (wn : Int32)  (post : Int32 → Prop) : Prop := post  0
set_option maxHeartbeats 4000000 in
set_option maxRecDepth 100000 in
theorem c_Writes_clear (l : Launch) (D : va_G) (kT : Nat → ClassId) (ad : Nat → Nat) (wn : Int32)  (post : Int32 → Prop) (h : wp_Writes_clear wn  post) : zq_Mv l zy_Writes_clear zs_Writes_clear ({ frames := 0, cells := 0, slots := 0, locals := 0 }) D kT [.ref (ad 28)] (W_Writes_clear kT ad wn) (fun w' => ∃ (wn' : Int32), w' = (W_Writes_clear kT ad wn') ∧ post  wn') := by
  refine zq_Mv_of (adl := (A_Writes_clear ad)) (cc := zb_Writes_clear) (maxL := 1) (own := zR_Writes) rfl (by decide) rfl rfl (Nat.le_of_ble_eq_true rfl) ?_
  intro p e s m AV below meth c A QQ H locs ls hx hb hml hown ht hE hA hret hP hD hS hl
  have hK := hE.1
  have hl : lv_has ls 1 [(0, .ref (ad 28))] := hl
  refine lv_aload_n hx hb zd_Writes_clear_0 rfl (lv_at hl 0 rfl) ?_
  refine lv_iconst (v := 0) hx hb zd_Writes_clear_1 (by decide) ?_
  refine va_put (D := D) (ci := 6) (v := .int 0) (ty := .int) (C := zR_Writes) (T := zF_Writes) (N := 6) hx hb ht zi_Writes zt_Writes zt_Writes_ok zn_Writes hown hK hP hD hS 0 rfl rfl 5 (by decide) (ht _ zw_178) (fun _ h9 => h9) rfl (by decide +kernel) rfl rfl (Nat.le_of_ble_eq_true rfl) zd_Writes_clear_2 (fun H locs hP hD hS => ?_)
  have hP : va_P D vwCl (W_Writes_clear kT ad 0) H := hP
  have hD : va_D A (W_Writes_clear kT ad 0) := hD
  exact hret  _ H locs 5 ls ⟨0, rfl, h⟩ hP rfl hS zd_Writes_clear_5
abbrev W_Writes_note (kT : Nat → ClassId) (ad : Nat → Nat) (wn : Int32) (wf : Nat → Int32) (wt : Nat → Int32) (wv : Nat → Int64) : va_W := [(ad 28, .inr (6, [.ref (ad 1), .ref (ad 5), .ref (ad 29), .ref (ad 30), .ref (ad 31), .int wn])), (ad 29, .inl (kT 0, 200, .inl wf)), (ad 30, .inl (kT 0, 200, .inl wt)), (ad 31, .inl (kT 1, 200, .inr (.inl wv)))]
abbrev A_Writes_note (ad : Nat → Nat) : List Nat := [ad 28, ad 29, ad 30, ad 31]
def wp_Writes_note (wn : Int32) (wf : Nat → Int32) (wt : Nat → Int32) (wv : Nat → Int64) (p0 : Int32) (p1 : Int32) (p2 : Int64) (post : Int32 → (Nat → Int32) → (Nat → Int32) → (Nat → Int64) → Prop) : Prop := (if wn < 200 then vp_in wn 200 ∧ vp_in wn 200 ∧ vp_in wn 200 ∧ post  (wn + 1) (upd wf wn.toNatClampNeg p0) (upd wt wn.toNatClampNeg p1) (vp_updL wv wn.toNatClampNeg p2) else post  wn wf wt wv)
set_option maxHeartbeats 4000000 in
set_option maxRecDepth 100000 in
theorem c_Writes_note (l : Launch) (D : va_G) (kT : Nat → ClassId) (ad : Nat → Nat) (wn : Int32) (wf : Nat → Int32) (wt : Nat → Int32) (wv : Nat → Int64) (p0 : Int32) (p1 : Int32) (p2 : Int64) (post : Int32 → (Nat → Int32) → (Nat → Int32) → (Nat → Int64) → Prop) (h : wp_Writes_note wn wf wt wv p0 p1 p2 post) : zq_Mv l zy_Writes_note zs_Writes_note ({ frames := 0, cells := 0, slots := 0, locals := 0 }) D kT [.ref (ad 28), .int p0, .int p1, .long p2] (W_Writes_note kT ad wn wf wt wv) (fun w' => ∃ (wn' : Int32) (wf' : Nat → Int32) (wt' : Nat → Int32) (wv' : Nat → Int64), w' = (W_Writes_note kT ad wn' wf' wt' wv') ∧ post  wn' wf' wt' wv') := by
  refine zq_Mv_of (adl := (A_Writes_note ad)) (cc := zb_Writes_note) (maxL := 5) (own := zR_Writes) rfl (by decide) rfl rfl (Nat.le_of_ble_eq_true rfl) ?_
  intro p e s m AV below meth c A QQ H locs ls hx hb hml hown ht hE hA hret hP hD hS hl
  have hK := hE.1
  have hl : lv_has ls 5 [(0, .ref (ad 28)), (1, .int p0), (2, .int p1), (3, .long p2)] := hl
  unfold wp_Writes_note at h
  refine lv_aload_n hx hb zd_Writes_note_0 rfl (lv_at hl 0 rfl) ?_
  refine va_get (D := D) (ci := 6) (v := .int wn) (C := zR_Writes) (T := zF_Writes) (N := 6) hx hb ht zi_Writes hown hK hP 0 rfl rfl 5 (by decide) (ht _ zw_178) (fun _ h9 => h9) rfl zd_Writes_note_1 ?_
  refine lv_sipush (v := 200) hx hb zd_Writes_note_4 (by decide) ?_
  refine lv_icmp_lt (tgt := 11) hx hb zd_Writes_note_7 (by decide) (fun c_1 => ?_) (fun c_1 => ?_)
  · have h := zq_it c_1 h
    refine lv_aload_n hx hb zd_Writes_note_11 rfl (lv_at hl 0 rfl) ?_
    refine va_get (D := D) (ci := 6) (v := .ref (ad 29)) (C := zR_Writes) (T := zF_Writes) (N := 6) hx hb ht zi_Writes hown hK hP 0 rfl rfl 2 (by decide) (ht _ zw_179) (fun _ h9 => h9) rfl zd_Writes_note_12 ?_
    refine lv_aload_n hx hb zd_Writes_note_15 rfl (lv_at hl 0 rfl) ?_
    refine va_get (D := D) (ci := 6) (v := .int wn) (C := zR_Writes) (T := zF_Writes) (N := 6) hx hb ht zi_Writes hown hK hP 0 rfl rfl 5 (by decide) (ht _ zw_178) (fun _ h9 => h9) rfl zd_Writes_note_16 ?_
    refine lv_iload_n hx hb zd_Writes_note_19 rfl (lv_at hl 1 rfl) ?_
    obtain ⟨hi_2, h⟩ := h
    refine zq_a_iast (D := D) hx hb hK hP hD hS 1 0 rfl rfl hi_2 rfl zd_Writes_note_20 (fun H locs hP hD hS => ?_)
    have hP : va_P D vwCl (W_Writes_note kT ad wn (upd wf wn.toNatClampNeg p0) wt wv) H := hP
    have hD : va_D A (W_Writes_note kT ad wn (upd wf wn.toNatClampNeg p0) wt wv) := hD
    refine lv_aload_n hx hb zd_Writes_note_21 rfl (lv_at hl 0 rfl) ?_
    refine va_get (D := D) (ci := 6) (v := .ref (ad 30)) (C := zR_Writes) (T := zF_Writes) (N := 6) hx hb ht zi_Writes hown hK hP 0 rfl rfl 3 (by decide) (ht _ zw_180) (fun _ h9 => h9) rfl zd_Writes_note_22 ?_
    refine lv_aload_n hx hb zd_Writes_note_25 rfl (lv_at hl 0 rfl) ?_
    refine va_get (D := D) (ci := 6) (v := .int wn) (C := zR_Writes) (T := zF_Writes) (N := 6) hx hb ht zi_Writes hown hK hP 0 rfl rfl 5 (by decide) (ht _ zw_178) (fun _ h9 => h9) rfl zd_Writes_note_26 ?_
    refine lv_iload_n hx hb zd_Writes_note_29 rfl (lv_at hl 2 rfl) ?_
    obtain ⟨hi_3, h⟩ := h
    refine zq_a_iast (D := D) hx hb hK hP hD hS 2 0 rfl rfl hi_3 rfl zd_Writes_note_30 (fun H locs hP hD hS => ?_)
    have hP : va_P D vwCl (W_Writes_note kT ad wn (upd wf wn.toNatClampNeg p0) (upd wt wn.toNatClampNeg p1) wv) H := hP
    have hD : va_D A (W_Writes_note kT ad wn (upd wf wn.toNatClampNeg p0) (upd wt wn.toNatClampNeg p1) wv) := hD
    refine lv_aload_n hx hb zd_Writes_note_31 rfl (lv_at hl 0 rfl) ?_
    refine va_get (D := D) (ci := 6) (v := .ref (ad 31)) (C := zR_Writes) (T := zF_Writes) (N := 6) hx hb ht zi_Writes hown hK hP 0 rfl rfl 4 (by decide) (ht _ zw_181) (fun _ h9 => h9) rfl zd_Writes_note_32 ?_
    refine lv_aload_n hx hb zd_Writes_note_35 rfl (lv_at hl 0 rfl) ?_
    refine va_get (D := D) (ci := 6) (v := .int wn) (C := zR_Writes) (T := zF_Writes) (N := 6) hx hb ht zi_Writes hown hK hP 0 rfl rfl 5 (by decide) (ht _ zw_178) (fun _ h9 => h9) rfl zd_Writes_note_36 ?_
    refine lv_lload_n hx hb zd_Writes_note_39 rfl (lv_at hl 3 rfl) ?_
    obtain ⟨hi_4, h⟩ := h
    refine zq_a_last (D := D) hx hb hK hP hD hS 3 1 rfl rfl hi_4 rfl zd_Writes_note_40 (fun H locs hP hD hS => ?_)
    have hP : va_P D vwCl (W_Writes_note kT ad wn (upd wf wn.toNatClampNeg p0) (upd wt wn.toNatClampNeg p1) (vp_updL wv wn.toNatClampNeg p2)) H := hP
    have hD : va_D A (W_Writes_note kT ad wn (upd wf wn.toNatClampNeg p0) (upd wt wn.toNatClampNeg p1) (vp_updL wv wn.toNatClampNeg p2)) := hD
    refine lv_aload_n hx hb zd_Writes_note_41 rfl (lv_at hl 0 rfl) ?_
    refine lv_dup hx hb zd_Writes_note_42 rfl ?_
    refine va_get (D := D) (ci := 6) (v := .int wn) (C := zR_Writes) (T := zF_Writes) (N := 6) hx hb ht zi_Writes hown hK hP 0 rfl rfl 5 (by decide) (ht _ zw_178) (fun _ h9 => h9) rfl zd_Writes_note_43 ?_
    refine lv_iconst (v := 1) hx hb zd_Writes_note_46 (by decide) ?_
    refine lv_iadd hx hb zd_Writes_note_47 ?_
    refine va_put (D := D) (ci := 6) (v := .int (wn + 1)) (ty := .int) (C := zR_Writes) (T := zF_Writes) (N := 6) hx hb ht zi_Writes zt_Writes zt_Writes_ok zn_Writes hown hK hP hD hS 0 rfl rfl 5 (by decide) (ht _ zw_178) (fun _ h9 => h9) rfl (by decide +kernel) rfl rfl (Nat.le_of_ble_eq_true rfl) zd_Writes_note_48 (fun H locs hP hD hS => ?_)
    have hP : va_P D vwCl (W_Writes_note kT ad (wn + 1) (upd wf wn.toNatClampNeg p0) (upd wt wn.toNatClampNeg p1) (vp_updL wv wn.toNatClampNeg p2)) H := hP
    have hD : va_D A (W_Writes_note kT ad (wn + 1) (upd wf wn.toNatClampNeg p0) (upd wt wn.toNatClampNeg p1) (vp_updL wv wn.toNatClampNeg p2)) := hD
    exact hret  _ H locs 51 ls ⟨(wn + 1), (upd wf wn.toNatClampNeg p0), (upd wt wn.toNatClampNeg p1), (vp_updL wv wn.toNatClampNeg p2), rfl, h⟩ hP rfl hS zd_Writes_note_51
  · have h := zq_if c_1 h
    exact hret  _ H locs 10 ls ⟨wn, wf, wt, wv, rfl, h⟩ hP rfl hS zd_Writes_note_10
abbrev W_Writes_noteReverse (kT : Nat → ClassId) (ad : Nat → Nat) (rn : Int32) (rv : Nat → Int64) (rm : Nat → Int32) (bc : Nat → Int32) (wn : Int32) (wf : Nat → Int32) (wt : Nat → Int32) (wv : Nat → Int64) : va_W := [(ad 1, .inr (0, [.ref (ad 2), .ref (ad 3), .ref (ad 4), .int rn])), (ad 3, .inl (kT 1, 24, .inr (.inl rv))), (ad 4, .inl (kT 2, 24, .inl rm)), (ad 5, .inr (1, [.ref (ad 6)])), (ad 6, .inl (kT 3, 4096, .inl bc)), (ad 28, .inr (6, [.ref (ad 1), .ref (ad 5), .ref (ad 29), .ref (ad 30), .ref (ad 31), .int wn])), (ad 29, .inl (kT 0, 200, .inl wf)), (ad 30, .inl (kT 0, 200, .inl wt)), (ad 31, .inl (kT 1, 200, .inr (.inl wv)))]
abbrev A_Writes_noteReverse (ad : Nat → Nat) : List Nat := [ad 1, ad 3, ad 4, ad 5, ad 6, ad 28, ad 29, ad 30, ad 31]
def wp_Writes_noteReverse_63 (rn : Int32) (rv : Nat → Int64) (rm : Nat → Int32) (bc : Nat → Int32) (wn : Int32) (wf : Nat → Int32) (wt : Nat → Int32) (wv : Nat → Int64) (y2 : Int32) (z0 : Int32) (post : Int32 → (Nat → Int32) → (Nat → Int32) → (Nat → Int64) → Prop) : Prop := wp_Registers_valueOf rn rv y2 (fun r_17 => wp_Writes_note wn wf wt wv z0 y2 r_17 (fun wn_18 wf_19 wt_20 wv_21 => post  wn_18 wf_19 wt_20 wv_21))
def wp_Writes_noteReverse (rn : Int32) (rv : Nat → Int64) (rm : Nat → Int32) (bc : Nat → Int32) (wn : Int32) (wf : Nat → Int32) (wt : Nat → Int32) (wv : Nat → Int64) (p0 : Int32) (p1 : Int32) (post : Int32 → (Nat → Int32) → (Nat → Int32) → (Nat → Int64) → Prop) : Prop := (if p0 = 3 then wp_Bytes_byteOf bc p1 (fun r_11 => wp_Writes_note wn wf wt wv 3 p1 (zq_j_i2l r_11) (fun wn_12 wf_13 wt_14 wv_15 => post  wn_12 wf_13 wt_14 wv_15)) else (if p0 = 4 then wp_Bytes_wordOf bc p1 (fun r_5 => wp_Writes_note wn wf wt wv 4 p1 (zq_j_i2l r_5) (fun wn_6 wf_7 wt_8 wv_9 => post  wn_6 wf_7 wt_8 wv_9)) else wp_Registers_isMarked rn rm p1 (fun r_3 => (if r_3 = 0 then wp_Writes_noteReverse_63 rn rv rm bc wn wf wt wv p1 0 post else wp_Writes_noteReverse_63 rn rv rm bc wn wf wt wv p1 1 post))))
set_option maxHeartbeats 4000000 in
set_option maxRecDepth 100000 in
theorem c_Writes_noteReverse (l : Launch) (D : va_G) (kT : Nat → ClassId) (ad : Nat → Nat) (rn : Int32) (rv : Nat → Int64) (rm : Nat → Int32) (bc : Nat → Int32) (wn : Int32) (wf : Nat → Int32) (wt : Nat → Int32) (wv : Nat → Int64) (p0 : Int32) (p1 : Int32) (post : Int32 → (Nat → Int32) → (Nat → Int32) → (Nat → Int64) → Prop) (h : wp_Writes_noteReverse rn rv rm bc wn wf wt wv p0 p1 post) : zq_Mv l zy_Writes_noteReverse zs_Writes_noteReverse ({ frames := 1, cells := 0, slots := 0, locals := 24 }) D kT [.ref (ad 28), .int p0, .int p1] (W_Writes_noteReverse kT ad rn rv rm bc wn wf wt wv) (fun w' => ∃ (wn' : Int32) (wf' : Nat → Int32) (wt' : Nat → Int32) (wv' : Nat → Int64), w' = (W_Writes_noteReverse kT ad rn rv rm bc wn' wf' wt' wv') ∧ post  wn' wf' wt' wv') := by
  refine zq_Mv_of (adl := (A_Writes_noteReverse ad)) (cc := zb_Writes_noteReverse) (maxL := 3) (own := zR_Writes) rfl (by decide) rfl rfl (Nat.le_of_ble_eq_true rfl) ?_
  intro p e s m AV below meth c A QQ H locs ls hx hb hml hown ht hE hA hret hP hD hS hl
  have hK := hE.1
  have hl : lv_has ls 3 [(0, .ref (ad 28)), (1, .int p0), (2, .int p1)] := hl
  unfold wp_Writes_noteReverse at h
  have B63 : ∀  (wn : Int32) (wf : Nat → Int32) (wt : Nat → Int32) (wv : Nat → Int64) (y2 : Int32) (z0 : Int32) (H : Heap) (locs : List Loc) (ls : Array Slot), wp_Writes_noteReverse_63 rn rv rm bc wn wf wt wv y2 z0 post → va_P D vwCl (W_Writes_noteReverse kT ad rn rv rm bc wn wf wt wv) H → va_D A (W_Writes_noteReverse kT ad rn rv rm bc wn wf wt wv) → va_S A s.heap H locs → lv_has ls 3 [(0, .ref (ad 28)), (2, .int y2)] → W p l e ({ frames := 1, cells := 0, slots := 0, locals := 24 }) s m AV below meth c H locs 0 0 QQ (F0 m 63 ls [.int z0, .ref (ad 28)]) := by
    intro wn wf wt wv y2 z0 H locs ls h hP hD hS hl
    refine lv_iload_n hx hb zd_Writes_noteReverse_63 rfl (lv_at hl 1 rfl) ?_
    refine lv_aload_n hx hb zd_Writes_noteReverse_64 rfl (lv_at hl 0 rfl) ?_
    refine va_get (D := D) (ci := 6) (v := .ref (ad 1)) (C := zR_Writes) (T := zF_Writes) (N := 6) hx hb ht zi_Writes hown hK hP 5 rfl rfl 0 (by decide) (ht _ zw_182) (fun _ h9 => h9) rfl zd_Writes_noteReverse_65 ?_
    refine lv_iload_n hx hb zd_Writes_noteReverse_68 rfl (lv_at hl 1 rfl) ?_
    refine zq_c_Vl (rest := [.int y2, .int z0, .ref (ad 28)]) (adl := (A_Writes_noteReverse ad)) (wr := [(ad 4, .inl (kT 2, 24, .inl rm)), (ad 5, .inr (1, [.ref (ad 6)])), (ad 6, .inl (kT 3, 4096, .inl bc)), (ad 28, .inr (6, [.ref (ad 1), .ref (ad 5), .ref (ad 29), .ref (ad 30), .ref (ad 31), .int wn])), (ad 29, .inl (kT 0, 200, .inl wf)), (ad 30, .inl (kT 0, 200, .inl wt)), (ad 31, .inl (kT 1, 200, .inr (.inl wv)))]) ⟨hx, hb, hml, hown, ht⟩ (c_Registers_valueOf l D kT ad rn rv y2 _ h) (cwV 1 ht (zq_gV zw_198 zw_149 zw_150 zw_128 zw_151) rfl rfl rfl zh_Registers_valueOf ⟨Nat.le_of_ble_eq_true rfl, Nat.le_of_ble_eq_true rfl⟩) hE hP hD hS hA [0, 1] [2, 3, 4, 5, 6, 7, 8] 9 rfl (by decide +kernel) rfl (by decide +kernel) rfl rfl 0 rfl rfl rfl rfl hl.1 (Nat.le_of_ble_eq_true rfl) rfl zd_Writes_noteReverse_69 ⟨Nat.zero_le _, Nat.zero_le _⟩ (fun r_17 w1 H locs hw hJ hS => ?_)
    obtain ⟨rfl, h⟩ := hw
    obtain ⟨hP, hD⟩ := hJ (W_Writes_noteReverse kT ad rn rv rm bc wn wf wt wv) rfl rfl rfl
    refine zq_c_Vv (rest := []) (adl := (A_Writes_noteReverse ad)) (wr := [(ad 1, .inr (0, [.ref (ad 2), .ref (ad 3), .ref (ad 4), .int rn])), (ad 3, .inl (kT 1, 24, .inr (.inl rv))), (ad 4, .inl (kT 2, 24, .inl rm)), (ad 5, .inr (1, [.ref (ad 6)])), (ad 6, .inl (kT 3, 4096, .inl bc))]) ⟨hx, hb, hml, hown, ht⟩ (c_Writes_note l D kT ad wn wf wt wv z0 y2 r_17 _ h) (cwV 3 ht (zq_gV zw_189 zw_190 zw_191 zw_192 zw_193) rfl rfl rfl zh_Writes_note ⟨Nat.le_of_ble_eq_true rfl, Nat.le_of_ble_eq_true rfl⟩) hE hP hD hS hA [5, 6, 7, 8] [0, 1, 2, 3, 4] 9 rfl (by decide +kernel) rfl (by decide +kernel) rfl rfl 0 rfl rfl rfl rfl hl.1 (Nat.le_of_ble_eq_true rfl) rfl zd_Writes_noteReverse_72 ⟨Nat.zero_le _, Nat.zero_le _⟩ (fun w1 H locs hw hJ hS => ?_)
    obtain ⟨wn_18, wf_19, wt_20, wv_21, rfl, h⟩ := hw
    obtain ⟨hP, hD⟩ := hJ (W_Writes_noteReverse kT ad rn rv rm bc wn_18 wf_19 wt_20 wv_21) rfl rfl rfl
    exact hret  _ H locs 75 ls ⟨wn_18, wf_19, wt_20, wv_21, rfl, h⟩ hP rfl hS zd_Writes_noteReverse_75
  refine lv_iload_n hx hb zd_Writes_noteReverse_0 rfl (lv_at hl 1 rfl) ?_
  refine lv_iconst (v := 3) hx hb zd_Writes_noteReverse_1 (by decide) ?_
  refine lv_icmp_ne (tgt := 23) hx hb zd_Writes_noteReverse_2 (by decide) (fun c_1 => ?_) (fun c_1 => ?_)
  · have h := zq_if c_1 h
    refine lv_iload_n hx hb zd_Writes_noteReverse_23 rfl (lv_at hl 1 rfl) ?_
    refine lv_iconst (v := 4) hx hb zd_Writes_noteReverse_24 (by decide) ?_
    refine lv_icmp_ne (tgt := 46) hx hb zd_Writes_noteReverse_25 (by decide) (fun c_2 => ?_) (fun c_2 => ?_)
    · have h := zq_if c_2 h
      refine lv_aload_n hx hb zd_Writes_noteReverse_46 rfl (lv_at hl 0 rfl) ?_
      refine lv_aload_n hx hb zd_Writes_noteReverse_47 rfl (lv_at hl 0 rfl) ?_
      refine va_get (D := D) (ci := 6) (v := .ref (ad 1)) (C := zR_Writes) (T := zF_Writes) (N := 6) hx hb ht zi_Writes hown hK hP 5 rfl rfl 0 (by decide) (ht _ zw_182) (fun _ h9 => h9) rfl zd_Writes_noteReverse_48 ?_
      refine lv_iload_n hx hb zd_Writes_noteReverse_51 rfl (lv_at hl 2 rfl) ?_
      refine zq_c_Vi (rest := [.ref (ad 28)]) (adl := (A_Writes_noteReverse ad)) (wr := [(ad 3, .inl (kT 1, 24, .inr (.inl rv))), (ad 5, .inr (1, [.ref (ad 6)])), (ad 6, .inl (kT 3, 4096, .inl bc)), (ad 28, .inr (6, [.ref (ad 1), .ref (ad 5), .ref (ad 29), .ref (ad 30), .ref (ad 31), .int wn])), (ad 29, .inl (kT 0, 200, .inl wf)), (ad 30, .inl (kT 0, 200, .inl wt)), (ad 31, .inl (kT 1, 200, .inr (.inl wv)))]) ⟨hx, hb, hml, hown, ht⟩ (c_Registers_isMarked l D kT ad rn rm p1 _ h) (cwV 1 ht (zq_gV zw_183 zw_158 zw_159 zw_128 zw_160) rfl rfl rfl zh_Registers_isMarked ⟨Nat.le_of_ble_eq_true rfl, Nat.le_of_ble_eq_true rfl⟩) hE hP hD hS hA [0, 2] [1, 3, 4, 5, 6, 7, 8] 9 rfl (by decide +kernel) rfl (by decide +kernel) rfl rfl 0 rfl rfl rfl rfl hl.1 (Nat.le_of_ble_eq_true rfl) rfl zd_Writes_noteReverse_52 ⟨Nat.zero_le _, Nat.zero_le _⟩ (fun r_3 w1 H locs hw hJ hS => ?_)
      obtain ⟨rfl, h⟩ := hw
      obtain ⟨hP, hD⟩ := hJ (W_Writes_noteReverse kT ad rn rv rm bc wn wf wt wv) rfl rfl rfl
      refine lv_if_eq (tgt := 62) hx hb zd_Writes_noteReverse_55 (by decide) (fun c_4 => ?_) (fun c_4 => ?_)
      · have h := zq_it c_4 h
        refine lv_iconst (v := 0) hx hb zd_Writes_noteReverse_62 (by decide) ?_
        exact B63 wn wf wt wv p1 0 H locs ls h hP hD hS (lv_sub hl [0, 2] rfl)
      · have h := zq_if c_4 h
        refine lv_iconst (v := 1) hx hb zd_Writes_noteReverse_58 (by decide) ?_
        refine lv_goto (tgt := 63) hx hb zd_Writes_noteReverse_59 (by decide) ?_
        exact B63 wn wf wt wv p1 1 H locs ls h hP hD hS (lv_sub hl [0, 2] rfl)
    · have h := zq_it c_2 h
      refine lv_aload_n hx hb zd_Writes_noteReverse_28 rfl (lv_at hl 0 rfl) ?_
      refine lv_iconst (v := 4) hx hb zd_Writes_noteReverse_29 (by decide) ?_
      refine lv_iload_n hx hb zd_Writes_noteReverse_30 rfl (lv_at hl 2 rfl) ?_
      refine lv_aload_n hx hb zd_Writes_noteReverse_31 rfl (lv_at hl 0 rfl) ?_
      refine va_get (D := D) (ci := 6) (v := .ref (ad 5)) (C := zR_Writes) (T := zF_Writes) (N := 6) hx hb ht zi_Writes hown hK hP 5 rfl rfl 1 (by decide) (ht _ zw_184) (fun _ h9 => h9) rfl zd_Writes_noteReverse_32 ?_
      refine lv_iload_n hx hb zd_Writes_noteReverse_35 rfl (lv_at hl 2 rfl) ?_
      refine zq_c_Vi (rest := [.int p1, .int 4, .ref (ad 28)]) (adl := (A_Writes_noteReverse ad)) (wr := [(ad 1, .inr (0, [.ref (ad 2), .ref (ad 3), .ref (ad 4), .int rn])), (ad 3, .inl (kT 1, 24, .inr (.inl rv))), (ad 4, .inl (kT 2, 24, .inl rm)), (ad 28, .inr (6, [.ref (ad 1), .ref (ad 5), .ref (ad 29), .ref (ad 30), .ref (ad 31), .int wn])), (ad 29, .inl (kT 0, 200, .inl wf)), (ad 30, .inl (kT 0, 200, .inl wt)), (ad 31, .inl (kT 1, 200, .inr (.inl wv)))]) ⟨hx, hb, hml, hown, ht⟩ (c_Bytes_wordOf l D kT ad bc p1 _ h) (cwV 1 ht (zq_gV zw_185 zw_186 zw_187 zw_134 zw_188) rfl rfl rfl zh_Bytes_wordOf ⟨Nat.le_of_ble_eq_true rfl, Nat.le_of_ble_eq_true rfl⟩) hE hP hD hS hA [3, 4] [0, 1, 2, 5, 6, 7, 8] 9 rfl (by decide +kernel) rfl (by decide +kernel) rfl rfl 0 rfl rfl rfl rfl hl.1 (Nat.le_of_ble_eq_true rfl) rfl zd_Writes_noteReverse_36 ⟨Nat.zero_le _, Nat.zero_le _⟩ (fun r_5 w1 H locs hw hJ hS => ?_)
      obtain ⟨rfl, h⟩ := hw
      obtain ⟨hP, hD⟩ := hJ (W_Writes_noteReverse kT ad rn rv rm bc wn wf wt wv) rfl rfl rfl
      refine lv_i2l (v := (zq_j_i2l r_5)) hx hb zd_Writes_noteReverse_39 rfl ?_
      refine zq_c_Vv (rest := []) (adl := (A_Writes_noteReverse ad)) (wr := [(ad 1, .inr (0, [.ref (ad 2), .ref (ad 3), .ref (ad 4), .int rn])), (ad 3, .inl (kT 1, 24, .inr (.inl rv))), (ad 4, .inl (kT 2, 24, .inl rm)), (ad 5, .inr (1, [.ref (ad 6)])), (ad 6, .inl (kT 3, 4096, .inl bc))]) ⟨hx, hb, hml, hown, ht⟩ (c_Writes_note l D kT ad wn wf wt wv 4 p1 (zq_j_i2l r_5) _ h) (cwV 3 ht (zq_gV zw_189 zw_190 zw_191 zw_192 zw_193) rfl rfl rfl zh_Writes_note ⟨Nat.le_of_ble_eq_true rfl, Nat.le_of_ble_eq_true rfl⟩) hE hP hD hS hA [5, 6, 7, 8] [0, 1, 2, 3, 4] 9 rfl (by decide +kernel) rfl (by decide +kernel) rfl rfl 0 rfl rfl rfl rfl hl.1 (Nat.le_of_ble_eq_true rfl) rfl zd_Writes_noteReverse_40 ⟨Nat.zero_le _, Nat.zero_le _⟩ (fun w1 H locs hw hJ hS => ?_)
      obtain ⟨wn_6, wf_7, wt_8, wv_9, rfl, h⟩ := hw
      obtain ⟨hP, hD⟩ := hJ (W_Writes_noteReverse kT ad rn rv rm bc wn_6 wf_7 wt_8 wv_9) rfl rfl rfl
      refine lv_goto (tgt := 75) hx hb zd_Writes_noteReverse_43 (by decide) ?_
      exact hret  _ H locs 75 ls ⟨wn_6, wf_7, wt_8, wv_9, rfl, h⟩ hP rfl hS zd_Writes_noteReverse_75
  · have h := zq_it c_1 h
    refine lv_aload_n hx hb zd_Writes_noteReverse_5 rfl (lv_at hl 0 rfl) ?_
    refine lv_iconst (v := 3) hx hb zd_Writes_noteReverse_6 (by decide) ?_
    refine lv_iload_n hx hb zd_Writes_noteReverse_7 rfl (lv_at hl 2 rfl) ?_
    refine lv_aload_n hx hb zd_Writes_noteReverse_8 rfl (lv_at hl 0 rfl) ?_
    refine va_get (D := D) (ci := 6) (v := .ref (ad 5)) (C := zR_Writes) (T := zF_Writes) (N := 6) hx hb ht zi_Writes hown hK hP 5 rfl rfl 1 (by decide) (ht _ zw_184) (fun _ h9 => h9) rfl zd_Writes_noteReverse_9 ?_
    refine lv_iload_n hx hb zd_Writes_noteReverse_12 rfl (lv_at hl 2 rfl) ?_
    refine zq_c_Vi (rest := [.int p1, .int 3, .ref (ad 28)]) (adl := (A_Writes_noteReverse ad)) (wr := [(ad 1, .inr (0, [.ref (ad 2), .ref (ad 3), .ref (ad 4), .int rn])), (ad 3, .inl (kT 1, 24, .inr (.inl rv))), (ad 4, .inl (kT 2, 24, .inl rm)), (ad 28, .inr (6, [.ref (ad 1), .ref (ad 5), .ref (ad 29), .ref (ad 30), .ref (ad 31), .int wn])), (ad 29, .inl (kT 0, 200, .inl wf)), (ad 30, .inl (kT 0, 200, .inl wt)), (ad 31, .inl (kT 1, 200, .inr (.inl wv)))]) ⟨hx, hb, hml, hown, ht⟩ (c_Bytes_byteOf l D kT ad bc p1 _ h) (cwV 1 ht (zq_gV zw_194 zw_195 zw_196 zw_134 zw_197) rfl rfl rfl zh_Bytes_byteOf ⟨Nat.le_of_ble_eq_true rfl, Nat.le_of_ble_eq_true rfl⟩) hE hP hD hS hA [3, 4] [0, 1, 2, 5, 6, 7, 8] 9 rfl (by decide +kernel) rfl (by decide +kernel) rfl rfl 0 rfl rfl rfl rfl hl.1 (Nat.le_of_ble_eq_true rfl) rfl zd_Writes_noteReverse_13 ⟨Nat.zero_le _, Nat.zero_le _⟩ (fun r_11 w1 H locs hw hJ hS => ?_)
    obtain ⟨rfl, h⟩ := hw
    obtain ⟨hP, hD⟩ := hJ (W_Writes_noteReverse kT ad rn rv rm bc wn wf wt wv) rfl rfl rfl
    refine lv_i2l (v := (zq_j_i2l r_11)) hx hb zd_Writes_noteReverse_16 rfl ?_
    refine zq_c_Vv (rest := []) (adl := (A_Writes_noteReverse ad)) (wr := [(ad 1, .inr (0, [.ref (ad 2), .ref (ad 3), .ref (ad 4), .int rn])), (ad 3, .inl (kT 1, 24, .inr (.inl rv))), (ad 4, .inl (kT 2, 24, .inl rm)), (ad 5, .inr (1, [.ref (ad 6)])), (ad 6, .inl (kT 3, 4096, .inl bc))]) ⟨hx, hb, hml, hown, ht⟩ (c_Writes_note l D kT ad wn wf wt wv 3 p1 (zq_j_i2l r_11) _ h) (cwV 3 ht (zq_gV zw_189 zw_190 zw_191 zw_192 zw_193) rfl rfl rfl zh_Writes_note ⟨Nat.le_of_ble_eq_true rfl, Nat.le_of_ble_eq_true rfl⟩) hE hP hD hS hA [5, 6, 7, 8] [0, 1, 2, 3, 4] 9 rfl (by decide +kernel) rfl (by decide +kernel) rfl rfl 0 rfl rfl rfl rfl hl.1 (Nat.le_of_ble_eq_true rfl) rfl zd_Writes_noteReverse_17 ⟨Nat.zero_le _, Nat.zero_le _⟩ (fun w1 H locs hw hJ hS => ?_)
    obtain ⟨wn_12, wf_13, wt_14, wv_15, rfl, h⟩ := hw
    obtain ⟨hP, hD⟩ := hJ (W_Writes_noteReverse kT ad rn rv rm bc wn_12 wf_13 wt_14 wv_15) rfl rfl rfl
    refine lv_goto (tgt := 75) hx hb zd_Writes_noteReverse_20 (by decide) ?_
    exact hret  _ H locs 75 ls ⟨wn_12, wf_13, wt_14, wv_15, rfl, h⟩ hP rfl hS zd_Writes_noteReverse_75
abbrev W_Writes_perform (kT : Nat → ClassId) (ad : Nat → Nat) (rn : Int32) (rc : Nat → Int64) (rv : Nat → Int64) (rm : Nat → Int32) (bc : Nat → Int32) (wn : Int32) : va_W := [(ad 1, .inr (0, [.ref (ad 2), .ref (ad 3), .ref (ad 4), .int rn])), (ad 2, .inl (kT 1, 24, .inr (.inl rc))), (ad 3, .inl (kT 1, 24, .inr (.inl rv))), (ad 4, .inl (kT 2, 24, .inl rm)), (ad 5, .inr (1, [.ref (ad 6)])), (ad 6, .inl (kT 3, 4096, .inl bc)), (ad 28, .inr (6, [.ref (ad 1), .ref (ad 5), .ref (ad 29), .ref (ad 30), .ref (ad 31), .int wn]))]
abbrev A_Writes_perform (ad : Nat → Nat) : List Nat := [ad 1, ad 2, ad 3, ad 4, ad 5, ad 6, ad 28]
def wp_Writes_perform (rn : Int32) (rc : Nat → Int64) (rv : Nat → Int64) (rm : Nat → Int32) (bc : Nat → Int32) (wn : Int32) (p0 : Int32) (p1 : Int32) (p2 : Int64) (post : (Nat → Int64) → (Nat → Int32) → (Nat → Int32) → Prop) : Prop := (if p0 = 2 then wp_Registers_valueOf rn rv p1 (fun r_1 => wp_Registers_put rn rc rv rm p1 r_1 1 (fun rv_2 rm_3 => post  rv_2 rm_3 bc)) else (if p0 = 3 then wp_Bytes_putByte bc p1 p2 (fun bc_5 => post  rv rm bc_5) else (if p0 = 4 then wp_Bytes_putWord bc p1 p2 (fun bc_7 => post  rv rm bc_7) else (if p0 = 1 then wp_Registers_put rn rc rv rm p1 p2 1 (fun rv_13 rm_14 => post  rv_13 rm_14 bc) else wp_Registers_put rn rc rv rm p1 p2 0 (fun rv_10 rm_11 => post  rv_10 rm_11 bc)))))
set_option maxHeartbeats 4000000 in
set_option maxRecDepth 100000 in
theorem c_Writes_perform (l : Launch) (D : va_G) (kT : Nat → ClassId) (ad : Nat → Nat) (rn : Int32) (rc : Nat → Int64) (rv : Nat → Int64) (rm : Nat → Int32) (bc : Nat → Int32) (wn : Int32) (p0 : Int32) (p1 : Int32) (p2 : Int64) (post : (Nat → Int64) → (Nat → Int32) → (Nat → Int32) → Prop) (h : wp_Writes_perform rn rc rv rm bc wn p0 p1 p2 post) : zq_Mv l zy_Writes_perform zs_Writes_perform ({ frames := 1, cells := 0, slots := 0, locals := 24 }) D kT [.ref (ad 28), .int p0, .int p1, .long p2] (W_Writes_perform kT ad rn rc rv rm bc wn) (fun w' => ∃ (rv' : Nat → Int64) (rm' : Nat → Int32) (bc' : Nat → Int32), w' = (W_Writes_perform kT ad rn rc rv' rm' bc' wn) ∧ post  rv' rm' bc') := by
  refine zq_Mv_of (adl := (A_Writes_perform ad)) (cc := zb_Writes_perform) (maxL := 5) (own := zR_Writes) rfl (by decide) rfl rfl (Nat.le_of_ble_eq_true rfl) ?_
  intro p e s m AV below meth c A QQ H locs ls hx hb hml hown ht hE hA hret hP hD hS hl
  have hK := hE.1
  have hl : lv_has ls 5 [(0, .ref (ad 28)), (1, .int p0), (2, .int p1), (3, .long p2)] := hl
  unfold wp_Writes_perform at h
  refine lv_iload_n hx hb zd_Writes_perform_0 rfl (lv_at hl 1 rfl) ?_
  by_cases k0 : p0 = 2
  · have h := zq_it k0 h
    refine lv_tableIn (off := 51) (tgt := 52) hx hb zd_Writes_perform_1 (by rw [k0]; decide) (by rw [k0]; decide) (by rw [k0]; rfl) (by decide) ?_
    refine lv_aload_n hx hb zd_Writes_perform_52 rfl (lv_at hl 0 rfl) ?_
    refine va_get (D := D) (ci := 6) (v := .ref (ad 1)) (C := zR_Writes) (T := zF_Writes) (N := 6) hx hb ht zi_Writes hown hK hP 6 rfl rfl 0 (by decide) (ht _ zw_182) (fun _ h9 => h9) rfl zd_Writes_perform_53 ?_
    refine lv_iload_n hx hb zd_Writes_perform_56 rfl (lv_at hl 2 rfl) ?_
    refine lv_aload_n hx hb zd_Writes_perform_57 rfl (lv_at hl 0 rfl) ?_
    refine va_get (D := D) (ci := 6) (v := .ref (ad 1)) (C := zR_Writes) (T := zF_Writes) (N := 6) hx hb ht zi_Writes hown hK hP 6 rfl rfl 0 (by decide) (ht _ zw_182) (fun _ h9 => h9) rfl zd_Writes_perform_58 ?_
    refine lv_iload_n hx hb zd_Writes_perform_61 rfl (lv_at hl 2 rfl) ?_
    refine zq_c_Vl (rest := [.int p1, .ref (ad 1)]) (adl := (A_Writes_perform ad)) (wr := [(ad 2, .inl (kT 1, 24, .inr (.inl rc))), (ad 4, .inl (kT 2, 24, .inl rm)), (ad 5, .inr (1, [.ref (ad 6)])), (ad 6, .inl (kT 3, 4096, .inl bc)), (ad 28, .inr (6, [.ref (ad 1), .ref (ad 5), .ref (ad 29), .ref (ad 30), .ref (ad 31), .int wn]))]) ⟨hx, hb, hml, hown, ht⟩ (c_Registers_valueOf l D kT ad rn rv p1 _ h) (cwV 1 ht (zq_gV zw_198 zw_149 zw_150 zw_128 zw_151) rfl rfl rfl zh_Registers_valueOf ⟨Nat.le_of_ble_eq_true rfl, Nat.le_of_ble_eq_true rfl⟩) hE hP hD hS hA [0, 2] [1, 3, 4, 5, 6] 7 rfl (by decide +kernel) rfl (by decide +kernel) rfl rfl 0 rfl rfl rfl rfl hl.1 (Nat.le_of_ble_eq_true rfl) rfl zd_Writes_perform_62 ⟨Nat.zero_le _, Nat.zero_le _⟩ (fun r_1 w1 H locs hw hJ hS => ?_)
    obtain ⟨rfl, h⟩ := hw
    obtain ⟨hP, hD⟩ := hJ (W_Writes_perform kT ad rn rc rv rm bc wn) rfl rfl rfl
    refine lv_iconst (v := 1) hx hb zd_Writes_perform_65 (by decide) ?_
    refine zq_c_Vv (rest := []) (adl := (A_Writes_perform ad)) (wr := [(ad 5, .inr (1, [.ref (ad 6)])), (ad 6, .inl (kT 3, 4096, .inl bc)), (ad 28, .inr (6, [.ref (ad 1), .ref (ad 5), .ref (ad 29), .ref (ad 30), .ref (ad 31), .int wn]))]) ⟨hx, hb, hml, hown, ht⟩ (c_Registers_put l D kT ad rn rc rv rm p1 r_1 1 _ h) (cwV 3 ht (zq_gV zw_199 zw_126 zw_127 zw_128 zw_129) rfl rfl rfl zh_Registers_put ⟨Nat.le_of_ble_eq_true rfl, Nat.le_of_ble_eq_true rfl⟩) hE hP hD hS hA [0, 1, 2, 3] [4, 5, 6] 7 rfl (by decide +kernel) rfl (by decide +kernel) rfl rfl 0 rfl rfl rfl rfl hl.1 (Nat.le_of_ble_eq_true rfl) rfl zd_Writes_perform_66 ⟨Nat.zero_le _, Nat.zero_le _⟩ (fun w1 H locs hw hJ hS => ?_)
    obtain ⟨rv_2, rm_3, rfl, h⟩ := hw
    obtain ⟨hP, hD⟩ := hJ (W_Writes_perform kT ad rn rc rv_2 rm_3 bc wn) rfl rfl rfl
    refine lv_goto (tgt := 91) hx hb zd_Writes_perform_69 (by decide) ?_
    exact hret  _ H locs 91 ls ⟨rv_2, rm_3, bc, rfl, h⟩ hP rfl hS zd_Writes_perform_91
  · have h := zq_if k0 h
    by_cases k1 : p0 = 3
    · have h := zq_it k1 h
      refine lv_tableIn (off := 27) (tgt := 28) hx hb zd_Writes_perform_1 (by rw [k1]; decide) (by rw [k1]; decide) (by rw [k1]; rfl) (by decide) ?_
      refine lv_aload_n hx hb zd_Writes_perform_28 rfl (lv_at hl 0 rfl) ?_
      refine va_get (D := D) (ci := 6) (v := .ref (ad 5)) (C := zR_Writes) (T := zF_Writes) (N := 6) hx hb ht zi_Writes hown hK hP 6 rfl rfl 1 (by decide) (ht _ zw_184) (fun _ h9 => h9) rfl zd_Writes_perform_29 ?_
      refine lv_iload_n hx hb zd_Writes_perform_32 rfl (lv_at hl 2 rfl) ?_
      refine lv_lload_n hx hb zd_Writes_perform_33 rfl (lv_at hl 3 rfl) ?_
      refine zq_c_Vv (rest := []) (adl := (A_Writes_perform ad)) (wr := [(ad 1, .inr (0, [.ref (ad 2), .ref (ad 3), .ref (ad 4), .int rn])), (ad 2, .inl (kT 1, 24, .inr (.inl rc))), (ad 3, .inl (kT 1, 24, .inr (.inl rv))), (ad 4, .inl (kT 2, 24, .inl rm)), (ad 28, .inr (6, [.ref (ad 1), .ref (ad 5), .ref (ad 29), .ref (ad 30), .ref (ad 31), .int wn]))]) ⟨hx, hb, hml, hown, ht⟩ (c_Bytes_putByte l D kT ad bc p1 p2 _ h) (cwV 2 ht (zq_gV zw_200 zw_201 zw_202 zw_134 zw_203) rfl rfl rfl zh_Bytes_putByte ⟨Nat.le_of_ble_eq_true rfl, Nat.le_of_ble_eq_true rfl⟩) hE hP hD hS hA [4, 5] [0, 1, 2, 3, 6] 7 rfl (by decide +kernel) rfl (by decide +kernel) rfl rfl 0 rfl rfl rfl rfl hl.1 (Nat.le_of_ble_eq_true rfl) rfl zd_Writes_perform_34 ⟨Nat.zero_le _, Nat.zero_le _⟩ (fun w1 H locs hw hJ hS => ?_)
      obtain ⟨bc_5, rfl, h⟩ := hw
      obtain ⟨hP, hD⟩ := hJ (W_Writes_perform kT ad rn rc rv rm bc_5 wn) rfl rfl rfl
      refine lv_goto (tgt := 91) hx hb zd_Writes_perform_37 (by decide) ?_
      exact hret  _ H locs 91 ls ⟨rv, rm, bc_5, rfl, h⟩ hP rfl hS zd_Writes_perform_91
    · have h := zq_if k1 h
      by_cases k2 : p0 = 4
      · have h := zq_it k2 h
        refine lv_tableIn (off := 39) (tgt := 40) hx hb zd_Writes_perform_1 (by rw [k2]; decide) (by rw [k2]; decide) (by rw [k2]; rfl) (by decide) ?_
        refine lv_aload_n hx hb zd_Writes_perform_40 rfl (lv_at hl 0 rfl) ?_
        refine va_get (D := D) (ci := 6) (v := .ref (ad 5)) (C := zR_Writes) (T := zF_Writes) (N := 6) hx hb ht zi_Writes hown hK hP 6 rfl rfl 1 (by decide) (ht _ zw_184) (fun _ h9 => h9) rfl zd_Writes_perform_41 ?_
        refine lv_iload_n hx hb zd_Writes_perform_44 rfl (lv_at hl 2 rfl) ?_
        refine lv_lload_n hx hb zd_Writes_perform_45 rfl (lv_at hl 3 rfl) ?_
        refine zq_c_Vv (rest := []) (adl := (A_Writes_perform ad)) (wr := [(ad 1, .inr (0, [.ref (ad 2), .ref (ad 3), .ref (ad 4), .int rn])), (ad 2, .inl (kT 1, 24, .inr (.inl rc))), (ad 3, .inl (kT 1, 24, .inr (.inl rv))), (ad 4, .inl (kT 2, 24, .inl rm)), (ad 28, .inr (6, [.ref (ad 1), .ref (ad 5), .ref (ad 29), .ref (ad 30), .ref (ad 31), .int wn]))]) ⟨hx, hb, hml, hown, ht⟩ (c_Bytes_putWord l D kT ad bc p1 p2 _ h) (cwV 2 ht (zq_gV zw_204 zw_205 zw_206 zw_134 zw_207) rfl rfl rfl zh_Bytes_putWord ⟨Nat.le_of_ble_eq_true rfl, Nat.le_of_ble_eq_true rfl⟩) hE hP hD hS hA [4, 5] [0, 1, 2, 3, 6] 7 rfl (by decide +kernel) rfl (by decide +kernel) rfl rfl 0 rfl rfl rfl rfl hl.1 (Nat.le_of_ble_eq_true rfl) rfl zd_Writes_perform_46 ⟨Nat.zero_le _, Nat.zero_le _⟩ (fun w1 H locs hw hJ hS => ?_)
        obtain ⟨bc_7, rfl, h⟩ := hw
        obtain ⟨hP, hD⟩ := hJ (W_Writes_perform kT ad rn rc rv rm bc_7 wn) rfl rfl rfl
        refine lv_goto (tgt := 91) hx hb zd_Writes_perform_49 (by decide) ?_
        exact hret  _ H locs 91 ls ⟨rv, rm, bc_7, rfl, h⟩ hP rfl hS zd_Writes_perform_91
      · have h := zq_if k2 h
        refine lv_tableOut (tgt := 72) hx hb zd_Writes_perform_1 (by have q0 := lv_neT k0 (a := 2) (by decide); have q1 := lv_neT k1 (a := 3) (by decide); have q2 := lv_neT k2 (a := 4) (by decide); omega) (by decide) ?_
        refine lv_aload_n hx hb zd_Writes_perform_72 rfl (lv_at hl 0 rfl) ?_
        refine va_get (D := D) (ci := 6) (v := .ref (ad 1)) (C := zR_Writes) (T := zF_Writes) (N := 6) hx hb ht zi_Writes hown hK hP 6 rfl rfl 0 (by decide) (ht _ zw_182) (fun _ h9 => h9) rfl zd_Writes_perform_73 ?_
        refine lv_iload_n hx hb zd_Writes_perform_76 rfl (lv_at hl 2 rfl) ?_
        refine lv_lload_n hx hb zd_Writes_perform_77 rfl (lv_at hl 3 rfl) ?_
        refine lv_iload_n hx hb zd_Writes_perform_78 rfl (lv_at hl 1 rfl) ?_
        refine lv_iconst (v := 1) hx hb zd_Writes_perform_79 (by decide) ?_
        refine lv_icmp_ne (tgt := 87) hx hb zd_Writes_perform_80 (by decide) (fun c_9 => ?_) (fun c_9 => ?_)
        · have h := zq_if c_9 h
          refine lv_iconst (v := 0) hx hb zd_Writes_perform_87 (by decide) ?_
          refine zq_c_Vv (rest := []) (adl := (A_Writes_perform ad)) (wr := [(ad 5, .inr (1, [.ref (ad 6)])), (ad 6, .inl (kT 3, 4096, .inl bc)), (ad 28, .inr (6, [.ref (ad 1), .ref (ad 5), .ref (ad 29), .ref (ad 30), .ref (ad 31), .int wn]))]) ⟨hx, hb, hml, hown, ht⟩ (c_Registers_put l D kT ad rn rc rv rm p1 p2 0 _ h) (cwV 3 ht (zq_gV zw_199 zw_126 zw_127 zw_128 zw_129) rfl rfl rfl zh_Registers_put ⟨Nat.le_of_ble_eq_true rfl, Nat.le_of_ble_eq_true rfl⟩) hE hP hD hS hA [0, 1, 2, 3] [4, 5, 6] 7 rfl (by decide +kernel) rfl (by decide +kernel) rfl rfl 0 rfl rfl rfl rfl hl.1 (Nat.le_of_ble_eq_true rfl) rfl zd_Writes_perform_88 ⟨Nat.zero_le _, Nat.zero_le _⟩ (fun w1 H locs hw hJ hS => ?_)
          obtain ⟨rv_10, rm_11, rfl, h⟩ := hw
          obtain ⟨hP, hD⟩ := hJ (W_Writes_perform kT ad rn rc rv_10 rm_11 bc wn) rfl rfl rfl
          exact hret  _ H locs 91 ls ⟨rv_10, rm_11, bc, rfl, h⟩ hP rfl hS zd_Writes_perform_91
        · have h := zq_it c_9 h
          refine lv_iconst (v := 1) hx hb zd_Writes_perform_83 (by decide) ?_
          refine lv_goto (tgt := 88) hx hb zd_Writes_perform_84 (by decide) ?_
          refine zq_c_Vv (rest := []) (adl := (A_Writes_perform ad)) (wr := [(ad 5, .inr (1, [.ref (ad 6)])), (ad 6, .inl (kT 3, 4096, .inl bc)), (ad 28, .inr (6, [.ref (ad 1), .ref (ad 5), .ref (ad 29), .ref (ad 30), .ref (ad 31), .int wn]))]) ⟨hx, hb, hml, hown, ht⟩ (c_Registers_put l D kT ad rn rc rv rm p1 p2 1 _ h) (cwV 3 ht (zq_gV zw_199 zw_126 zw_127 zw_128 zw_129) rfl rfl rfl zh_Registers_put ⟨Nat.le_of_ble_eq_true rfl, Nat.le_of_ble_eq_true rfl⟩) hE hP hD hS hA [0, 1, 2, 3] [4, 5, 6] 7 rfl (by decide +kernel) rfl (by decide +kernel) rfl rfl 0 rfl rfl rfl rfl hl.1 (Nat.le_of_ble_eq_true rfl) rfl zd_Writes_perform_88 ⟨Nat.zero_le _, Nat.zero_le _⟩ (fun w1 H locs hw hJ hS => ?_)
          obtain ⟨rv_13, rm_14, rfl, h⟩ := hw
          obtain ⟨hP, hD⟩ := hJ (W_Writes_perform kT ad rn rc rv_13 rm_14 bc wn) rfl rfl rfl
          exact hret  _ H locs 91 ls ⟨rv_13, rm_14, bc, rfl, h⟩ hP rfl hS zd_Writes_perform_91
abbrev W_Writes_performInOrder (kT : Nat → ClassId) (ad : Nat → Nat) (rn : Int32) (rc : Nat → Int64) (rv : Nat → Int64) (rm : Nat → Int32) (bc : Nat → Int32) (wn : Int32) (wf : Nat → Int32) (wt : Nat → Int32) (wv : Nat → Int64) : va_W := [(ad 1, .inr (0, [.ref (ad 2), .ref (ad 3), .ref (ad 4), .int rn])), (ad 2, .inl (kT 1, 24, .inr (.inl rc))), (ad 3, .inl (kT 1, 24, .inr (.inl rv))), (ad 4, .inl (kT 2, 24, .inl rm)), (ad 5, .inr (1, [.ref (ad 6)])), (ad 6, .inl (kT 3, 4096, .inl bc)), (ad 28, .inr (6, [.ref (ad 1), .ref (ad 5), .ref (ad 29), .ref (ad 30), .ref (ad 31), .int wn])), (ad 29, .inl (kT 0, 200, .inl wf)), (ad 30, .inl (kT 0, 200, .inl wt)), (ad 31, .inl (kT 1, 200, .inr (.inl wv)))]
abbrev A_Writes_performInOrder (ad : Nat → Nat) : List Nat := [ad 1, ad 2, ad 3, ad 4, ad 5, ad 6, ad 28, ad 29, ad 30, ad 31]
def wp_Writes_performInOrder_2 (rn : Int32) (rc : Nat → Int64) (wn : Int32) (wf : Nat → Int32) (wt : Nat → Int32) (wv : Nat → Int64) (post : (Nat → Int64) → (Nat → Int32) → (Nat → Int32) → Prop) : Nat → (Nat → Int64) → (Nat → Int32) → (Nat → Int32) → Int32 → Prop
  | 0 => fun _ _ _ _ => False
  | n + 1 => fun rv rm bc y1 => (if wn ≤ y1 then post  rv rm bc else vp_in y1 200 ∧ vp_in y1 200 ∧ vp_in y1 200 ∧ wp_Writes_perform rn rc rv rm bc wn (wf y1.toNatClampNeg) (wt y1.toNatClampNeg) (wv y1.toNatClampNeg) (fun rv_5 rm_6 bc_7 => wp_Writes_performInOrder_2 rn rc wn wf wt wv post n rv_5 rm_6 bc_7 (y1 + 1)))
def wp_Writes_performInOrder (rn : Int32) (rc : Nat → Int64) (rv : Nat → Int64) (rm : Nat → Int32) (bc : Nat → Int32) (wn : Int32) (wf : Nat → Int32) (wt : Nat → Int32) (wv : Nat → Int64)  (post : (Nat → Int64) → (Nat → Int32) → (Nat → Int32) → Prop) : Prop := ∃ n, wp_Writes_performInOrder_2 rn rc wn wf wt wv post n rv rm bc 0
set_option maxHeartbeats 4000000 in
set_option maxRecDepth 100000 in
theorem c_Writes_performInOrder (l : Launch) (D : va_G) (kT : Nat → ClassId) (ad : Nat → Nat) (rn : Int32) (rc : Nat → Int64) (rv : Nat → Int64) (rm : Nat → Int32) (bc : Nat → Int32) (wn : Int32) (wf : Nat → Int32) (wt : Nat → Int32) (wv : Nat → Int64)  (post : (Nat → Int64) → (Nat → Int32) → (Nat → Int32) → Prop) (h : wp_Writes_performInOrder rn rc rv rm bc wn wf wt wv  post) : zq_Mv l zy_Writes_performInOrder zs_Writes_performInOrder ({ frames := 2, cells := 0, slots := 0, locals := 48 }) D kT [.ref (ad 28)] (W_Writes_performInOrder kT ad rn rc rv rm bc wn wf wt wv) (fun w' => ∃ (rv' : Nat → Int64) (rm' : Nat → Int32) (bc' : Nat → Int32), w' = (W_Writes_performInOrder kT ad rn rc rv' rm' bc' wn wf wt wv) ∧ post  rv' rm' bc') := by
  refine zq_Mv_of (adl := (A_Writes_performInOrder ad)) (cc := zb_Writes_performInOrder) (maxL := 2) (own := zR_Writes) rfl (by decide) rfl rfl (Nat.le_of_ble_eq_true rfl) ?_
  intro p e s m AV below meth c A QQ H locs ls hx hb hml hown ht hE hA hret hP hD hS hl
  have hK := hE.1
  have hl : lv_has ls 2 [(0, .ref (ad 28))] := hl
  have B2 : ∀ (n : Nat) (rv : Nat → Int64) (rm : Nat → Int32) (bc : Nat → Int32) (y1 : Int32) (H : Heap) (locs : List Loc) (ls : Array Slot), wp_Writes_performInOrder_2 rn rc wn wf wt wv post n rv rm bc y1 → va_P D vwCl (W_Writes_performInOrder kT ad rn rc rv rm bc wn wf wt wv) H → va_D A (W_Writes_performInOrder kT ad rn rc rv rm bc wn wf wt wv) → va_S A s.heap H locs → lv_has ls 2 [(0, .ref (ad 28)), (1, .int y1)] → W p l e ({ frames := 2, cells := 0, slots := 0, locals := 48 }) s m AV below meth c H locs 0 0 QQ (F0 m 2 ls []) := by
    intro n
    induction n with
    | zero =>
      intro rv rm bc y1 H locs ls h
      exact h.elim
    | succ n ih =>
      intro rv rm bc y1 H locs ls h hP hD hS hl
      refine lv_iload_n hx hb zd_Writes_performInOrder_2 rfl (lv_at hl 1 rfl) ?_
      refine lv_aload_n hx hb zd_Writes_performInOrder_3 rfl (lv_at hl 0 rfl) ?_
      refine va_get (D := D) (ci := 6) (v := .int wn) (C := zR_Writes) (T := zF_Writes) (N := 6) hx hb ht zi_Writes hown hK hP 6 rfl rfl 5 (by decide) (ht _ zw_178) (fun _ h9 => h9) rfl zd_Writes_performInOrder_4 ?_
      refine lv_icmp_ge (tgt := 38) hx hb zd_Writes_performInOrder_7 (by decide) (fun c_1 => ?_) (fun c_1 => ?_)
      · have h := zq_it c_1 h
        exact hret  _ H locs 38 ls ⟨rv, rm, bc, rfl, h⟩ hP rfl hS zd_Writes_performInOrder_38
      · have h := zq_if c_1 h
        refine lv_aload_n hx hb zd_Writes_performInOrder_10 rfl (lv_at hl 0 rfl) ?_
        refine lv_aload_n hx hb zd_Writes_performInOrder_11 rfl (lv_at hl 0 rfl) ?_
        refine va_get (D := D) (ci := 6) (v := .ref (ad 29)) (C := zR_Writes) (T := zF_Writes) (N := 6) hx hb ht zi_Writes hown hK hP 6 rfl rfl 2 (by decide) (ht _ zw_179) (fun _ h9 => h9) rfl zd_Writes_performInOrder_12 ?_
        refine lv_iload_n hx hb zd_Writes_performInOrder_15 rfl (lv_at hl 1 rfl) ?_
        obtain ⟨hi_2, h⟩ := h
        refine zq_a_iald (D := D) hx hb hK hP 7 0 rfl rfl hi_2 rfl zd_Writes_performInOrder_16 ?_
        refine lv_aload_n hx hb zd_Writes_performInOrder_17 rfl (lv_at hl 0 rfl) ?_
        refine va_get (D := D) (ci := 6) (v := .ref (ad 30)) (C := zR_Writes) (T := zF_Writes) (N := 6) hx hb ht zi_Writes hown hK hP 6 rfl rfl 3 (by decide) (ht _ zw_180) (fun _ h9 => h9) rfl zd_Writes_performInOrder_18 ?_
        refine lv_iload_n hx hb zd_Writes_performInOrder_21 rfl (lv_at hl 1 rfl) ?_
        obtain ⟨hi_3, h⟩ := h
        refine zq_a_iald (D := D) hx hb hK hP 8 0 rfl rfl hi_3 rfl zd_Writes_performInOrder_22 ?_
        refine lv_aload_n hx hb zd_Writes_performInOrder_23 rfl (lv_at hl 0 rfl) ?_
        refine va_get (D := D) (ci := 6) (v := .ref (ad 31)) (C := zR_Writes) (T := zF_Writes) (N := 6) hx hb ht zi_Writes hown hK hP 6 rfl rfl 4 (by decide) (ht _ zw_181) (fun _ h9 => h9) rfl zd_Writes_performInOrder_24 ?_
        refine lv_iload_n hx hb zd_Writes_performInOrder_27 rfl (lv_at hl 1 rfl) ?_
        obtain ⟨hi_4, h⟩ := h
        refine zq_a_lald (D := D) hx hb hK hP 9 1 rfl rfl hi_4 rfl zd_Writes_performInOrder_28 ?_
        refine zq_c_Vv (rest := []) (adl := (A_Writes_performInOrder ad)) (wr := [(ad 29, .inl (kT 0, 200, .inl wf)), (ad 30, .inl (kT 0, 200, .inl wt)), (ad 31, .inl (kT 1, 200, .inr (.inl wv)))]) ⟨hx, hb, hml, hown, ht⟩ (c_Writes_perform l D kT ad rn rc rv rm bc wn (wf y1.toNatClampNeg) (wt y1.toNatClampNeg) (wv y1.toNatClampNeg) _ h) (cwV 3 ht (zq_gV zw_208 zw_209 zw_210 zw_192 zw_211) rfl rfl rfl zh_Writes_perform ⟨Nat.le_of_ble_eq_true rfl, Nat.le_of_ble_eq_true rfl⟩) hE hP hD hS hA [0, 1, 2, 3, 4, 5, 6] [7, 8, 9] 10 rfl (by decide +kernel) rfl (by decide +kernel) rfl rfl 6 rfl rfl rfl rfl hl.1 (Nat.le_of_ble_eq_true rfl) rfl zd_Writes_performInOrder_29 ⟨Nat.zero_le _, Nat.zero_le _⟩ (fun w1 H locs hw hJ hS => ?_)
        obtain ⟨rv_5, rm_6, bc_7, rfl, h⟩ := hw
        obtain ⟨hP, hD⟩ := hJ (W_Writes_performInOrder kT ad rn rc rv_5 rm_6 bc_7 wn wf wt wv) rfl rfl rfl
        refine lv_iinc (v := (y1 + 1)) (lv' := [(1, .int (y1 + 1)), (0, .ref (ad 28))]) hx hb zd_Writes_performInOrder_32 hl (k := 1) rfl rfl (by decide) rfl (fun ls hl => ?_)
        refine lv_goto (tgt := 2) hx hb zd_Writes_performInOrder_35 (by decide) ?_
        exact ih rv_5 rm_6 bc_7 (y1 + 1) H locs ls h hP hD hS (lv_sub hl [1, 0] rfl)
  refine lv_iconst (v := 0) hx hb zd_Writes_performInOrder_0 (by decide) ?_
  refine lv_istore_n (lv' := [(1, .int 0), (0, .ref (ad 28))]) hx hb zd_Writes_performInOrder_1 rfl hl (by decide) rfl (fun ls hl => ?_)
  obtain ⟨n, h⟩ := h
  exact B2 n rv rm bc 0 H locs ls h hP hD hS (lv_sub hl [1, 0] rfl)
abbrev W_Writes_performBackwards (kT : Nat → ClassId) (ad : Nat → Nat) (rn : Int32) (rc : Nat → Int64) (rv : Nat → Int64) (rm : Nat → Int32) (bc : Nat → Int32) (wn : Int32) (wf : Nat → Int32) (wt : Nat → Int32) (wv : Nat → Int64) : va_W := [(ad 1, .inr (0, [.ref (ad 2), .ref (ad 3), .ref (ad 4), .int rn])), (ad 2, .inl (kT 1, 24, .inr (.inl rc))), (ad 3, .inl (kT 1, 24, .inr (.inl rv))), (ad 4, .inl (kT 2, 24, .inl rm)), (ad 5, .inr (1, [.ref (ad 6)])), (ad 6, .inl (kT 3, 4096, .inl bc)), (ad 28, .inr (6, [.ref (ad 1), .ref (ad 5), .ref (ad 29), .ref (ad 30), .ref (ad 31), .int wn])), (ad 29, .inl (kT 0, 200, .inl wf)), (ad 30, .inl (kT 0, 200, .inl wt)), (ad 31, .inl (kT 1, 200, .inr (.inl wv)))]
abbrev A_Writes_performBackwards (ad : Nat → Nat) : List Nat := [ad 1, ad 2, ad 3, ad 4, ad 5, ad 6, ad 28, ad 29, ad 30, ad 31]
def wp_Writes_performBackwards_7 (rn : Int32) (rc : Nat → Int64) (wn : Int32) (wf : Nat → Int32) (wt : Nat → Int32) (wv : Nat → Int64) (post : (Nat → Int64) → (Nat → Int32) → (Nat → Int32) → Prop) : Nat → (Nat → Int64) → (Nat → Int32) → (Nat → Int32) → Int32 → Prop
  | 0 => fun _ _ _ _ => False
  | n + 1 => fun rv rm bc y1 => (if y1 < 0 then post  rv rm bc else vp_in y1 200 ∧ vp_in y1 200 ∧ vp_in y1 200 ∧ wp_Writes_perform rn rc rv rm bc wn (wf y1.toNatClampNeg) (wt y1.toNatClampNeg) (wv y1.toNatClampNeg) (fun rv_5 rm_6 bc_7 => wp_Writes_performBackwards_7 rn rc wn wf wt wv post n rv_5 rm_6 bc_7 (y1 + (-1))))
def wp_Writes_performBackwards (rn : Int32) (rc : Nat → Int64) (rv : Nat → Int64) (rm : Nat → Int32) (bc : Nat → Int32) (wn : Int32) (wf : Nat → Int32) (wt : Nat → Int32) (wv : Nat → Int64)  (post : (Nat → Int64) → (Nat → Int32) → (Nat → Int32) → Prop) : Prop := ∃ n, wp_Writes_performBackwards_7 rn rc wn wf wt wv post n rv rm bc (wn - 1)
set_option maxHeartbeats 4000000 in
set_option maxRecDepth 100000 in
theorem c_Writes_performBackwards (l : Launch) (D : va_G) (kT : Nat → ClassId) (ad : Nat → Nat) (rn : Int32) (rc : Nat → Int64) (rv : Nat → Int64) (rm : Nat → Int32) (bc : Nat → Int32) (wn : Int32) (wf : Nat → Int32) (wt : Nat → Int32) (wv : Nat → Int64)  (post : (Nat → Int64) → (Nat → Int32) → (Nat → Int32) → Prop) (h : wp_Writes_performBackwards rn rc rv rm bc wn wf wt wv  post) : zq_Mv l zy_Writes_performBackwards zs_Writes_performBackwards ({ frames := 2, cells := 0, slots := 0, locals := 48 }) D kT [.ref (ad 28)] (W_Writes_performBackwards kT ad rn rc rv rm bc wn wf wt wv) (fun w' => ∃ (rv' : Nat → Int64) (rm' : Nat → Int32) (bc' : Nat → Int32), w' = (W_Writes_performBackwards kT ad rn rc rv' rm' bc' wn wf wt wv) ∧ post  rv' rm' bc') := by
  refine zq_Mv_of (adl := (A_Writes_performBackwards ad)) (cc := zb_Writes_performBackwards) (maxL := 2) (own := zR_Writes) rfl (by decide) rfl rfl (Nat.le_of_ble_eq_true rfl) ?_
  intro p e s m AV below meth c A QQ H locs ls hx hb hml hown ht hE hA hret hP hD hS hl
  have hK := hE.1
  have hl : lv_has ls 2 [(0, .ref (ad 28))] := hl
  have B7 : ∀ (n : Nat) (rv : Nat → Int64) (rm : Nat → Int32) (bc : Nat → Int32) (y1 : Int32) (H : Heap) (locs : List Loc) (ls : Array Slot), wp_Writes_performBackwards_7 rn rc wn wf wt wv post n rv rm bc y1 → va_P D vwCl (W_Writes_performBackwards kT ad rn rc rv rm bc wn wf wt wv) H → va_D A (W_Writes_performBackwards kT ad rn rc rv rm bc wn wf wt wv) → va_S A s.heap H locs → lv_has ls 2 [(0, .ref (ad 28)), (1, .int y1)] → W p l e ({ frames := 2, cells := 0, slots := 0, locals := 48 }) s m AV below meth c H locs 0 0 QQ (F0 m 7 ls []) := by
    intro n
    induction n with
    | zero =>
      intro rv rm bc y1 H locs ls h
      exact h.elim
    | succ n ih =>
      intro rv rm bc y1 H locs ls h hP hD hS hl
      refine lv_iload_n hx hb zd_Writes_performBackwards_7 rfl (lv_at hl 1 rfl) ?_
      refine lv_if_lt (tgt := 39) hx hb zd_Writes_performBackwards_8 (by decide) (fun c_1 => ?_) (fun c_1 => ?_)
      · have h := zq_it c_1 h
        exact hret  _ H locs 39 ls ⟨rv, rm, bc, rfl, h⟩ hP rfl hS zd_Writes_performBackwards_39
      · have h := zq_if c_1 h
        refine lv_aload_n hx hb zd_Writes_performBackwards_11 rfl (lv_at hl 0 rfl) ?_
        refine lv_aload_n hx hb zd_Writes_performBackwards_12 rfl (lv_at hl 0 rfl) ?_
        refine va_get (D := D) (ci := 6) (v := .ref (ad 29)) (C := zR_Writes) (T := zF_Writes) (N := 6) hx hb ht zi_Writes hown hK hP 6 rfl rfl 2 (by decide) (ht _ zw_179) (fun _ h9 => h9) rfl zd_Writes_performBackwards_13 ?_
        refine lv_iload_n hx hb zd_Writes_performBackwards_16 rfl (lv_at hl 1 rfl) ?_
        obtain ⟨hi_2, h⟩ := h
        refine zq_a_iald (D := D) hx hb hK hP 7 0 rfl rfl hi_2 rfl zd_Writes_performBackwards_17 ?_
        refine lv_aload_n hx hb zd_Writes_performBackwards_18 rfl (lv_at hl 0 rfl) ?_
        refine va_get (D := D) (ci := 6) (v := .ref (ad 30)) (C := zR_Writes) (T := zF_Writes) (N := 6) hx hb ht zi_Writes hown hK hP 6 rfl rfl 3 (by decide) (ht _ zw_180) (fun _ h9 => h9) rfl zd_Writes_performBackwards_19 ?_
        refine lv_iload_n hx hb zd_Writes_performBackwards_22 rfl (lv_at hl 1 rfl) ?_
        obtain ⟨hi_3, h⟩ := h
        refine zq_a_iald (D := D) hx hb hK hP 8 0 rfl rfl hi_3 rfl zd_Writes_performBackwards_23 ?_
        refine lv_aload_n hx hb zd_Writes_performBackwards_24 rfl (lv_at hl 0 rfl) ?_
        refine va_get (D := D) (ci := 6) (v := .ref (ad 31)) (C := zR_Writes) (T := zF_Writes) (N := 6) hx hb ht zi_Writes hown hK hP 6 rfl rfl 4 (by decide) (ht _ zw_181) (fun _ h9 => h9) rfl zd_Writes_performBackwards_25 ?_
        refine lv_iload_n hx hb zd_Writes_performBackwards_28 rfl (lv_at hl 1 rfl) ?_
        obtain ⟨hi_4, h⟩ := h
        refine zq_a_lald (D := D) hx hb hK hP 9 1 rfl rfl hi_4 rfl zd_Writes_performBackwards_29 ?_
        refine zq_c_Vv (rest := []) (adl := (A_Writes_performBackwards ad)) (wr := [(ad 29, .inl (kT 0, 200, .inl wf)), (ad 30, .inl (kT 0, 200, .inl wt)), (ad 31, .inl (kT 1, 200, .inr (.inl wv)))]) ⟨hx, hb, hml, hown, ht⟩ (c_Writes_perform l D kT ad rn rc rv rm bc wn (wf y1.toNatClampNeg) (wt y1.toNatClampNeg) (wv y1.toNatClampNeg) _ h) (cwV 3 ht (zq_gV zw_208 zw_209 zw_210 zw_192 zw_211) rfl rfl rfl zh_Writes_perform ⟨Nat.le_of_ble_eq_true rfl, Nat.le_of_ble_eq_true rfl⟩) hE hP hD hS hA [0, 1, 2, 3, 4, 5, 6] [7, 8, 9] 10 rfl (by decide +kernel) rfl (by decide +kernel) rfl rfl 6 rfl rfl rfl rfl hl.1 (Nat.le_of_ble_eq_true rfl) rfl zd_Writes_performBackwards_30 ⟨Nat.zero_le _, Nat.zero_le _⟩ (fun w1 H locs hw hJ hS => ?_)
        obtain ⟨rv_5, rm_6, bc_7, rfl, h⟩ := hw
        obtain ⟨hP, hD⟩ := hJ (W_Writes_performBackwards kT ad rn rc rv_5 rm_6 bc_7 wn wf wt wv) rfl rfl rfl
        refine lv_iinc (v := (y1 + (-1))) (lv' := [(1, .int (y1 + (-1))), (0, .ref (ad 28))]) hx hb zd_Writes_performBackwards_33 hl (k := 1) rfl rfl (by decide) rfl (fun ls hl => ?_)
        refine lv_goto (tgt := 7) hx hb zd_Writes_performBackwards_36 (by decide) ?_
        exact ih rv_5 rm_6 bc_7 (y1 + (-1)) H locs ls h hP hD hS (lv_sub hl [1, 0] rfl)
  refine lv_aload_n hx hb zd_Writes_performBackwards_0 rfl (lv_at hl 0 rfl) ?_
  refine va_get (D := D) (ci := 6) (v := .int wn) (C := zR_Writes) (T := zF_Writes) (N := 6) hx hb ht zi_Writes hown hK hP 6 rfl rfl 5 (by decide) (ht _ zw_178) (fun _ h9 => h9) rfl zd_Writes_performBackwards_1 ?_
  refine lv_iconst (v := 1) hx hb zd_Writes_performBackwards_4 (by decide) ?_
  refine lv_isub hx hb zd_Writes_performBackwards_5 ?_
  refine lv_istore_n (lv' := [(1, .int (wn - 1)), (0, .ref (ad 28))]) hx hb zd_Writes_performBackwards_6 rfl hl (by decide) rfl (fun ls hl => ?_)
  obtain ⟨n, h⟩ := h
  exact B7 n rv rm bc (wn - 1) H locs ls h hP hD hS (lv_sub hl [1, 0] rfl)
