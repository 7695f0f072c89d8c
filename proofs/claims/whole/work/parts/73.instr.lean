def zi_I (ptn pin : Int32) (pw pst pe abeg : Nat → Int32) : Prop := ∃ p t : Nat, pin = nI p ∧ p ≤ 40 ∧ ptn = nI t ∧ t ≤ 200 ∧ (∃ z : Nat, z ≤ t ∧ abeg p = nI z ∧ ((p = 0 ∧ z = 0) ∨ (0 < p ∧ pe (p - 1) = nI z))) ∧ ∀ i, i < p → ∃ st e h : Nat, st ≤ e ∧ e ≤ t ∧ h < 8 ∧ pst i = nI st ∧ pe i = nI e ∧ abeg i = nI st ∧ abeg (i + 1) = nI e ∧ pw i = nI h
set_option maxRecDepth 20000 in
theorem zi_T.le {rn ocn ofn : Int32} {po pa pb pt : Nat → Int32} {e t : Nat} (h : zi_T rn ocn ofn po pa pb pt t) (he : e ≤ t) : zi_T rn ocn ofn po pa pb pt e := fun j hj => h j (by omega)
set_option maxRecDepth 20000 in
theorem zn_nI {x : Int32} (h0 : 0 ≤ x.toInt) : x = nI x.toInt.toNat := by
  apply Int32.toInt_inj.mp
  have := Int32.toInt_lt x
  rw [nI_toInt (by omega)]
  omega
set_option maxRecDepth 20000 in
theorem zn_kpos {k : Int32} (hk : 0 ≤ k.toInt) (h : ¬ k = 0) : ¬ k ≤ 0 := by
  intro q
  apply h
  apply Int32.toInt_inj.mp
  rw [zn_le32] at q
  have c0 : (0 : Int32).toInt = 0 := by decide
  omega
set_option maxHeartbeats 4000000 in
set_option maxRecDepth 20000 in
theorem zl_124 {gthr glvs gkps gend gwro gwai gwrs : Int32} {gwpl : Int64} {rn ocn ofn ptn pin w i kn kv wn xw xp xr xq xe xh xb mw mk mp : Int32} {rc oc rv abef asav wv awvl : Nat → Int64} {awid rm bc ambf amsv amms ofr oto osg po pa pb pt pm pv pw pst pe abeg lo lr kp kl cn wf wt awto awat awmk : Nat → Int32} {c b p : Nat} (hc : c ≤ 24) (erc : rn = nI c) (hF : zi_F ofn ofr oto) (hI : zi_I ptn pin pw pst pe abeg) (hT : ∃ t : Nat, ptn = nI t ∧ t ≤ 200 ∧ zi_T rn ocn ofn po pa pb pt t) (hb : ∃ q : Nat, pin = nI q ∧ q ≤ 40 ∧ b < q) (ei : i = nI b) (hp : p + 2 < 65536) (hw0 : 0 ≤ w.toInt) (hw1 : w.toInt < 65536) (hR : zi_R rn rc rv rm awid) (hB : zi_B bc) (hK : zi_K kn kp) (hw : zi_w mw gwai gwpl) (hs : ¬ zf_is pw i 2 = 0 → glvs = kv ∧ gkps = kn ∧ (∀ j, j < c → asav j = rv j ∧ amsv j = rm j) ∧ ∀ j, j < 4096 → amms j = bc j) : ∃ (kn1 kv1 wn1 xw1 xp1 xr1 xq1 xe1 xh1 xb1 mw1 mh1 mk1 mp1 glvs1 gkps1 gwrd1 gsta1 gflt1 gend1 ghal1 gwro1 gwai1 gwrs1 : Int32) (gwpl1 : Int64) (rv1 wv1 abef1 asav1 awvl1 : Nat → Int64) (rm1 bc1 kp1 kl1 wf1 wt1 cn1 ambf1 amsv1 amms1 awto1 awat1 awmk1 : Nat → Int32), (∀ post, post rv1 rm1 bc1 kn1 kv1 kp1 kl1 wn1 wf1 wt1 wv1 xw1 xp1 xr1 xq1 xe1 xh1 xb1 mw1 mh1 mk1 mp1 cn1 → wp_Registers_movePlace rn rc rv rm (nI p + 2) (fun rv_9 rm_10 => wp_Work_carryOut rn rc rv_9 rm_10 bc ocn ofn oc ofr oto osg ptn pin po pa pb pt pw pst pe kn kv kp kl wn wf wt wv xw xp xr xq xe xh xb cn i w (fun r_29 rv_12 rm_13 bc_14 kn_15 kv_16 wn_17 wf_18 wt_19 wv_20 xw_21 xp_22 xr_23 xq_24 xe_25 xh_26 xb_27 cn_28 => (if xh_26 = 0 then wp_Machine_takeStep_132 rn rc ocn ofn oc ofr oto osg ptn pin po pa pb pt pm pv pw pst pe lo lr rv_12 rm_13 bc_14 kn_15 kv_16 kp kl wn_17 wf_18 wt_19 wv_20 xw_21 xp_22 xr_23 xq_24 xe_25 xh_26 xb_27 mw 0 mk mp cn_28 (nI p) i r_29 post else wp_Machine_takeStep_132 rn rc ocn ofn oc ofr oto osg ptn pin po pa pb pt pm pv pw pst pe lo lr rv_12 rm_13 bc_14 kn_15 kv_16 kp kl wn_17 wf_18 wt_19 wv_20 xw_21 xp_22 xr_23 xq_24 xe_25 xh_26 xb_27 mw 1 mk mp cn_28 (nI p) i r_29 post)))) ∧ (∀ post, post kv1 kn1 glvs1 gkps1 gwrd1 gsta1 gflt1 gend1 ghal1 gwro1 gwai1 gwpl1 gwrs1 mh1 mk1 mp1 rv1 abef1 asav1 rm1 ambf1 amsv1 bc1 amms1 kp1 kl1 awto1 awat1 awvl1 awmk1 cn1 → wp_M_doInstruction_124 gthr rn ocn ofn ptn pin awid oc ofr oto osg po pa pb pt pm pv pw abeg kv kn glvs gkps w (nI p) 0 gend 0 gwro gwai gwpl gwrs 0 mk mp rv abef asav rm ambf amsv bc amms kp kl awto awat awvl awmk cn i (zf_is pw i 2) post) ∧ zi_R rn rc rv1 rm1 awid ∧ zi_B bc1 ∧ zi_K kn1 kp1 ∧ zi_w mw1 gwai1 gwpl1 := by
  obtain ⟨q, eq, hq40, hbq⟩ := hb
  obtain ⟨q', t, eq', _, et, ht, _, hins⟩ := hI
  rw [eq, nI_eq (by omega) (by omega)] at eq'
  subst eq'
  obtain ⟨st, e, h, hse, het, hh, i1, i2, i3, i4, i5⟩ := hins b hbq
  obtain ⟨t', et', _, hT⟩ := hT
  rw [et, nI_eq (by omega) (by omega)] at et'
  subst et'
  have eN : i.toNatClampNeg = b := by rw [ei]; exact nI_clamp (by omega)
  have eN1 : (i + 1).toNatClampNeg = b + 1 := by rw [ei, nI_1]; exact nI_clamp (by omega)
  have hi : vp_in i 40 := by rw [ei]; exact vp_in_nI (by omega) (by omega)
  have hi0 : vp_in i 41 := by rw [ei]; exact vp_in_nI (by omega) (by omega)
  have hi1 : vp_in (i + 1) 41 := by rw [ei, nI_1]; exact vp_in_nI (by omega) (by omega)
  have e2 : nI p + 2 = nI (p + 2) := nI_add p 2
  have hRm := hR.moved hp
  obtain ⟨k, kn1, kv1, xe1, xh1, wn1, xq1, xb1, kn2, kv2, xh2, gwro2, gwrs1, rv2, wv1, aval2, abef1, awvl1, rm2, bc2, wf1, wt1, cn1, amrk2, ambf1, amem2, awto1, awat1, awmk1, hcc, hmm, hout⟩ := zl_carry (pw := pw) (pst := pst) (pe := pe) (abeg := abeg) (gthr := gthr) (greg := rn) (gcon := ocn) (gfld := ofn) (gtrn := ptn) (gins := pin) (glvs := glvs) (gkps := gkps) (gsta := nI p) (gend := gend) (ghal := 0) (gwro := gwro) (gwai := gwai) (gwpl := gwpl) (gwrs := gwrs) (ghlt := 0) (glat := mk) (glpl := mp) (kv := kv) (wn := wn) (xw0 := xw) (xp0 := xp) (xr0 := xr) (xq0 := xq) (xe0 := xe) (xh0 := xh) (xb0 := xb) (oc := oc) (abef := abef) (wv := wv) (awvl := awvl) (ambf := ambf) (osg := osg) (kl := kl) (cn := cn) (wf := wf) (wt := wt) (awto := awto) (awat := awat) (awmk := awmk) (ptn := ptn) (pin := pin) hc erc rfl hse (by omega) hi hi0 hi1 (by rw [eN]; exact i1) (by rw [eN]; exact i2) (by rw [eN]; exact i3) (by rw [eN1]; exact i4) hh (by rw [eN]; exact i5) hRm hB hK hF (hT.le het) hw0 hw1
  have hc1 : ∀ post : (Nat → Int64) → (Nat → Int32) → (Nat → Int32) → Int32 → Int32 → (Nat → Int32) → (Nat → Int32) → Int32 → (Nat → Int32) → (Nat → Int32) → (Nat → Int64) → Int32 → Int32 → Int32 → Int32 → Int32 → Int32 → Int32 → Int32 → Int32 → Int32 → Int32 → (Nat → Int32) → Prop, ∀ mh : Int32, (xh2 = 0 ∧ mh = 0 ∨ ¬ xh2 = 0 ∧ mh = 1) → wp_Machine_takeStep_132 rn rc ocn ofn oc ofr oto osg ptn pin po pa pb pt pm pv pw pst pe lo lr rv2 rm2 bc2 kn2 kv2 kp kl wn1 wf1 wt1 wv1 w (zf_is pw i 1) (zf_is pw i 2) xq1 xe1 xh2 xb1 mw mh mk mp cn1 (nI p) i k post → wp_Registers_movePlace rn rc rv rm (nI p + 2) (fun rv_9 rm_10 => wp_Work_carryOut rn rc rv_9 rm_10 bc ocn ofn oc ofr oto osg ptn pin po pa pb pt pw pst pe kn kv kp kl wn wf wt wv xw xp xr xq xe xh xb cn i w (fun r_29 rv_12 rm_13 bc_14 kn_15 kv_16 wn_17 wf_18 wt_19 wv_20 xw_21 xp_22 xr_23 xq_24 xe_25 xh_26 xb_27 cn_28 => (if xh_26 = 0 then wp_Machine_takeStep_132 rn rc ocn ofn oc ofr oto osg ptn pin po pa pb pt pm pv pw pst pe lo lr rv_12 rm_13 bc_14 kn_15 kv_16 kp kl wn_17 wf_18 wt_19 wv_20 xw_21 xp_22 xr_23 xq_24 xe_25 xh_26 xb_27 mw 0 mk mp cn_28 (nI p) i r_29 post else wp_Machine_takeStep_132 rn rc ocn ofn oc ofr oto osg ptn pin po pa pb pt pm pv pw pst pe lo lr rv_12 rm_13 bc_14 kn_15 kv_16 kp kl wn_17 wf_18 wt_19 wv_20 xw_21 xp_22 xr_23 xq_24 xe_25 xh_26 xb_27 mw 1 mk mp cn_28 (nI p) i r_29 post))) := by
    intro post mh hx hp'
    rw [e2]
    refine zc_move hR hp (hcc _ ?_)
    rcases hx with ⟨q, rfl⟩ | ⟨q, rfl⟩
    · exact zn_it q hp'
    · exact zn_if q hp'
  rcases hout with ⟨hk, rfl, rfl, rfl, rfl, rfl, rfl, rfl, hxq, hR2, hB2, hK2⟩ | ⟨hk, hkr, hr0, rfl, rfl, rfl, rfl, hR2, hB2, hK2, hv⟩ | ⟨hk, hkr, hr0, rfl, rfl, rfl, es, hz, hzm⟩
  · obtain ⟨rv3, mw3, gwai3, gwpl3, hs1, hs2, hR3, hw3⟩ := zl_settle (pw := pw) (gthr := gthr) (greg := rn) (gcon := ocn) (gfld := ofn) (gtrn := ptn) (gins := pin) (glev := kv2) (gkep := kn2) (glvs := glvs) (gkps := gkps) (gwrd := w) (gflt := k) (gend := xe1) (ghal := xh2) (gwrs := gwrs1) (ghlt := 0) (glat := mk) (glpl := mp) (mh := if xh2 = 0 then 0 else 1) (mk := mk) (mp := mp) (xw := w) (xp := zf_is pw i 1) (xr := zf_is pw i 2) (xe := xe1) (xh := xh2) (xb := xb1) (p := p) hi hh (by rw [eN]; exact i5) hp hR2 hxq hw
    refine ⟨kn2, kv2, wn1, w, zf_is pw i 1, zf_is pw i 2, gwro2, xe1, xh2, xb1, mw3, if xh2 = 0 then 0 else 1, mk, mp, glvs, gkps, w, nI p, k, xe1, xh2, gwro2, gwai3, gwrs1, gwpl3, rv3, wv1, abef1, asav, awvl1, rm2, bc2, kp, kl, wf1, wt1, upd cn1 1 (cn1 1 + 1), ambf1, amsv, amms, awto1, awat1, awmk1, ?_, ?_, hR3, hB2, hK2, hw3⟩
    · intro post hp'
      refine hc1 post (if xh2 = 0 then 0 else 1) ?_ ?_
      · by_cases q : xh2 = 0
        · rw [if_pos q]; exact Or.inl ⟨q, rfl⟩
        · rw [if_neg q]; exact Or.inr ⟨q, rfl⟩
      · refine zn_it hk (zc_is hi (hs1 _ hp'))
    · intro post hp'
      unfold wp_M_doInstruction_124
      rw [e2, zn_pc hp]
      refine hmm _ (zn_it (by rw [hk]; decide) (hs2 _ (zn_it rfl ?_)))
      by_cases q : xh2 = 0
      · rw [if_pos q] at hp'; exact zn_it q hp'
      · rw [if_neg q] at hp'; exact zn_if q hp'
  · have hkN := zn_nI hkr.1
    have hk15 : k.toInt.toNat ≤ 15 := by omega
    obtain ⟨rv3, rm3, kp3, kl3, cn3, kn3, kv3, full, hfd, f1, f2, f3, f4, hR3, hK3⟩ := zl_fail (gthr := gthr) (greg := rn) (gcon := ocn) (gfld := ofn) (gtrn := ptn) (gins := pin) (glvs := glvs) (gkps := gkps) (gwrd := w) (gflt := k) (gend := xe1) (ghal := xh2) (gwro := gwro2) (gwai := gwai) (gwpl := gwpl) (gwrs := gwrs1) (glat := mk) (glpl := mp) (mw := mw) (mh := 0) (mk := mk) (mp := mp) (kv := kv2) (kl := kl) (cn := cn1) (p := p) (aval := aval2) (amrk := amrk2) hk15 (by omega) hR2 hK2 (by
      rcases hv with ⟨q, _⟩ | ⟨_, x, y, q, _⟩
      · exact ⟨rv2 0, by rw [q, zf_updLself rfl]⟩
      · exact ⟨x, q⟩) (by
      rcases hv with ⟨_, q⟩ | ⟨q7, x, y, _, q⟩
      · exact Or.inl q
      · exact Or.inr ⟨q7, y, q⟩)
    rw [← hkN] at f1 f2 f3 f4
    rcases hfd with hf | hf
    · refine ⟨kn3, kv3, wn1, w, zf_is pw i 1, zf_is pw i 2, xq1, xe1, xh2, xb1, -1, 2, k, nI p, glvs, gkps, w, nI p, k, xe1, xh2, gwro2, 0, gwrs1, gwpl, rv3, wv1, abef1, asav, awvl1, rm3, bc2, kp3, kl3, wf1, wt1, cn3, ambf1, amsv, amms, awto1, awat1, awmk1, ?_, ?_, hR3, hB2, hK3, Or.inl ⟨rfl, rfl⟩⟩
      · intro post hp'
        refine hc1 post (if xh2 = 0 then 0 else 1) ?_ ?_
        · by_cases q : xh2 = 0
          · rw [if_pos q]; exact Or.inl ⟨q, rfl⟩
          · rw [if_neg q]; exact Or.inr ⟨q, rfl⟩
        · exact zn_if hk (f1 hf _ _ hp')
      · intro post hp'
        unfold wp_M_doInstruction_124
        rw [e2, zn_pc hp]
        refine hmm _ (zn_if (zn_kpos hkr.1 hk) (zn_it hr0 ?_))
        unfold wp_M_doInstruction_161
        exact f3 hf _ (zn_if (by decide) hp')
    · refine ⟨kn3, kv3, wn1, w, zf_is pw i 1, zf_is pw i 2, xq1, xe1, xh2, xb1, -1, if xh2 = 0 then 0 else 1, k, nI p, glvs, gkps, w, nI p, k, xe1, xh2, gwro2, 0, gwrs1, gwpl, rv3, wv1, abef1, asav, awvl1, rm3, bc2, kp3, kl3, wf1, wt1, cn3, ambf1, amsv, amms, awto1, awat1, awmk1, ?_, ?_, hR3, hB2, hK3, Or.inl ⟨rfl, rfl⟩⟩
      · intro post hp'
        refine hc1 post (if xh2 = 0 then 0 else 1) ?_ ?_
        · by_cases q : xh2 = 0
          · rw [if_pos q]; exact Or.inl ⟨q, rfl⟩
          · rw [if_neg q]; exact Or.inr ⟨q, rfl⟩
        · exact zn_if hk (f2 hf _ _ hp')
      · intro post hp'
        unfold wp_M_doInstruction_124
        rw [e2, zn_pc hp]
        refine hmm _ (zn_if (zn_kpos hkr.1 hk) (zn_it hr0 ?_))
        unfold wp_M_doInstruction_161
        refine f4 hf _ (zn_it rfl ?_)
        by_cases q : xh2 = 0
        · rw [if_pos q] at hp'; exact zn_it q hp'
        · rw [if_neg q] at hp'; exact zn_if q hp'
  · have hkN := zn_nI hkr.1
    have hk15 : k.toInt.toNat ≤ 15 := by omega
    obtain ⟨rfl, rfl, hsv, hsm⟩ := hs hr0
    obtain ⟨c1, cz, cb⟩ := hR.zero hc erc
    obtain ⟨aval3, amrk3, amem3, r1, r2, r3, r4, r5⟩ := zl_rest2 (gthr := gthr) (greg := rn) (gcon := ocn) (gfld := ofn) (gtrn := ptn) (gins := pin) (glev := kv1) (gkep := kn1) (glvs := glvs) (gkps := gkps) (gwrd := w) (gsta := nI p) (gflt := k) (gend := xe1) (ghal := xh1) (gwro := gwro2) (gwai := gwai) (gwpl := gwpl) (gwrs := gwrs1) (ghlt := 0) (glat := mk) (glpl := mp) (asav := asav) (amsv := amsv) (amms := amms) (amem := amem2) hc erc (fun j hj => by rw [(hsv j hj).2]; exact cb j hj) (fun j hj => by rw [hsm j hj]; exact hB.1 j) (c - 0) 0 rfl (by omega) aval2 amrk2 (fun j hj => absurd hj (by omega))
    have ea : aval3 = rv := by
      funext j
      by_cases q : j < c
      · rw [(r2 j q).1, (hsv j q).1]
      · rw [(r3 j (by omega)).1, (hz j (by omega)).1, (cz j (by omega)).1]
    have em : amrk3 = rm := by
      funext j
      by_cases q : j < c
      · rw [(r2 j q).2, (hsv j q).2]
      · rw [(r3 j (by omega)).2, (hz j (by omega)).2, (cz j (by omega)).2]
    have eb : amem3 = bc := by
      funext j
      by_cases q : j < 4096
      · rw [r4 j q, hsm j q]
      · rw [r5 j (by omega), hzm j (by omega), hB.2 j (by omega)]
    rw [ea, em, eb] at r1
    cases es
    obtain ⟨rv3, rm3, kp3, kl3, cn3, kn3, kv3, full, hfd, f1, f2, f3, f4, hR3, hK3⟩ := zl_fail (gthr := gthr) (greg := rn) (gcon := ocn) (gfld := ofn) (gtrn := ptn) (gins := pin) (glvs := glvs) (gkps := gkps) (gwrd := w) (gflt := k) (gend := xe1) (ghal := 0) (gwro := gwro2) (gwai := gwai) (gwpl := gwpl) (gwrs := gwrs1) (glat := mk) (glpl := mp) (mw := mw) (mh := 0) (mk := mk) (mp := mp) (kv := glvs) (kl := kl) (cn := cn1) (p := p) (aval := rv) (amrk := rm) hk15 (by omega) hRm hK ⟨rv 0, by rw [zf_updL_o, zf_updLself rfl]⟩ (Or.inl rfl)
    rw [← hkN] at f1 f2 f3 f4
    rcases hfd with hf | hf
    · refine ⟨kn3, kv3, wn1, w, zf_is pw i 1, zf_is pw i 2, xq1, xe1, 0, xb1, -1, 2, k, nI p, glvs, gkps, w, nI p, k, xe1, 0, gwro2, 0, gwrs1, gwpl, rv3, wv1, abef1, asav, awvl1, rm3, bc, kp3, kl3, wf1, wt1, cn3, ambf1, amsv, amms, awto1, awat1, awmk1, ?_, ?_, hR3, hB, hK3, Or.inl ⟨rfl, rfl⟩⟩
      · intro post hp'
        exact hc1 post 0 (Or.inl ⟨rfl, rfl⟩) (zn_if hk (f1 hf _ _ hp'))
      · intro post hp'
        unfold wp_M_doInstruction_124
        rw [e2, zn_pc hp]
        refine hmm _ (zn_if (zn_kpos hkr.1 hk) (zn_if hr0 ⟨(c - 0) + 1, r1 _ ?_⟩))
        unfold wp_M_doInstruction_161
        exact f3 hf _ (zn_if (by decide) hp')
    · refine ⟨kn3, kv3, wn1, w, zf_is pw i 1, zf_is pw i 2, xq1, xe1, 0, xb1, -1, 0, k, nI p, glvs, gkps, w, nI p, k, xe1, 0, gwro2, 0, gwrs1, gwpl, rv3, wv1, abef1, asav, awvl1, rm3, bc, kp3, kl3, wf1, wt1, cn3, ambf1, amsv, amms, awto1, awat1, awmk1, ?_, ?_, hR3, hB, hK3, Or.inl ⟨rfl, rfl⟩⟩
      · intro post hp'
        exact hc1 post 0 (Or.inl ⟨rfl, rfl⟩) (zn_if hk (f2 hf _ _ hp'))
      · intro post hp'
        unfold wp_M_doInstruction_124
        rw [e2, zn_pc hp]
        refine hmm _ (zn_if (zn_kpos hkr.1 hk) (zn_if hr0 ⟨(c - 0) + 1, r1 _ ?_⟩))
        unfold wp_M_doInstruction_161
        exact f4 hf _ (zn_it rfl (zn_it rfl hp'))
