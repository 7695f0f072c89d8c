set_option maxHeartbeats 4000000 in
set_option maxRecDepth 20000 in
theorem zl_steps {rn ocn ofn ptn pin gthr : Int32} {rc oc : Nat → Int64} {awid ofr oto osg po pa pb pt pm pv pw pst pe abeg lo lr : Nat → Int32} {c N : Nat} (hN : N ≤ 5000) (hc : c ≤ 24) (erc : rn = nI c) (hF : zi_F ofn ofr oto) (hI : zi_I ptn pin pw pst pe abeg) (hT : ∃ t : Nat, ptn = nI t ∧ t ≤ 200 ∧ zi_T rn ocn ofn po pa pb pt t) : ∀ (d j : Nat), N - j = d → j ≤ N → ∀ (kn kv wn xw xp xr xq xe xh xb mw mh mk mp glvs gkps gwrd gsta gflt gend ghal gwro gwai gwrs : Int32) (gwpl : Int64) (rv wv abef asav awvl : Nat → Int64) (rm bc kp kl wf wt cn ambf amsv amms awto awat awmk : Nat → Int32), zi_R rn rc rv rm awid → zi_B bc → zi_K kn kp → zi_w mw gwai gwpl → ∃ (jj : Int32) (kn1 kv1 wn1 xw1 xp1 xr1 xq1 xe1 xh1 xb1 mw1 mh1 mk1 mp1 glvs1 gkps1 gwrd1 gsta1 gflt1 gend1 ghal1 gwro1 gwai1 gwrs1 : Int32) (gwpl1 : Int64) (rv1 wv1 abef1 asav1 awvl1 : Nat → Int64) (rm1 bc1 kp1 kl1 wf1 wt1 cn1 ambf1 amsv1 amms1 awto1 awat1 awmk1 : Nat → Int32), (∀ post px, post jj rv1 rm1 bc1 kn1 kv1 kp1 kl1 wn1 wf1 wt1 wv1 xw1 xp1 xr1 xq1 xe1 xh1 xb1 mw1 mh1 mk1 mp1 cn1 → wp_PS_step_44 rn rc ocn ofn oc ofr oto osg ptn pin po pa pb pt pm pv pw pst pe lo lr post px (d + 1) rv rm bc kn kv kp kl wn wf wt wv xw xp xr xq xe xh xb mw mh mk mp cn (nI N) (nI j)) ∧ (∀ post, post jj gthr kv1 kn1 glvs1 gkps1 gwrd1 gsta1 gflt1 gend1 ghal1 gwro1 gwai1 gwpl1 gwrs1 mh1 mk1 mp1 rv1 abef1 asav1 rm1 ambf1 amsv1 bc1 amms1 kp1 kl1 awto1 awat1 awvl1 awmk1 cn1 → wp_M_step_32 rn ocn ofn ptn pin awid oc ofr oto osg po pa pb pt pm pv pw abeg lo lr post (d + 1) gthr kv kn glvs gkps gwrd gsta gflt gend ghal gwro gwai gwpl gwrs mh mk mp rv abef asav rm ambf amsv bc amms kp kl awto awat awvl awmk cn (nI N) (nI j)) ∧ zi_R rn rc rv1 rm1 awid ∧ zi_B bc1 ∧ zi_K kn1 kp1 ∧ zi_w mw1 gwai1 gwpl1 := by
  intro d
  induction d with
  | zero =>
    intro j hd hj kn kv wn xw xp xr xq xe xh xb mw mh mk mp glvs gkps gwrd gsta gflt gend ghal gwro gwai gwrs gwpl rv wv abef asav awvl rm bc kp kl wf wt cn ambf amsv amms awto awat awmk hR hB hK hw
    have ej : j = N := by omega
    subst ej
    have hle : nI j ≤ nI j := nI_le (Nat.le_refl _) (by omega)
    refine ⟨nI j, kn, kv, wn, xw, xp, xr, xq, xe, xh, xb, mw, mh, mk, mp, glvs, gkps, gwrd, gsta, gflt, gend, ghal, gwro, gwai, gwrs, gwpl, rv, wv, abef, asav, awvl, rm, bc, kp, kl, wf, wt, cn, ambf, amsv, amms, awto, awat, awmk, ?_, ?_, hR, hB, hK, hw⟩
    · intro post px h
      unfold wp_PS_step_44
      exact zn_it hle h
    · intro post h
      unfold wp_M_step_32
      exact zn_it hle h
  | succ d ih =>
    intro j hd hj kn kv wn xw xp xr xq xe xh xb mw mh mk mp glvs gkps gwrd gsta gflt gend ghal gwro gwai gwrs gwpl rv wv abef asav awvl rm bc kp kl wf wt cn ambf amsv amms awto awat awmk hR hB hK hw
    have hlt : ¬ nI N ≤ nI j := nI_ge (by omega) (by omega)
    by_cases hm : mh = 0
    · subst hm
      obtain ⟨kn1, kv1, wn1, xw1, xp1, xr1, xq1, xe1, xh1, xb1, mw1, mh1, mk1, mp1, glvs1, gkps1, gwrd1, gsta1, gflt1, gend1, ghal1, gwro1, gwai1, gwrs1, gwpl1, rv1, wv1, abef1, asav1, awvl1, rm1, bc1, kp1, kl1, wf1, wt1, cn1, ambf1, amsv1, amms1, awto1, awat1, awmk1, s1, s2, s3, s4, s5, s6⟩ := zl_step (gthr := gthr) (glvs := glvs) (gkps := gkps) (gwrd := gwrd) (gsta := gsta) (gflt := gflt) (gend := gend) (ghal := ghal) (gwro := gwro) (gwai := gwai) (gwpl := gwpl) (gwrs := gwrs) (wn := wn) (xw := xw) (xp := xp) (xr := xr) (xq := xq) (xe := xe) (xh := xh) (xb := xb) (mw := mw) (mk := mk) (mp := mp) (kv := kv) (oc := oc) (abef := abef) (asav := asav) (wv := wv) (awvl := awvl) (ambf := ambf) (amsv := amsv) (amms := amms) (osg := osg) (pm := pm) (pv := pv) (lo := lo) (lr := lr) (kl := kl) (cn := cn) (wf := wf) (wt := wt) (awto := awto) (awat := awat) (awmk := awmk) hc erc hF hI hT hR hB hK hw
      obtain ⟨jj, kn2, kv2, wn2, xw2, xp2, xr2, xq2, xe2, xh2, xb2, mw2, mh2, mk2, mp2, glvs2, gkps2, gwrd2, gsta2, gflt2, gend2, ghal2, gwro2, gwai2, gwrs2, gwpl2, rv2, wv2, abef2, asav2, awvl2, rm2, bc2, kp2, kl2, wf2, wt2, cn2, ambf2, amsv2, amms2, awto2, awat2, awmk2, t1, t2, t3, t4, t5, t6⟩ := ih (j + 1) (by omega) (by omega) kn1 kv1 wn1 xw1 xp1 xr1 xq1 xe1 xh1 xb1 mw1 mh1 mk1 mp1 glvs1 gkps1 gwrd1 gsta1 gflt1 gend1 ghal1 gwro1 gwai1 gwrs1 gwpl1 rv1 wv1 abef1 asav1 awvl1 rm1 bc1 kp1 kl1 wf1 wt1 cn1 ambf1 amsv1 amms1 awto1 awat1 awmk1 s3 s4 s5 s6
      refine ⟨jj, kn2, kv2, wn2, xw2, xp2, xr2, xq2, xe2, xh2, xb2, mw2, mh2, mk2, mp2, glvs2, gkps2, gwrd2, gsta2, gflt2, gend2, ghal2, gwro2, gwai2, gwrs2, gwpl2, rv2, wv2, abef2, asav2, awvl2, rm2, bc2, kp2, kl2, wf2, wt2, cn2, ambf2, amsv2, amms2, awto2, awat2, awmk2, ?_, ?_, t3, t4, t5, t6⟩
      · intro post px h
        have g := t1 post px h
        unfold wp_PS_step_44
        refine zn_if hlt (zn_it rfl (s1 _ ?_))
        rw [nI_1]
        exact g
      · intro post h
        have g := t2 post h
        unfold wp_M_step_32
        refine zn_if hlt (zn_it rfl (s2 _ ?_))
        rw [nI_1]
        exact g
    · refine ⟨nI j, kn, kv, wn, xw, xp, xr, xq, xe, xh, xb, mw, mh, mk, mp, glvs, gkps, gwrd, gsta, gflt, gend, ghal, gwro, gwai, gwrs, gwpl, rv, wv, abef, asav, awvl, rm, bc, kp, kl, wf, wt, cn, ambf, amsv, amms, awto, awat, awmk, ?_, ?_, hR, hB, hK, hw⟩
      · intro post px h
        unfold wp_PS_step_44
        exact zn_if hlt (zn_if hm h)
      · intro post h
        unfold wp_M_step_32
        exact zn_if hlt (zn_if hm h)
set_option maxHeartbeats 4000000 in
set_option maxRecDepth 20000 in
theorem zy_7 {rn ocn ofn ptn pin gthr a : Int32} {rc oc fo : Nat → Int64} {awid ofr oto osg po pa pb pt pm pv pw pst pe abeg lo lr : Nat → Int32} {c : Nat} (hc : c ≤ 24) (erc : rn = nI c) (hF : zi_F ofn ofr oto) (hI : zi_I ptn pin pw pst pe abeg) (hT : ∃ t : Nat, ptn = nI t ∧ t ≤ 200 ∧ zi_T rn ocn ofn po pa pb pt t) {kn kv wn xw xp xr xq xe xh xb mw mh mk mp glvs gkps gwrd gsta gflt gend ghal gwro gwai gwrs : Int32} {gwpl : Int64} {rv wv abef asav awvl : Nat → Int64} {rm bc kp kl wf wt cn ambf amsv amms awto awat awmk : Nat → Int32} (hR : zi_R rn rc rv rm awid) (hB : zi_B bc) (hK : zi_K kn kp) (hw : zi_w mw gwai gwpl) : ∃ (code x : Int32) (fo1 : Nat → Int64) (kn1 kv1 wn1 xw1 xp1 xr1 xq1 xe1 xh1 xb1 mw1 mh1 mk1 mp1 glvs1 gkps1 gwrd1 gsta1 gflt1 gend1 ghal1 gwro1 gwai1 gwrs1 : Int32) (gwpl1 : Int64) (rv1 wv1 abef1 asav1 awvl1 : Nat → Int64) (rm1 bc1 kp1 kl1 wf1 wt1 cn1 ambf1 amsv1 amms1 awto1 awat1 awmk1 : Nat → Int32), (∀ post, post code fo1 rv1 rm1 bc1 kn1 kv1 kp1 kl1 wn1 wf1 wt1 wv1 xw1 xp1 xr1 xq1 xe1 xh1 xb1 mw1 mh1 mk1 mp1 cn1 → wp_L_step rn rc rv rm bc ocn ofn oc ofr oto osg ptn pin po pa pb pt pm pv pw pst pe kn kv kp kl lo lr wn wf wt wv xw xp xr xq xe xh xb mw mh mk mp cn fo a post) ∧ (∀ post, post x code kv1 kn1 glvs1 gkps1 gwrd1 gsta1 gflt1 gend1 ghal1 gwro1 gwai1 gwpl1 gwrs1 mh1 mk1 mp1 rv1 abef1 asav1 rm1 ambf1 amsv1 bc1 amms1 kp1 kl1 awto1 awat1 awvl1 awmk1 cn1 → wp_M_step gthr rn ocn ofn ptn pin kv kn glvs gkps gwrd gsta gflt gend ghal gwro gwai gwpl gwrs mh mk mp awid rv abef asav rm ambf amsv bc amms oc ofr oto osg po pa pb pt pm pv pw abeg lo lr kp kl awto awat awvl awmk cn a post) ∧ (code = 0 → fo1 0 = zq_j_i2l x) ∧ zi_R rn rc rv1 rm1 awid ∧ zi_B bc1 ∧ zi_K kn1 kp1 ∧ zi_w mw1 gwai1 gwpl1 := by
  have k1 : (1 : Int32).toInt = 1 := by decide
  have k5 : (5000 : Int32).toInt = 5000 := by decide
  have l1 : (1 : Int64).toInt = 1 := by decide
  have l5 : (5000 : Int64).toInt = 5000 := by decide
  have ka := zn_i2l a
  by_cases hA : 1 ≤ a.toInt ∧ a.toInt ≤ 5000
  · have a1 : ¬ a < 1 := by rw [zn_lt32]; omega
    have a2 : a ≤ 5000 := by rw [zn_le32]; omega
    by_cases hm : mh = 0
    · obtain ⟨N, hN, eN⟩ := zn_of (a := a) (n := 5000) (by omega) (by omega)
      obtain ⟨jj, kn1, kv1, wn1, xw1, xp1, xr1, xq1, xe1, xh1, xb1, mw1, mh1, mk1, mp1, glvs1, gkps1, gwrd1, gsta1, gflt1, gend1, ghal1, gwro1, gwai1, gwrs1, gwpl1, rv1, wv1, abef1, asav1, awvl1, rm1, bc1, kp1, kl1, wf1, wt1, cn1, ambf1, amsv1, amms1, awto1, awat1, awmk1, t1, t2, t3, t4, t5, t6⟩ := zl_steps (gthr := 0) (oc := oc) (osg := osg) (pm := pm) (pv := pv) (lo := lo) (lr := lr) hN hc erc hF hI hT (N - 0) 0 rfl (by omega) kn kv wn xw xp xr xq xe xh xb mw mh mk mp glvs gkps gwrd gsta gflt gend ghal gwro gwai gwrs gwpl rv wv abef asav awvl rm bc kp kl wf wt cn ambf amsv amms awto awat awmk hR hB hK hw
      refine ⟨0, jj, vp_updL fo 0 (zq_j_i2l jj), kn1, kv1, wn1, xw1, xp1, xr1, xq1, xe1, xh1, xb1, mw1, mh1, mk1, mp1, glvs1, gkps1, gwrd1, gsta1, gflt1, gend1, ghal1, gwro1, gwai1, gwrs1, gwpl1, rv1, wv1, abef1, asav1, awvl1, rm1, bc1, kp1, kl1, wf1, wt1, cn1, ambf1, amsv1, amms1, awto1, awat1, awmk1, ?_, ?_, fun _ => zf_updLs, t3, t4, t5, t6⟩
      · intro post h
        refine zn_if a1 (zn_it a2 (zn_it hm ⟨(N - 0) + 1, ?_⟩))
        rw [eN]
        exact t1 _ _ h
      · intro post h
        refine zm_in (fun _ => zn_it hm (zm_g0 zn_10 zn_10 (zn_if zn_10 ⟨(N - 0) + 1, ?_⟩))) (fun q => absurd (by omega) q)
        rw [eN]
        exact t2 _ h
    · refine ⟨2, 0, fo, kn, kv, wn, xw, xp, xr, xq, xe, xh, xb, mw, mh, mk, mp, glvs, gkps, gwrd, gsta, gflt, gend, ghal, gwro, gwai, gwrs, gwpl, rv, wv, abef, asav, awvl, rm, bc, kp, kl, wf, wt, cn, ambf, amsv, amms, awto, awat, awmk, ?_, ?_, fun q => absurd q (by decide), hR, hB, hK, hw⟩
      · intro post h
        exact zn_if a1 (zn_it a2 (zn_if hm (Or.inr ⟨rfl, h⟩)))
      · intro post h
        exact zm_in (fun _ => zn_if hm (zm_g2 zn_10 rfl (zn_it rfl h))) (fun q => absurd (by omega) q)
  · refine ⟨1, 0, fo, kn, kv, wn, xw, xp, xr, xq, xe, xh, xb, mw, mh, mk, mp, glvs, gkps, gwrd, gsta, gflt, gend, ghal, gwro, gwai, gwrs, gwpl, rv, wv, abef, asav, awvl, rm, bc, kp, kl, wf, wt, cn, ambf, amsv, amms, awto, awat, awmk, ?_, ?_, fun q => absurd q (by decide), hR, hB, hK, hw⟩
    · intro post h
      by_cases a1 : a < 1
      · exact zn_it a1 (Or.inl ⟨rfl, h⟩)
      · refine zn_if a1 (zn_if ?_ (Or.inl ⟨rfl, h⟩))
        rw [zn_lt32] at a1
        rw [zn_le32]; omega
    · intro post h
      exact zm_in (fun q => absurd (by omega) hA) (fun _ => zn_ite (fun _ => zm_g1 rfl (zn_it rfl h)) (fun _ => zm_g1 rfl (zn_it rfl h)))
