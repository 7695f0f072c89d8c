set_option maxRecDepth 20000 in
theorem zn_word (a b : Int32) : 0 ≤ ((a &&& 255) ||| ((b &&& 255) <<< ((8 : Int32) &&& 31))).toInt ∧ ((a &&& 255) ||| ((b &&& 255) <<< ((8 : Int32) &&& 31))).toInt < 65536 := by
  have e : ((a &&& 255) ||| ((b &&& 255) <<< ((8 : Int32) &&& 31))) = ((a &&& 255) ||| ((b &&& 255) <<< ((8 : Int32) &&& 31))) &&& 65535 := by
    apply Int32.toBitVec_inj.mp
    apply BitVec.eq_of_getLsbD_eq
    intro i hi
    have h1 := zn_wbit a b i hi
    have h2 : (((a &&& 255) ||| ((b &&& 255) <<< ((8 : Int32) &&& 31))) &&& 65535).toBitVec.getLsbD i = (((a &&& 255) ||| ((b &&& 255) <<< ((8 : Int32) &&& 31))).toBitVec.getLsbD i && decide (i < 16)) := by
      rw [Int32.toBitVec_and, BitVec.getLsbD_and]
      congr 1
      have : ∀ i : Nat, i < 32 → (65535 : Int32).toBitVec.getLsbD i = decide (i < 16) := by decide +kernel
      exact this i hi
    rw [h2, h1]
    by_cases q : i < 16
    · rw [decide_eq_true q]; simp
    · rw [decide_eq_false q, decide_eq_false (show ¬ i < 8 by omega)]; simp
  have g := pk_andIn ((a &&& 255) ||| ((b &&& 255) <<< ((8 : Int32) &&& 31))) (m := 65535) 16 (by decide) (by omega)
  rw [← e] at g
  exact vp_in_iff.mp g
set_option maxRecDepth 20000 in
theorem zn_odd32 {p : Nat} (h : p < 65536) : (nI p &&& 1) = 1 ↔ p % 2 = 1 := by
  have e1 : (nI p).toBitVec.toNat = p := by
    show (BitVec.ofNat 32 p).toNat = p
    rw [BitVec.toNat_ofNat]; omega
  constructor
  · intro q
    have := congrArg (fun x : Int32 => x.toBitVec.toNat) q
    rw [Int32.toBitVec_and, BitVec.toNat_and, e1, show (1 : Int32).toBitVec.toNat = 2 ^ 1 - 1 by decide, Nat.and_two_pow_sub_one_eq_mod] at this
    omega
  · intro q
    apply Int32.toBitVec_inj.mp
    apply BitVec.eq_of_toNat_eq
    rw [Int32.toBitVec_and, BitVec.toNat_and, e1, show (1 : Int32).toBitVec.toNat = 2 ^ 1 - 1 by decide, Nat.and_two_pow_sub_one_eq_mod]
    omega
set_option maxRecDepth 20000 in
theorem zi_there.pl {p : Nat} (h : p < 65536) : zi_there 1 (zq_j_i2l (nI p)) ↔ (p < 4096 ∧ p % 2 = 0) := by
  have et : (zq_j_i2l (nI p)).toInt = p := by rw [zn_i2l, nI_toInt (by omega)]
  constructor
  · rintro ⟨h0, h1, h2⟩
    have := zn_even h0 (h2 rfl)
    omega
  · rintro ⟨h1, h2⟩
    refine ⟨by omega, by omega, fun _ => ?_⟩
    by_cases q : zq_j_i2l (nI p) &&& 1 = 0
    · exact q
    · have := zn_odd (by omega) q
      omega
set_option maxHeartbeats 4000000 in
set_option maxRecDepth 20000 in
theorem zl_step {gthr glvs gkps gwrd gsta gflt gend ghal gwro gwai gwrs : Int32} {gwpl : Int64} {rn ocn ofn ptn pin kn kv wn xw xp xr xq xe xh xb mw mk mp : Int32} {rc oc rv abef asav wv awvl : Nat → Int64} {awid rm bc ambf amsv amms ofr oto osg po pa pb pt pm pv pw pst pe abeg lo lr kp kl cn wf wt awto awat awmk : Nat → Int32} {c : Nat} (hc : c ≤ 24) (erc : rn = nI c) (hF : zi_F ofn ofr oto) (hI : zi_I ptn pin pw pst pe abeg) (hT : ∃ t : Nat, ptn = nI t ∧ t ≤ 200 ∧ zi_T rn ocn ofn po pa pb pt t) (hR : zi_R rn rc rv rm awid) (hB : zi_B bc) (hK : zi_K kn kp) (hw : zi_w mw gwai gwpl) : ∃ (kn1 kv1 wn1 xw1 xp1 xr1 xq1 xe1 xh1 xb1 mw1 mh1 mk1 mp1 glvs1 gkps1 gwrd1 gsta1 gflt1 gend1 ghal1 gwro1 gwai1 gwrs1 : Int32) (gwpl1 : Int64) (rv1 wv1 abef1 asav1 awvl1 : Nat → Int64) (rm1 bc1 kp1 kl1 wf1 wt1 cn1 ambf1 amsv1 amms1 awto1 awat1 awmk1 : Nat → Int32), (∀ post, post rv1 rm1 bc1 kn1 kv1 kp1 kl1 wn1 wf1 wt1 wv1 xw1 xp1 xr1 xq1 xe1 xh1 xb1 mw1 mh1 mk1 mp1 cn1 → wp_Machine_takeStep rn rc rv rm bc ocn ofn oc ofr oto osg ptn pin po pa pb pt pm pv pw pst pe kn kv kp kl lo lr wn wf wt wv xw xp xr xq xe xh xb mw 0 mk mp cn post) ∧ (∀ post, post kv1 kn1 glvs1 gkps1 gwrd1 gsta1 gflt1 gend1 ghal1 gwro1 gwai1 gwpl1 gwrs1 mh1 mk1 mp1 rv1 abef1 asav1 rm1 ambf1 amsv1 bc1 amms1 kp1 kl1 awto1 awat1 awvl1 awmk1 cn1 → wp_M_stepOnce gthr rn ocn ofn ptn pin kv kn glvs gkps gwrd gsta gflt gend ghal gwro gwai gwpl gwrs 0 mk mp awid rv abef asav rm ambf amsv bc amms oc ofr oto osg po pa pb pt pm pv pw abeg lo lr kp kl awto awat awvl awmk cn post) ∧ zi_R rn rc rv1 rm1 awid ∧ zi_B bc1 ∧ zi_K kn1 kp1 ∧ zi_w mw1 gwai1 gwpl1 := by
  obtain ⟨u, u1, u2, hu⟩ := zl_urg (gthr := gthr) (greg := rn) (gcon := ocn) (gfld := ofn) (gtrn := ptn) (gins := pin) (glev := kv) (gkep := kn) (glvs := glvs) (gkps := gkps) (gwrd := gwrd) (gsta := gsta) (gflt := gflt) (gend := gend) (ghal := ghal) (gwro := gwro) (gwai := gwai) (gwpl := gwpl) (gwrs := gwrs) (ghlt := 0) (glat := mk) (glpl := mp) (lo := lo) (lr := lr) 8 0 rfl (by omega) (-1) kv (Or.inl ⟨rfl, rfl⟩)
  rcases hu with rfl | ⟨b, hb, rfl⟩
  · obtain ⟨p, hp, ep, ev⟩ := hR.p0
    have hcS : ∀ post, wp_Bytes_hasWord (zq_j_i2l (nI p)) (fun r_4 => (if r_4 = 0 then wp_Machine_failWith rn rc rv rm kn kv kp kl mw 0 mk mp (upd cn 0 ((cn 0) + 1)) 2 (nI p) (fun rv_43 rm_44 kn_45 kv_46 kp_47 kl_48 mw_49 mh_50 mk_51 mp_52 cn_53 => post rv_43 rm_44 bc kn_45 kv_46 kp_47 kl_48 wn wf wt wv xw xp xr xq xe xh xb mw_49 mh_50 mk_51 mp_52 cn_53) else wp_Bytes_wordOf bc (nI p) (fun r_6 => wp_Program_find ptn pin pm pv r_6 (fun r_7 => (if r_7 = (-1) then wp_Machine_failWith rn rc rv rm kn kv kp kl mw 0 mk mp (upd cn 0 ((cn 0) + 1)) 1 (nI p) (fun rv_31 rm_32 kn_33 kv_34 kp_35 kl_36 mw_37 mh_38 mk_39 mp_40 cn_41 => post rv_31 rm_32 bc kn_33 kv_34 kp_35 kl_36 wn wf wt wv xw xp xr xq xe xh xb mw_37 mh_38 mk_39 mp_40 cn_41) else wp_Registers_movePlace rn rc rv rm (nI p + 2) (fun rv_9 rm_10 => wp_Work_carryOut rn rc rv_9 rm_10 bc ocn ofn oc ofr oto osg ptn pin po pa pb pt pw pst pe kn kv kp kl wn wf wt wv xw xp xr xq xe xh xb (upd cn 0 ((cn 0) + 1)) r_7 r_6 (fun r_29 rv_12 rm_13 bc_14 kn_15 kv_16 wn_17 wf_18 wt_19 wv_20 xw_21 xp_22 xr_23 xq_24 xe_25 xh_26 xb_27 cn_28 => (if xh_26 = 0 then wp_Machine_takeStep_132 rn rc ocn ofn oc ofr oto osg ptn pin po pa pb pt pm pv pw pst pe lo lr rv_12 rm_13 bc_14 kn_15 kv_16 kp kl wn_17 wf_18 wt_19 wv_20 xw_21 xp_22 xr_23 xq_24 xe_25 xh_26 xb_27 mw 0 mk mp cn_28 (nI p) r_7 r_29 post else wp_Machine_takeStep_132 rn rc ocn ofn oc ofr oto osg ptn pin po pa pb pt pm pv pw pst pe lo lr rv_12 rm_13 bc_14 kn_15 kv_16 kp kl wn_17 wf_18 wt_19 wv_20 xw_21 xp_22 xr_23 xq_24 xe_25 xh_26 xb_27 mw 1 mk mp cn_28 (nI p) r_7 r_29 post)))))))) → wp_Machine_takeStep rn rc rv rm bc ocn ofn oc ofr oto osg ptn pin po pa pb pt pm pv pw pst pe kn kv kp kl lo lr wn wf wt wv xw xp xr xq xe xh xb mw 0 mk mp cn post := by
      intro post h
      refine ⟨9, u1 _ (zn_it rfl ?_)⟩
      unfold wp_Registers_placeNow
      rw [ep]
      exact h
    have hmS : ∀ post, wp_M_doInstruction gthr rn ocn ofn ptn pin kv kn glvs gkps gwrd gsta gflt gend ghal gwro gwai gwpl gwrs 0 mk mp awid rv abef asav rm ambf amsv bc amms oc ofr oto osg po pa pb pt pm pv pw abeg kp kl awto awat awvl awmk (upd cn 0 ((cn 0) + 1)) post → wp_M_stepOnce gthr rn ocn ofn ptn pin kv kn glvs gkps gwrd gsta gflt gend ghal gwro gwai gwpl gwrs 0 mk mp awid rv abef asav rm ambf amsv bc amms oc ofr oto osg po pa pb pt pm pv pw abeg lo lr kp kl awto awat awvl awmk cn post := by
      intro post h
      exact ⟨9, u2 _ (zn_it rfl h)⟩
    by_cases hth : zi_there 1 (zq_j_i2l (nI p))
    · have hth' := (zi_there.pl hp).mp hth
      have hin : vp_in (nI p) 4096 := vp_in_nI (by omega) (by omega)
      have hin1 : vp_in (nI p + 1) 4096 := by rw [nI_1]; exact vp_in_nI (by omega) (by omega)
      have hno : ¬ (nI p &&& 1) = 1 := by rw [zn_odd32 hp]; omega
      have hle : nI p ≤ 4094 := nI_le (b := 4094) (by omega) (by omega)
      have hwd := zn_word (bc (nI p).toNatClampNeg) (bc (nI p + 1).toNatClampNeg)
      have hI' := hI
      obtain ⟨q, t, eq, hq40, _, _, _, hins⟩ := hI'
      obtain ⟨r, fr1, fr2, hfr⟩ := zl_find (gthr := gthr) (greg := rn) (gcon := ocn) (gfld := ofn) (gtrn := ptn) (glev := kv) (gkep := kn) (glvs := glvs) (gkps := gkps) (gsta := nI p) (gflt := 0) (gend := gend) (ghal := 0) (gwro := gwro) (gwai := gwai) (gwpl := gwpl) (gwrs := gwrs) (ghlt := 0) (glat := mk) (glpl := mp) (gwrd := ((bc (nI p).toNatClampNeg &&& 255) ||| ((bc (nI p + 1).toNatClampNeg &&& 255) <<< ((8 : Int32) &&& 31)))) (ptn := ptn) (pm := pm) (pv := pv) hq40 (q - 0) 0 rfl (by omega)
      rw [← eq] at fr1 fr2
      rcases hfr with rfl | ⟨b, hb, rfl⟩
      · obtain ⟨rv3, rm3, kp3, kl3, cn3, kn3, kv3, full, hfd, f1, f2, f3, f4, hR3, hK3⟩ := zl_fail (gthr := gthr) (greg := rn) (gcon := ocn) (gfld := ofn) (gtrn := ptn) (gins := pin) (glvs := glvs) (gkps := gkps) (gwrd := ((bc (nI p).toNatClampNeg &&& 255) ||| ((bc (nI p + 1).toNatClampNeg &&& 255) <<< ((8 : Int32) &&& 31)))) (gflt := 0) (gend := gend) (ghal := 0) (gwro := gwro) (gwai := gwai) (gwpl := gwpl) (gwrs := gwrs) (glat := mk) (glpl := mp) (mw := mw) (mh := 0) (mk := mk) (mp := mp) (kv := kv) (kl := kl) (cn := upd cn 0 ((cn 0) + 1)) (p := p) (k := 1) (aval := rv) (amrk := rm) (by omega) hp hR hK ⟨rv 0, by rw [zf_updLself rfl]⟩ (Or.inl rfl)
        have goC : ∀ post, wp_Machine_failWith rn rc rv rm kn kv kp kl mw 0 mk mp (upd cn 0 ((cn 0) + 1)) 1 (nI p) (fun rv_31 rm_32 kn_33 kv_34 kp_35 kl_36 mw_37 mh_38 mk_39 mp_40 cn_41 => post rv_31 rm_32 bc kn_33 kv_34 kp_35 kl_36 wn wf wt wv xw xp xr xq xe xh xb mw_37 mh_38 mk_39 mp_40 cn_41) → wp_Machine_takeStep rn rc rv rm bc ocn ofn oc ofr oto osg ptn pin po pa pb pt pm pv pw pst pe kn kv kp kl lo lr wn wf wt wv xw xp xr xq xe xh xb mw 0 mk mp cn post := by
          intro post h
          refine hcS post ?_
          exact zc_there (w := 1) (Or.inr rfl) (fun _ => ⟨hin, hin1, _, fr1 _ (zn_it rfl h)⟩) (fun z => absurd hth z)
        have goM : ∀ post, wp_M_takeFault gthr rn ocn ofn ptn pin kv kn glvs gkps ((bc (nI p).toNatClampNeg &&& 255) ||| ((bc (nI p + 1).toNatClampNeg &&& 255) <<< ((8 : Int32) &&& 31))) (nI p) 0 gend 0 gwro gwai gwpl gwrs 0 mk mp rv rm kp kl (upd cn 0 ((cn 0) + 1)) 1 (fun glev_21 gkep_22 gwai_23 ghlt_24 glat_25 glpl_26 aval_27 amrk_28 akpl_29 aklv_30 acnt_31 => post glev_21 gkep_22 glvs gkps ((bc (nI p).toNatClampNeg &&& 255) ||| ((bc (nI p + 1).toNatClampNeg &&& 255) <<< ((8 : Int32) &&& 31))) (nI p) 0 gend 0 gwro gwai_23 gwpl gwrs ghlt_24 glat_25 glpl_26 aval_27 abef asav amrk_28 ambf amsv bc amms akpl_29 aklv_30 awto awat awvl awmk acnt_31) → wp_M_stepOnce gthr rn ocn ofn ptn pin kv kn glvs gkps gwrd gsta gflt gend ghal gwro gwai gwpl gwrs 0 mk mp awid rv abef asav rm ambf amsv bc amms oc ofr oto osg po pa pb pt pm pv pw abeg lo lr kp kl awto awat awvl awmk cn post := by
          intro post h
          refine hmS post ?_
          unfold wp_M_doInstruction
          rw [ep]
          exact zn_if hno (zn_it hle ⟨hin, hin1, _, fr2 _ (zn_it rfl h)⟩)
        rcases hfd with hf | hf
        · exact ⟨kn3, kv3, wn, xw, xp, xr, xq, xe, xh, xb, -1, 2, 1, nI p, glvs, gkps, ((bc (nI p).toNatClampNeg &&& 255) ||| ((bc (nI p + 1).toNatClampNeg &&& 255) <<< ((8 : Int32) &&& 31))), nI p, 0, gend, 0, gwro, 0, gwrs, gwpl, rv3, wv, abef, asav, awvl, rm3, bc, kp3, kl3, wf, wt, cn3, ambf, amsv, amms, awto, awat, awmk, fun post h => goC post (f1 hf _ _ h), fun post h => goM post (f3 hf _ h), hR3, hB, hK3, Or.inl ⟨rfl, rfl⟩⟩
        · exact ⟨kn3, kv3, wn, xw, xp, xr, xq, xe, xh, xb, -1, 0, 1, nI p, glvs, gkps, ((bc (nI p).toNatClampNeg &&& 255) ||| ((bc (nI p + 1).toNatClampNeg &&& 255) <<< ((8 : Int32) &&& 31))), nI p, 0, gend, 0, gwro, 0, gwrs, gwpl, rv3, wv, abef, asav, awvl, rm3, bc, kp3, kl3, wf, wt, cn3, ambf, amsv, amms, awto, awat, awmk, fun post h => goC post (f2 hf _ _ h), fun post h => goM post (f4 hf _ h), hR3, hB, hK3, Or.inl ⟨rfl, rfl⟩⟩
      · have hbN : (nI b).toNatClampNeg = b := nI_clamp (by omega)
        have hb40 : vp_in (nI b) 40 := vp_in_nI (by omega) (by omega)
        have hne : ¬ nI b = -1 := by
          intro e; have := congrArg Int32.toInt e; rw [nI_toInt (by omega)] at this
          have c0 : (-1 : Int32).toInt = -1 := by decide
          omega
        obtain ⟨st, e, h, _, _, hh, _, _, _, _, i5⟩ := hins b hb
        have hhow := (zn_how h hh).2.1
        rw [← i5] at hhow
        by_cases hz : (pw b &&& 2) = 0
        · have hz' : zf_is pw (nI b) 2 = 0 := by unfold zf_is; rw [hbN, if_pos hz]
          obtain ⟨kn1, kv1, wn1, xw1, xp1, xr1, xq1, xe1, xh1, xb1, mw1, mh1, mk1, mp1, glvs1, gkps1, gwrd1, gsta1, gflt1, gend1, ghal1, gwro1, gwai1, gwrs1, gwpl1, rv1, wv1, abef1, asav1, awvl1, rm1, bc1, kp1, kl1, wf1, wt1, cn1, ambf1, amsv1, amms1, awto1, awat1, awmk1, k1, k2, k3, k4, k5, k6⟩ := zl_124 (gthr := gthr) (glvs := glvs) (gkps := gkps) (gend := gend) (gwro := gwro) (gwai := gwai) (gwpl := gwpl) (gwrs := gwrs) (wn := wn) (xw := xw) (xp := xp) (xr := xr) (xq := xq) (xe := xe) (xh := xh) (xb := xb) (mw := mw) (mk := mk) (mp := mp) (oc := oc) (abef := abef) (asav := asav) (wv := wv) (awvl := awvl) (ambf := ambf) (amsv := amsv) (amms := amms) (osg := osg) (pm := pm) (pv := pv) (lo := lo) (lr := lr) (kl := kl) (kv := kv) (cn := upd cn 0 ((cn 0) + 1)) (wf := wf) (wt := wt) (awto := awto) (awat := awat) (awmk := awmk) hc erc hF hI hT ⟨q, eq, hq40, hb⟩ rfl (p := p) (by omega) hwd.1 hwd.2 hR hB hK hw (fun z => absurd hz' z)
          refine ⟨kn1, kv1, wn1, xw1, xp1, xr1, xq1, xe1, xh1, xb1, mw1, mh1, mk1, mp1, glvs1, gkps1, gwrd1, gsta1, gflt1, gend1, ghal1, gwro1, gwai1, gwrs1, gwpl1, rv1, wv1, abef1, asav1, awvl1, rm1, bc1, kp1, kl1, wf1, wt1, cn1, ambf1, amsv1, amms1, awto1, awat1, awmk1, ?_, ?_, k3, k4, k5, k6⟩
          · intro post h
            refine hcS post ?_
            exact zc_there (w := 1) (Or.inr rfl) (fun _ => ⟨hin, hin1, _, fr1 _ (zn_if hne (k1 post h))⟩) (fun z => absurd hth z)
          · intro post h
            refine hmS post ?_
            unfold wp_M_doInstruction
            rw [ep]
            refine zn_if hno (zn_it hle ⟨hin, hin1, _, fr2 _ (zn_if hne ⟨hb40, zn_it (by rw [hbN]; exact hhow.mpr hz) (zn_it rfl ?_)⟩)⟩)
            have g := k2 post h
            rw [hz'] at g
            exact g
        · have hz' : zf_is pw (nI b) 2 = 1 := by unfold zf_is; rw [hbN, if_neg hz]
          obtain ⟨c1, cz, cb⟩ := hR.zero hc erc
          obtain ⟨asav2, amsv2, amms2, s1, s2, s3⟩ := zl_save2 (gthr := gthr) (greg := rn) (gcon := ocn) (gfld := ofn) (gtrn := ptn) (gins := pin) (glev := kv) (gkep := kn) (glvs := glvs) (gkps := gkps) (gwrd := ((bc (nI p).toNatClampNeg &&& 255) ||| ((bc (nI p + 1).toNatClampNeg &&& 255) <<< ((8 : Int32) &&& 31)))) (gsta := nI p) (gflt := 0) (gend := gend) (ghal := 0) (gwro := gwro) (gwai := gwai) (gwpl := gwpl) (gwrs := gwrs) (ghlt := 0) (glat := mk) (glpl := mp) (aval := rv) (amms := amms) hc erc cb hB (c - 0) 0 rfl (by omega) asav amsv (fun k hk => absurd hk (by omega))
          obtain ⟨kn1, kv1, wn1, xw1, xp1, xr1, xq1, xe1, xh1, xb1, mw1, mh1, mk1, mp1, glvs1, gkps1, gwrd1, gsta1, gflt1, gend1, ghal1, gwro1, gwai1, gwrs1, gwpl1, rv1, wv1, abef1, asav1, awvl1, rm1, bc1, kp1, kl1, wf1, wt1, cn1, ambf1, amsv1, amms1, awto1, awat1, awmk1, k1, k2, k3, k4, k5, k6⟩ := zl_124 (gthr := gthr) (glvs := kv) (gkps := kn) (gend := gend) (gwro := gwro) (gwai := gwai) (gwpl := gwpl) (gwrs := gwrs) (wn := wn) (xw := xw) (xp := xp) (xr := xr) (xq := xq) (xe := xe) (xh := xh) (xb := xb) (mw := mw) (mk := mk) (mp := mp) (oc := oc) (abef := abef) (asav := asav2) (wv := wv) (awvl := awvl) (ambf := ambf) (amsv := amsv2) (amms := amms2) (osg := osg) (pm := pm) (pv := pv) (lo := lo) (lr := lr) (kl := kl) (kv := kv) (cn := upd cn 0 ((cn 0) + 1)) (wf := wf) (wt := wt) (awto := awto) (awat := awat) (awmk := awmk) hc erc hF hI hT ⟨q, eq, hq40, hb⟩ rfl (p := p) (by omega) hwd.1 hwd.2 hR hB hK hw (fun _ => ⟨rfl, rfl, s2, s3⟩)
          refine ⟨kn1, kv1, wn1, xw1, xp1, xr1, xq1, xe1, xh1, xb1, mw1, mh1, mk1, mp1, glvs1, gkps1, gwrd1, gsta1, gflt1, gend1, ghal1, gwro1, gwai1, gwrs1, gwpl1, rv1, wv1, abef1, asav1, awvl1, rm1, bc1, kp1, kl1, wf1, wt1, cn1, ambf1, amsv1, amms1, awto1, awat1, awmk1, ?_, ?_, k3, k4, k5, k6⟩
          · intro post h
            refine hcS post ?_
            exact zc_there (w := 1) (Or.inr rfl) (fun _ => ⟨hin, hin1, _, fr1 _ (zn_if hne (k1 post h))⟩) (fun z => absurd hth z)
          · intro post h
            refine hmS post ?_
            unfold wp_M_doInstruction
            rw [ep]
            refine zn_if hno (zn_it hle ⟨hin, hin1, _, fr2 _ (zn_if hne ⟨hb40, zn_if (by rw [hbN]; exact fun z => hz (hhow.mp z)) (zn_if (by decide) ⟨_, s1 _ ?_⟩)⟩)⟩)
            have g := k2 post h
            rw [hz'] at g
            exact g
    · have hth' : ¬ (p < 4096 ∧ p % 2 = 0) := fun z => hth ((zi_there.pl hp).mpr z)
      obtain ⟨rv3, rm3, kp3, kl3, cn3, kn3, kv3, full, hfd, f1, f2, f3, f4, hR3, hK3⟩ := zl_fail (gthr := gthr) (greg := rn) (gcon := ocn) (gfld := ofn) (gtrn := ptn) (gins := pin) (glvs := glvs) (gkps := gkps) (gwrd := gwrd) (gflt := 0) (gend := gend) (ghal := 0) (gwro := gwro) (gwai := gwai) (gwpl := gwpl) (gwrs := gwrs) (glat := mk) (glpl := mp) (mw := mw) (mh := 0) (mk := mk) (mp := mp) (kv := kv) (kl := kl) (cn := upd cn 0 ((cn 0) + 1)) (p := p) (k := 2) (aval := rv) (amrk := rm) (by omega) hp hR hK ⟨rv 0, by rw [zf_updLself rfl]⟩ (Or.inl rfl)
      have goC : ∀ post, wp_Machine_failWith rn rc rv rm kn kv kp kl mw 0 mk mp (upd cn 0 ((cn 0) + 1)) 2 (nI p) (fun rv_31 rm_32 kn_33 kv_34 kp_35 kl_36 mw_37 mh_38 mk_39 mp_40 cn_41 => post rv_31 rm_32 bc kn_33 kv_34 kp_35 kl_36 wn wf wt wv xw xp xr xq xe xh xb mw_37 mh_38 mk_39 mp_40 cn_41) → wp_Machine_takeStep rn rc rv rm bc ocn ofn oc ofr oto osg ptn pin po pa pb pt pm pv pw pst pe kn kv kp kl lo lr wn wf wt wv xw xp xr xq xe xh xb mw 0 mk mp cn post := by
        intro post h
        refine hcS post ?_
        exact zc_there (w := 1) (Or.inr rfl) (fun z => absurd z hth) (fun _ => h)
      have goM : ∀ post, wp_M_takeFault gthr rn ocn ofn ptn pin kv kn glvs gkps gwrd (nI p) 0 gend 0 gwro gwai gwpl gwrs 0 mk mp rv rm kp kl (upd cn 0 ((cn 0) + 1)) 2 (fun glev_21 gkep_22 gwai_23 ghlt_24 glat_25 glpl_26 aval_27 amrk_28 akpl_29 aklv_30 acnt_31 => post glev_21 gkep_22 glvs gkps gwrd (nI p) 0 gend 0 gwro gwai_23 gwpl gwrs ghlt_24 glat_25 glpl_26 aval_27 abef asav amrk_28 ambf amsv bc amms akpl_29 aklv_30 awto awat awvl awmk acnt_31) → wp_M_stepOnce gthr rn ocn ofn ptn pin kv kn glvs gkps gwrd gsta gflt gend ghal gwro gwai gwpl gwrs 0 mk mp awid rv abef asav rm ambf amsv bc amms oc ofr oto osg po pa pb pt pm pv pw abeg lo lr kp kl awto awat awvl awmk cn post := by
        intro post h
        refine hmS post ?_
        unfold wp_M_doInstruction
        rw [ep]
        by_cases ho : (nI p &&& 1) = 1
        · exact zn_it ho h
        · refine zn_if ho (zn_if ?_ h)
          rw [zn_odd32 hp] at ho
          exact nI_ge (b := p) (a := 4094) (by omega) (by omega)
      rcases hfd with hf | hf
      · exact ⟨kn3, kv3, wn, xw, xp, xr, xq, xe, xh, xb, -1, 2, 2, nI p, glvs, gkps, gwrd, nI p, 0, gend, 0, gwro, 0, gwrs, gwpl, rv3, wv, abef, asav, awvl, rm3, bc, kp3, kl3, wf, wt, cn3, ambf, amsv, amms, awto, awat, awmk, fun post h => goC post (f1 hf _ _ h), fun post h => goM post (f3 hf _ h), hR3, hB, hK3, Or.inl ⟨rfl, rfl⟩⟩
      · exact ⟨kn3, kv3, wn, xw, xp, xr, xq, xe, xh, xb, -1, 0, 2, nI p, glvs, gkps, gwrd, nI p, 0, gend, 0, gwro, 0, gwrs, gwpl, rv3, wv, abef, asav, awvl, rm3, bc, kp3, kl3, wf, wt, cn3, ambf, amsv, amms, awto, awat, awmk, fun post h => goC post (f2 hf _ _ h), fun post h => goM post (f4 hf _ h), hR3, hB, hK3, Or.inl ⟨rfl, rfl⟩⟩
  · have hne : ¬ nI b = -1 := by
      intro e; have := congrArg Int32.toInt e; rw [nI_toInt (by omega)] at this
      have c0 : (-1 : Int32).toInt = -1 := by decide
      omega
    obtain ⟨rv3, rm3, kp3, kl3, cn3, kn3, kv3, mh3, f1, f2, hR3, hK3⟩ := zl_intr (gthr := gthr) (greg := rn) (gcon := ocn) (gfld := ofn) (gtrn := ptn) (gins := pin) (glvs := glvs) (gkps := gkps) (gwrd := gwrd) (gsta := gsta) (gflt := gflt) (gend := gend) (ghal := ghal) (gwro := gwro) (gwai := 0) (gwpl := gwpl) (gwrs := gwrs) (glat := mk) (glpl := mp) (mw := mw) (mh := 0) (mk := mk) (mp := mp) (kv := kv) (kl := kl) (lr := lr) (cn := upd cn 0 ((cn 0) + 1)) hb hR hK
    refine ⟨kn3, kv3, wn, xw, xp, xr, xq, xe, xh, xb, -1, mh3, mk, mp, glvs, gkps, gwrd, gsta, gflt, gend, ghal, gwro, 0, gwrs, gwpl, rv3, wv, abef, asav, awvl, rm3, bc, kp3, kl3, wf, wt, cn3, ambf, amsv, amms, awto, awat, awmk, ?_, ?_, hR3, hB, hK3, Or.inl ⟨rfl, rfl⟩⟩
    · intro post h
      exact ⟨9, u1 _ (zn_if hne (f1 _ h))⟩
    · intro post h
      refine ⟨9, u2 _ (zn_if hne ⟨vp_in_nI hb (by omega), ?_⟩)⟩
      rcases f2 with ⟨rfl, g⟩ | ⟨rfl, g⟩
      · exact g _ (zn_it rfl h)
      · exact g _ (zn_if (by decide) h)
