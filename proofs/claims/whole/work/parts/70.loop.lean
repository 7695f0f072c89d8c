def zi_T (rn ocn ofn : Int32) (po pa pb pt : Nat → Int32) (e : Nat) : Prop := ∀ t, t < e → 0 ≤ (po t).toInt ∧ (po t).toInt ≤ 22 ∧ zi_op rn ocn ofn (pa t) ∧ zi_op rn ocn ofn (pb t) ∧ zi_t rn (pt t)
set_option maxHeartbeats 2000000 in
set_option maxRecDepth 20000 in
theorem zl_loop {gthr greg gcon gfld gtrn gins glvs gkps gsta gwai ghlt glat glpl : Int32} {gwpl : Int64} {rn ocn ofn ptn pin w xp xr i : Int32} {rc oc abef : Nat → Int64} {awid ambf ofr oto osg po pa pb pt pw pst pe abeg kp kl : Nat → Int32} {s0 : ((Nat → Int64) × (Nat → Int32) × (Nat → Int32))} {e : Nat} (he : e ≤ 200) (hi : vp_in i 40) (hi1 : vp_in (i + 1) 41) (hpe : pe i.toNatClampNeg = nI e) (hab : abeg (i + 1).toNatClampNeg = nI e) (hpar : zi_par pw i xp) (hbef : xp = 1 → ∀ t, zi_t rn t → abef t.toNatClampNeg = s0.1 t.toNatClampNeg ∧ ambf t.toNatClampNeg = s0.2.1 t.toNatClampNeg) (hF : zi_F ofn ofr oto) (hT : zi_T rn ocn ofn po pa pb pt e) (hw0 : 0 ≤ w.toInt) (hw1 : w.toInt < 65536) : ∀ (d j : Nat), e - j = d → j ≤ e → ∀ (k kn kv xe xh : Int32) (rv : Nat → Int64) (rm : Nat → Int32) (bc : Nat → Int32) (wn : Int32) (wf : Nat → Int32) (wt : Nat → Int32) (wv : Nat → Int64) (xq : Int32) (xb : Int32) (gwro : Int32) (gwrs : Int32) (aval : Nat → Int64) (amrk : Nat → Int32) (awto : Nat → Int32) (awat : Nat → Int32) (awvl : Nat → Int64) (awmk : Nat → Int32) (cn : Nat → Int32) (n : Nat), n ≤ j → zJ xp xr rn rc awid s0 n rv rm bc wn wf wt wv xq xb gwro gwrs aval amrk awto awat awvl awmk → (0 ≤ k.toInt ∧ k.toInt ≤ 15) → zi_K kn kp → (xb = -1 ∨ kn.toInt ≤ 7) → ∃ (k1 kn1 kv1 xe1 xh1 : Int32) (rv1 : Nat → Int64) (rm1 : Nat → Int32) (bc1 : Nat → Int32) (wn1 : Int32) (wf1 : Nat → Int32) (wt1 : Nat → Int32) (wv1 : Nat → Int64) (xq1 : Int32) (xb1 : Int32) (gwro1 : Int32) (gwrs1 : Int32) (aval1 : Nat → Int64) (amrk1 : Nat → Int32) (awto1 : Nat → Int32) (awat1 : Nat → Int32) (awvl1 : Nat → Int64) (awmk1 : Nat → Int32) (cn1 : Nat → Int32) (n1 : Nat), (∀ y3 y4 post, wp_Work_carryOut_88 rn rc ocn ofn oc ofr oto osg ptn pin po pa pb pt pw pst pe kp kl rv1 rm1 bc1 kn1 kv1 wn1 wf1 wt1 wv1 w xp xr xq1 xe1 xh1 xb1 cn1 y3 y4 k1 post → wp_Work_carryOut_37 rn rc ocn ofn oc ofr oto osg ptn pin po pa pb pt pw pst pe kp kl post (d + 1) rv rm bc kn kv wn wf wt wv w xp xr xq xe xh xb cn i y3 y4 k (nI j)) ∧ (∀ post, wp_M_doAll_105 gthr greg gcon gfld gtrn gins glvs gkps w gsta gwai gwpl ghlt glat glpl awid oc ofr oto osg po pa pb pt pw abeg kp kl kv1 kn1 k1 xe1 xh1 gwro1 gwrs1 aval1 abef amrk1 ambf bc1 awto1 awat1 awvl1 awmk1 cn1 post → wp_M_doAll_67 gthr greg gcon gfld gtrn gins glvs gkps w gsta gwai gwpl ghlt glat glpl awid oc ofr oto osg po pa pb pt pw abeg kp kl post (d + 1) kv kn k xe xh gwro gwrs aval abef amrk ambf bc awto awat awvl awmk cn i (nI j)) ∧ n1 ≤ 200 ∧ zJ xp xr rn rc awid s0 n1 rv1 rm1 bc1 wn1 wf1 wt1 wv1 xq1 xb1 gwro1 gwrs1 aval1 amrk1 awto1 awat1 awvl1 awmk1 ∧ (0 ≤ k1.toInt ∧ k1.toInt ≤ 15) ∧ zi_K kn1 kp ∧ (xb1 = -1 ∨ kn1.toInt ≤ 7) := by
  intro d
  induction d with
  | zero =>
    intro j hd hj k kn kv xe xh rv rm bc wn wf wt wv xq xb gwro gwrs aval amrk awto awat awvl awmk cn n hn hJ hk hK hx
    have ej : j = e := by omega
    subst ej
    have hle : nI j ≤ nI j := nI_le (Nat.le_refl _) (by omega)
    refine ⟨k, kn, kv, xe, xh, rv, rm, bc, wn, wf, wt, wv, xq, xb, gwro, gwrs, aval, amrk, awto, awat, awvl, awmk, cn, n, ?_, ?_, by omega, hJ, hk, hK, hx⟩
    · intro y3 y4 post h
      unfold wp_Work_carryOut_37
      exact ⟨hi, zn_it (by rw [hpe]; exact hle) h⟩
    · intro post h
      unfold wp_M_doAll_67
      exact ⟨hi1, zn_it (by rw [hab]; exact hle) h⟩
  | succ d ih =>
    intro j hd hj k kn kv xe xh rv rm bc wn wf wt wv xq xb gwro gwrs aval amrk awto awat awvl awmk cn n hn hJ hk hK hx
    have hlt : ¬ nI e ≤ nI j := nI_ge (by omega) (by omega)
    by_cases hk0 : k = 0
    · by_cases hxe : xe = 0
      · have hin : vp_in (nI j) 200 := vp_in_nI (by omega) (by omega)
        have eN : (nI j).toNatClampNeg = j := nI_clamp (by omega)
        have hTj := hT j (by omega)
        rw [← eN] at hTj
        obtain ⟨o0, o1, oa, ob, ot⟩ := hTj
        obtain ⟨k1, kn1, kv1, xe1, xh1, rv1, rm1, bc1, wn1, wf1, wt1, wv1, xq1, xb1, gwro1, gwrs1, aval1, amrk1, awto1, awat1, awvl1, awmk1, cn1, hc, hm, hk1, hK1, hx1, hkn, hJ1⟩ := zw_do (gthr := gthr) (greg := greg) (gcon := gcon) (gfld := gfld) (gtrn := gtrn) (gins := gins) (glvs := glvs) (gkps := gkps) (gsta := gsta) (gwai := gwai) (gwpl := gwpl) (ghlt := ghlt) (glat := glat) (glpl := glpl) (oc := oc) (osg := osg) (ptn := ptn) (pin := pin) (kv := kv) (xe := xe) (xh := xh) (kl := kl) (cn := cn) hpar hJ (by omega) hbef hF hw0 hw1 hK hin o0 o1 oa ob ot
        have hx2 : xb1 = -1 ∨ kn1.toInt ≤ 7 := by
          rcases hx1 with q | q
          · rcases hx with q' | q'
            · exact Or.inl (q.trans q')
            · exact Or.inr (by omega)
          · exact Or.inr q
        obtain ⟨k2, kn2, kv2, xe2, xh2, rv2, rm2, bc2, wn2, wf2, wt2, wv2, xq2, xb2, gwro2, gwrs2, aval2, amrk2, awto2, awat2, awvl2, awmk2, cn2, n2, hc2, hm2, hn2, hJ2, hk2, hK2, hx3⟩ := ih (j + 1) (by omega) (by omega) k1 kn1 kv1 xe1 xh1 rv1 rm1 bc1 wn1 wf1 wt1 wv1 xq1 xb1 gwro1 gwrs1 aval1 amrk1 awto1 awat1 awvl1 awmk1 cn1 (n + 1) (by omega) hJ1 hk1 hK1 hx2
        refine ⟨k2, kn2, kv2, xe2, xh2, rv2, rm2, bc2, wn2, wf2, wt2, wv2, xq2, xb2, gwro2, gwrs2, aval2, amrk2, awto2, awat2, awvl2, awmk2, cn2, n2, ?_, ?_, hn2, hJ2, hk2, hK2, hx3⟩
        · intro y3 y4 post h
          unfold wp_Work_carryOut_37
          refine ⟨hi, zn_if (by rw [hpe]; exact hlt) (zn_it hk0 (zn_it hxe (hc _ ?_)))⟩
          have g := hc2 y3 y4 post h
          rw [nI_1]
          exact g
        · intro post h
          unfold wp_M_doAll_67
          subst hk0
          refine ⟨hi1, zn_if (by rw [hab]; exact hlt) (zn_it rfl (zn_it hxe (hm _ ?_)))⟩
          have g := hm2 post h
          rw [nI_1]
          exact g
      · refine ⟨k, kn, kv, xe, xh, rv, rm, bc, wn, wf, wt, wv, xq, xb, gwro, gwrs, aval, amrk, awto, awat, awvl, awmk, cn, n, ?_, ?_, by omega, hJ, hk, hK, hx⟩
        · intro y3 y4 post h
          unfold wp_Work_carryOut_37
          exact ⟨hi, zn_if (by rw [hpe]; exact hlt) (zn_it hk0 (zn_if hxe h))⟩
        · intro post h
          unfold wp_M_doAll_67
          exact ⟨hi1, zn_if (by rw [hab]; exact hlt) (zn_it hk0 (zn_if hxe h))⟩
    · refine ⟨k, kn, kv, xe, xh, rv, rm, bc, wn, wf, wt, wv, xq, xb, gwro, gwrs, aval, amrk, awto, awat, awvl, awmk, cn, n, ?_, ?_, by omega, hJ, hk, hK, hx⟩
      · intro y3 y4 post h
        unfold wp_Work_carryOut_37
        exact ⟨hi, zn_if (by rw [hpe]; exact hlt) (zn_if hk0 h)⟩
      · intro post h
        unfold wp_M_doAll_67
        exact ⟨hi1, zn_if (by rw [hab]; exact hlt) (zn_if hk0 h)⟩
set_option maxRecDepth 20000 in
theorem zl_copy {gthr greg gcon gfld gtrn gins glvs gkps gwrd gsta gwai ghlt glat glpl : Int32} {gwpl : Int64} {glev gkep gflt gend ghal i : Int32} {oc : Nat → Int64} {awid ofr oto osg po pa pb pt pw abeg kp kl amem acnt : Nat → Int32} {gwro : Int32} {gwrs : Int32} {aval : Nat → Int64} {amrk : Nat → Int32} {awto : Nat → Int32} {awat : Nat → Int32} {awvl : Nat → Int64} {awmk : Nat → Int32} {c : Nat} (hc : c ≤ 24) (hr : greg = nI c) (hm : ∀ k, k < c → zq_bz (amrk k)) : ∀ (d j : Nat), c - j = d → j ≤ c → ∀ (abef : Nat → Int64) (ambf : Nat → Int32), (∀ k, k < j → abef k = aval k ∧ ambf k = amrk k) → ∃ (abef1 : Nat → Int64) (ambf1 : Nat → Int32), (∀ post, (vp_in i 41 ∧ ∃ n, wp_M_doAll_67 gthr greg gcon gfld gtrn gins glvs gkps gwrd gsta gwai gwpl ghlt glat glpl awid oc ofr oto osg po pa pb pt pw abeg kp kl post n glev gkep gflt gend ghal gwro gwrs aval abef1 amrk ambf1 amem awto awat awvl awmk acnt i (abeg i.toNatClampNeg)) → wp_M_doAll_22 gthr greg gcon gfld gtrn gins glvs gkps gwrd gsta gwai gwpl ghlt glat glpl awid oc ofr oto osg po pa pb pt pw abeg kp kl post (d + 1) glev gkep gflt gend ghal gwro gwrs aval abef amrk ambf amem awto awat awvl awmk acnt i (nI j)) ∧ (∀ k, k < c → abef1 k = aval k ∧ ambf1 k = amrk k) := by
  intro d
  induction d with
  | zero =>
    intro j hd hj abef ambf hb
    have ej : j = c := by omega
    subst ej
    refine ⟨abef, ambf, ?_, hb⟩
    intro post h
    unfold wp_M_doAll_22
    exact zn_it (by rw [hr]; exact nI_le (Nat.le_refl _) (by omega)) h
  | succ d ih =>
    intro j hd hj abef ambf hb
    obtain ⟨abef1, ambf1, h1, h2⟩ := ih (j + 1) (by omega) (by omega) (vp_updL abef j (aval j)) (upd ambf j (vp_nar .boolean (amrk j))) (by
      intro k hk
      by_cases e : k = j
      · subst e; rw [zf_updLs, zf_upds, zn_bool (hm k (by omega))]; exact ⟨rfl, rfl⟩
      · rw [zf_updLb' e, zf_updb' e]; exact hb k (by omega))
    refine ⟨abef1, ambf1, ?_, h2⟩
    intro post h
    have g := h1 post h
    unfold wp_M_doAll_22
    have hin : vp_in (nI j) 24 := vp_in_nI (by omega) (by omega)
    refine zn_if (by rw [hr]; exact nI_ge (by omega) (by omega)) ⟨hin, hin, hin, hin, ?_⟩
    rw [nI_clamp (by omega), nI_1]
    exact g
set_option maxRecDepth 20000 in
theorem zE.step {gthr greg gcon gfld gtrn gins glev gkep glvs gkps gwrd gsta gflt gend ghal gwai gwrs ghlt glat glpl : Int32} {gwpl : Int64} {rn : Int32} {rc : Nat → Int64} {f t : Int32} {v : Int64} {to at' : Int32} {vl : Int64} {mk gwro : Int32} {rv : Nat → Int64} {rm bc awid : Nat → Int32} (hE : zE rn rc f t v to at' vl mk) (hR : zi_R rn rc rv rm awid) (hB : zi_B bc) (hg : zq_bz gwro) {y : Int32} (hy : vp_in y 200) {P : Int32 → (Nat → Int64) → (Nat → Int32) → (Nat → Int32) → Prop} (hp : P (zf_xq f t gwro) (zf_perf rc f t v (rv, rm, bc)).1 (zf_perf rc f t v (rv, rm, bc)).2.1 (zf_perf rc f t v (rv, rm, bc)).2.2) : if 24 ≤ to then (if 26 ≤ to then vp_in (to - 26) 24 ∧ P gwro rv (upd rm (to - 26).toNatClampNeg (vp_nar .boolean 1)) bc else vp_in y 200 ∧ vp_in y 200 ∧ wp_M_setMemory gthr greg gcon gfld gtrn gins glev gkep glvs gkps gwrd gsta gflt gend ghal gwro gwai gwpl gwrs ghlt glat glpl bc at' vl (to - 23) (fun amem_8 => P gwro rv rm amem_8)) else vp_in y 200 ∧ vp_in y 200 ∧ wp_M_setRegister gthr greg gcon gfld gtrn gins glev gkep glvs gkps gwrd gsta gflt gend ghal gwro gwai gwpl gwrs ghlt glat glpl rv rm to vl mk (fun gwro_12 aval_13 amrk_14 => P gwro_12 aval_13 amrk_14 bc) := by
  rcases hE with ⟨hf, ht, rfl, rfl, rfl⟩ | ⟨rfl, ht, rfl⟩ | ⟨rfl, h1, rfl, rfl, rfl⟩ | ⟨rfl, h1, h2, rfl, rfl, rfl⟩
  · have hlt : ¬ 24 ≤ to := by
      obtain ⟨c, k, rfl, hc, rfl, hk⟩ := ht
      exact nI_ge (b := 24) (by omega) (by omega)
    refine zn_if hlt ⟨hy, hy, zm_set ht.in hg ?_⟩
    rw [zf_perf_b hf, zf_xqb hf] at hp
    exact hp
  · obtain ⟨c, k, e, hc, rfl, hk⟩ := id ht
    have e26 : (26 : Int32) + nI k = nI (26 + k) := nI_add 26 k
    have e27 : (26 : Int32) + nI k - 26 = nI k := by
      have : ∀ k : Nat, k < 24 → (26 : Int32) + nI k - 26 = nI k := by decide +kernel
      exact this k (by omega)
    refine zn_it (by rw [e26]; exact nI_le (a := 24) (by omega) (by omega)) (zn_it (by rw [e26]; exact nI_le (a := 26) (by omega) (by omega)) ?_)
    rw [e27]
    refine ⟨ht.in, ?_⟩
    rw [zf_perf_2, zf_xq2 (by decide) (by decide)] at hp
    dsimp only at hp
    rw [zf_updLself (hR.vt ht).1] at hp
    exact hp
  · refine zn_it (by decide) (zn_if (by decide) ⟨hy, hy, zm_setm (w := 0) (rc := rc) (rv := rv) (rm := rm) (Or.inl rfl) h1 (fun q => absurd q (by decide)) ?_⟩)
    rw [zf_xq2 (by decide) (by decide)] at hp
    exact hp
  · refine zn_it (by decide) (zn_if (by decide) ⟨hy, hy, zm_setm (w := 1) (rc := rc) (rv := rv) (rm := rm) (Or.inr rfl) h1 (fun _ => h2) ?_⟩)
    rw [zf_xq2 (by decide) (by decide)] at hp
    exact hp
set_option maxRecDepth 20000 in
theorem zE.tt {rn : Int32} {rc : Nat → Int64} {f t : Int32} {v : Int64} {to at' : Int32} {vl : Int64} {mk : Int32} (hE : zE rn rc f t v to at' vl mk) : ¬ f = 3 → ¬ f = 4 → zi_t rn t := by
  intro h3 h4
  rcases hE with ⟨hf, ht, _⟩ | ⟨_, ht, _⟩ | ⟨q, _⟩ | ⟨q, _⟩
  · exact ht
  · exact ht
  · exact absurd q h3
  · exact absurd q h4
set_option maxRecDepth 20000 in
theorem zf_wroz {wf wt : Nat → Int32} {x : Int32} (hx : zq_bz x) : ∀ n, zq_bz (zf_wro wf wt x n) := by
  intro n
  induction n with
  | zero => exact hx
  | succ n ih => exact zf_xqz ih
set_option maxRecDepth 20000 in
theorem zl_all {gthr greg gcon gfld gtrn gins glev gkep glvs gkps gwrd gsta gflt gend ghal gwai ghlt glat glpl : Int32} {gwpl : Int64} {rn : Int32} {rc wv awvl : Nat → Int64} {awid wf wt awto awat awmk : Nat → Int32} {g0 : Int32} {m : Nat} (hm : m ≤ 200) (hg : zq_bz g0) (hE : ∀ k, k < m → zE rn rc (wf k) (wt k) (wv k) (awto k) (awat k) (awvl k) (awmk k)) : ∀ (d j : Nat), m - j = d → j ≤ m → ∀ (rv : Nat → Int64) (rm bc : Nat → Int32), zi_R rn rc rv rm awid → zi_B bc → ∃ (rv1 : Nat → Int64) (rm1 bc1 : Nat → Int32), (∀ post, post rv1 rm1 bc1 → wp_Writes_performInOrder_2 rn rc (nI m) wf wt wv post (d + 1) rv rm bc (nI j)) ∧ (∀ post, post (zf_wro wf wt g0 m) rv1 rm1 bc1 → wp_M_writeAll_2 gthr greg gcon gfld gtrn gins glev gkep glvs gkps gwrd gsta gflt gend ghal gwai gwpl (nI m) ghlt glat glpl awto awat awvl awmk post (d + 1) (zf_wro wf wt g0 j) rv rm bc (nI j)) ∧ zi_R rn rc rv1 rm1 awid ∧ zi_B bc1 := by
  intro d
  induction d with
  | zero =>
    intro j hd hj rv rm bc hR hB
    have ej : j = m := by omega
    subst ej
    refine ⟨rv, rm, bc, ?_, ?_, hR, hB⟩
    · intro post h
      unfold wp_Writes_performInOrder_2
      exact zn_it (nI_le (Nat.le_refl _) (by omega)) h
    · intro post h
      unfold wp_M_writeAll_2
      exact zn_it (nI_le (Nat.le_refl _) (by omega)) h
  | succ d ih =>
    intro j hd hj rv rm bc hR hB
    have hEj := hE j (by omega)
    have hP := hR.perf (v := wv j) hB hEj.ok hEj.tt
    obtain ⟨rv1, rm1, bc1, h1, h2, h3, h4⟩ := ih (j + 1) (by omega) (by omega) _ _ _ hP.1 hP.2
    have hin : vp_in (nI j) 200 := vp_in_nI (by omega) (by omega)
    have hlt : ¬ nI m ≤ nI j := nI_ge (by omega) (by omega)
    refine ⟨rv1, rm1, bc1, ?_, ?_, h3, h4⟩
    · intro post h
      have g := h1 post h
      unfold wp_Writes_performInOrder_2
      refine zn_if hlt ⟨hin, hin, hin, ?_⟩
      rw [nI_clamp (by omega), nI_1]
      exact zc_perform (s := (rv, rm, bc)) hEj.ok g
    · intro post h
      have g := h2 post h
      unfold wp_M_writeAll_2
      refine zn_if hlt ⟨hin, ?_⟩
      rw [nI_clamp (by omega), nI_1]
      exact hEj.step (P := fun a b c d' => wp_M_writeAll_2 gthr greg gcon gfld gtrn gins glev gkep glvs gkps gwrd gsta gflt gend ghal gwai gwpl (nI m) ghlt glat glpl awto awat awvl awmk post (d + 1) a b c d' (nI (j + 1))) hR hB (zf_wroz hg j) hin g
