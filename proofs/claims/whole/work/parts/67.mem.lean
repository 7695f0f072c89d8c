set_option maxRecDepth 20000 in
theorem zm_setm {gthr greg gcon gfld gtrn gins glev gkep glvs gkps gwrd gsta gflt gend ghal gwro gwai gwrs ghlt glat glpl : Int32} {gwpl : Int64} {w t : Int32} {v : Int64} {rc rv : Nat → Int64} {rm bc : Nat → Int32} {post : (Nat → Int32) → Prop} (hw : zq_bz w) (h : vp_in t 4096) (h1 : w = 1 → vp_in (t + 1) 4096) (hp : post (zf_perf rc (3 + w) t v (rv, rm, bc)).2.2) : wp_M_setMemory gthr greg gcon gfld gtrn gins glev gkep glvs gkps gwrd gsta gflt gend ghal gwro gwai gwpl gwrs ghlt glat glpl bc t v (w + 1) post := by
  rcases hw with rfl | rfl
  · rw [show (3 + 0 : Int32) = 3 by decide, zf_perf_3] at hp
    exact ⟨h, zn_if (by decide) hp⟩
  · rw [show (3 + 1 : Int32) = 4 by decide, zf_perf_4] at hp
    refine ⟨h, zn_it (by decide) ⟨h1 rfl, ?_⟩⟩
    dsimp only at hp
    rw [zn_hi8] at hp
    exact hp
set_option maxRecDepth 20000 in
theorem zw_store {gthr greg gcon gfld gtrn gins glev gkep glvs gkps gwrd gsta gend ghal gwai ghlt glat glpl : Int32} {gwpl : Int64} {xp xr xw xe xh rn : Int32} {rc : Nat → Int64} {awid : Nat → Int32} {s0 : ((Nat → Int64) × (Nat → Int32) × (Nat → Int32))} {n : Nat} {rv : Nat → Int64} {rm : Nat → Int32} {bc : Nat → Int32} {wn : Int32} {wf : Nat → Int32} {wt : Nat → Int32} {wv : Nat → Int64} {xq : Int32} {xb : Int32} {gwro : Int32} {gwrs : Int32} {aval : Nat → Int64} {amrk : Nat → Int32} {awto : Nat → Int32} {awat : Nat → Int32} {awvl : Nat → Int64} {awmk : Nat → Int32} {ahow : Nat → Int32} {cn : Nat → Int32} {i w : Int32} {a b : Int64} (hpar : zi_par ahow i xp) (hJ : zJ xp xr rn rc awid s0 n rv rm bc wn wf wt wv xq xb gwro gwrs aval amrk awto awat awvl awmk) (hn : n < 200) (hw : zq_bz w) : ∃ (k : Int32) (bc1 : Nat → Int32) (wn1 : Int32) (wf1 : Nat → Int32) (wt1 : Nat → Int32) (wv1 : Nat → Int64) (xq1 : Int32) (cn1 : Nat → Int32) (gwrs1 : Int32) (awto1 : Nat → Int32) (awat1 : Nat → Int32) (awvl1 : Nat → Int64) (awmk1 : Nat → Int32), (∀ post, post k rv rm bc1 wn1 wf1 wt1 wv1 xq1 cn1 → wp_Work_store rn rc rv rm bc wn wf wt wv xw xp xr xq xe xh xb cn w a b post) ∧ (∀ post, post k gwrs1 bc1 awto1 awat1 awvl1 awmk1 cn1 → wp_M_store gthr greg gcon gfld gtrn gins glev gkep glvs gkps gwrd gsta 0 gend ghal gwro gwai gwpl gwrs ghlt glat glpl bc ahow awto awat awvl awmk cn i a b (w + 1) post) ∧ (k = 0 ∨ k = 3) ∧ zJ xp xr rn rc awid s0 (n + 1) rv rm bc1 wn1 wf1 wt1 wv1 xq1 xb gwro gwrs1 aval amrk awto1 awat1 awvl1 awmk1 := by
  by_cases hth : zi_there w a
  · have hin := hth.in
    have hok : zf_ok (3 + w) (zq_j_l2i a) := by
      unfold zf_ok
      rcases hw with rfl | rfl
      · rw [if_pos (by decide)]; exact hin.1
      · rw [if_neg (by decide), if_pos (by decide)]; exact ⟨hin.1, hin.2 rfl⟩
    have hc : ∀ (post : Int32 → (Nat → Int64) → (Nat → Int32) → (Nat → Int32) → Int32 → (Nat → Int32) → (Nat → Int32) → (Nat → Int64) → Int32 → (Nat → Int32) → Prop), wp_Work_write rn rc rv rm bc wn wf wt wv xw xp xr xq xe xh xb (3 + w) (zq_j_l2i a) b (fun rv_9 rm_10 bc_11 wn_12 wf_13 wt_14 wv_15 xq_16 => post 0 rv_9 rm_10 bc_11 wn_12 wf_13 wt_14 wv_15 xq_16 (upd cn 5 (cn 5 + (w + 1)))) → wp_Work_store rn rc rv rm bc wn wf wt wv xw xp xr xq xe xh xb cn w a b post := by
      intro post h
      unfold wp_Work_store
      refine zc_there hw (fun _ => ?_) (fun g => absurd hth g)
      unfold wp_Work_store_31 wp_Work_store_47 wp_Work_store_59
      rcases hw with rfl | rfl
      · exact zn_it rfl ⟨vp_in_nI (n := 5) (by decide) (by decide), zn_it rfl h⟩
      · exact zn_if (by decide) ⟨vp_in_nI (n := 5) (by decide) (by decide), zn_if (by decide) h⟩
    have hx : ∀ x, zf_xq (3 + w) (zq_j_l2i a) x = x := fun x => zf_xq2 (by rcases hw with rfl | rfl <;> decide) (by rcases hw with rfl | rfl <;> decide)
    obtain ⟨hR, hB, hg, hJ⟩ := hJ
    rcases hJ with ⟨rfl, hJ⟩ | ⟨rfl, hJ⟩
    · have hnt : ¬ (3 + w) = 3 → ¬ (3 + w) = 4 → zi_t rn (zq_j_l2i a) := by rcases hw with rfl | rfl <;> intro q q' <;> exact absurd rfl (by first | exact q | exact q')
      obtain ⟨wn1, wf1, wt1, wv1, hwr, hJ1⟩ := zw_c0 (xw := xw) (xe := xe) (xh := xh) b hR hB hJ hn hok hnt
      obtain ⟨j1, rfl, rfl, rfl, rfl, _⟩ := hJ
      have hp := hR.perf (v := b) hB hok hnt
      have e1 : (zf_perf rc (3 + w) (zq_j_l2i a) b (aval, amrk, bc)).1 = aval := by rcases hw with rfl | rfl <;> rfl
      have e2 : (zf_perf rc (3 + w) (zq_j_l2i a) b (aval, amrk, bc)).2.1 = amrk := by rcases hw with rfl | rfl <;> rfl
      rw [e1, e2, hx] at hJ1 hwr
      rw [e1, e2] at hp
      refine ⟨0, _, _, _, _, _, _, _, _, _, _, _, _, fun post h => hc post (hwr _ h), ?_, Or.inl rfl, hp.1, hp.2, hg, Or.inl ⟨rfl, hJ1⟩⟩
      intro post h
      refine zm_there hw (fun _ => ?_) (fun g => absurd hth g)
      exact zm_par hpar (zn_it rfl (zm_setm hw hin.1 hin.2 h))
    · have hE : zE rn rc (3 + w) (zq_j_l2i a) b (23 + (w + 1)) (zq_j_l2i a) b (vp_nar .boolean 0) := by
        rcases hw with rfl | rfl
        · exact Or.inr (Or.inr (Or.inl ⟨rfl, hin.1, rfl, rfl, rfl⟩))
        · exact Or.inr (Or.inr (Or.inr ⟨rfl, hin.1, hin.2 rfl, rfl, rfl, rfl⟩))
      obtain ⟨wn1, wf1, wt1, wv1, xq1, gwrs1, awto1, awat1, awvl1, awmk1, hwr, hl, hJ1⟩ := zw_c1 (xr := xr) (xw := xw) (xe := xe) (xh := xh) hJ hn hE
      refine ⟨0, _, _, _, _, _, _, _, _, _, _, _, _, fun post h => hc post (hwr _ h), ?_, Or.inl rfl, hR, hB, hg, Or.inr ⟨rfl, hJ1⟩⟩
      intro post h
      refine zm_there hw (fun _ => ?_) (fun g => absurd hth g)
      exact zm_par hpar (zn_if (by decide) (hl _ h))
  · refine ⟨3, bc, wn, wf, wt, wv, xq, cn, gwrs, awto, awat, awvl, awmk, ?_, ?_, Or.inr rfl, ?_⟩
    · intro post h
      exact zc_there hw (fun g => absurd g hth) (fun _ => h)
    · intro post h
      exact zm_there hw (fun g => absurd g hth) (fun _ => h)
    · obtain ⟨hR, hB, hg, hJ⟩ := hJ
      refine ⟨hR, hB, hg, ?_⟩
      rcases hJ with ⟨rfl, a1, a2, a3, a4, a5, m, hm, hJ⟩ | ⟨rfl, a1, ⟨m, hm, hJ⟩, a3⟩
      · exact Or.inl ⟨rfl, a1, a2, a3, a4, a5, m, by omega, hJ⟩
      · exact Or.inr ⟨rfl, a1, ⟨m, by omega, hJ⟩, a3⟩
set_option maxRecDepth 20000 in
theorem zJ.mono {xp xr rn : Int32} {rc : Nat → Int64} {awid : Nat → Int32} {s0 : ((Nat → Int64) × (Nat → Int32) × (Nat → Int32))} {n : Nat} {rv : Nat → Int64} {rm : Nat → Int32} {bc : Nat → Int32} {wn : Int32} {wf : Nat → Int32} {wt : Nat → Int32} {wv : Nat → Int64} {xq : Int32} {xb : Int32} {gwro : Int32} {gwrs : Int32} {aval : Nat → Int64} {amrk : Nat → Int32} {awto : Nat → Int32} {awat : Nat → Int32} {awvl : Nat → Int64} {awmk : Nat → Int32} (hJ : zJ xp xr rn rc awid s0 n rv rm bc wn wf wt wv xq xb gwro gwrs aval amrk awto awat awvl awmk) : zJ xp xr rn rc awid s0 (n + 1) rv rm bc wn wf wt wv xq xb gwro gwrs aval amrk awto awat awvl awmk := by
  obtain ⟨hR, hB, hg, hJ⟩ := hJ
  refine ⟨hR, hB, hg, ?_⟩
  rcases hJ with ⟨rfl, a1, a2, a3, a4, a5, m, hm, hJ⟩ | ⟨rfl, a1, ⟨m, hm, hJ⟩, a3⟩
  · exact Or.inl ⟨rfl, a1, a2, a3, a4, a5, m, by omega, hJ⟩
  · exact Or.inr ⟨rfl, a1, ⟨m, by omega, hJ⟩, a3⟩
def zi_K (kn : Int32) (kp : Nat → Int32) : Prop := ∃ c : Nat, kn = nI c ∧ c ≤ 8 ∧ ∀ k, 0 ≤ (kp k).toInt ∧ (kp k).toInt ≤ 65535
set_option maxRecDepth 20000 in
theorem zi_R.rc0 {rn : Int32} {rc rv : Nat → Int64} {rm awid : Nat → Int32} (h : zi_R rn rc rv rm awid) : rc 0 = 65535 := by
  obtain ⟨c, e, h1, h2, h0, hw, _⟩ := h
  obtain ⟨w, w1, w2, w3, w4⟩ := hw 0 (by omega)
  rw [h0, show (16 : Int32) = nI 16 by decide, nI_eq (by omega) (by omega)] at w3
  subst w3
  rw [w4]; decide
set_option maxRecDepth 20000 in
theorem zi_R.pl {rn : Int32} {rc rv : Nat → Int64} {rm awid : Nat → Int32} (h : zi_R rn rc rv rm awid) {p : Int32} (h0 : 0 ≤ p.toInt) (h1 : p.toInt ≤ 65535) : zq_j_i2l p &&& rc 0 = zq_j_i2l p := by
  rw [h.rc0]; exact zn_place h0 h1
set_option maxRecDepth 20000 in
theorem zw_back {gthr greg gcon gfld gtrn gins glvs gkps gwrd gsta gend ghal gwai ghlt glat glpl : Int32} {gwpl : Int64} {xp xr xw xe xh rn kn kv : Int32} {rc : Nat → Int64} {awid kp kl : Nat → Int32} {s0 : ((Nat → Int64) × (Nat → Int32) × (Nat → Int32))} {n : Nat} {rv : Nat → Int64} {rm : Nat → Int32} {bc : Nat → Int32} {wn : Int32} {wf : Nat → Int32} {wt : Nat → Int32} {wv : Nat → Int64} {xq : Int32} {xb : Int32} {gwro : Int32} {gwrs : Int32} {aval : Nat → Int64} {amrk : Nat → Int32} {awto : Nat → Int32} {awat : Nat → Int32} {awvl : Nat → Int64} {awmk : Nat → Int32} (hJ : zJ xp xr rn rc awid s0 n rv rm bc wn wf wt wv xq xb gwro gwrs aval amrk awto awat awvl awmk) (hn : n < 200) (hK : zi_K kn kp) : ∃ (k kn1 kv1 : Int32) (rv1 : Nat → Int64) (rm1 : Nat → Int32) (wn1 : Int32) (wf1 : Nat → Int32) (wt1 : Nat → Int32) (wv1 : Nat → Int64) (xq1 : Int32) (xb1 : Int32) (gwro1 : Int32) (aval1 : Nat → Int64) (amrk1 : Nat → Int32), (∀ post, post k rv1 rm1 bc kn1 kv1 wn1 wf1 wt1 wv1 xq1 xb1 → wp_Work_goBack rn rc rv rm bc kn kv kp kl wn wf wt wv xw xp xr xq xe xh xb post) ∧ (∀ post, post kv1 kn1 k gwro1 aval1 amrk1 → wp_M_back gthr greg gcon gfld gtrn gins kv kn glvs gkps gwrd gsta 0 gend ghal gwro gwai gwpl gwrs ghlt glat glpl aval amrk kp kl post) ∧ (k = 0 ∨ k = 6) ∧ zi_K kn1 kp ∧ (xb1 = xb ∨ kn1.toInt ≤ 7) ∧ kn1.toInt ≤ kn.toInt ∧ zJ xp xr rn rc awid s0 (n + 1) rv1 rm1 bc wn1 wf1 wt1 wv1 xq1 xb1 gwro1 gwrs aval1 amrk1 awto awat awvl awmk := by
  obtain ⟨c, rfl, hc, hkp⟩ := hK
  by_cases h0 : c = 0
  · subst h0
    refine ⟨6, nI 0, kv, rv, rm, wn, wf, wt, wv, xq, xb, gwro, aval, amrk, ?_, ?_, Or.inr rfl, ⟨0, rfl, by omega, hkp⟩, Or.inl rfl, Int.le_refl _, hJ.mono⟩
    · intro post h
      unfold wp_Work_goBack wp_Kept_goBack
      exact zn_if (by decide) (zn_it rfl h)
    · intro post h
      exact zn_it (by decide) h
  obtain ⟨d, rfl⟩ : ∃ d, c = d + 1 := ⟨c - 1, by omega⟩
  have hin : vp_in (nI (d + 1) - 1) 8 := by rw [nI_pred]; exact vp_in_nI (by omega) (by omega)
  have hpl := hkp d
  have hne : ¬ kp d = -1 := by intro q; rw [q] at hpl; exact absurd hpl.1 (by decide)
  have hg0 : 0 < nI (d + 1) := by have := nI_lt (a := 0) (b := d + 1) (by omega) (by omega); rw [nI_0] at this; exact this
  have hg1 : ¬ nI (d + 1) = 0 := nI_ne0 (by omega) (by omega)
  have hi7 : (nI d).toInt ≤ 7 := by rw [nI_toInt (by omega)]; omega
  have hii : (nI d).toInt ≤ (nI (d + 1)).toInt := by rw [nI_toInt (by omega), nI_toInt (by omega)]; omega
  have hr : ∀ post : Int32 → Int32 → Int32 → Int32 → (Nat → Int64) → (Nat → Int32) → Prop, post (kl d) (nI d) 0 1 (vp_updL aval 0 (zq_j_i2l (kp d))) (upd amrk 0 (vp_nar .boolean 0)) → wp_M_back gthr greg gcon gfld gtrn gins kv (nI (d + 1)) glvs gkps gwrd gsta 0 gend ghal gwro gwai gwpl gwrs ghlt glat glpl aval amrk kp kl post := by
    intro post h
    refine zn_if hg1 ⟨hin, hin, ?_⟩
    rw [nI_pred, nI_clamp (by omega)]
    exact h
  obtain ⟨hR, hB, hg, hJ⟩ := hJ
  rcases hJ with ⟨rfl, hJ⟩ | ⟨rfl, hJ⟩
  · obtain ⟨wn1, wf1, wt1, wv1, hw, hJ1⟩ := zw_c0 (xw := xw) (xe := xe) (xh := xh) (f := 0) (t := 0) (zq_j_i2l (kp d)) hR hB hJ hn (zf_okb (Or.inl rfl) hR.t0.in) (fun _ _ => hR.t0)
    obtain ⟨j1, rfl, rfl, rfl, rfl, _⟩ := hJ
    have hp := hR.perf (f := 0) (t := 0) (v := zq_j_i2l (kp d)) hB (zf_okb (Or.inl rfl) hR.t0.in) (fun _ _ => hR.t0)
    have e := zf_perf_b (rc := rc) (f := 0) (t := 0) (v := zq_j_i2l (kp d)) (s := (aval, amrk, bc)) (Or.inl rfl)
    rw [show (0 : Int32).toNatClampNeg = 0 by decide] at e
    dsimp only at e
    rw [hR.pl hpl.1 hpl.2] at e
    rw [e] at hw hJ1 hp
    rw [show zf_xq 0 0 gwro = 1 from if_pos ⟨rfl, Or.inl rfl⟩] at hw hJ1
    refine ⟨0, nI d, kl d, _, _, _, _, _, _, _, _, _, _, _, ?_, hr, Or.inl rfl, ⟨d, rfl, by omega, hkp⟩, Or.inl rfl, hii, hp.1, hp.2, Or.inr rfl, Or.inl ⟨rfl, hJ1⟩⟩
    intro post h
    unfold wp_Work_goBack wp_Kept_goBack
    refine zn_it hg0 ⟨hin, hin, ?_⟩
    rw [nI_pred, nI_clamp (by omega)]
    exact zn_if hne (zn_it rfl (hw _ h))
  · obtain ⟨j1, ⟨m, hm, e1, e2, hk, hq⟩, j3⟩ := hJ
    refine ⟨0, nI d, kl d, rv, rm, wn, wf, wt, wv, 1, kp d, 1, vp_updL aval 0 (zq_j_i2l (kp d)), upd amrk 0 (vp_nar .boolean 0), ?_, hr, Or.inl rfl, ⟨d, rfl, by omega, hkp⟩, Or.inr hi7, hii, hR, hB, Or.inr rfl, Or.inr ⟨rfl, j1, ⟨m, by omega, e1, e2, hk, ?_⟩, Or.inr ⟨hpl.1, hpl.2, ?_, ?_⟩⟩⟩
    · intro post h
      unfold wp_Work_goBack wp_Kept_goBack
      refine zn_it hg0 ⟨hin, hin, ?_⟩
      rw [nI_pred, nI_clamp (by omega)]
      exact zn_if hne (zn_if (by decide) h)
    · have : ∀ k, zf_wro wf wt 1 k = 1 := by
        intro k
        induction k with
        | zero => rfl
        | succ k ih => show zf_xq _ _ _ = 1; rw [ih]; unfold zf_xq; split <;> rfl
      exact (this m).symm
    · rcases j3 with ⟨_, rfl, _⟩ | ⟨_, _, rfl, _⟩
      · rfl
      · funext j; unfold vp_updL; split <;> rfl
    · rcases j3 with ⟨_, _, rfl⟩ | ⟨_, _, _, rfl⟩
      · rfl
      · funext j; unfold upd; split <;> rfl
