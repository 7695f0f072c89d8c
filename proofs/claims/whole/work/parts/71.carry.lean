set_option maxRecDepth 20000 in
theorem zl_save42 {gthr greg gcon gfld gtrn gins glev gkep glvs gkps gwrd gsta gflt gend ghal gwro gwai gwrs ghlt glat glpl : Int32} {gwpl : Int64} {aval : Nat → Int64} {amrk amem amsv : Nat → Int32} {asav : Nat → Int64} (hB : zi_B amem) : ∀ (d j : Nat), 4096 - j = d → j ≤ 4096 → ∀ amms : Nat → Int32, (∀ k, k < j → amms k = amem k) → ∃ amms1 : Nat → Int32, (∀ post, post glev gkep asav amsv amms1 → wp_M_save_42 gthr greg gcon gfld gtrn gins glev gkep gwrd gsta gflt gend ghal gwro gwai gwpl gwrs ghlt glat glpl aval amrk amem post (d + 1) glvs gkps asav amsv amms (nI j)) ∧ ∀ k, k < 4096 → amms1 k = amem k := by
  intro d
  induction d with
  | zero =>
    intro j hd hj amms hb
    have ej : j = 4096 := by omega
    subst ej
    refine ⟨amms, ?_, hb⟩
    intro post h
    unfold wp_M_save_42
    exact zn_it (nI_le (a := 4096) (b := 4096) (Nat.le_refl _) (by omega)) h
  | succ d ih =>
    intro j hd hj amms hb
    have hn : vp_nar .byte (amem j) = amem j := by
      have := hB.1 j
      unfold zn_isb at this
      rw [← this, zn_narb]
    obtain ⟨amms1, h1, h2⟩ := ih (j + 1) (by omega) (by omega) (upd amms j (vp_nar .byte (amem j))) (by
      intro k hk
      by_cases e : k = j
      · subst e; rw [zf_upds, hn]
      · rw [zf_updb' e]; exact hb k (by omega))
    refine ⟨amms1, ?_, h2⟩
    intro post h
    have g := h1 post h
    unfold wp_M_save_42
    have hin : vp_in (nI j) 4096 := vp_in_nI (by omega) (by omega)
    refine zn_if (nI_ge (b := 4096) (by omega) (by omega)) ⟨hin, hin, ?_⟩
    rw [nI_clamp (by omega), nI_1]
    exact g
set_option maxRecDepth 20000 in
theorem zl_save2 {gthr greg gcon gfld gtrn gins glev gkep glvs gkps gwrd gsta gflt gend ghal gwro gwai gwrs ghlt glat glpl : Int32} {gwpl : Int64} {aval : Nat → Int64} {amrk amem : Nat → Int32} {c : Nat} (hc : c ≤ 24) (hr : greg = nI c) (hm : ∀ k, k < c → zq_bz (amrk k)) (hB : zi_B amem) {amms : Nat → Int32} : ∀ (d j : Nat), c - j = d → j ≤ c → ∀ (asav : Nat → Int64) (amsv : Nat → Int32), (∀ k, k < j → asav k = aval k ∧ amsv k = amrk k) → ∃ (asav1 : Nat → Int64) (amsv1 amms1 : Nat → Int32), (∀ post, post glev gkep asav1 amsv1 amms1 → wp_M_save_2 gthr greg gcon gfld gtrn gins glev gkep gwrd gsta gflt gend ghal gwro gwai gwpl gwrs ghlt glat glpl aval amrk amem post (d + 1) glvs gkps asav amsv amms (nI j)) ∧ (∀ k, k < c → asav1 k = aval k ∧ amsv1 k = amrk k) ∧ ∀ k, k < 4096 → amms1 k = amem k := by
  intro d
  induction d with
  | zero =>
    intro j hd hj asav amsv hb
    have ej : j = c := by omega
    subst ej
    obtain ⟨amms1, h1, h2⟩ := zl_save42 (gthr := gthr) (greg := greg) (gcon := gcon) (gfld := gfld) (gtrn := gtrn) (gins := gins) (glev := glev) (gkep := gkep) (glvs := glvs) (gkps := gkps) (gwrd := gwrd) (gsta := gsta) (gflt := gflt) (gend := gend) (ghal := ghal) (gwro := gwro) (gwai := gwai) (gwpl := gwpl) (gwrs := gwrs) (ghlt := ghlt) (glat := glat) (glpl := glpl) (aval := aval) (amrk := amrk) (asav := asav) (amsv := amsv) hB 4096 0 (by omega) (by omega) amms (fun k hk => absurd hk (by omega))
    refine ⟨asav, amsv, amms1, ?_, hb, h2⟩
    intro post h
    have g := h1 post h
    unfold wp_M_save_2
    exact zn_it (by rw [hr]; exact nI_le (Nat.le_refl _) (by omega)) ⟨_, g⟩
  | succ d ih =>
    intro j hd hj asav amsv hb
    obtain ⟨asav1, amsv1, amms1, h1, h2, h3⟩ := ih (j + 1) (by omega) (by omega) (vp_updL asav j (aval j)) (upd amsv j (vp_nar .boolean (amrk j))) (by
      intro k hk
      by_cases e : k = j
      · subst e; rw [zf_updLs, zf_upds, zn_bool (hm k (by omega))]; exact ⟨rfl, rfl⟩
      · rw [zf_updLb' e, zf_updb' e]; exact hb k (by omega))
    refine ⟨asav1, amsv1, amms1, ?_, h2, h3⟩
    intro post h
    have g := h1 post h
    unfold wp_M_save_2
    have hin : vp_in (nI j) 24 := vp_in_nI (by omega) (by omega)
    refine zn_if (by rw [hr]; exact nI_ge (by omega) (by omega)) ⟨hin, hin, hin, hin, ?_⟩
    rw [nI_clamp (by omega), nI_1]
    exact g
set_option maxRecDepth 20000 in
theorem zl_rest42 {gthr greg gcon gfld gtrn gins glev gkep glvs gkps gwrd gsta gflt gend ghal gwro gwai gwrs ghlt glat glpl : Int32} {gwpl : Int64} {asav aval : Nat → Int64} {amsv amms amrk : Nat → Int32} (hB : ∀ k, k < 4096 → zn_isb (amms k)) : ∀ (d j : Nat), 4096 - j = d → j ≤ 4096 → ∀ amem : Nat → Int32, (∀ k, k < j → amem k = amms k) → ∃ amem1 : Nat → Int32, (∀ post, post glvs gkps 0 aval amrk amem1 → wp_M_restore_42 gthr greg gcon gfld gtrn gins glvs gkps gwrd gsta gflt gend gwro gwai gwpl gwrs ghlt glat glpl asav amsv amms post (d + 1) glev gkep ghal aval amrk amem (nI j)) ∧ (∀ k, k < 4096 → amem1 k = amms k) ∧ ∀ k, 4096 ≤ k → amem1 k = amem k := by
  intro d
  induction d with
  | zero =>
    intro j hd hj amem hb
    have ej : j = 4096 := by omega
    subst ej
    refine ⟨amem, ?_, hb, fun _ _ => rfl⟩
    intro post h
    unfold wp_M_restore_42
    exact zn_it (nI_le (a := 4096) (b := 4096) (Nat.le_refl _) (by omega)) h
  | succ d ih =>
    intro j hd hj amem hb
    have hn : vp_nar .byte (amms j) = amms j := by
      have := hB j (by omega)
      unfold zn_isb at this
      rw [← this, zn_narb]
    obtain ⟨amem1, h1, h2, h3⟩ := ih (j + 1) (by omega) (by omega) (upd amem j (vp_nar .byte (amms j))) (by
      intro k hk
      by_cases e : k = j
      · subst e; rw [zf_upds, hn]
      · rw [zf_updb' e]; exact hb k (by omega))
    refine ⟨amem1, ?_, h2, fun k hk => by rw [h3 k hk, zf_updb' (by omega)]⟩
    intro post h
    have g := h1 post h
    unfold wp_M_restore_42
    have hin : vp_in (nI j) 4096 := vp_in_nI (by omega) (by omega)
    refine zn_if (nI_ge (b := 4096) (by omega) (by omega)) ⟨hin, hin, ?_⟩
    rw [nI_clamp (by omega), nI_1]
    exact g
set_option maxRecDepth 20000 in
theorem zl_rest2 {gthr greg gcon gfld gtrn gins glev gkep glvs gkps gwrd gsta gflt gend ghal gwro gwai gwrs ghlt glat glpl : Int32} {gwpl : Int64} {asav : Nat → Int64} {amsv amms amem : Nat → Int32} {c : Nat} (hc : c ≤ 24) (hr : greg = nI c) (hm : ∀ k, k < c → zq_bz (amsv k)) (hB : ∀ k, k < 4096 → zn_isb (amms k)) : ∀ (d j : Nat), c - j = d → j ≤ c → ∀ (aval : Nat → Int64) (amrk : Nat → Int32), (∀ k, k < j → aval k = asav k ∧ amrk k = amsv k) → ∃ (aval1 : Nat → Int64) (amrk1 amem1 : Nat → Int32), (∀ post, post glvs gkps 0 aval1 amrk1 amem1 → wp_M_restore_2 gthr greg gcon gfld gtrn gins glvs gkps gwrd gsta gflt gend gwro gwai gwpl gwrs ghlt glat glpl asav amsv amms post (d + 1) glev gkep ghal aval amrk amem (nI j)) ∧ (∀ k, k < c → aval1 k = asav k ∧ amrk1 k = amsv k) ∧ (∀ k, c ≤ k → aval1 k = aval k ∧ amrk1 k = amrk k) ∧ (∀ k, k < 4096 → amem1 k = amms k) ∧ ∀ k, 4096 ≤ k → amem1 k = amem k := by
  intro d
  induction d with
  | zero =>
    intro j hd hj aval amrk hb
    have ej : j = c := by omega
    subst ej
    obtain ⟨amem1, h1, h2, h3⟩ := zl_rest42 (gthr := gthr) (greg := greg) (gcon := gcon) (gfld := gfld) (gtrn := gtrn) (gins := gins) (glev := glev) (gkep := gkep) (glvs := glvs) (gkps := gkps) (gwrd := gwrd) (gsta := gsta) (gflt := gflt) (gend := gend) (ghal := ghal) (gwro := gwro) (gwai := gwai) (gwpl := gwpl) (gwrs := gwrs) (ghlt := ghlt) (glat := glat) (glpl := glpl) (aval := aval) (amrk := amrk) (asav := asav) (amsv := amsv) hB 4096 0 (by omega) (by omega) amem (fun k hk => absurd hk (by omega))
    refine ⟨aval, amrk, amem1, ?_, hb, fun _ _ => ⟨rfl, rfl⟩, h2, h3⟩
    intro post h
    have g := h1 post h
    unfold wp_M_restore_2
    exact zn_it (by rw [hr]; exact nI_le (Nat.le_refl _) (by omega)) ⟨_, g⟩
  | succ d ih =>
    intro j hd hj aval amrk hb
    obtain ⟨aval1, amrk1, amem1, h1, h2, h2', h3⟩ := ih (j + 1) (by omega) (by omega) (vp_updL aval j (asav j)) (upd amrk j (vp_nar .boolean (amsv j))) (by
      intro k hk
      by_cases e : k = j
      · subst e; rw [zf_updLs, zf_upds, zn_bool (hm k (by omega))]; exact ⟨rfl, rfl⟩
      · rw [zf_updLb' e, zf_updb' e]; exact hb k (by omega))
    refine ⟨aval1, amrk1, amem1, ?_, h2, fun k hk => by rw [(h2' k hk).1, (h2' k hk).2, zf_updLb' (by omega), zf_updb' (by omega)]; exact ⟨rfl, rfl⟩, h3⟩
    intro post h
    have g := h1 post h
    unfold wp_M_restore_2
    have hin : vp_in (nI j) 24 := vp_in_nI (by omega) (by omega)
    refine zn_if (by rw [hr]; exact nI_ge (by omega) (by omega)) ⟨hin, hin, hin, hin, ?_⟩
    rw [nI_clamp (by omega), nI_1]
    exact g
def zf_is (pw : Nat → Int32) (i way : Int32) : Int32 := if (pw i.toNatClampNeg &&& way) = 0 then 0 else 1
set_option maxRecDepth 20000 in
theorem zf_isz {pw : Nat → Int32} {i way : Int32} : zq_bz (zf_is pw i way) := by
  unfold zf_is
  split
  · exact Or.inl rfl
  · exact Or.inr rfl
set_option maxRecDepth 20000 in
theorem zc_is {ptn pin : Int32} {pw : Nat → Int32} {i way : Int32} {post : Int32 → Prop} (h : vp_in i 40) (hp : post (zf_is pw i way)) : wp_Program_is ptn pin pw i way post := by
  refine ⟨h, ?_⟩
  unfold zf_is at hp
  by_cases e : (pw i.toNatClampNeg &&& way) = 0
  · rw [if_pos e] at hp ⊢; exact hp
  · rw [if_neg e] at hp ⊢; exact hp
set_option maxRecDepth 20000 in
theorem zn_how : ∀ h : Nat, h < 8 → ((¬ (nI h &&& 1) = 0 → (nI h &&& 1) = 1) ∧ ((nI h &&& 2) ≤ 0 ↔ (nI h &&& 2) = 0) ∧ ((nI h &&& 4) ≤ 0 ↔ (nI h &&& 4) = 0)) := by decide +kernel
set_option maxRecDepth 20000 in
theorem zf_par {pw : Nat → Int32} {i : Int32} {h : Nat} (hi : vp_in i 40) (hh : h < 8) (e : pw i.toNatClampNeg = nI h) : zi_par pw i (zf_is pw i 1) := by
  refine ⟨hi, ?_⟩
  unfold zf_is
  rw [e]
  by_cases q : (nI h &&& 1) = 0
  · rw [if_pos q, q]; exact Or.inl ⟨rfl, by decide⟩
  · rw [if_neg q]; exact Or.inr ⟨rfl, (zn_how h hh).1 q⟩
def zi_out (k xr kn kv : Int32) (rc : Nat → Int64) (awid kp : Nat → Int32) (rn : Int32) (c : Nat) (s0 : ((Nat → Int64) × (Nat → Int32) × (Nat → Int32))) (kn1 kv1 xh1 kn2 kv2 xh2 xq1 gwro2 : Int32) (rv2 aval2 : Nat → Int64) (rm2 bc2 amrk2 amem2 : Nat → Int32) : Prop :=
  (k = 0 ∧ rv2 = aval2 ∧ rm2 = amrk2 ∧ bc2 = amem2 ∧ kn2 = kn1 ∧ kv2 = kv1 ∧ xh2 = xh1 ∧ gwro2 = xq1 ∧ zq_bz xq1 ∧ zi_R rn rc rv2 rm2 awid ∧ zi_B bc2 ∧ zi_K kn1 kp) ∨ (¬ k = 0 ∧ (0 ≤ k.toInt ∧ k.toInt ≤ 15) ∧ xr = 0 ∧ kn2 = kn1 ∧ kv2 = kv1 ∧ xh2 = xh1 ∧ bc2 = amem2 ∧ zi_R rn rc rv2 rm2 awid ∧ zi_B bc2 ∧ zi_K kn1 kp ∧ ((aval2 = rv2 ∧ amrk2 = rm2) ∨ (kn1.toInt ≤ 7 ∧ ∃ x y, aval2 = vp_updL rv2 0 x ∧ amrk2 = upd rm2 0 y))) ∨ (¬ k = 0 ∧ (0 ≤ k.toInt ∧ k.toInt ≤ 15) ∧ ¬ xr = 0 ∧ kn2 = kn ∧ kv2 = kv ∧ xh2 = 0 ∧ (rv2, rm2, bc2) = s0 ∧ (∀ j, c ≤ j → aval2 j = 0 ∧ amrk2 j = 0) ∧ (∀ j, 4096 ≤ j → amem2 j = 0))
set_option maxRecDepth 20000 in
theorem zi_R.zero {rn : Int32} {rc rv : Nat → Int64} {rm awid : Nat → Int32} {c : Nat} (h : zi_R rn rc rv rm awid) (hc : c ≤ 24) (e : rn = nI c) : 1 ≤ c ∧ (∀ j, c ≤ j → rv j = 0 ∧ rm j = 0) ∧ (∀ j, j < c → zq_bz (rm j)) := by
  obtain ⟨c', e', h1, h2, h0, hw, hv, hb, hz⟩ := h
  rw [e, nI_eq (by omega) (by omega)] at e'
  subst e'
  exact ⟨h1, hz, hb⟩
set_option maxHeartbeats 2000000 in
set_option maxRecDepth 20000 in
theorem zl_carry {gthr greg gcon gfld gtrn gins glvs gkps gsta gend ghal gwro gwai gwrs ghlt glat glpl : Int32} {gwpl : Int64} {rn ocn ofn ptn pin w i kn kv wn xw0 xp0 xr0 xq0 xe0 xh0 xb0 : Int32} {rc oc rv abef wv awvl : Nat → Int64} {awid rm bc ambf ofr oto osg po pa pb pt pw pst pe abeg kp kl cn wf wt awto awat awmk : Nat → Int32} {c st e h : Nat} (hc : c ≤ 24) (erc : rn = nI c) (eg : greg = rn) (hse : st ≤ e) (he : e ≤ 200) (hi : vp_in i 40) (hi0 : vp_in i 41) (hi1 : vp_in (i + 1) 41) (hps : pst i.toNatClampNeg = nI st) (hpe : pe i.toNatClampNeg = nI e) (hab0 : abeg i.toNatClampNeg = nI st) (hab : abeg (i + 1).toNatClampNeg = nI e) (hh : h < 8) (hpw : pw i.toNatClampNeg = nI h) (hR : zi_R rn rc rv rm awid) (hB : zi_B bc) (hK : zi_K kn kp) (hF : zi_F ofn ofr oto) (hT : zi_T rn ocn ofn po pa pb pt e) (hw0 : 0 ≤ w.toInt) (hw1 : w.toInt < 65536) : ∃ (k kn1 kv1 xe1 xh1 wn1 xq1 xb1 kn2 kv2 xh2 gwro2 gwrs1 : Int32) (rv2 wv1 aval2 abef1 awvl1 : Nat → Int64) (rm2 bc2 wf1 wt1 cn1 amrk2 ambf1 amem2 awto1 awat1 awmk1 : Nat → Int32), (∀ post, post k rv2 rm2 bc2 kn2 kv2 wn1 wf1 wt1 wv1 w (zf_is pw i 1) (zf_is pw i 2) xq1 xe1 xh2 xb1 cn1 → wp_Work_carryOut rn rc rv rm bc ocn ofn oc ofr oto osg ptn pin po pa pb pt pw pst pe kn kv kp kl wn wf wt wv xw0 xp0 xr0 xq0 xe0 xh0 xb0 cn i w post) ∧ (∀ post, post kv1 kn1 k xe1 xh1 gwro2 gwrs1 aval2 abef1 amrk2 ambf1 amem2 awto1 awat1 awvl1 awmk1 cn1 → wp_M_doAll gthr greg gcon gfld gtrn gins kv kn glvs gkps w gsta 0 gend ghal gwro gwai gwpl gwrs ghlt glat glpl awid rv abef rm ambf bc oc ofr oto osg po pa pb pt pw abeg kp kl awto awat awvl awmk cn i post) ∧ zi_out k (zf_is pw i 2) kn kv rc awid kp rn c (rv, rm, bc) kn1 kv1 xh1 kn2 kv2 xh2 xq1 gwro2 rv2 aval2 rm2 bc2 amrk2 amem2 := by
  have hpar := zf_par hi hh hpw
  obtain ⟨c1, cz, cb⟩ := hR.zero hc erc
  obtain ⟨abef1, ambf1, hcp, hbf⟩ := zl_copy (gthr := gthr) (greg := greg) (gcon := gcon) (gfld := gfld) (gtrn := gtrn) (gins := gins) (glvs := glvs) (gkps := gkps) (gwrd := w) (gsta := gsta) (gwai := gwai) (gwpl := gwpl) (ghlt := ghlt) (glat := glat) (glpl := glpl) (glev := kv) (gkep := kn) (gflt := 0) (gend := 0) (ghal := 0) (gwro := 0) (gwrs := 0) (i := i) (oc := oc) (awid := awid) (ofr := ofr) (oto := oto) (osg := osg) (po := po) (pa := pa) (pb := pb) (pt := pt) (pw := pw) (abeg := abeg) (kp := kp) (kl := kl) (amem := bc) (acnt := cn) (aval := rv) (amrk := rm) (awto := awto) (awat := awat) (awvl := awvl) (awmk := awmk) hc (eg.trans erc) cb (c - 0) 0 rfl (by omega) abef ambf (fun k hk => absurd hk (by omega))
  have hbef : zf_is pw i 1 = 1 → ∀ t, zi_t rn t → abef1 t.toNatClampNeg = (rv, rm, bc).1 t.toNatClampNeg ∧ ambf1 t.toNatClampNeg = (rv, rm, bc).2.1 t.toNatClampNeg := by
    intro _ t ht
    obtain ⟨c', k, e', hc', rfl, hk⟩ := ht
    rw [erc, nI_eq (by omega) (by omega)] at e'
    subst e'
    rw [nI_clamp (by omega)]
    exact hbf k hk
  have hJ : zJ (zf_is pw i 1) (zf_is pw i 2) rn rc awid (rv, rm, bc) 0 rv rm bc 0 wf wt wv 0 (-1) 0 0 rv rm awto awat awvl awmk := by
    refine ⟨hR, hB, Or.inl rfl, ?_⟩
    rcases (zf_isz : zq_bz (zf_is pw i 1)) with q | q
    · exact Or.inl ⟨q, rfl, rfl, rfl, rfl, rfl, 0, Nat.le_refl _, by decide, fun k hk => absurd hk (by omega), fun _ => rfl⟩
    · exact Or.inr ⟨q, rfl, ⟨0, Nat.le_refl _, by decide, by decide, fun k hk => absurd hk (by omega), rfl⟩, Or.inl ⟨rfl, rfl, rfl⟩⟩
  obtain ⟨k, kn1, kv1, xe1, xh1, rv1, rm1, bc1, wn1, wf1, wt1, wv1, xq1, xb1, gwro1, gwrs1, aval1, amrk1, awto1, awat1, awvl1, awmk1, cn1, n1, hc1, hm1, hn1, hJ1, hk1, hK1, hx1⟩ := zl_loop (gthr := gthr) (greg := greg) (gcon := gcon) (gfld := gfld) (gtrn := gtrn) (gins := gins) (glvs := glvs) (gkps := gkps) (gsta := gsta) (gwai := gwai) (gwpl := gwpl) (ghlt := ghlt) (glat := glat) (glpl := glpl) (oc := oc) (osg := osg) (ptn := ptn) (pin := pin) (pst := pst) (kl := kl) he hi hi1 hpe hab hpar hbef hF hT hw0 hw1 (e - st) st rfl hse 0 kn kv 0 0 rv rm bc 0 wf wt wv 0 (-1) 0 0 rv rm awto awat awvl awmk cn 0 (Nat.zero_le _) hJ (by decide) hK (Or.inl rfl)
  have hcc : ∀ post, wp_Work_carryOut_88 rn rc ocn ofn oc ofr oto osg ptn pin po pa pb pt pw pst pe kp kl rv1 rm1 bc1 kn1 kv1 wn1 wf1 wt1 wv1 w (zf_is pw i 1) (zf_is pw i 2) xq1 xe1 xh1 xb1 cn1 kn kv k post → wp_Work_carryOut rn rc rv rm bc ocn ofn oc ofr oto osg ptn pin po pa pb pt pw pst pe kn kv kp kl wn wf wt wv xw0 xp0 xr0 xq0 xe0 xh0 xb0 cn i w post := by
    intro post hp
    unfold wp_Work_carryOut wp_Work_prepare
    refine zc_is hi ⟨zf_isz, zc_is hi ⟨zf_isz, ?_⟩⟩
    unfold wp_Writes_clear
    refine ⟨hi, (e - st) + 1, ?_⟩
    have g := hc1 kn kv post hp
    rw [hps]
    exact g
  have hmm : ∀ post, wp_M_doAll_105 gthr greg gcon gfld gtrn gins glvs gkps w gsta gwai gwpl ghlt glat glpl awid oc ofr oto osg po pa pb pt pw abeg kp kl kv1 kn1 k xe1 xh1 gwro1 gwrs1 aval1 abef1 amrk1 ambf1 bc1 awto1 awat1 awvl1 awmk1 cn1 post → wp_M_doAll gthr greg gcon gfld gtrn gins kv kn glvs gkps w gsta 0 gend ghal gwro gwai gwpl gwrs ghlt glat glpl awid rv abef rm ambf bc oc ofr oto osg po pa pb pt pw abeg kp kl awto awat awvl awmk cn i post := by
    intro post hp
    refine ⟨(c - 0) + 1, hcp post ⟨hi0, (e - st) + 1, ?_⟩⟩
    have g := hm1 post hp
    rw [hab0]
    exact g
  obtain ⟨hR1, hB1, hg1, hJ1⟩ := hJ1
  obtain ⟨_, cz1, _⟩ := hR1.zero hc erc
  by_cases hk0 : k = 0
  · rcases hJ1 with ⟨hp, j1, rfl, rfl, rfl, rfl, _⟩ | ⟨hp, j1, ⟨m, hm, rfl, rfl, hE, hq⟩, j3⟩
    · refine ⟨k, kn1, kv1, xe1, xh1, wn1, gwro1, xb1, kn1, kv1, xh1, gwro1, 0, aval1, wv1, aval1, abef1, awvl1, amrk1, bc1, wf1, wt1, cn1, amrk1, ambf1, bc1, awto1, awat1, awmk1, ?_, ?_, Or.inl ⟨hk0, rfl, rfl, rfl, rfl, rfl, rfl, rfl, hg1, hR1, hB1, hK1⟩⟩
      · intro post hq
        refine hcc post ?_
        exact zn_it hk0 (zn_it hp hq)
      · intro post hq
        refine hmm post (zn_it hk0 ⟨1, ?_⟩)
        unfold wp_M_writeAll_2
        exact zn_it (by decide) hq
    · have hR2 : zi_R rn rc aval1 amrk1 awid := by
        rcases j3 with ⟨_, rfl, rfl⟩ | ⟨q0, q1, rfl, rfl⟩
        · exact hR1
        · have g := hR1.put hR1.t0 (zq_j_i2l xb1) (m := 0) (Or.inl rfl)
          rw [show (0 : Int32).toNatClampNeg = 0 by decide, hR1.pl q0 q1] at g
          exact g
      obtain ⟨rv2, rm2, bc2, h1, h2, h3, h4⟩ := zl_all (gthr := gthr) (greg := greg) (gcon := gcon) (gfld := gfld) (gtrn := gtrn) (gins := gins) (glev := kv1) (gkep := kn1) (glvs := glvs) (gkps := gkps) (gwrd := w) (gsta := gsta) (gflt := k) (gend := xe1) (ghal := xh1) (gwai := gwai) (gwpl := gwpl) (ghlt := ghlt) (glat := glat) (glpl := glpl) (by omega) hg1 hE m 0 rfl (by omega) aval1 amrk1 bc1 hR2 hB1
      refine ⟨k, kn1, kv1, xe1, xh1, nI m, xq1, xb1, kn1, kv1, xh1, xq1, nI m, rv2, wv1, rv2, abef1, awvl1, rm2, bc2, wf1, wt1, cn1, rm2, ambf1, bc2, awto1, awat1, awmk1, ?_, ?_, Or.inl ⟨hk0, rfl, rfl, rfl, rfl, rfl, rfl, rfl, by rw [hq]; exact zf_wroz hg1 m, h3, h4, hK1⟩⟩
      · intro post hp'
        refine hcc post (zn_it hk0 (zn_if (by rw [hp]; decide) ?_))
        rcases j3 with ⟨q0, rfl, rfl⟩ | ⟨q0, q1, rfl, rfl⟩
        · exact zn_it q0 ⟨m + 1, h1 _ hp'⟩
        · have hne : ¬ xb1 = -1 := by intro q; rw [q] at q0; exact absurd q0 (by decide)
          have h0 : vp_in 0 24 := hR1.t0.in
          refine zn_if hne ⟨h0, h0, h0, m + 1, ?_⟩
          rw [show (0 : Int32).toNatClampNeg = 0 by decide, hR1.pl q0 q1]
          exact h1 _ hp'
      · intro post hp'
        refine hmm post (zn_it hk0 ⟨m + 1, ?_⟩)
        rw [hq] at hp'
        exact h2 _ hp'
  · have hz2 : (∀ j, c ≤ j → aval1 j = 0 ∧ amrk1 j = 0) := by
      intro j hj
      rcases hJ1 with ⟨hp, j1, rfl, rfl, rfl, rfl, _⟩ | ⟨hp, j1, _, ⟨_, rfl, rfl⟩ | ⟨_, _, rfl, rfl⟩⟩
      · exact cz1 j hj
      · exact cz1 j hj
      · rw [zf_updLb' (by omega), zf_updb' (by omega)]; exact cz1 j hj
    by_cases hr0 : zf_is pw i 2 = 0
    · refine ⟨k, kn1, kv1, xe1, xh1, wn1, xq1, xb1, kn1, kv1, xh1, gwro1, gwrs1, rv1, wv1, aval1, abef1, awvl1, rm1, bc1, wf1, wt1, cn1, amrk1, ambf1, bc1, awto1, awat1, awmk1, ?_, ?_, Or.inr (Or.inl ⟨hk0, hk1, hr0, rfl, rfl, rfl, rfl, hR1, hB1, hK1, ?_⟩)⟩
      · intro post hp
        exact hcc post (zn_if hk0 (zn_it hr0 hp))
      · intro post hp
        exact hmm post (zn_if hk0 hp)
      · rcases hJ1 with ⟨hp, j1, rfl, rfl, rfl, rfl, _⟩ | ⟨hp, j1, _, ⟨_, rfl, rfl⟩ | ⟨q0, _, rfl, rfl⟩⟩
        · exact Or.inl ⟨rfl, rfl⟩
        · exact Or.inl ⟨rfl, rfl⟩
        · refine Or.inr ⟨?_, _, _, rfl, rfl⟩
          rcases hx1 with q | q
          · rw [q] at q0; exact absurd q0 (by decide)
          · exact q
    · refine ⟨k, kn1, kv1, xe1, xh1, wn1, xq1, xb1, kn, kv, 0, gwro1, gwrs1, rv, wv1, aval1, abef1, awvl1, rm, bc, wf1, wt1, cn1, amrk1, ambf1, bc1, awto1, awat1, awmk1, ?_, ?_, Or.inr (Or.inr ⟨hk0, hk1, hr0, rfl, rfl, rfl, rfl, hz2, hB1.2⟩)⟩
      · intro post hp
        refine hcc post (zn_if hk0 (zn_if hr0 ?_))
        rcases hJ1 with ⟨hq, j1, rfl, rfl, rfl, rfl, m, hm, rfl, hok, hb⟩ | ⟨hq, j1, _⟩
        · refine zn_it hq ?_
          exact zc_backwards (s := (aval1, amrk1, bc1)) (by omega) hok (hb hr0) hp
        · cases j1
          exact zn_if (by rw [hq]; decide) hp
      · intro post hp
        exact hmm post (zn_if hk0 hp)
