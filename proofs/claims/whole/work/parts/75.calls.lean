set_option maxRecDepth 20000 in
theorem zm_in {x lo hi : Int64} {post : Int32 → Prop} (h1 : lo.toInt ≤ x.toInt ∧ x.toInt ≤ hi.toInt → post 1) (h0 : ¬ (lo.toInt ≤ x.toInt ∧ x.toInt ≤ hi.toInt) → post 0) : wp_M_in x lo hi post := by
  refine zn_ite (fun h => h0 ?_) (fun h => zn_ite (fun h' => h0 ?_) (fun h' => h1 ?_))
  · rw [zn_lt] at h; omega
  · rw [zn_lt] at h'; omega
  · rw [zn_lt] at h h'; omega
set_option maxRecDepth 20000 in
theorem zm_g1 {gthr greg gcon gfld gtrn gins glev gkep glvs gkps gwrd gsta gflt gend ghal gwro gwai gwrs ghlt glat glpl : Int32} {gwpl : Int64} {p0 p1 : Int32} {post : Int32 → Int32 → Prop} (h : p0 = 0) (hp : post 0 1) : wp_M_goes gthr greg gcon gfld gtrn gins glev gkep glvs gkps gwrd gsta gflt gend ghal gwro gwai gwpl gwrs ghlt glat glpl p0 p1 post := zn_it h (zn_if (by decide) hp)
set_option maxRecDepth 20000 in
theorem zm_g2 {gthr greg gcon gfld gtrn gins glev gkep glvs gkps gwrd gsta gflt gend ghal gwro gwai gwrs ghlt glat glpl : Int32} {gwpl : Int64} {p0 p1 : Int32} {post : Int32 → Int32 → Prop} (h : ¬ p0 = 0) (h' : p1 = 0) (hp : post 0 2) : wp_M_goes gthr greg gcon gfld gtrn gins glev gkep glvs gkps gwrd gsta gflt gend ghal gwro gwai gwpl gwrs ghlt glat glpl p0 p1 post := zn_if h (zn_it h' (zn_if (by decide) hp))
set_option maxRecDepth 20000 in
theorem zm_g0 {gthr greg gcon gfld gtrn gins glev gkep glvs gkps gwrd gsta gflt gend ghal gwro gwai gwrs ghlt glat glpl : Int32} {gwpl : Int64} {p0 p1 : Int32} {post : Int32 → Int32 → Prop} (h : ¬ p0 = 0) (h' : ¬ p1 = 0) (hp : post 1 0) : wp_M_goes gthr greg gcon gfld gtrn gins glev gkep glvs gkps gwrd gsta gflt gend ghal gwro gwai gwpl gwrs ghlt glat glpl p0 p1 post := zn_if h (zn_if h' (zn_it rfl hp))
set_option maxRecDepth 20000 in
theorem zn_10 : ¬ (1 : Int32) = 0 := by decide
set_option maxRecDepth 20000 in
theorem zn_of {a : Int32} {n : Nat} (h0 : 0 ≤ a.toInt) (h1 : a.toInt ≤ n) : ∃ k : Nat, k ≤ n ∧ a = nI k := ⟨a.toInt.toNat, by omega, zn_nI h0⟩
set_option maxRecDepth 20000 in
theorem zi_R.grow {rn : Int32} {rc rv : Nat → Int64} {rm awid : Nat → Int32} {c w : Nat} (h : zi_R rn rc rv rm awid) (hc : c < 24) (e : rn = nI c) (w1 : 1 ≤ w) (w2 : w ≤ 64) : zi_R (nI (c + 1)) (vp_updL rc c (zq_j_lushr (-1) (64 - nI w))) rv (upd rm c 1) (upd awid c (nI w)) := by
  obtain ⟨c', e', h1, h2, h0, hw, hv, hb, hz⟩ := h
  rw [e, nI_eq (by omega) (by omega)] at e'
  subst e'
  refine ⟨c + 1, rfl, by omega, by omega, by rw [zf_updb (by omega)]; exact h0, ?_, ?_, ?_, ?_⟩
  · intro k hk
    by_cases q : k = c
    · subst q; rw [zf_upds, zf_updLs]; exact ⟨w, w1, w2, rfl, rfl⟩
    · rw [zf_updb' q, zf_updLb' q]; exact hw k (by omega)
  · intro k hk
    by_cases q : k = c
    · subst q; rw [(hz k (by omega)).1]; exact Int64.zero_and
    · rw [zf_updLb' q]; exact hv k (by omega)
  · intro k hk
    by_cases q : k = c
    · subst q; rw [zf_upds]; exact Or.inr rfl
    · rw [zf_updb' q]; exact hb k (by omega)
  · intro k hk
    rw [zf_updb' (by omega)]
    exact hz k (by omega)
set_option maxRecDepth 20000 in
theorem zi_R.cnt {rn : Int32} {rc rv : Nat → Int64} {rm awid : Nat → Int32} (h : zi_R rn rc rv rm awid) : ∃ c : Nat, rn = nI c ∧ 1 ≤ c ∧ c ≤ 24 := by
  obtain ⟨c, e, h1, h2, _⟩ := h
  exact ⟨c, e, h1, h2⟩
set_option maxRecDepth 20000 in
theorem zi_t.grow {c : Nat} {t : Int32} (h : zi_t (nI c) t) (hc : c < 24) : zi_t (nI (c + 1)) t := by
  obtain ⟨c', k, e, hc', e', hk⟩ := h
  rw [nI_eq (by omega) (by omega)] at e
  subst e
  exact ⟨c + 1, k, rfl, by omega, e', by omega⟩
set_option maxRecDepth 20000 in
theorem zy_0 {gthr gcon gfld gtrn gins glev gkep glvs gkps gwrd gsta gflt gend ghal gwro gwai gwrs ghlt glat glpl : Int32} {gwpl : Int64} {rn a : Int32} {rc rv fo : Nat → Int64} {rm awid : Nat → Int32} (hR : zi_R rn rc rv rm awid) : ∃ (code rn1 r : Int32) (fo1 rc1 : Nat → Int64) (rm1 awid1 : Nat → Int32), (∀ post, post code fo1 rn1 rc1 rm1 → wp_L_register rn rc rm fo a post) ∧ (∀ post, post r code rn1 awid1 rv rm1 → wp_M_register gthr rn gcon gfld gtrn gins glev gkep glvs gkps gwrd gsta gflt gend ghal gwro gwai gwpl gwrs ghlt glat glpl awid rv rm a post) ∧ (code = 0 → fo1 0 = zq_j_i2l r) ∧ zi_R rn1 rc1 rv rm1 awid1 ∧ (∀ t, zi_t rn t → zi_t rn1 t) := by
  obtain ⟨c, erc, c1, c2⟩ := hR.cnt
  have k1 : (1 : Int32).toInt = 1 := by decide
  have k64 : (64 : Int32).toInt = 64 := by decide
  have l1 : (1 : Int64).toInt = 1 := by decide
  have l64 : (64 : Int64).toInt = 64 := by decide
  have ka := zn_i2l a
  by_cases hA : 1 ≤ a.toInt ∧ a.toInt ≤ 64
  · have a1 : ¬ a < 1 := by rw [zn_lt32]; omega
    have a2 : a ≤ 64 := by rw [zn_le32]; omega
    by_cases hc : c = 24
    · refine ⟨2, rn, 0, fo, rc, rm, awid, ?_, ?_, fun q => absurd q (by decide), hR, fun _ h => h⟩
      · intro post h
        exact zn_if a1 (zn_it a2 (zn_if (by rw [erc, hc]; decide) (Or.inr ⟨rfl, h⟩)))
      · intro post h
        refine zm_in (fun _ => ?_) (fun q => absurd (by omega) q)
        exact zn_it (by rw [erc, hc]; decide) (zm_g2 zn_10 rfl (zn_it rfl h))
    · obtain ⟨w, hw, ew⟩ := zn_of (a := a) (n := 64) (by omega) (by omega)
      have hw1 : 1 ≤ w := by rw [ew, nI_toInt (by omega)] at hA; omega
      have hin : vp_in rn 24 := by rw [erc]; exact vp_in_nI (by omega) (by omega)
      have hN : rn.toNatClampNeg = c := by rw [erc]; exact nI_clamp (by omega)
      have hz := (hR.zero (by omega) erc).2.1 c (Nat.le_refl _)
      refine ⟨0, nI (c + 1), nI (c + 1) - 1, vp_updL fo 0 (zq_j_i2l (nI (c + 1) - 1)), vp_updL rc c (zq_j_lushr (-1) (64 - nI w)), upd rm c 1, upd awid c (nI w), ?_, ?_, fun _ => zf_updLs, hR.grow (by omega) erc hw1 hw, ?_⟩
      · intro post h
        refine zn_if a1 (zn_it a2 (zn_it (by rw [erc]; exact nI_lt (b := 24) (by omega) (by omega)) ⟨hin, hin, ?_⟩))
        rw [hN, erc, nI_1, ew]
        exact h
      · intro post h
        refine zm_in (fun _ => ?_) (fun q => absurd (by omega) q)
        refine zn_if (by rw [erc]; exact nI_ge (b := 24) (by omega) (by omega)) (zm_g0 zn_10 zn_10 (zn_if zn_10 ⟨hin, hin, hin, ?_⟩))
        rw [hN, erc, nI_1, ew, zf_updLself hz.1.symm]
        exact h
      · intro t ht
        rw [erc] at ht
        exact ht.grow (by omega)
  · refine ⟨1, rn, 0, fo, rc, rm, awid, ?_, ?_, fun q => absurd q (by decide), hR, fun _ h => h⟩
    · intro post h
      by_cases a1 : a < 1
      · exact zn_it a1 (Or.inl ⟨rfl, h⟩)
      · refine zn_if a1 (zn_if ?_ (Or.inl ⟨rfl, h⟩))
        rw [zn_lt32] at a1
        rw [zn_le32]; omega
    · intro post h
      refine zm_in (fun q => absurd (by omega) hA) (fun _ => ?_)
      exact zn_ite (fun _ => zm_g1 rfl (zn_it rfl h)) (fun _ => zm_g1 rfl (zn_it rfl h))
set_option maxRecDepth 20000 in
theorem zy_1 {gthr greg gfld gtrn gins glev gkep glvs gkps gwrd gsta gflt gend ghal gwro gwai gwrs ghlt glat glpl : Int32} {gwpl : Int64} {ocn ofn : Int32} {a : Int64} {oc fo : Nat → Int64} (hO : ∃ c : Nat, ocn = nI c ∧ c ≤ 16) : ∃ (code ocn1 r : Int32) (fo1 oc1 : Nat → Int64), (∀ post, post code fo1 ocn1 oc1 → wp_L_constant ocn ofn oc fo a post) ∧ (∀ post, post r code ocn1 oc1 → wp_M_constant gthr greg ocn gfld gtrn gins glev gkep glvs gkps gwrd gsta gflt gend ghal gwro gwai gwpl gwrs ghlt glat glpl oc a post) ∧ (code = 0 → fo1 0 = zq_j_i2l r) ∧ (∃ c : Nat, ocn1 = nI c ∧ c ≤ 16) ∧ (∀ rn ofn t, zi_op rn ocn ofn t → zi_op rn ocn1 ofn t) := by
  obtain ⟨c, e, hc⟩ := hO
  by_cases h16 : c = 16
  · refine ⟨1, ocn, 0, fo, oc, ?_, ?_, fun q => absurd q (by decide), ⟨c, e, hc⟩, fun _ _ _ h => h⟩
    · intro post h
      exact zn_if (by rw [e, h16]; decide) ⟨rfl, h⟩
    · intro post h
      exact zn_it (by rw [e, h16]; decide) (zm_g1 rfl (zn_it rfl h))
  · have hin : vp_in ocn 16 := by rw [e]; exact vp_in_nI (by omega) (by omega)
    have hN : ocn.toNatClampNeg = c := by rw [e]; exact nI_clamp (by omega)
    have er : (32 + nI (c + 1)) - 1 = 31 + nI (c + 1) := by
      have : ∀ c : Nat, c < 16 → (32 + nI (c + 1)) - 1 = 31 + nI (c + 1) := by decide +kernel
      exact this c (by omega)
    refine ⟨0, nI (c + 1), 31 + nI (c + 1), vp_updL fo 0 (zq_j_i2l (31 + nI (c + 1))), vp_updL oc c a, ?_, ?_, fun _ => zf_updLs, ⟨c + 1, rfl, by omega⟩, ?_⟩
    · intro post h
      refine zn_it (by rw [e]; exact nI_lt (b := 16) (by omega) (by omega)) ⟨hin, ?_⟩
      rw [hN, e, nI_1, er]
      exact h
    · intro post h
      refine zn_if (by rw [e]; exact nI_ge (b := 16) (by omega) (by omega)) (zm_g0 zn_10 zn_10 (zn_if zn_10 ⟨hin, ?_⟩))
      rw [hN, e, nI_1]
      exact h
    · intro rn ofn t h
      rcases h with h | ⟨c', k, e', h1, h2, h3⟩ | h
      · exact Or.inl h
      · rw [e, nI_eq (by omega) (by omega)] at e'
        subst e'
        exact Or.inr (Or.inl ⟨c + 1, k, rfl, by omega, by omega, h3⟩)
      · exact Or.inr (Or.inr h)
set_option maxRecDepth 20000 in
theorem zy_2 {gthr greg gcon gtrn gins glev gkep glvs gkps gwrd gsta gflt gend ghal gwro gwai gwrs ghlt glat glpl : Int32} {gwpl : Int64} {ocn ofn f t s : Int32} {fo : Nat → Int64} {ofr oto osg : Nat → Int32} (hF : zi_F ofn ofr oto) : ∃ (code ofn1 r : Int32) (fo1 : Nat → Int64) (ofr1 oto1 osg1 : Nat → Int32), (∀ post, post code fo1 ofn1 ofr1 oto1 osg1 → wp_L_field ocn ofn ofr oto osg fo f t s post) ∧ (∀ post, post r code ofn1 ofr1 oto1 osg1 → wp_M_field gthr greg gcon ofn gtrn gins glev gkep glvs gkps gwrd gsta gflt gend ghal gwro gwai gwpl gwrs ghlt glat glpl ofr oto osg f t s post) ∧ (code = 0 → fo1 0 = zq_j_i2l r) ∧ zi_F ofn1 ofr1 oto1 ∧ (∀ rn ocn t, zi_op rn ocn ofn t → zi_op rn ocn ofn1 t) := by
  have hF' := hF
  obtain ⟨c, hc, e, hk⟩ := hF
  have k0 : (0 : Int32).toInt = 0 := by decide
  have k16 : (16 : Int32).toInt = 16 := by decide
  have l0 : (0 : Int64).toInt = 0 := by decide
  have l15 : (15 : Int64).toInt = 15 := by decide
  have kf := zn_i2l f
  have kt := zn_i2l t
  by_cases hA : 0 ≤ f.toInt ∧ f.toInt ≤ t.toInt ∧ t.toInt ≤ 15
  · have a1 : ¬ f < 0 := by rw [zn_lt32]; omega
    have a2 : ¬ 16 ≤ t := by rw [zn_le32]; omega
    have a3 : f ≤ t := by rw [zn_le32]; omega
    by_cases h16 : c = 16
    · refine ⟨2, ofn, 0, fo, ofr, oto, osg, ?_, ?_, fun q => absurd q (by decide), hF', fun _ _ _ h => h⟩
      · intro post h
        exact zn_if a1 (zn_if a2 (zn_it a3 (zn_if (by rw [e, h16]; decide) (Or.inr ⟨rfl, h⟩))))
      · intro post h
        refine zm_in (fun _ => zn_if zn_10 (zm_in (fun _ => zn_if zn_10 ?_) (fun q => absurd (by omega) q))) (fun q => absurd (by omega) q)
        exact zn_it (by rw [e, h16]; decide) (zm_g2 zn_10 rfl (zn_it rfl h))
    · have hin : vp_in ofn 16 := by rw [e]; exact vp_in_nI (by omega) (by omega)
      have hN : ofn.toNatClampNeg = c := by rw [e]; exact nI_clamp (by omega)
      have er : (64 + nI (c + 1)) - 1 = 63 + nI (c + 1) := by
        have : ∀ c : Nat, c < 16 → (64 + nI (c + 1)) - 1 = 63 + nI (c + 1) := by decide +kernel
        exact this c (by omega)
      refine ⟨0, nI (c + 1), 63 + nI (c + 1), vp_updL fo 0 (zq_j_i2l (63 + nI (c + 1))), upd ofr c f, upd oto c t, upd osg c (vp_nar .boolean s), ?_, ?_, fun _ => zf_updLs, ?_, ?_⟩
      · intro post h
        refine zn_if a1 (zn_if a2 (zn_it a3 (zn_it (by rw [e]; exact nI_lt (b := 16) (by omega) (by omega)) ⟨hin, hin, hin, ?_⟩)))
        rw [hN, e, nI_1, er]
        exact h
      · intro post h
        refine zm_in (fun _ => zn_if zn_10 (zm_in (fun _ => zn_if zn_10 ?_) (fun q => absurd (by omega) q))) (fun q => absurd (by omega) q)
        refine zn_if (by rw [e]; exact nI_ge (b := 16) (by omega) (by omega)) (zm_g0 zn_10 zn_10 (zn_if zn_10 ⟨hin, hin, hin, ?_⟩))
        rw [hN, e, nI_1]
        exact h
      · refine ⟨c + 1, by omega, rfl, ?_⟩
        intro k hk'
        by_cases q : k = c
        · subst q
          rw [zf_upds, zf_upds]
          exact ⟨f.toInt.toNat, t.toInt.toNat, zn_nI (by omega), zn_nI (by omega), by omega, by omega⟩
        · rw [zf_updb' q, zf_updb' q]; exact hk k (by omega)
      · intro rn ocn t h
        rcases h with h | h | ⟨c', k, e', h1, h2, h3⟩
        · exact Or.inl h
        · exact Or.inr (Or.inl h)
        · rw [e, nI_eq (by omega) (by omega)] at e'
          subst e'
          exact Or.inr (Or.inr ⟨c + 1, k, rfl, by omega, by omega, h3⟩)
  · refine ⟨1, ofn, 0, fo, ofr, oto, osg, ?_, ?_, fun q => absurd q (by decide), hF', fun _ _ _ h => h⟩
    · intro post h
      by_cases a1 : f < 0
      · exact zn_it a1 (Or.inl ⟨rfl, h⟩)
      by_cases a2 : 16 ≤ t
      · exact zn_if a1 (zn_it a2 (Or.inl ⟨rfl, h⟩))
      refine zn_if a1 (zn_if a2 (zn_if ?_ (Or.inl ⟨rfl, h⟩)))
      rw [zn_lt32] at a1
      rw [zn_le32] at a2 ⊢
      omega
    · intro post h
      have hbad : ∀ x : Int32, wp_M_goes gthr greg gcon ofn gtrn gins glev gkep glvs gkps gwrd gsta gflt gend ghal gwro gwai gwpl gwrs ghlt glat glpl 0 x (fun r_7 gthr_6 => (if r_7 = 0 then post 0 gthr_6 ofn ofr oto osg else vp_in ofn 16 ∧ vp_in ofn 16 ∧ vp_in ofn 16 ∧ post (63 + (ofn + 1)) gthr_6 (ofn + 1) (upd ofr ofn.toNatClampNeg f) (upd oto ofn.toNatClampNeg t) (upd osg ofn.toNatClampNeg (vp_nar .boolean s)))) := fun x => zm_g1 rfl (zn_it rfl h)
      refine zm_in (fun q1 => zn_if zn_10 (zm_in (fun q2 => absurd (by omega) hA) (fun _ => zn_it rfl ?_))) (fun _ => zn_it rfl ?_)
      · exact zn_ite (fun _ => hbad 0) (fun _ => hbad 1)
      · exact zn_ite (fun _ => hbad 0) (fun _ => hbad 1)
set_option maxRecDepth 20000 in
theorem zn_subI {m j : Nat} : nI (m + j) - nI m = nI j := by
  rw [← nI_add, Int32.add_comm]
  exact Int32.add_sub_cancel _ _
set_option maxRecDepth 20000 in
theorem zc_hasR {c : Nat} {t : Int32} {post : Int32 → Prop} (hc : c ≤ 24) (h1 : zi_t (nI c) t → post 1) (h0 : ¬ zi_t (nI c) t → post 0) : wp_Registers_has (nI c) t post := by
  have k0 : (0 : Int32).toInt = 0 := by decide
  have kc : (nI c).toInt = c := nI_toInt (by omega)
  have iff : zi_t (nI c) t ↔ (0 ≤ t.toInt ∧ t.toInt < c) := by
    constructor
    · rintro ⟨c', k, e, _, rfl, hk⟩
      rw [nI_eq (by omega) (by omega)] at e
      subst e
      rw [nI_toInt (by omega)]; omega
    · rintro ⟨q0, q1⟩
      exact ⟨c, t.toInt.toNat, rfl, hc, zn_nI q0, by omega⟩
  refine zn_ite (fun h => h0 ?_) (fun h => zn_ite (fun h' => h0 ?_) (fun h' => h1 ?_))
  · rw [zn_lt32] at h; rw [iff]; omega
  · rw [zn_le32] at h'; rw [iff]; omega
  · rw [zn_lt32] at h; rw [zn_le32] at h'; rw [iff]; omega
set_option maxRecDepth 20000 in
theorem zm_hasR {c : Nat} {t : Int32} {post : Int32 → Prop} (hc1 : 1 ≤ c) (hc : c ≤ 24) (h1 : zi_t (nI c) t → post 1) (h0 : ¬ zi_t (nI c) t → post 0) : wp_M_in (zq_j_i2l t) 0 (zq_j_i2l (nI c - 1)) post := by
  have l0 : (0 : Int64).toInt = 0 := by decide
  have kt := zn_i2l t
  have kc : (zq_j_i2l (nI c - 1)).toInt = c - 1 := by
    obtain ⟨d, rfl⟩ : ∃ d, c = d + 1 := ⟨c - 1, by omega⟩
    rw [nI_pred, zn_i2l, nI_toInt (by omega)]; omega
  have iff : zi_t (nI c) t ↔ (0 ≤ t.toInt ∧ t.toInt < c) := by
    constructor
    · rintro ⟨c', k, e, _, rfl, hk⟩
      rw [nI_eq (by omega) (by omega)] at e
      subst e
      rw [nI_toInt (by omega)]; omega
    · rintro ⟨q0, q1⟩
      exact ⟨c, t.toInt.toNat, rfl, hc, zn_nI q0, by omega⟩
  refine zm_in (fun q => h1 ?_) (fun q => h0 ?_)
  · rw [iff]; omega
  · rw [iff]; omega
set_option maxRecDepth 20000 in
theorem zi_op_iff {c d e : Nat} {a : Int32} (hc : c ≤ 24) (hd : d ≤ 16) (he : e ≤ 16) : zi_op (nI c) (nI d) (nI e) a ↔ ((0 ≤ a.toInt ∧ a.toInt < c) ∨ (32 ≤ a.toInt ∧ a.toInt < 32 + d) ∨ (64 ≤ a.toInt ∧ a.toInt < 64 + e)) := by
  constructor
  · rintro (⟨c', k, q, _, rfl, hk⟩ | ⟨c', k, q, _, hk, rfl⟩ | ⟨c', k, q, _, hk, rfl⟩)
    · rw [nI_eq (by omega) (by omega)] at q
      subst q
      rw [nI_toInt (by omega)]; omega
    · rw [nI_eq (by omega) (by omega)] at q
      subst q
      rw [nI_toInt (by omega)]; omega
    · rw [nI_eq (by omega) (by omega)] at q
      subst q
      rw [nI_toInt (by omega)]; omega
  · rintro (⟨q0, q1⟩ | ⟨q0, q1⟩ | ⟨q0, q1⟩)
    · exact Or.inl ⟨c, a.toInt.toNat, rfl, hc, zn_nI q0, by omega⟩
    · refine Or.inr (Or.inl ⟨d, a.toInt.toNat - 32, rfl, hd, by omega, ?_⟩)
      rw [show 32 + (a.toInt.toNat - 32) = a.toInt.toNat by omega]
      exact zn_nI (by omega)
    · refine Or.inr (Or.inr ⟨e, a.toInt.toNat - 64, rfl, he, by omega, ?_⟩)
      rw [show 64 + (a.toInt.toNat - 64) = a.toInt.toNat by omega]
      exact zn_nI (by omega)
set_option maxRecDepth 20000 in
theorem zc_has {c d e : Nat} {a : Int32} {post : Int32 → Prop} (hc : c ≤ 24) (hd : d ≤ 16) (he : e ≤ 16) (h1 : zi_op (nI c) (nI d) (nI e) a → post 1) (h0 : ¬ zi_op (nI c) (nI d) (nI e) a → post 0) : wp_Operands_has (nI c) (nI d) (nI e) a post := by
  rw [zi_op_iff hc hd he] at h1 h0
  have k64 : (64 : Int32).toInt = 64 := by decide
  have k32 : (32 : Int32).toInt = 32 := by decide
  have kd : (nI d).toInt = d := nI_toInt (by omega)
  have ke : (nI e).toInt = e := nI_toInt (by omega)
  refine zn_ite (fun q => zn_ite (fun q' => ?_) (fun q' => ?_)) (fun q => ?_)
  · rw [zn_lt32] at q q'
    refine zc_hasR hc (fun z => ⟨Or.inr rfl, h1 ?_⟩) (fun z => ⟨Or.inl rfl, h0 ?_⟩)
    · obtain ⟨c', k, z1, _, rfl, hk⟩ := z
      rw [nI_eq (by omega) (by omega)] at z1
      subst z1
      rw [nI_toInt (by omega)]; omega
    · intro z2
      apply z
      exact ⟨c, a.toInt.toNat, rfl, hc, zn_nI (by omega), by omega⟩
  · rw [zn_lt32] at q q'
    have ej : a = nI (32 + (a.toInt.toNat - 32)) := by rw [show 32 + (a.toInt.toNat - 32) = a.toInt.toNat by omega]; exact zn_nI (by omega)
    have e2 : a - 32 = nI (a.toInt.toNat - 32) := by
      rw [show (32 : Int32) = nI 32 by decide]
      conv => lhs; rw [ej]
      exact zn_subI
    rw [e2]
    refine zn_ite (fun z => h0 ?_) (fun z => h1 ?_)
    · rw [nI_leI (by omega) (by omega)] at z; omega
    · rw [nI_leI (by omega) (by omega)] at z; omega
  · rw [zn_lt32] at q
    have ha := Int32.toInt_lt a
    have ej : a = nI (64 + (a.toInt.toNat - 64)) := by rw [show 64 + (a.toInt.toNat - 64) = a.toInt.toNat by omega]; exact zn_nI (by omega)
    have e2 : a - 64 = nI (a.toInt.toNat - 64) := by
      rw [show (64 : Int32) = nI 64 by decide]
      conv => lhs; rw [ej]
      exact zn_subI
    rw [e2]
    refine zn_ite (fun z => h0 ?_) (fun z => h1 ?_)
    · rw [nI_leI (by omega) (by omega)] at z; omega
    · rw [nI_leI (by omega) (by omega)] at z; omega
set_option maxRecDepth 20000 in
theorem zm_has {gthr gtrn gins glev gkep glvs gkps gwrd gsta gflt gend ghal gwro gwai gwrs ghlt glat glpl : Int32} {gwpl : Int64} {c d e : Nat} {a : Int32} {post : Int32 → Prop} (hc1 : 1 ≤ c) (hc : c ≤ 24) (hd : d ≤ 16) (he : e ≤ 16) (h1 : zi_op (nI c) (nI d) (nI e) a → post 1) (h0 : ¬ zi_op (nI c) (nI d) (nI e) a → post 0) : wp_M_isOperand gthr (nI c) (nI d) (nI e) gtrn gins glev gkep glvs gkps gwrd gsta gflt gend ghal gwro gwai gwpl gwrs ghlt glat glpl a post := by
  rw [zi_op_iff hc hd he] at h1 h0
  have ka := zn_i2l a
  have kd : (zq_j_i2l (31 + nI d)).toInt = 31 + d := by
    rw [show (31 : Int32) = nI 31 by decide, nI_add, zn_i2l, nI_toInt (by omega)]; omega
  have ke : (zq_j_i2l (63 + nI e)).toInt = 63 + e := by
    rw [show (63 : Int32) = nI 63 by decide, nI_add, zn_i2l, nI_toInt (by omega)]; omega
  have kc : (zq_j_i2l (nI c - 1)).toInt = c - 1 := by
    obtain ⟨d, rfl⟩ : ∃ d, c = d + 1 := ⟨c - 1, by omega⟩
    rw [nI_pred, zn_i2l, nI_toInt (by omega)]; omega
  have l0 : (0 : Int64).toInt = 0 := by decide
  have l32 : (32 : Int64).toInt = 32 := by decide
  have l64 : (64 : Int64).toInt = 64 := by decide
  refine zm_in (fun q => zn_if zn_10 (h1 (by omega))) (fun q => zn_it rfl (zm_in (fun q' => zn_if zn_10 (h1 (by omega))) (fun q' => zn_it rfl (zm_in (fun q'' => zn_if zn_10 (h1 (by omega))) (fun q'' => zn_it rfl (h0 (by omega)))))))
