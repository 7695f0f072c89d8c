set_option maxRecDepth 20000 in
theorem zn_lt32 {a b : Int32} : a < b ↔ a.toInt < b.toInt := Int32.lt_iff_toInt_lt
set_option maxRecDepth 20000 in
theorem zn_le32 {a b : Int32} : a ≤ b ↔ a.toInt ≤ b.toInt := Int32.le_iff_toInt_le
set_option maxRecDepth 20000 in
theorem zl_urg {glev : Int32} {gthr greg gcon gfld gtrn gins gkep glvs gkps gwrd gsta gflt gend ghal gwro gwai gwrs ghlt glat glpl : Int32} {gwpl : Int64} {lo lr : Nat → Int32} : ∀ (d j : Nat), 8 - j = d → j ≤ 8 → ∀ (best rank : Int32), ((best = -1 ∧ rank = glev) ∨ (∃ b : Nat, b < 8 ∧ best = nI b ∧ rank = lr b ∧ glev < lr b)) → ∃ r : Int32, (∀ post, post r → wp_Lines_mostUrgent_7 lo lr post (d + 1) best rank (nI j)) ∧ (∀ post, post r → wp_M_waitingLine_4 gthr greg gcon gfld gtrn gins glev gkep glvs gkps gwrd gsta gflt gend ghal gwro gwai gwpl gwrs ghlt glat glpl lo lr post (d + 1) best (nI j)) ∧ (r = -1 ∨ ∃ b : Nat, b < 8 ∧ r = nI b) := by
  intro d
  induction d with
  | zero =>
    intro j hd hj best rank h
    have ej : j = 8 := by omega
    subst ej
    have hle : (8 : Int32) ≤ nI 8 := nI_le (a := 8) (b := 8) (by omega) (by omega)
    refine ⟨best, ?_, ?_, ?_⟩
    · intro post hp
      unfold wp_Lines_mostUrgent_7
      exact zn_it hle hp
    · intro post hp
      unfold wp_M_waitingLine_4
      exact zn_it hle hp
    · rcases h with ⟨q, _⟩ | ⟨b, hb, q, _⟩
      · exact Or.inl q
      · exact Or.inr ⟨b, hb, q⟩
  | succ d ih =>
    intro j hd hj best rank h
    have hlt : ¬ (8 : Int32) ≤ nI j := nI_ge (b := 8) (by omega) (by omega)
    have hin : vp_in (nI j) 8 := vp_in_nI (by omega) (by omega)
    have eN : (nI j).toNatClampNeg = j := nI_clamp (by omega)
    by_cases ho : lo j = 0
    · obtain ⟨r, h1, h2, h3⟩ := ih (j + 1) (by omega) (by omega) best rank h
      refine ⟨r, ?_, ?_, h3⟩
      · intro post hp
        have g := h1 post hp
        unfold wp_Lines_mostUrgent_7
        refine zn_if hlt ⟨hin, zn_it (by rw [eN]; exact ho) ?_⟩
        rw [nI_1]; exact g
      · intro post hp
        have g := h2 post hp
        unfold wp_M_waitingLine_4
        refine zn_if hlt ⟨hin, zn_it (by rw [eN]; exact ho) ?_⟩
        rw [nI_1]; exact g
    by_cases hr : lr j ≤ rank
    · obtain ⟨r, h1, h2, h3⟩ := ih (j + 1) (by omega) (by omega) best rank h
      refine ⟨r, ?_, ?_, h3⟩
      · intro post hp
        have g := h1 post hp
        unfold wp_Lines_mostUrgent_7
        refine zn_if hlt ⟨hin, zn_if (by rw [eN]; exact ho) ⟨hin, zn_it (by rw [eN]; exact hr) ?_⟩⟩
        rw [nI_1]; exact g
      · intro post hp
        have g := h2 post hp
        unfold wp_M_waitingLine_4
        refine zn_if hlt ⟨hin, zn_if (by rw [eN]; exact ho) ⟨hin, ?_⟩⟩
        rw [nI_1]
        by_cases hg : lr j ≤ glev
        · exact zn_it (by rw [eN]; exact hg) g
        · refine zn_if (by rw [eN]; exact hg) ?_
          rcases h with ⟨q, q'⟩ | ⟨b, hb, q, q', q''⟩
          · rw [q'] at hr; exact absurd hr hg
          · have hne : ¬ best = -1 := by
              rw [q]; intro e; have := congrArg Int32.toInt e; rw [nI_toInt (by omega)] at this
              have c0 : (-1 : Int32).toInt = -1 := by decide
              omega
            refine zn_if hne ⟨hin, by rw [q]; exact vp_in_nI (by omega) (by omega), zn_it ?_ g⟩
            rw [eN, q, nI_clamp (by omega), ← q']
            exact hr
    · have hgl : glev < lr j := by
        rw [zn_le32] at hr
        rw [zn_lt32]
        rcases h with ⟨q, q'⟩ | ⟨b, hb, q, q', q''⟩
        · rw [q'] at hr; omega
        · rw [q'] at hr; rw [zn_lt32] at q''; omega
      have hgl' : ¬ lr j ≤ glev := by rw [zn_le32]; rw [zn_lt32] at hgl; omega
      obtain ⟨r, h1, h2, h3⟩ := ih (j + 1) (by omega) (by omega) (nI j) (lr j) (Or.inr ⟨j, by omega, rfl, rfl, hgl⟩)
      refine ⟨r, ?_, ?_, h3⟩
      · intro post hp
        have g := h1 post hp
        unfold wp_Lines_mostUrgent_7
        refine zn_if hlt ⟨hin, zn_if (by rw [eN]; exact ho) ⟨hin, zn_if (by rw [eN]; exact hr) ⟨hin, ?_⟩⟩⟩
        rw [nI_1, eN]; exact g
      · intro post hp
        have g := h2 post hp
        unfold wp_M_waitingLine_4
        refine zn_if hlt ⟨hin, zn_if (by rw [eN]; exact ho) ⟨hin, zn_if (by rw [eN]; exact hgl') ?_⟩⟩
        rw [nI_1]
        rcases h with ⟨q, q'⟩ | ⟨b, hb, q, q', q''⟩
        · exact zn_it q g
        · have hne : ¬ best = -1 := by
            rw [q]; intro e; have := congrArg Int32.toInt e; rw [nI_toInt (by omega)] at this
            have c0 : (-1 : Int32).toInt = -1 := by decide
            omega
          refine zn_if hne ⟨hin, by rw [q]; exact vp_in_nI (by omega) (by omega), zn_if ?_ g⟩
          rw [eN, q, nI_clamp (by omega), ← q']
          exact hr
set_option maxRecDepth 20000 in
theorem zl_find {gwrd : Int32} {gthr greg gcon gfld gtrn glev gkep glvs gkps gsta gflt gend ghal gwro gwai gwrs ghlt glat glpl : Int32} {gwpl : Int64} {ptn : Int32} {pm pv : Nat → Int32} {p : Nat} (hp40 : p ≤ 40) : ∀ (d j : Nat), p - j = d → j ≤ p → ∃ r : Int32, (∀ post, post r → wp_Program_find_2 ptn (nI p) pm pv post (d + 1) gwrd (nI j)) ∧ (∀ post, post r → wp_M_find_2 gthr greg gcon gfld gtrn (nI p) glev gkep glvs gkps gwrd gsta gflt gend ghal gwro gwai gwpl gwrs ghlt glat glpl pm pv post (d + 1) (nI j)) ∧ (r = -1 ∨ ∃ b : Nat, b < p ∧ r = nI b) := by
  intro d
  induction d with
  | zero =>
    intro j hd hj
    have ej : j = p := by omega
    subst ej
    refine ⟨-1, ?_, ?_, Or.inl rfl⟩
    · intro post hp
      unfold wp_Program_find_2
      exact zn_it (nI_le (Nat.le_refl _) (by omega)) hp
    · intro post hp
      unfold wp_M_find_2
      exact zn_it (nI_le (Nat.le_refl _) (by omega)) hp
  | succ d ih =>
    intro j hd hj
    have hlt : ¬ nI p ≤ nI j := nI_ge (by omega) (by omega)
    have hin : vp_in (nI j) 40 := vp_in_nI (by omega) (by omega)
    by_cases he : (gwrd &&& pm (nI j).toNatClampNeg) = pv (nI j).toNatClampNeg
    · refine ⟨nI j, ?_, ?_, Or.inr ⟨j, by omega, rfl⟩⟩
      · intro post hp
        unfold wp_Program_find_2
        exact zn_if hlt ⟨hin, hin, zn_it he hp⟩
      · intro post hp
        unfold wp_M_find_2
        exact zn_if hlt ⟨hin, hin, zn_it he hp⟩
    · obtain ⟨r, h1, h2, h3⟩ := ih (j + 1) (by omega) (by omega)
      refine ⟨r, ?_, ?_, h3⟩
      · intro post hp
        have g := h1 post hp
        unfold wp_Program_find_2
        refine zn_if hlt ⟨hin, hin, zn_if he ?_⟩
        rw [nI_1]; exact g
      · intro post hp
        have g := h2 post hp
        unfold wp_M_find_2
        refine zn_if hlt ⟨hin, hin, zn_if he ?_⟩
        rw [nI_1]; exact g
set_option maxRecDepth 20000 in
theorem zi_R.p0 {rn : Int32} {rc rv : Nat → Int64} {rm awid : Nat → Int32} (h : zi_R rn rc rv rm awid) : ∃ p : Nat, p < 65536 ∧ zq_j_l2i (rv 0) = nI p ∧ rv 0 = zq_j_i2l (nI p) := by
  have hv := (h.vt h.t0).1
  rw [show (0 : Int32).toNatClampNeg = 0 by decide, h.rc0] at hv
  have hN : zn_N (rv 0) < 65536 := by
    unfold zn_N
    rw [← hv, Int64.toBitVec_and, BitVec.toNat_and, show (65535 : Int64).toBitVec.toNat = 2 ^ 16 - 1 by decide, Nat.and_two_pow_sub_one_eq_mod]
    omega
  have e := zn_toInt (rv 0)
  rw [if_pos (by omega)] at e
  refine ⟨zn_N (rv 0), hN, ?_, ?_⟩
  · rw [zn_l2i (by omega) (by omega)]
    congr 1
    omega
  · apply Int64.toInt_inj.mp
    rw [zn_i2l, nI_toInt (by omega)]
    omega
set_option maxRecDepth 20000 in
theorem zn_pc {p : Nat} (h : p < 65536) : nI p &&& 65535 = nI p := by
  apply Int32.toBitVec_inj.mp
  apply BitVec.eq_of_toNat_eq
  rw [Int32.toBitVec_and, BitVec.toNat_and]
  have e1 : (nI p).toBitVec.toNat = p := by
    show (BitVec.ofNat 32 p).toNat = p
    rw [BitVec.toNat_ofNat]; omega
  rw [e1, show (65535 : Int32).toBitVec.toNat = 2 ^ 16 - 1 by decide, Nat.and_two_pow_sub_one_eq_mod]
  omega
set_option maxRecDepth 20000 in
theorem zf_updL_o {f : Nat → Int64} {k : Nat} {x y : Int64} : vp_updL (vp_updL f k x) k y = vp_updL f k y := by
  funext j; unfold vp_updL; split <;> rfl
set_option maxRecDepth 20000 in
theorem zf_upd_o {f : Nat → Int32} {k : Nat} {x y : Int32} : upd (upd f k x) k y = upd f k y := by
  funext j; unfold upd; split <;> rfl
set_option maxRecDepth 20000 in
theorem zf_updself {f : Nat → Int32} {k : Nat} {x : Int32} (h : x = f k) : upd f k x = f := by
  funext j
  unfold upd
  by_cases e : j = k
  · rw [if_pos e, h, e]
  · rw [if_neg e]
set_option maxRecDepth 20000 in
theorem zn_00 : (0 : Int32).toNatClampNeg = 0 := by decide
set_option maxRecDepth 20000 in
theorem zc_move {rn : Int32} {rc rv : Nat → Int64} {rm awid : Nat → Int32} {p : Nat} {post : (Nat → Int64) → (Nat → Int32) → Prop} (hR : zi_R rn rc rv rm awid) (hp : p < 65536) (h : post (vp_updL rv 0 (zq_j_i2l (nI p))) rm) : wp_Registers_movePlace rn rc rv rm (nI p) post := by
  have h0 : vp_in 0 24 := hR.t0.in
  refine ⟨h0, h0, h0, ?_⟩
  have hb := (hR.vt hR.t0).2
  rw [zn_00] at hb ⊢
  rw [hR.pl (by rw [nI_toInt (by omega)]; omega) (by rw [nI_toInt (by omega)]; omega), zn_bool hb, zf_updself rfl]
  exact h
set_option maxRecDepth 20000 in
theorem zi_R.moved {rn : Int32} {rc rv : Nat → Int64} {rm awid : Nat → Int32} {p : Nat} (hR : zi_R rn rc rv rm awid) (hp : p < 65536) : zi_R rn rc (vp_updL rv 0 (zq_j_i2l (nI p))) rm awid := by
  have hb := (hR.vt hR.t0).2
  have g := hR.put hR.t0 (zq_j_i2l (nI p)) hb
  rw [zn_00] at g hb
  rw [hR.pl (by rw [nI_toInt (by omega)]; omega) (by rw [nI_toInt (by omega)]; omega), zn_bool hb, zf_updself rfl] at g
  exact g
set_option maxRecDepth 20000 in
theorem zi_R.put0 {rn : Int32} {rc rv : Nat → Int64} {rm awid : Nat → Int32} {p : Nat} (hR : zi_R rn rc rv rm awid) (hp : p < 65536) : zi_R rn rc (vp_updL rv 0 (zq_j_i2l (nI p))) (upd rm 0 (vp_nar .boolean 0)) awid := by
  have g := hR.put hR.t0 (zq_j_i2l (nI p)) (m := 0) (Or.inl rfl)
  rw [zn_00, hR.pl (by rw [nI_toInt (by omega)]; omega) (by rw [nI_toInt (by omega)]; omega)] at g
  exact g
set_option maxRecDepth 20000 in
theorem zc_put0 {rn : Int32} {rc rv : Nat → Int64} {rm awid : Nat → Int32} {p : Nat} {post : (Nat → Int64) → (Nat → Int32) → Prop} (hR : zi_R rn rc rv rm awid) (hp : p < 65536) (h : post (vp_updL rv 0 (zq_j_i2l (nI p))) (upd rm 0 (vp_nar .boolean 0))) : wp_Registers_put rn rc rv rm 0 (zq_j_i2l (nI p)) 0 post := by
  have h0 : vp_in 0 24 := hR.t0.in
  refine ⟨h0, h0, h0, ?_⟩
  rw [zn_00, hR.pl (by rw [nI_toInt (by omega)]; omega) (by rw [nI_toInt (by omega)]; omega)]
  exact h
set_option maxRecDepth 20000 in
theorem zi_K.keep {c p : Nat} {kp : Nat → Int32} (hK : zi_K (nI c) kp) (hc : c < 8) (hp : p < 65536) : zi_K (nI c + 1) (upd kp c (nI p)) := by
  obtain ⟨c', e, h1, h2⟩ := hK
  refine ⟨c + 1, nI_1 c, by omega, ?_⟩
  intro k
  by_cases q : k = c
  · subst q; rw [zf_upds, nI_toInt (by omega)]; omega
  · rw [zf_updb' q]; exact h2 k
set_option maxRecDepth 20000 in
theorem zl_fail {gthr greg gcon gfld gtrn gins glvs gkps gwrd gflt gend ghal gwro gwai gwrs glat glpl : Int32} {gwpl : Int64} {rn kn kv mw mh mk mp : Int32} {rc rv aval : Nat → Int64} {rm amrk awid kp kl cn : Nat → Int32} {k p : Nat} (hk : k ≤ 15) (hp : p < 65536) (hR : zi_R rn rc rv rm awid) (hK : zi_K kn kp) (hv : ∃ x, aval = vp_updL rv 0 x) (hm : amrk = rm ∨ (kn.toInt ≤ 7 ∧ ∃ y, amrk = upd rm 0 y)) : ∃ (rv1 : Nat → Int64) (rm1 kp1 kl1 cn1 : Nat → Int32) (kn1 kv1 : Int32) (full : Prop), (full ∨ ¬ full) ∧ (full → ∀ mh' post, post rv1 rm1 kn1 kv1 kp1 kl1 (-1) 2 (nI k) (nI p) cn1 → wp_Machine_failWith rn rc rv rm kn kv kp kl mw mh' mk mp cn (nI k) (nI p) post) ∧ (¬ full → ∀ mh' post, post rv1 rm1 kn1 kv1 kp1 kl1 (-1) mh' (nI k) (nI p) cn1 → wp_Machine_failWith rn rc rv rm kn kv kp kl mw mh' mk mp cn (nI k) (nI p) post) ∧ (full → ∀ post, post kv1 kn1 0 2 (nI k) (nI p) rv1 rm1 kp1 kl1 cn1 → wp_M_takeFault gthr greg gcon gfld gtrn gins kv kn glvs gkps gwrd (nI p) gflt gend ghal gwro gwai gwpl gwrs mh glat glpl aval amrk kp kl cn (nI k) post) ∧ (¬ full → ∀ post, post kv1 kn1 0 mh (nI k) (nI p) rv1 rm1 kp1 kl1 cn1 → wp_M_takeFault gthr greg gcon gfld gtrn gins kv kn glvs gkps gwrd (nI p) gflt gend ghal gwro gwai gwpl gwrs mh glat glpl aval amrk kp kl cn (nI k) post) ∧ zi_R rn rc rv1 rm1 awid ∧ zi_K kn1 kp1 := by
  obtain ⟨x, rfl⟩ := hv
  have hK' := hK
  obtain ⟨c, rfl, hc, hkp⟩ := hK
  have e4 : 4 * nI k = nI (4 * k) := by
    have : ∀ k : Nat, k < 16 → 4 * nI k = nI (4 * k) := by decide +kernel
    exact this k (by omega)
  by_cases h8 : c = 8
  · subst h8
    have hm' : amrk = rm := by
      rcases hm with q | ⟨q, _⟩
      · exact q
      · exact absurd q (by decide)
    subst hm'
    refine ⟨vp_updL rv 0 (zq_j_i2l (nI p)), amrk, kp, kl, upd cn 2 (cn 2 + 1), nI 8, kv, True, Or.inl trivial, ?_, fun h => absurd trivial h, ?_, fun h => absurd trivial h, hR.moved hp, hK'⟩
    · intro _ mh' post h
      unfold wp_Machine_failWith wp_Machine_loseWaiting wp_Kept_isFull
      exact zn_if (by decide) (zn_if (by decide) (zc_move hR hp h))
    · intro _ post h
      unfold wp_M_takeFault
      refine zn_it (by decide) ?_
      rw [zf_updL_o]
      exact h
  · have hin : vp_in (nI c) 8 := vp_in_nI (by omega) (by omega)
    have hne : ¬ nI c = 8 := by rw [show (8 : Int32) = nI 8 by decide, nI_eq (by omega) (by omega)]; exact h8
    have hm' : upd amrk 0 (vp_nar .boolean 0) = upd rm 0 (vp_nar .boolean 0) := by
      rcases hm with q | ⟨_, y, q⟩
      · rw [q]
      · rw [q, zf_upd_o]
    refine ⟨vp_updL rv 0 (zq_j_i2l (nI (4 * k))), upd rm 0 (vp_nar .boolean 0), upd kp c (nI p), upd kl c kv, upd cn 2 (cn 2 + 1), nI c + 1, 15, False, Or.inr id, fun h => h.elim, ?_, fun h => h.elim, ?_, hR.put0 (by omega), hK'.keep (by omega) hp⟩
    · intro _ mh' post h
      unfold wp_Machine_failWith wp_Machine_loseWaiting wp_Kept_isFull
      refine zn_it (nI_lt (b := 8) (by omega) (by omega)) (zn_it rfl ⟨hin, hin, ?_⟩)
      rw [e4, nI_clamp (by omega)]
      exact zc_put0 hR (by omega) h
    · intro _ post h
      unfold wp_M_takeFault
      refine zn_if hne ⟨hin, hin, ?_⟩
      rw [e4, nI_clamp (by omega), zf_updL_o, hm']
      exact h
set_option maxRecDepth 20000 in
theorem zl_intr {gthr greg gcon gfld gtrn gins glvs gkps gwrd gsta gflt gend ghal gwro gwai gwrs glat glpl : Int32} {gwpl : Int64} {rn kn kv mw mh mk mp : Int32} {rc rv : Nat → Int64} {rm awid kp kl lr cn : Nat → Int32} {u : Nat} (hu : u < 8) (hR : zi_R rn rc rv rm awid) (hK : zi_K kn kp) : ∃ (rv1 : Nat → Int64) (rm1 kp1 kl1 cn1 : Nat → Int32) (kn1 kv1 mh1 : Int32), (∀ post, post rv1 rm1 kn1 kv1 kp1 kl1 (-1) mh1 cn1 → wp_Machine_interruptBy rn rc rv rm kn kv kp kl lr mw mh mk mp cn (nI u) post) ∧ ((cn1 = cn ∧ (∀ post, post 0 kv1 kn1 mh1 rv1 rm1 kp1 kl1 → wp_M_keep gthr greg gcon gfld gtrn gins kv kn glvs gkps gwrd gsta gflt gend ghal gwro gwai gwpl gwrs mh glat glpl rv rm kp kl (zq_j_l2i (rv 0)) (lr (nI u).toNatClampNeg) (64 + 4 * nI u) post)) ∨ (cn1 = upd cn 3 (cn 3 + 1) ∧ (∀ post, post 1 kv1 kn1 mh1 rv1 rm1 kp1 kl1 → wp_M_keep gthr greg gcon gfld gtrn gins kv kn glvs gkps gwrd gsta gflt gend ghal gwro gwai gwpl gwrs mh glat glpl rv rm kp kl (zq_j_l2i (rv 0)) (lr (nI u).toNatClampNeg) (64 + 4 * nI u) post))) ∧ zi_R rn rc rv1 rm1 awid ∧ zi_K kn1 kp1 := by
  have hK' := hK
  obtain ⟨c, rfl, hc, hkp⟩ := hK
  obtain ⟨p, hp, ep, ev⟩ := hR.p0
  have e4 : 64 + 4 * nI u = nI (64 + 4 * u) := by
    have : ∀ k : Nat, k < 8 → 64 + 4 * nI k = nI (64 + 4 * k) := by decide +kernel
    exact this u (by omega)
  by_cases h8 : c = 8
  · subst h8
    refine ⟨rv, rm, kp, kl, cn, nI 8, kv, 2, ?_, Or.inl ⟨rfl, ?_⟩, hR, hK'⟩
    · intro post h
      unfold wp_Machine_interruptBy wp_Machine_loseWaiting wp_Kept_isFull
      exact zn_if (by decide) (zn_if (by decide) h)
    · intro post h
      refine zn_it (by decide) ?_
      rw [ep, zf_updLself ev.symm]
      exact h
  · have hin : vp_in (nI c) 8 := vp_in_nI (by omega) (by omega)
    have hne : ¬ nI c = 8 := by rw [show (8 : Int32) = nI 8 by decide, nI_eq (by omega) (by omega)]; exact h8
    refine ⟨vp_updL rv 0 (zq_j_i2l (nI (64 + 4 * u))), upd rm 0 (vp_nar .boolean 0), upd kp c (nI p), upd kl c kv, upd cn 3 (cn 3 + 1), nI c + 1, lr (nI u).toNatClampNeg, mh, ?_, Or.inr ⟨rfl, ?_⟩, hR.put0 (by omega), hK'.keep (by omega) hp⟩
    · intro post h
      unfold wp_Machine_interruptBy wp_Machine_loseWaiting wp_Kept_isFull wp_Registers_placeNow wp_Lines_rankOf
      refine zn_it (nI_lt (b := 8) (by omega) (by omega)) (zn_it rfl ⟨vp_in_nI hu (by omega), hin, hin, ?_⟩)
      rw [e4, nI_clamp (n := c) (by omega), ep]
      exact zc_put0 hR (by omega) h
    · intro post h
      refine zn_if hne ⟨hin, hin, ?_⟩
      rw [e4, nI_clamp (n := c) (by omega), ep]
      exact h
def zi_w (mw gwai : Int32) (gwpl : Int64) : Prop := (mw = -1 ∧ gwai = 0) ∨ (gwai = 1 ∧ gwpl = zq_j_i2l mw ∧ ∃ p : Nat, p < 65536 ∧ mw = nI p)
set_option maxRecDepth 20000 in
theorem zl_settle {gthr greg gcon gfld gtrn gins glev gkep glvs gkps gwrd gflt gend ghal gwrs ghlt glat glpl : Int32} {rn mw mh mk mp gwai xw xp xr xq xe xh xb i : Int32} {gwpl : Int64} {rc rv : Nat → Int64} {rm awid pw : Nat → Int32} {p h : Nat} (hi : vp_in i 40) (hh : h < 8) (hpw : pw i.toNatClampNeg = nI h) (hp : p + 2 < 65536) (hR : zi_R rn rc rv rm awid) (hq : zq_bz xq) (hw : zi_w mw gwai gwpl) : ∃ (rv1 : Nat → Int64) (mw1 gwai1 : Int32) (gwpl1 : Int64), (∀ post, post rv1 rm mw1 → wp_Machine_settlePlace rn rc rv rm xw xp xr xq xe xh xb mw mh mk mp (nI p + 2) (zf_is pw i 4) post) ∧ (∀ post, post gwai1 gwpl1 rv1 → wp_M_comePlace gthr greg gcon gfld gtrn gins glev gkep glvs gkps gwrd (nI p) gflt gend ghal xq gwai gwpl gwrs ghlt glat glpl rv pw i post) ∧ zi_R rn rc rv1 rm awid ∧ zi_w mw1 gwai1 gwpl1 := by
  have e2 : nI p + 2 = nI (p + 2) := nI_add p 2
  have hhow := (zn_how h hh).2.2
  rw [← hpw] at hhow
  unfold wp_Machine_settlePlace wp_Machine_loseWaiting wp_M_comePlace wp_M_comePlace_22 wp_M_comePlace_23 wp_M_comePlace_79 wp_Registers_placeNow
  rcases hq with rfl | rfl
  · rcases hw with ⟨rfl, rfl⟩ | ⟨rfl, rfl, q, hq, rfl⟩
    · exact ⟨rv, -1, 0, rv 0, fun post h => zn_it rfl (zn_it rfl h), fun post h => zn_it rfl (zn_it rfl (zn_it rfl ⟨Or.inl rfl, h⟩)), hR, Or.inl ⟨rfl, rfl⟩⟩
    · have hne : ¬ nI q = -1 := by
        intro e; have := congrArg Int32.toInt e; rw [nI_toInt (by omega)] at this
        have c0 : (-1 : Int32).toInt = -1 := by decide
        omega
      exact ⟨vp_updL rv 0 (zq_j_i2l (nI q)), -1, 0, rv 0, fun post h => zn_it rfl (zn_if hne (zc_move hR hq h)), fun post h => zn_it rfl (zn_it rfl (zn_if (by decide) (zn_it rfl ⟨Or.inl rfl, h⟩))), hR.moved hq, Or.inl ⟨rfl, rfl⟩⟩
  · by_cases hd : (pw i.toNatClampNeg &&& 4) = 0
    · have hz : zf_is pw i 4 = 0 := if_pos hd
      rw [hz]
      refine ⟨rv, -1, 0, rv 0, fun post h => zn_if (by decide) (zn_it rfl h), fun post h => zn_if (by decide) ⟨hi, zn_it (hhow.mpr hd) (zn_it rfl ?_)⟩, hR, Or.inl ⟨rfl, rfl⟩⟩
      rcases hw with ⟨rfl, rfl⟩ | ⟨rfl, rfl, q, hq, rfl⟩
      · exact zn_it rfl ⟨Or.inl rfl, h⟩
      · exact zn_if (by decide) (zn_if (by decide) ⟨Or.inl rfl, h⟩)
    · have hz : zf_is pw i 4 = 1 := if_neg hd
      rw [hz, e2]
      obtain ⟨q, hq, eq1, eq2⟩ := hR.p0
      refine ⟨vp_updL rv 0 (zq_j_i2l (nI (p + 2))), nI q, 1, rv 0, fun post h => zn_if (by decide) (zn_if (by decide) ?_), fun post h => zn_if (by decide) ⟨hi, zn_if (fun g => hd (hhow.mp g)) (zn_if (by decide) ⟨Or.inr rfl, ?_⟩)⟩, hR.moved hp, Or.inr ⟨rfl, eq2, q, hq, rfl⟩⟩
      · rw [eq1]
        exact zc_move hR hp h
      · rw [zn_pc hp]
        exact h
