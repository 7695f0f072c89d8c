set_option maxRecDepth 20000 in
theorem zn_op {x : Int32} (h0 : 0 ≤ x.toInt) (h1 : x.toInt ≤ 22) : x = 0 ∨ x = 1 ∨ x = 2 ∨ x = 3 ∨ x = 4 ∨ x = 5 ∨ x = 6 ∨ x = 7 ∨ x = 8 ∨ x = 9 ∨ x = 10 ∨ x = 11 ∨ x = 12 ∨ x = 13 ∨ x = 14 ∨ x = 15 ∨ x = 16 ∨ x = 17 ∨ x = 18 ∨ x = 19 ∨ x = 20 ∨ x = 21 ∨ x = 22 := by
  obtain ⟨j, hj, rfl⟩ : ∃ j : Nat, j ≤ 22 ∧ x = nI j := ⟨x.toInt.toNat, by omega, by apply Int32.toInt_inj.mp; rw [nI_toInt (by omega)]; omega⟩
  have : ∀ j : Nat, j < 23 → (nI j = 0 ∨ nI j = 1 ∨ nI j = 2 ∨ nI j = 3 ∨ nI j = 4 ∨ nI j = 5 ∨ nI j = 6 ∨ nI j = 7 ∨ nI j = 8 ∨ nI j = 9 ∨ nI j = 10 ∨ nI j = 11 ∨ nI j = 12 ∨ nI j = 13 ∨ nI j = 14 ∨ nI j = 15 ∨ nI j = 16 ∨ nI j = 17 ∨ nI j = 18 ∨ nI j = 19 ∨ nI j = 20 ∨ nI j = 21 ∨ nI j = 22) := by decide +kernel
  exact this j (by omega)
set_option maxRecDepth 20000 in
theorem zn_simple {op : Int32} {a b : Int64} (h : op = 0 ∨ op = 1 ∨ op = 2 ∨ op = 3 ∨ op = 6 ∨ op = 7 ∨ op = 8 ∨ op = 9 ∨ op = 10 ∨ op = 11 ∨ op = 12) : ∃ q : Int64, (∀ post : Int64 → Prop, post q → wp_Work_result op a b post) ∧ (∀ post : Int64 → Prop, post q → wp_M_simple op a b post) := by
  unfold wp_Work_result wp_M_simple
  rcases h with rfl | rfl | rfl | rfl | rfl | rfl | rfl | rfl | rfl | rfl | rfl
  · exact ⟨a, fun post h => zn_if (by decide) (zn_if (by decide) (zn_if (by decide) (zn_if (by decide) (zn_if (by decide) (zn_if (by decide) (zn_if (by decide) (zn_if (by decide) (zn_if (by decide) (zn_if (by decide) (zn_if (by decide) (zn_if (by decide) (h)))))))))))), fun post h => zn_it (by decide) (h)⟩
  · exact ⟨a + b, fun post h => zn_it (by decide) (h), fun post h => zn_if (by decide) (zn_it (by decide) (h))⟩
  · exact ⟨a - b, fun post h => zn_if (by decide) (zn_it (by decide) (h)), fun post h => zn_if (by decide) (zn_if (by decide) (zn_it (by decide) (h)))⟩
  · exact ⟨a * b, fun post h => zn_if (by decide) (zn_if (by decide) (zn_it (by decide) (h))), fun post h => zn_if (by decide) (zn_if (by decide) (zn_if (by decide) (zn_it (by decide) (h))))⟩
  · exact ⟨a &&& b, fun post h => zn_if (by decide) (zn_if (by decide) (zn_if (by decide) (zn_if (by decide) (zn_if (by decide) (zn_it (by decide) (h)))))), fun post h => zn_if (by decide) (zn_if (by decide) (zn_if (by decide) (zn_if (by decide) (zn_if (by decide) (zn_if (by decide) (zn_it (by decide) (h)))))))⟩
  · exact ⟨a ||| b, fun post h => zn_if (by decide) (zn_if (by decide) (zn_if (by decide) (zn_if (by decide) (zn_if (by decide) (zn_if (by decide) (zn_it (by decide) (h))))))), fun post h => zn_if (by decide) (zn_if (by decide) (zn_if (by decide) (zn_if (by decide) (zn_if (by decide) (zn_if (by decide) (zn_if (by decide) (zn_it (by decide) (h))))))))⟩
  · exact ⟨a ^^^ b, fun post h => zn_if (by decide) (zn_if (by decide) (zn_if (by decide) (zn_if (by decide) (zn_if (by decide) (zn_if (by decide) (zn_if (by decide) (zn_it (by decide) (h)))))))), fun post h => zn_if (by decide) (zn_if (by decide) (zn_if (by decide) (zn_if (by decide) (zn_if (by decide) (zn_if (by decide) (zn_if (by decide) (zn_if (by decide) (zn_it (by decide) (h)))))))))⟩
  · by_cases h1 : b < 0
    · exact ⟨0, fun post h => zn_if (by decide) (zn_if (by decide) (zn_if (by decide) (zn_if (by decide) (zn_if (by decide) (zn_if (by decide) (zn_if (by decide) (zn_if (by decide) (zn_it (by decide) (zn_it h1 h))))))))), fun post h => zn_if (by decide) (zn_if (by decide) (zn_if (by decide) (zn_if (by decide) (zn_if (by decide) (zn_if (by decide) (zn_if (by decide) (zn_if (by decide) (zn_if (by decide) (zn_it (by decide) (zn_it h1 (zn_it rfl h)))))))))))⟩
    by_cases h2 : 63 < b
    · exact ⟨0, fun post h => zn_if (by decide) (zn_if (by decide) (zn_if (by decide) (zn_if (by decide) (zn_if (by decide) (zn_if (by decide) (zn_if (by decide) (zn_if (by decide) (zn_it (by decide) (zn_if h1 (zn_it h2 h)))))))))), fun post h => zn_if (by decide) (zn_if (by decide) (zn_if (by decide) (zn_if (by decide) (zn_if (by decide) (zn_if (by decide) (zn_if (by decide) (zn_if (by decide) (zn_if (by decide) (zn_it (by decide) (zn_if h1 (zn_it h2 (zn_it rfl h))))))))))))⟩
    · exact ⟨zq_j_lshl a (zq_j_l2i b), fun post h => zn_if (by decide) (zn_if (by decide) (zn_if (by decide) (zn_if (by decide) (zn_if (by decide) (zn_if (by decide) (zn_if (by decide) (zn_if (by decide) (zn_it (by decide) (zn_if h1 (zn_if h2 h)))))))))), fun post h => zn_if (by decide) (zn_if (by decide) (zn_if (by decide) (zn_if (by decide) (zn_if (by decide) (zn_if (by decide) (zn_if (by decide) (zn_if (by decide) (zn_if (by decide) (zn_it (by decide) (zn_if h1 (zn_if h2 (zn_if (by decide) h))))))))))))⟩
  · by_cases h1 : b < 0
    · exact ⟨0, fun post h => zn_if (by decide) (zn_if (by decide) (zn_if (by decide) (zn_if (by decide) (zn_if (by decide) (zn_if (by decide) (zn_if (by decide) (zn_if (by decide) (zn_if (by decide) (zn_it (by decide) (zn_it h1 h)))))))))), fun post h => zn_if (by decide) (zn_if (by decide) (zn_if (by decide) (zn_if (by decide) (zn_if (by decide) (zn_if (by decide) (zn_if (by decide) (zn_if (by decide) (zn_if (by decide) (zn_if (by decide) (zn_it (by decide) (zn_it h1 (zn_it rfl h))))))))))))⟩
    by_cases h2 : 63 < b
    · exact ⟨0, fun post h => zn_if (by decide) (zn_if (by decide) (zn_if (by decide) (zn_if (by decide) (zn_if (by decide) (zn_if (by decide) (zn_if (by decide) (zn_if (by decide) (zn_if (by decide) (zn_it (by decide) (zn_if h1 (zn_it h2 h))))))))))), fun post h => zn_if (by decide) (zn_if (by decide) (zn_if (by decide) (zn_if (by decide) (zn_if (by decide) (zn_if (by decide) (zn_if (by decide) (zn_if (by decide) (zn_if (by decide) (zn_if (by decide) (zn_it (by decide) (zn_if h1 (zn_it h2 (zn_it rfl h)))))))))))))⟩
    · exact ⟨zq_j_lushr a (zq_j_l2i b), fun post h => zn_if (by decide) (zn_if (by decide) (zn_if (by decide) (zn_if (by decide) (zn_if (by decide) (zn_if (by decide) (zn_if (by decide) (zn_if (by decide) (zn_if (by decide) (zn_it (by decide) (zn_if h1 (zn_if h2 h))))))))))), fun post h => zn_if (by decide) (zn_if (by decide) (zn_if (by decide) (zn_if (by decide) (zn_if (by decide) (zn_if (by decide) (zn_if (by decide) (zn_if (by decide) (zn_if (by decide) (zn_if (by decide) (zn_it (by decide) (zn_if h1 (zn_if h2 (zn_if (by decide) h)))))))))))))⟩
  · by_cases h1 : b + zq_min ≤ a + zq_min
    · exact ⟨0, fun post h => zn_if (by decide) (zn_if (by decide) (zn_if (by decide) (zn_if (by decide) (zn_if (by decide) (zn_if (by decide) (zn_if (by decide) (zn_if (by decide) (zn_if (by decide) (zn_if (by decide) (zn_it (by decide) (by rw [zn_below]; exact zn_it h1 (zn_it rfl h)))))))))))), fun post h => zn_if (by decide) (zn_if (by decide) (zn_if (by decide) (zn_if (by decide) (zn_if (by decide) (zn_if (by decide) (zn_if (by decide) (zn_if (by decide) (zn_if (by decide) (zn_if (by decide) (zn_if (by decide) (zn_it (by decide) (zn_it h1 (zn_it rfl h)))))))))))))⟩
    · exact ⟨1, fun post h => zn_if (by decide) (zn_if (by decide) (zn_if (by decide) (zn_if (by decide) (zn_if (by decide) (zn_if (by decide) (zn_if (by decide) (zn_if (by decide) (zn_if (by decide) (zn_if (by decide) (zn_it (by decide) (by rw [zn_below]; exact zn_if h1 (zn_if (by decide) h)))))))))))), fun post h => zn_if (by decide) (zn_if (by decide) (zn_if (by decide) (zn_if (by decide) (zn_if (by decide) (zn_if (by decide) (zn_if (by decide) (zn_if (by decide) (zn_if (by decide) (zn_if (by decide) (zn_if (by decide) (zn_it (by decide) (zn_if h1 (zn_if (by decide) h)))))))))))))⟩
  · by_cases h1 : a = b
    · exact ⟨1, fun post h => zn_if (by decide) (zn_if (by decide) (zn_if (by decide) (zn_if (by decide) (zn_if (by decide) (zn_if (by decide) (zn_if (by decide) (zn_if (by decide) (zn_if (by decide) (zn_if (by decide) (zn_if (by decide) (zn_it (by decide) (zn_it h1 h)))))))))))), fun post h => zn_if (by decide) (zn_if (by decide) (zn_if (by decide) (zn_if (by decide) (zn_if (by decide) (zn_if (by decide) (zn_if (by decide) (zn_if (by decide) (zn_if (by decide) (zn_if (by decide) (zn_if (by decide) (zn_if (by decide) (zn_it h1 h))))))))))))⟩
    · exact ⟨0, fun post h => zn_if (by decide) (zn_if (by decide) (zn_if (by decide) (zn_if (by decide) (zn_if (by decide) (zn_if (by decide) (zn_if (by decide) (zn_if (by decide) (zn_if (by decide) (zn_if (by decide) (zn_if (by decide) (zn_it (by decide) (zn_if h1 h)))))))))))), fun post h => zn_if (by decide) (zn_if (by decide) (zn_if (by decide) (zn_if (by decide) (zn_if (by decide) (zn_if (by decide) (zn_if (by decide) (zn_if (by decide) (zn_if (by decide) (zn_if (by decide) (zn_if (by decide) (zn_if (by decide) (zn_if h1 h))))))))))))⟩
def zi_F (ofn : Int32) (ofr oto : Nat → Int32) : Prop := ∃ c : Nat, c ≤ 16 ∧ ofn = nI c ∧ ∀ k, k < c → ∃ f t : Nat, ofr k = nI f ∧ oto k = nI t ∧ f ≤ t ∧ t < 16
def zi_op (rn ocn ofn a : Int32) : Prop := zi_t rn a ∨ (∃ c k : Nat, ocn = nI c ∧ c ≤ 16 ∧ k < c ∧ a = nI (32 + k)) ∨ (∃ c k : Nat, ofn = nI c ∧ c ≤ 16 ∧ k < c ∧ a = nI (64 + k))
set_option maxRecDepth 20000 in
theorem zn_s32 : ∀ k : Nat, k < 16 → nI (32 + k) - 32 = nI k := by decide +kernel
set_option maxRecDepth 20000 in
theorem zn_s64 : ∀ k : Nat, k < 16 → nI (64 + k) - 64 = nI k := by decide +kernel
set_option maxRecDepth 20000 in
theorem zi_t.lt {rn t : Int32} (h : zi_t rn t) : t < 32 ∧ t < 64 ∧ ¬ 32 ≤ t := by
  obtain ⟨c, k, rfl, hc, rfl, hk⟩ := h
  exact ⟨nI_lt (b := 32) (by omega) (by omega), nI_lt (b := 64) (by omega) (by omega), nI_ge (b := 32) (by omega) (by omega)⟩
set_option maxRecDepth 20000 in
theorem zw_read {gthr greg gcon gfld gtrn gins glev gkep glvs gkps gsta gflt gend ghal gwai ghlt glat glpl : Int32} {gwpl : Int64} {xp xr rn ocn ofn w a i : Int32} {rc abef oc : Nat → Int64} {awid ambf ofr oto osg ahow : Nat → Int32} {s0 : ((Nat → Int64) × (Nat → Int32) × (Nat → Int32))} {n : Nat} {rv : Nat → Int64} {rm : Nat → Int32} {bc : Nat → Int32} {wn : Int32} {wf : Nat → Int32} {wt : Nat → Int32} {wv : Nat → Int64} {xq : Int32} {xb : Int32} {gwro : Int32} {gwrs : Int32} {aval : Nat → Int64} {amrk : Nat → Int32} {awto : Nat → Int32} {awat : Nat → Int32} {awvl : Nat → Int64} {awmk : Nat → Int32} (hpar : zi_par ahow i xp) (hJ : zJ xp xr rn rc awid s0 n rv rm bc wn wf wt wv xq xb gwro gwrs aval amrk awto awat awvl awmk) (hbef : xp = 1 → ∀ t, zi_t rn t → abef t.toNatClampNeg = s0.1 t.toNatClampNeg ∧ ambf t.toNatClampNeg = s0.2.1 t.toNatClampNeg) (hF : zi_F ofn ofr oto) (ha : zi_op rn ocn ofn a) (hw0 : 0 ≤ w.toInt) (hw1 : w.toInt < 65536) : ∃ x : Int64, (∀ post, post x → wp_Operands_read rn rv ocn ofn oc ofr oto osg a w post) ∧ (∀ post, post x → wp_M_operand gthr greg gcon gfld gtrn gins glev gkep glvs gkps w gsta gflt gend ghal gwro gwai gwpl gwrs ghlt glat glpl aval abef oc ofr oto osg ahow i a post) := by
  rcases ha with ht | ⟨c, k, rfl, hc, hk, rfl⟩ | ⟨c, k, e, hc, hk, rfl⟩
  · obtain ⟨l1, l2, l3⟩ := ht.lt
    refine ⟨rv a.toNatClampNeg, fun post h => zn_it l2 (zn_it l1 ⟨ht.in, h⟩), fun post h => zn_if l3 (zm_par hpar ?_)⟩
    obtain ⟨hR, hB, hg, hJ⟩ := hJ
    rcases hJ with ⟨rfl, hJ⟩ | ⟨rfl, hJ⟩
    · obtain ⟨_, rfl, _⟩ := hJ
      exact zn_it rfl ⟨ht.in, h⟩
    · obtain ⟨e, _⟩ := hJ
      have hb := (hbef rfl a ht).1
      rw [← e] at hb
      refine zn_if (by decide) ⟨ht.in, ?_⟩
      rw [hb]
      exact h
  · have l1 : nI (32 + k) < 64 := nI_lt (b := 64) (by omega) (by omega)
    have l2 : ¬ nI (32 + k) < 32 := nI_nlt (b := 32) (by omega) (by omega)
    have l3 : 32 ≤ nI (32 + k) := nI_le (a := 32) (by omega) (by omega)
    have l4 : ¬ 64 ≤ nI (32 + k) := nI_ge (b := 64) (by omega) (by omega)
    have hin : vp_in (nI (32 + k) - 32) 16 := by rw [zn_s32 k (by omega)]; exact vp_in_nI (by omega) (by omega)
    exact ⟨oc (nI (32 + k) - 32).toNatClampNeg, fun post h => zn_it l1 (zn_if l2 ⟨hin, h⟩), fun post h => zn_it l3 (zn_if l4 ⟨hin, h⟩)⟩
  · have l1 : ¬ nI (64 + k) < 64 := nI_nlt (b := 64) (by omega) (by omega)
    have l3 : 32 ≤ nI (64 + k) := nI_le (a := 32) (by omega) (by omega)
    have l4 : 64 ≤ nI (64 + k) := nI_le (a := 64) (by omega) (by omega)
    have hin : vp_in (nI (64 + k) - 64) 16 := by rw [zn_s64 k (by omega)]; exact vp_in_nI (by omega) (by omega)
    have en : (nI (64 + k) - 64).toNatClampNeg = k := by rw [zn_s64 k (by omega), nI_clamp (by omega)]
    obtain ⟨c', hc', e', hf⟩ := hF
    rw [e, nI_eq (by omega) (by omega)] at e'
    subst e'
    obtain ⟨f, t, ef, et, hft, ht⟩ := hf k hk
    have hz0 := zn_field0 hw0 hw1 hft ht
    have hzS := zn_fieldS hw0 hw1 hft ht
    unfold wp_Operands_read wp_Operands_readField wp_M_operand wp_M_operand_115 wp_M_operand_116
    rw [en, ef, et]
    by_cases hs : osg k = 0
    · refine ⟨zn_fld w f t, fun post h => zn_if l1 ⟨hin, hin, hin, zn_it hs ?_⟩, fun post h => zn_it l3 (zn_it l4 ⟨hin, hin, hin, hin, zn_it hs (zn_it rfl h)⟩)⟩
      rw [hz0]; exact h
    · by_cases hb : ((w >>> ((nI t : Int32) &&& 31)) &&& 1) = 1
      · rw [if_pos hb] at hzS
        refine ⟨_, fun post h => zn_if l1 ⟨hin, hin, hin, zn_if hs ?_⟩, fun post h => zn_it l3 (zn_it l4 ⟨hin, hin, hin, hin, zn_if hs ⟨hin, zn_it hb (zn_if (by decide) ⟨hin, hin, h⟩)⟩⟩)⟩
        rw [hzS]; exact h
      · rw [if_neg hb] at hzS
        refine ⟨_, fun post h => zn_if l1 ⟨hin, hin, hin, zn_if hs ?_⟩, fun post h => zn_it l3 (zn_it l4 ⟨hin, hin, hin, hin, zn_if hs ⟨hin, zn_if hb (zn_it rfl h)⟩⟩)⟩
        rw [hzS]; exact h
set_option maxRecDepth 20000 in
theorem zw_isM {xp xr rn ocn ofn a i : Int32} {rc abef : Nat → Int64} {awid ambf ahow : Nat → Int32} {s0 : ((Nat → Int64) × (Nat → Int32) × (Nat → Int32))} {n : Nat} {rv : Nat → Int64} {rm : Nat → Int32} {bc : Nat → Int32} {wn : Int32} {wf : Nat → Int32} {wt : Nat → Int32} {wv : Nat → Int64} {xq : Int32} {xb : Int32} {gwro : Int32} {gwrs : Int32} {aval : Nat → Int64} {amrk : Nat → Int32} {awto : Nat → Int32} {awat : Nat → Int32} {awvl : Nat → Int64} {awmk : Nat → Int32} (hpar : zi_par ahow i xp) (hJ : zJ xp xr rn rc awid s0 n rv rm bc wn wf wt wv xq xb gwro gwrs aval amrk awto awat awvl awmk) (hbef : xp = 1 → ∀ t, zi_t rn t → abef t.toNatClampNeg = s0.1 t.toNatClampNeg ∧ ambf t.toNatClampNeg = s0.2.1 t.toNatClampNeg) (ha : zi_op rn ocn ofn a) : ∃ x : Int32, (∀ post, post x → wp_Operands_isMarked rn rm ocn ofn a post) ∧ (∀ {gthr greg gcon gfld gtrn gins glev gkep glvs gkps gwrd gsta gflt gend ghal gwai ghlt glat glpl : Int32} {gwpl : Int64} post, post x → wp_M_isMarked gthr greg gcon gfld gtrn gins glev gkep glvs gkps gwrd gsta gflt gend ghal gwro gwai gwpl gwrs ghlt glat glpl amrk ambf ahow i a post) := by
  have far : 32 ≤ a → ∃ x : Int32, (∀ post, post x → wp_Operands_isMarked rn rm ocn ofn a post) ∧ (∀ {gthr greg gcon gfld gtrn gins glev gkep glvs gkps gwrd gsta gflt gend ghal gwai ghlt glat glpl : Int32} {gwpl : Int64} post, post x → wp_M_isMarked gthr greg gcon gfld gtrn gins glev gkep glvs gkps gwrd gsta gflt gend ghal gwro gwai gwpl gwrs ghlt glat glpl amrk ambf ahow i a post) := by
    intro l
    refine ⟨0, fun post h => zn_it l h, ?_⟩
    intros
    exact zn_it l ‹_›
  rcases ha with ht | ⟨c, k, rfl, hc, hk, rfl⟩ | ⟨c, k, e, hc, hk, rfl⟩
  · obtain ⟨l1, l2, l3⟩ := ht.lt
    obtain ⟨hR, hB, hg, hJ⟩ := hJ
    refine ⟨rm a.toNatClampNeg, fun post h => zn_if l3 ⟨ht.in, (hR.vt ht).2, ?_⟩, ?_⟩
    · rcases (hR.vt ht).2 with e | e <;> rw [e] at h ⊢
      · exact zn_it rfl h
      · exact zn_if (by decide) h
    · intros
      rename_i post h
      refine zn_if l3 (zm_par hpar ?_)
      rcases hJ with ⟨rfl, hJ⟩ | ⟨rfl, hJ⟩
      · obtain ⟨_, _, rfl, _⟩ := hJ
        refine zn_it rfl ⟨ht.in, ?_⟩
        rcases (hR.vt ht).2 with e | e <;> rw [e] at h ⊢
        · exact zn_it rfl h
        · exact zn_if (by decide) h
      · obtain ⟨e, _⟩ := hJ
        have hb : ambf a.toNatClampNeg = rm a.toNatClampNeg := by
          have q := (hbef rfl a ht).2
          rw [← e] at q
          exact q
        refine zn_if (by decide) ⟨ht.in, ?_⟩
        rw [hb]
        rcases (hR.vt ht).2 with e | e <;> rw [e] at h ⊢
        · exact zn_it rfl h
        · exact zn_if (by decide) h
  · exact far (nI_le (a := 32) (by omega) (by omega))
  · exact far (nI_le (a := 32) (by omega) (by omega))
