set_option maxRecDepth 20000 in
theorem zi_I.more {t : Nat} {ptn pin : Int32} {pw pst pe abeg : Nat → Int32} (h : zi_I ptn pin pw pst pe abeg) (e : ptn = nI t) (ht : t < 200) : zi_I (nI (t + 1)) pin pw pst pe abeg := by
  obtain ⟨p, t', e1, h1, e2, h2, ⟨z, hz, e3, h3⟩, h4⟩ := h
  rw [e, nI_eq (by omega) (by omega)] at e2
  subst e2
  refine ⟨p, t + 1, e1, h1, rfl, by omega, ⟨z, by omega, e3, h3⟩, ?_⟩
  intro i hi
  obtain ⟨st, en, h, q1, q2, q3⟩ := h4 i hi
  exact ⟨st, en, h, q1, by omega, q3⟩
set_option maxRecDepth 20000 in
theorem zy_3 {gthr gins glev gkep glvs gkps gwrd gsta gflt gend ghal gwro gwai gwrs ghlt glat glpl : Int32} {gwpl : Int64} {rn ocn ofn ptn pin op a b r : Int32} {fo : Nat → Int64} {po pa pb pt pw pst pe abeg : Nat → Int32} {c d e t : Nat} (hc1 : 1 ≤ c) (hc : c ≤ 24) (hd : d ≤ 16) (he : e ≤ 16) (ht : t ≤ 200) (erc : rn = nI c) (eo : ocn = nI d) (ef : ofn = nI e) (et : ptn = nI t) (hT : zi_T rn ocn ofn po pa pb pt t) (hI : zi_I ptn pin pw pst pe abeg) : ∃ (code ptn1 x : Int32) (fo1 : Nat → Int64) (po1 pa1 pb1 pt1 : Nat → Int32), (∀ post, post code fo1 ptn1 po1 pa1 pb1 pt1 → wp_L_transfer rn ocn ofn ptn pin po pa pb pt fo op a b r post) ∧ (∀ post, post x code ptn1 po1 pa1 pb1 pt1 → wp_M_transfer gthr rn ocn ofn ptn gins glev gkep glvs gkps gwrd gsta gflt gend ghal gwro gwai gwpl gwrs ghlt glat glpl po pa pb pt op a b r post) ∧ (code = 0 → fo1 0 = zq_j_i2l x) ∧ (∃ t : Nat, ptn1 = nI t ∧ t ≤ 200 ∧ zi_T rn ocn ofn po1 pa1 pb1 pt1 t) ∧ zi_I ptn1 pin pw pst pe abeg := by
  have k0 : (0 : Int32).toInt = 0 := by decide
  have k22 : (22 : Int32).toInt = 22 := by decide
  have l0 : (0 : Int64).toInt = 0 := by decide
  have l22 : (22 : Int64).toInt = 22 := by decide
  have ko := zn_i2l op
  by_cases hV : (0 ≤ op.toInt ∧ op.toInt ≤ 22) ∧ zi_op rn ocn ofn a ∧ zi_op rn ocn ofn b ∧ zi_t rn r
  · obtain ⟨hop, ha, hb, hr⟩ := hV
    have o1 : ¬ op < 0 := by rw [zn_lt32]; omega
    have o2 : op ≤ 22 := by rw [zn_le32]; omega
    subst erc eo ef
    by_cases h200 : t = 200
    · refine ⟨2, ptn, 0, fo, po, pa, pb, pt, ?_, ?_, fun q => absurd q (by decide), ⟨t, et, ht, hT⟩, hI⟩
      · intro post h
        exact zn_if o1 (zn_it o2 (zc_has hc hd he (fun _ => zn_if zn_10 (zc_has hc hd he (fun _ => zn_if zn_10 (zc_hasR hc (fun _ => zn_if zn_10 (zn_if (by rw [et, h200]; decide) (Or.inr ⟨rfl, h⟩))) (fun q => absurd hr q))) (fun q => absurd hb q))) (fun q => absurd ha q)))
      · intro post h
        refine zm_in (fun _ => zn_if zn_10 (zm_has hc1 hc hd he (fun _ => zn_if zn_10 (zm_has hc1 hc hd he (fun _ => zn_if zn_10 (zm_hasR hc1 hc (fun _ => zn_if zn_10 ?_) (fun q => absurd hr q))) (fun q => absurd hb q))) (fun q => absurd ha q))) (fun q => absurd (by omega) q)
        exact zn_it (by rw [et, h200]; decide) (zm_g2 zn_10 rfl (zn_it rfl h))
    · have hin : vp_in ptn 200 := by rw [et]; exact vp_in_nI (by omega) (by omega)
      have hN : ptn.toNatClampNeg = t := by rw [et]; exact nI_clamp (by omega)
      refine ⟨0, nI (t + 1), nI (t + 1), vp_updL fo 0 (zq_j_i2l (nI (t + 1))), upd po t op, upd pa t a, upd pb t b, upd pt t r, ?_, ?_, fun _ => zf_updLs, ⟨t + 1, rfl, by omega, ?_⟩, hI.more et (by omega)⟩
      · intro post h
        refine zn_if o1 (zn_it o2 (zc_has hc hd he (fun _ => zn_if zn_10 (zc_has hc hd he (fun _ => zn_if zn_10 (zc_hasR hc (fun _ => zn_if zn_10 (zn_it (by rw [et]; exact nI_lt (b := 200) (by omega) (by omega)) ⟨hin, hin, hin, hin, ?_⟩)) (fun q => absurd hr q))) (fun q => absurd hb q))) (fun q => absurd ha q)))
        rw [hN, et, nI_1]
        exact h
      · intro post h
        refine zm_in (fun _ => zn_if zn_10 (zm_has hc1 hc hd he (fun _ => zn_if zn_10 (zm_has hc1 hc hd he (fun _ => zn_if zn_10 (zm_hasR hc1 hc (fun _ => zn_if zn_10 ?_) (fun q => absurd hr q))) (fun q => absurd hb q))) (fun q => absurd ha q))) (fun q => absurd (by omega) q)
        refine zn_if (by rw [et]; exact nI_ge (b := 200) (by omega) (by omega)) (zm_g0 zn_10 zn_10 (zn_if zn_10 ⟨hin, hin, hin, hin, ?_⟩))
        rw [hN, et, nI_1]
        exact h
      · intro j hj
        by_cases q : j = t
        · subst q
          rw [zf_upds, zf_upds, zf_upds, zf_upds]
          exact ⟨hop.1, hop.2, ha, hb, hr⟩
        · rw [zf_updb' q, zf_updb' q, zf_updb' q, zf_updb' q]; exact hT j (by omega)
  · refine ⟨1, ptn, 0, fo, po, pa, pb, pt, ?_, ?_, fun q => absurd q (by decide), ⟨t, et, ht, hT⟩, hI⟩
    · intro post h
      subst erc eo ef
      have hx : (("java/lang/IllegalArgumentException" : String) = "java/lang/IllegalArgumentException" ∧ post 1 fo ptn po pa pb pt) ∨ (("java/lang/IllegalArgumentException" : String) = "java/lang/UnsupportedOperationException" ∧ post 2 fo ptn po pa pb pt) := Or.inl ⟨rfl, h⟩
      by_cases o1 : op < 0
      · exact zn_it o1 hx
      by_cases o2 : op ≤ 22
      · refine zn_if o1 (zn_it o2 (zc_has hc hd he (fun qa => zn_if zn_10 (zc_has hc hd he (fun qb => zn_if zn_10 (zc_hasR hc (fun qr => absurd ⟨?_, qa, qb, qr⟩ hV) (fun _ => zn_it rfl hx))) (fun _ => zn_it rfl hx))) (fun _ => zn_it rfl hx)))
        rw [zn_lt32] at o1
        rw [zn_le32] at o2
        omega
      · exact zn_if o1 (zn_if o2 hx)
    · intro post h
      subst erc eo ef
      have hbad : wp_M_transfer_50 (nI c) (nI d) (nI e) gins glev gkep glvs gkps gwrd gsta gflt gend ghal gwro gwai gwpl gwrs ghlt glat glpl gthr ptn po pa pb pt op a b r post := zn_ite (fun _ => zm_g1 rfl (zn_it rfl h)) (fun _ => zm_g1 rfl (zn_it rfl h))
      exact zm_in (fun qo => zn_if zn_10 (zm_has hc1 hc hd he (fun qa => zn_if zn_10 (zm_has hc1 hc hd he (fun qb => zn_if zn_10 (zm_hasR hc1 hc (fun qr => absurd ⟨by omega, qa, qb, qr⟩ hV) (fun _ => zn_it rfl hbad))) (fun _ => zn_it rfl hbad))) (fun _ => zn_it rfl hbad))) (fun _ => zn_it rfl hbad)
set_option maxRecDepth 20000 in
theorem zy_4 {gthr greg gcon gfld glev gkep glvs gkps gwrd gsta gflt gend ghal gwro gwai gwrs ghlt glat glpl : Int32} {gwpl : Int64} {ptn pin m v w : Int32} {fo : Nat → Int64} {pm pv pw pst pe abeg : Nat → Int32} (hI : zi_I ptn pin pw pst pe abeg) : ∃ (code pin1 x : Int32) (fo1 : Nat → Int64) (pm1 pv1 pw1 pst1 pe1 abeg1 : Nat → Int32), (∀ post, post code fo1 pin1 pm1 pv1 pw1 pst1 pe1 → wp_L_instruction ptn pin pm pv pw pst pe fo m v w post) ∧ (∀ post, post x code pin1 pm1 pv1 pw1 abeg1 → wp_M_instruction gthr greg gcon gfld ptn pin glev gkep glvs gkps gwrd gsta gflt gend ghal gwro gwai gwpl gwrs ghlt glat glpl pm pv pw abeg m v w post) ∧ (code = 0 → fo1 0 = zq_j_i2l x) ∧ zi_I ptn pin1 pw1 pst1 pe1 abeg1 := by
  have hI' := hI
  obtain ⟨p, t, ep, hp, et, ht, ⟨z, hz, ez, hz0⟩, hins⟩ := hI
  have k0 : (0 : Int32).toInt = 0 := by decide
  have k6 : (65535 : Int32).toInt = 65535 := by decide
  have k7 : (7 : Int32).toInt = 7 := by decide
  have l0 : (0 : Int64).toInt = 0 := by decide
  have l6 : (65535 : Int64).toInt = 65535 := by decide
  have l7 : (7 : Int64).toInt = 7 := by decide
  have km := zn_i2l m
  have kv := zn_i2l v
  have kw := zn_i2l w
  by_cases hV : (0 ≤ m.toInt ∧ m.toInt ≤ 65535) ∧ (0 ≤ v.toInt ∧ v.toInt ≤ 65535) ∧ (v &&& (m ^^^ (-1))) = 0 ∧ (0 ≤ w.toInt ∧ w.toInt ≤ 7)
  · obtain ⟨hm, hv, ha, hw⟩ := hV
    have m1 : ¬ m < 0 := by rw [zn_lt32]; omega
    have m2 : ¬ 65535 < m := by rw [zn_lt32]; omega
    have v1 : ¬ v < 0 := by rw [zn_lt32]; omega
    have v2 : v ≤ 65535 := by rw [zn_le32]; omega
    have w1 : ¬ w < 0 := by rw [zn_lt32]; omega
    have w2 : w ≤ 7 := by rw [zn_le32]; omega
    by_cases h40 : p = 40
    · refine ⟨2, pin, 0, fo, pm, pv, pw, pst, pe, abeg, ?_, ?_, fun q => absurd q (by decide), hI'⟩
      · intro post h
        exact zn_if m1 (zn_if m2 (zn_if v1 (zn_it v2 (zn_it ha (zn_if w1 (zn_it w2 (zn_if (by rw [ep, h40]; decide) (Or.inr ⟨rfl, h⟩))))))))
      · intro post h
        refine zm_in (fun _ => zn_if zn_10 (zm_in (fun _ => zn_if zn_10 (zn_it ha (zm_in (fun _ => zn_if zn_10 ?_) (fun q => absurd (by omega) q)))) (fun q => absurd (by omega) q))) (fun q => absurd (by omega) q)
        exact zn_it (by rw [ep, h40]; decide) (zm_g2 zn_10 rfl (zn_it rfl h))
    · have hin : vp_in pin 40 := by rw [ep]; exact vp_in_nI (by omega) (by omega)
      have hin1 : vp_in (pin + 1) 41 := by rw [ep, nI_1]; exact vp_in_nI (by omega) (by omega)
      have hN : pin.toNatClampNeg = p := by rw [ep]; exact nI_clamp (by omega)
      have hN1 : (pin + 1).toNatClampNeg = p + 1 := by rw [ep, nI_1]; exact nI_clamp (by omega)
      have ew := zn_nI hw.1
      refine ⟨0, nI (p + 1), nI (p + 1) - 1, vp_updL fo 0 (zq_j_i2l (nI (p + 1) - 1)), upd pm p m, upd pv p v, upd pw p w, upd pst p (nI z), upd pe p ptn, upd abeg (p + 1) ptn, ?_, ?_, fun _ => zf_updLs, ?_⟩
      · intro post h
        refine zn_if m1 (zn_if m2 (zn_if v1 (zn_it v2 (zn_it ha (zn_if w1 (zn_it w2 (zn_it (by rw [ep]; exact nI_lt (b := 40) (by omega) (by omega)) ⟨hin, hin, hin, ?_⟩)))))))
        rcases hz0 with ⟨q1, q2⟩ | ⟨q1, q2⟩
        · refine zn_it (by rw [ep, q1]; rfl) ⟨hin, hin, ?_⟩
          rw [hN, ep, nI_1]
          rw [q2] at h
          exact h
        · have hpr : vp_in (pin - 1) 40 ∧ (pin - 1).toNatClampNeg = p - 1 := by
            obtain ⟨p', rfl⟩ : ∃ p', p = p' + 1 := ⟨p - 1, by omega⟩
            rw [ep, nI_pred]
            exact ⟨vp_in_nI (by omega) (by omega), nI_clamp (by omega)⟩
          refine zn_if (by rw [ep]; exact nI_ne0 q1 (by omega)) ⟨hpr.1, hin, hin, ?_⟩
          rw [hpr.2, hN, ep, nI_1, q2]
          exact h
      · intro post h
        refine zm_in (fun _ => zn_if zn_10 (zm_in (fun _ => zn_if zn_10 (zn_it ha (zm_in (fun _ => zn_if zn_10 ?_) (fun q => absurd (by omega) q)))) (fun q => absurd (by omega) q))) (fun q => absurd (by omega) q)
        refine zn_if (by rw [ep]; exact nI_ge (b := 40) (by omega) (by omega)) (zm_g0 zn_10 zn_10 (zn_if zn_10 ⟨hin, hin, hin, hin1, ?_⟩))
        rw [hN, hN1, ep, nI_1]
        exact h
      · refine ⟨p + 1, t, rfl, by omega, et, ht, ⟨t, Nat.le_refl _, by rw [zf_upds]; exact et, Or.inr ⟨by omega, ?_⟩⟩, ?_⟩
        · rw [show p + 1 - 1 = p by omega, zf_upds]; exact et
        · intro i hi
          by_cases q : i = p
          · subst q
            refine ⟨z, t, w.toInt.toNat, hz, Nat.le_refl _, by omega, ?_, ?_, ?_, ?_, ?_⟩
            · rw [zf_upds]
            · rw [zf_upds]; exact et
            · rw [zf_updb (by omega)]; exact ez
            · rw [zf_upds]; exact et
            · rw [zf_upds]; exact ew
          · obtain ⟨st, en, h, g1, g2, g3, g4, g5, g6, g7, g8⟩ := hins i (by omega)
            refine ⟨st, en, h, g1, g2, g3, ?_, ?_, ?_, ?_, ?_⟩
            · rw [zf_updb' q]; exact g4
            · rw [zf_updb' q]; exact g5
            · rw [zf_updb (by omega)]; exact g6
            · rw [zf_updb (by omega)]; exact g7
            · rw [zf_updb' q]; exact g8
  · refine ⟨1, pin, 0, fo, pm, pv, pw, pst, pe, abeg, ?_, ?_, fun q => absurd q (by decide), hI'⟩
    · intro post h
      have hx : (("java/lang/IllegalArgumentException" : String) = "java/lang/IllegalArgumentException" ∧ post 1 fo pin pm pv pw pst pe) ∨ (("java/lang/IllegalArgumentException" : String) = "java/lang/UnsupportedOperationException" ∧ post 2 fo pin pm pv pw pst pe) := Or.inl ⟨rfl, h⟩
      by_cases m1 : m < 0
      · exact zn_it m1 hx
      by_cases m2 : 65535 < m
      · exact zn_if m1 (zn_it m2 hx)
      by_cases v1 : v < 0
      · exact zn_if m1 (zn_if m2 (zn_it v1 hx))
      by_cases v2 : v ≤ 65535
      · by_cases ha : (v &&& (m ^^^ (-1))) = 0
        · by_cases w1 : w < 0
          · exact zn_if m1 (zn_if m2 (zn_if v1 (zn_it v2 (zn_it ha (zn_it w1 hx)))))
          · refine zn_if m1 (zn_if m2 (zn_if v1 (zn_it v2 (zn_it ha (zn_if w1 (zn_if ?_ hx))))))
            intro w2
            apply hV
            rw [zn_lt32] at m1 m2 v1 w1
            rw [zn_le32] at v2 w2
            exact ⟨by omega, by omega, ha, by omega⟩
        · exact zn_if m1 (zn_if m2 (zn_if v1 (zn_it v2 (zn_if ha hx))))
      · exact zn_if m1 (zn_if m2 (zn_if v1 (zn_if v2 hx)))
    · intro post h
      have hbad : wp_M_instruction_49 greg gcon gfld ptn glev gkep glvs gkps gwrd gsta gflt gend ghal gwro gwai gwpl gwrs ghlt glat glpl gthr pin pm pv pw abeg m v w post := zn_ite (fun _ => zm_g1 rfl (zn_it rfl h)) (fun _ => zm_g1 rfl (zn_it rfl h))
      exact zm_in (fun q1 => zn_if zn_10 (zm_in (fun q2 => zn_if zn_10 (zn_ite (fun q3 => zm_in (fun q4 => absurd ⟨by omega, by omega, q3, by omega⟩ hV) (fun _ => zn_it rfl hbad)) (fun _ => hbad))) (fun _ => zn_it rfl hbad))) (fun _ => zn_it rfl hbad)
set_option maxRecDepth 20000 in
theorem zc_hasB {a : Int32} {p q : Prop} (h1 : (0 ≤ a.toInt ∧ a.toInt < 4096) → p) (h0 : ¬ (0 ≤ a.toInt ∧ a.toInt < 4096) → q) : wp_Bytes_hasByte (zq_j_i2l a) (fun r => if r = 0 then q else p) := by
  have ka := zn_i2l a
  have g := zc_there (w := 0) (a := zq_j_i2l a) (Or.inl rfl) (p := p) (q := q) (fun h => h1 ⟨by have := h.1; omega, by have := h.2.1; omega⟩) (fun h => h0 (fun z => h ⟨by omega, by omega, fun q => absurd q (by decide)⟩))
  exact g
set_option maxRecDepth 20000 in
theorem zy_5 {gthr greg gcon gfld gtrn gins glev gkep glvs gkps gwrd gsta gflt gend ghal gwro gwai gwrs ghlt glat glpl : Int32} {gwpl : Int64} {a b : Int32} {fo : Nat → Int64} {bc : Nat → Int32} (hB : zi_B bc) : ∃ (code x : Int32) (fo1 : Nat → Int64) (bc1 : Nat → Int32), (∀ post, post code fo1 bc1 → wp_L_memory bc fo a b post) ∧ (∀ post, post x code bc1 → wp_M_memory gthr greg gcon gfld gtrn gins glev gkep glvs gkps gwrd gsta gflt gend ghal gwro gwai gwpl gwrs ghlt glat glpl bc a b post) ∧ (code = 0 → fo1 0 = zq_j_i2l x) ∧ zi_B bc1 := by
  have k0 : (0 : Int32).toInt = 0 := by decide
  have k5 : (255 : Int32).toInt = 255 := by decide
  have l0 : (0 : Int64).toInt = 0 := by decide
  have l5 : (255 : Int64).toInt = 255 := by decide
  have l4 : (4095 : Int64).toInt = 4095 := by decide
  have ka := zn_i2l a
  have kb := zn_i2l b
  by_cases hA : 0 ≤ a.toInt ∧ a.toInt < 4096
  · have hin : vp_in a 4096 := vp_in_iff.mpr (by omega)
    by_cases hb : 0 ≤ b.toInt ∧ b.toInt ≤ 255
    · refine ⟨0, bc a.toNatClampNeg &&& 255, vp_updL fo 0 (zq_j_i2l (bc a.toNatClampNeg &&& 255)), upd bc a.toNatClampNeg (vp_nar .byte (zq_j_i2b b)), ?_, ?_, fun _ => zf_updLs, hB.put (zi_N hin) _⟩
      · intro post h
        refine zc_hasB (fun _ => zn_if (by rw [zn_lt32]; omega) (zn_it (by rw [zn_le32]; omega) ⟨hin, hin, ?_⟩)) (fun q => absurd hA q)
        rw [zn_l2i_i2l]
        exact h
      · intro post h
        exact zm_in (fun _ => zm_in (fun _ => zm_g0 zn_10 zn_10 (zn_if zn_10 ⟨hin, hin, h⟩)) (fun q => absurd (by omega) q)) (fun q => absurd (by omega) q)
    · refine ⟨2, 0, fo, bc, ?_, ?_, fun q => absurd q (by decide), hB⟩
      · intro post h
        refine zc_hasB (fun _ => ?_) (fun q => absurd hA q)
        by_cases b1 : b < 0
        · exact zn_it b1 (Or.inr ⟨rfl, h⟩)
        · refine zn_if b1 (zn_if ?_ (Or.inr ⟨rfl, h⟩))
          rw [zn_lt32] at b1
          rw [zn_le32]; omega
      · intro post h
        exact zm_in (fun _ => zm_in (fun q => absurd (by omega) hb) (fun _ => zm_g2 zn_10 rfl (zn_it rfl h))) (fun q => absurd (by omega) q)
  · refine ⟨1, 0, fo, bc, ?_, ?_, fun q => absurd q (by decide), hB⟩
    · intro post h
      exact zc_hasB (fun q => absurd q hA) (fun _ => Or.inl ⟨rfl, h⟩)
    · intro post h
      exact zm_in (fun q => absurd (by omega) hA) (fun _ => zm_in (fun _ => zm_g1 rfl (zn_it rfl h)) (fun _ => zm_g1 rfl (zn_it rfl h)))
set_option maxRecDepth 20000 in
theorem zy_6 {gthr greg gcon gfld gtrn gins glev gkep glvs gkps gwrd gsta gflt gend ghal gwro gwai gwrs ghlt glat glpl : Int32} {gwpl : Int64} {a : Int32} {fo : Nat → Int64} {bc : Nat → Int32} : ∃ (code x : Int32) (fo1 : Nat → Int64), (∀ post, post code fo1 → wp_L_byteAt bc fo a post) ∧ (∀ post, post x code → wp_M_byteAt gthr greg gcon gfld gtrn gins glev gkep glvs gkps gwrd gsta gflt gend ghal gwro gwai gwpl gwrs ghlt glat glpl bc a post) ∧ (code = 0 → fo1 0 = zq_j_i2l x) := by
  have l0 : (0 : Int64).toInt = 0 := by decide
  have l4 : (4095 : Int64).toInt = 4095 := by decide
  have ka := zn_i2l a
  by_cases hA : 0 ≤ a.toInt ∧ a.toInt < 4096
  · have hin : vp_in a 4096 := vp_in_iff.mpr (by omega)
    refine ⟨0, bc a.toNatClampNeg &&& 255, vp_updL fo 0 (zq_j_i2l (bc a.toNatClampNeg &&& 255)), ?_, ?_, fun _ => zf_updLs⟩
    · intro post h
      exact zc_hasB (fun _ => ⟨hin, h⟩) (fun q => absurd hA q)
    · intro post h
      exact zm_in (fun _ => zm_g0 zn_10 zn_10 (zn_if zn_10 ⟨hin, h⟩)) (fun q => absurd (by omega) q)
  · refine ⟨1, 0, fo, ?_, ?_, fun q => absurd q (by decide)⟩
    · intro post h
      exact zc_hasB (fun q => absurd q hA) (fun _ => ⟨rfl, h⟩)
    · intro post h
      exact zm_in (fun q => absurd (by omega) hA) (fun _ => zm_g1 rfl (zn_it rfl h))
set_option maxRecDepth 20000 in
theorem zy_8 {gthr gcon gfld gtrn gins glev gkep glvs gkps gwrd gsta gflt gend ghal gwro gwrs ghlt glat glpl : Int32} {rn mw mh mk mp gwai a : Int32} {gwpl v : Int64} {rc rv fo : Nat → Int64} {rm awid : Nat → Int32} (hR : zi_R rn rc rv rm awid) (hw : zi_w mw gwai gwpl) : ∃ (code mw1 gwai1 : Int32) (x : Int64) (fo1 rv1 : Nat → Int64) (rm1 : Nat → Int32), (∀ post, post code fo1 rv1 rm1 mw1 → wp_L_set rn rc rv rm mw mh mk mp fo a v post) ∧ (∀ post, post x code gwai1 rv1 rm1 → wp_M_set gthr rn gcon gfld gtrn gins glev gkep glvs gkps gwrd gsta gflt gend ghal gwro gwai gwpl gwrs ghlt glat glpl awid rv rm a v post) ∧ (code = 0 → fo1 0 = x) ∧ zi_R rn rc rv1 rm1 awid ∧ zi_w mw1 gwai1 gwpl := by
  obtain ⟨c, erc, c1, c2⟩ := hR.cnt
  by_cases hA : zi_t rn a
  · have hin := hA.in
    have hR2 := hR.put hA v (m := 0) (Or.inl rfl)
    have hcl : ∀ (post : Int32 → (Nat → Int64) → (Nat → Int64) → (Nat → Int32) → Int32 → Prop), (if a = 0 then post 0 (vp_updL fo 0 (rv a.toNatClampNeg)) (vp_updL rv a.toNatClampNeg (v &&& rc a.toNatClampNeg)) (upd rm a.toNatClampNeg (vp_nar .boolean 0)) (-1) else post 0 (vp_updL fo 0 (rv a.toNatClampNeg)) (vp_updL rv a.toNatClampNeg (v &&& rc a.toNatClampNeg)) (upd rm a.toNatClampNeg (vp_nar .boolean 0)) mw) → wp_L_set rn rc rv rm mw mh mk mp fo a v post := by
      intro post h
      rw [erc] at hA
      have g := zc_hasR (c := c) (t := a) (post := fun r_1 => (if r_1 = 0 then (("java/lang/IndexOutOfBoundsException" : String) = "java/lang/IndexOutOfBoundsException" ∧ post 1 fo rv rm mw) else wp_Registers_valueOf rn rv a (fun r_3 => wp_Registers_put rn rc rv rm a v 0 (fun rv_4 rm_5 => (if a = 0 then wp_Machine_loseWaiting mw mh mk mp (fun mw_8 => post 0 (vp_updL fo 0 r_3) rv_4 rm_5 mw_8) else post 0 (vp_updL fo 0 r_3) rv_4 rm_5 mw))))) c2 (fun _ => zn_if zn_10 ⟨hin, hin, hin, hin, h⟩) (fun q => absurd hA q)
      rw [← erc] at g
      exact g
    have hml : ∀ (post : Int64 → Int32 → Int32 → (Nat → Int64) → (Nat → Int32) → Prop), (if gwai = 0 then post (rv a.toNatClampNeg) 0 0 (vp_updL rv a.toNatClampNeg (zn_cut (awid a.toNatClampNeg) v)) (upd rm a.toNatClampNeg (vp_nar .boolean 0)) else (if a ≤ 0 then post (rv a.toNatClampNeg) 0 0 (vp_updL rv a.toNatClampNeg (zn_cut (awid a.toNatClampNeg) v)) (upd rm a.toNatClampNeg (vp_nar .boolean 0)) else post (rv a.toNatClampNeg) 0 1 (vp_updL rv a.toNatClampNeg (zn_cut (awid a.toNatClampNeg) v)) (upd rm a.toNatClampNeg (vp_nar .boolean 0)))) → wp_M_set gthr rn gcon gfld gtrn gins glev gkep glvs gkps gwrd gsta gflt gend ghal gwro gwai gwpl gwrs ghlt glat glpl awid rv rm a v post := by
      intro post h
      subst erc
      unfold wp_M_set wp_M_isRegister
      exact zm_hasR c1 c2 (fun _ => zm_g0 zn_10 zn_10 ⟨Or.inr rfl, zn_if zn_10 ⟨hin, zm_cut hin ⟨hin, hin, h⟩⟩⟩) (fun q => absurd hA q)
    rw [← hR.cut hA v] at hml
    by_cases a0 : a = 0
    · refine ⟨0, -1, 0, rv a.toNatClampNeg, vp_updL fo 0 (rv a.toNatClampNeg), _, _, fun post h => hcl post (zn_it a0 h), fun post h => hml post ?_, fun _ => zf_updLs, hR2, Or.inl ⟨rfl, rfl⟩⟩
      exact zn_ite (fun _ => h) (fun _ => zn_it (by rw [a0]; decide) h)
    · have ap : ¬ a ≤ 0 := by
        obtain ⟨c', k, _, _, rfl, hk⟩ := hA
        intro q
        apply a0
        rw [zn_le32, nI_toInt (by omega)] at q
        have k0 : (0 : Int32).toInt = 0 := by decide
        rw [show k = 0 by omega]; rfl
      refine ⟨0, mw, gwai, rv a.toNatClampNeg, vp_updL fo 0 (rv a.toNatClampNeg), _, _, fun post h => hcl post (zn_if a0 h), fun post h => hml post ?_, fun _ => zf_updLs, hR2, hw⟩
      rcases hw with ⟨_, rfl⟩ | ⟨rfl, _⟩
      · exact zn_it rfl h
      · exact zn_if zn_10 (zn_if ap h)
  · refine ⟨1, mw, gwai, 0, fo, rv, rm, ?_, ?_, fun q => absurd q (by decide), hR, hw⟩
    · intro post h
      subst erc
      unfold wp_L_set wp_PS_set
      exact zc_hasR c2 (fun q => absurd q hA) (fun _ => zn_it rfl ⟨rfl, h⟩)
    · intro post h
      subst erc
      unfold wp_M_set wp_M_isRegister
      exact zm_hasR c1 c2 (fun q => absurd q hA) (fun _ => zm_g1 rfl ⟨Or.inl rfl, zn_it rfl h⟩)
set_option maxRecDepth 20000 in
theorem zy_9 {gthr gcon gfld gtrn gins glev gkep glvs gkps gwrd gsta gflt gend ghal gwro gwai gwrs ghlt glat glpl : Int32} {gwpl : Int64} {rn a : Int32} {rc rv fo : Nat → Int64} {rm awid : Nat → Int32} (hR : zi_R rn rc rv rm awid) : ∃ (code : Int32) (x : Int64) (fo1 : Nat → Int64), (∀ post, post code fo1 → wp_L_get rn rv fo a post) ∧ (∀ post, post x code → wp_M_get gthr rn gcon gfld gtrn gins glev gkep glvs gkps gwrd gsta gflt gend ghal gwro gwai gwpl gwrs ghlt glat glpl rv a post) ∧ (code = 0 → fo1 0 = x) := by
  obtain ⟨c, erc, c1, c2⟩ := hR.cnt
  subst erc
  by_cases hA : zi_t (nI c) a
  · refine ⟨0, rv a.toNatClampNeg, vp_updL fo 0 (rv a.toNatClampNeg), ?_, ?_, fun _ => zf_updLs⟩
    · intro post h
      unfold wp_L_get wp_PS_get
      exact zc_hasR c2 (fun _ => zn_if zn_10 ⟨hA.in, h⟩) (fun q => absurd hA q)
    · intro post h
      unfold wp_M_get wp_M_isRegister
      exact zm_hasR c1 c2 (fun _ => zm_g0 zn_10 zn_10 ⟨Or.inr rfl, zn_if zn_10 ⟨hA.in, h⟩⟩) (fun q => absurd hA q)
  · refine ⟨1, 0, fo, ?_, ?_, fun q => absurd q (by decide)⟩
    · intro post h
      unfold wp_L_get wp_PS_get
      exact zc_hasR c2 (fun q => absurd q hA) (fun _ => zn_it rfl ⟨rfl, h⟩)
    · intro post h
      unfold wp_M_get wp_M_isRegister
      exact zm_hasR c1 c2 (fun q => absurd q hA) (fun _ => zm_g1 rfl ⟨Or.inl rfl, zn_it rfl h⟩)
set_option maxRecDepth 20000 in
theorem zy_10 {gthr gcon gfld gtrn gins glev gkep glvs gkps gwrd gsta gflt gend ghal gwro gwai gwrs ghlt glat glpl : Int32} {gwpl : Int64} {rn a : Int32} {rc rv fo : Nat → Int64} {rm awid : Nat → Int32} (hR : zi_R rn rc rv rm awid) : ∃ (code x : Int32) (fo1 : Nat → Int64), (∀ post, post code fo1 → wp_L_mark rn rm fo a post) ∧ (∀ post, post x code → wp_M_mark gthr rn gcon gfld gtrn gins glev gkep glvs gkps gwrd gsta gflt gend ghal gwro gwai gwpl gwrs ghlt glat glpl rm a post) ∧ (code = 0 → fo1 0 = (if x = 0 then 0 else 1)) := by
  obtain ⟨c, erc, c1, c2⟩ := hR.cnt
  subst erc
  by_cases hA : zi_t (nI c) a
  · have hb := (hR.vt hA).2
    by_cases hz : rm a.toNatClampNeg = 0
    · refine ⟨0, 0, vp_updL fo 0 0, ?_, ?_, fun _ => zf_updLs⟩
      · intro post h
        unfold wp_L_mark wp_PS_mark
        exact zc_hasR c2 (fun _ => zn_if zn_10 ⟨hA.in, hb, hb, zn_it hz h⟩) (fun q => absurd hA q)
      · intro post h
        unfold wp_M_mark wp_M_isRegister
        exact zm_hasR c1 c2 (fun _ => zm_g0 zn_10 zn_10 ⟨Or.inr rfl, zn_if zn_10 ⟨hA.in, zn_it hz h⟩⟩) (fun q => absurd hA q)
    · refine ⟨0, 1, vp_updL fo 0 1, ?_, ?_, fun _ => zf_updLs⟩
      · intro post h
        unfold wp_L_mark wp_PS_mark
        exact zc_hasR c2 (fun _ => zn_if zn_10 ⟨hA.in, hb, hb, zn_if hz h⟩) (fun q => absurd hA q)
      · intro post h
        unfold wp_M_mark wp_M_isRegister
        exact zm_hasR c1 c2 (fun _ => zm_g0 zn_10 zn_10 ⟨Or.inr rfl, zn_if zn_10 ⟨hA.in, zn_if hz h⟩⟩) (fun q => absurd hA q)
  · refine ⟨1, 0, fo, ?_, ?_, fun q => absurd q (by decide)⟩
    · intro post h
      unfold wp_L_mark wp_PS_mark
      exact zc_hasR c2 (fun q => absurd q hA) (fun _ => zn_it rfl ⟨rfl, h⟩)
    · intro post h
      unfold wp_M_mark wp_M_isRegister
      exact zm_hasR c1 c2 (fun q => absurd q hA) (fun _ => zm_g1 rfl ⟨Or.inl rfl, zn_it rfl h⟩)
set_option maxRecDepth 20000 in
theorem zc_hasL {a : Int32} {post : Int32 → Prop} (h1 : 0 ≤ a.toInt ∧ a.toInt < 8 → post 1) (h0 : ¬ (0 ≤ a.toInt ∧ a.toInt < 8) → post 0) : wp_Lines_has a post := by
  have k0 : (0 : Int32).toInt = 0 := by decide
  have k8 : (8 : Int32).toInt = 8 := by decide
  refine zn_ite (fun h => h0 ?_) (fun h => zn_ite (fun h' => h0 ?_) (fun h' => h1 ?_))
  · rw [zn_lt32] at h; omega
  · rw [zn_le32] at h'; omega
  · rw [zn_lt32] at h; rw [zn_le32] at h'; omega
set_option maxRecDepth 20000 in
theorem zy_11 {gthr greg gcon gfld gtrn gins glev gkep glvs gkps gwrd gsta gflt gend ghal gwro gwai gwrs ghlt glat glpl : Int32} {gwpl : Int64} {a s : Int32} {fo : Nat → Int64} {lo : Nat → Int32} (hs : zq_bz s) (hL : ∀ k, zq_bz (lo k)) : ∃ (code x : Int32) (fo1 : Nat → Int64) (lo1 : Nat → Int32), (∀ post, post code fo1 lo1 → wp_L_line lo fo a s post) ∧ (∀ post, post x code lo1 → wp_M_line gthr greg gcon gfld gtrn gins glev gkep glvs gkps gwrd gsta gflt gend ghal gwro gwai gwpl gwrs ghlt glat glpl lo a s post) ∧ (code = 0 → fo1 0 = (if x = 0 then 0 else 1)) ∧ (∀ k, zq_bz (lo1 k)) := by
  have l0 : (0 : Int64).toInt = 0 := by decide
  have l7 : (7 : Int64).toInt = 7 := by decide
  have ka := zn_i2l a
  by_cases hA : 0 ≤ a.toInt ∧ a.toInt < 8
  · have hin : vp_in a 8 := vp_in_iff.mpr (by omega)
    refine ⟨0, lo a.toNatClampNeg, vp_updL fo 0 (if lo a.toNatClampNeg = 0 then 0 else 1), upd lo a.toNatClampNeg (vp_nar .boolean s), ?_, ?_, fun _ => zf_updLs, ?_⟩
    · intro post h
      unfold wp_L_line wp_PS_line
      refine zc_hasL (fun _ => zn_if zn_10 ⟨hin, hin, hL _, hL _, ?_⟩) (fun q => absurd hA q)
      by_cases q : lo a.toNatClampNeg = 0
      · rw [if_pos q] at h; exact zn_it q h
      · rw [if_neg q] at h; exact zn_if q h
    · intro post h
      exact zm_in (fun _ => zm_g0 zn_10 zn_10 (zn_if zn_10 ⟨hin, hin, hL _, h⟩)) (fun q => absurd (by omega) q)
    · intro k
      by_cases q : k = a.toNatClampNeg
      · rw [q, zf_upds, zn_bool hs]; exact hs
      · rw [zf_updb' q]; exact hL k
  · refine ⟨1, 0, fo, lo, ?_, ?_, fun q => absurd q (by decide), hL⟩
    · intro post h
      unfold wp_L_line wp_PS_line
      exact zc_hasL (fun q => absurd q hA) (fun _ => zn_it rfl ⟨rfl, h⟩)
    · intro post h
      exact zm_in (fun q => absurd (by omega) hA) (fun _ => zm_g1 rfl (zn_it rfl h))
set_option maxRecDepth 20000 in
theorem zy_12 {gthr greg gcon gfld gtrn gins glev gkep glvs gkps gwrd gsta gflt gend ghal gwro gwai gwrs ghlt glat glpl : Int32} {gwpl : Int64} {a s : Int32} {fo : Nat → Int64} {lr : Nat → Int32} : ∃ (code x : Int32) (fo1 : Nat → Int64) (lr1 : Nat → Int32), (∀ post, post code fo1 lr1 → wp_L_enable lr fo a s post) ∧ (∀ post, post x code lr1 → wp_M_enable gthr greg gcon gfld gtrn gins glev gkep glvs gkps gwrd gsta gflt gend ghal gwro gwai gwpl gwrs ghlt glat glpl lr a s post) ∧ (code = 0 → fo1 0 = zq_j_i2l x) := by
  have k0 : (0 : Int32).toInt = 0 := by decide
  have k14 : (14 : Int32).toInt = 14 := by decide
  have l0 : (0 : Int64).toInt = 0 := by decide
  have l7 : (7 : Int64).toInt = 7 := by decide
  have l14 : (14 : Int64).toInt = 14 := by decide
  have ka := zn_i2l a
  have ks := zn_i2l s
  by_cases hA : 0 ≤ a.toInt ∧ a.toInt < 8
  · have hin : vp_in a 8 := vp_in_iff.mpr (by omega)
    by_cases hb : 0 ≤ s.toInt ∧ s.toInt ≤ 14
    · refine ⟨0, lr a.toNatClampNeg, vp_updL fo 0 (zq_j_i2l (lr a.toNatClampNeg)), upd lr a.toNatClampNeg s, ?_, ?_, fun _ => zf_updLs⟩
      · intro post h
        unfold wp_L_enable wp_PS_enable
        exact zc_hasL (fun _ => zn_if zn_10 (zn_if (by rw [zn_lt32]; omega) (zn_it (by rw [zn_le32]; omega) ⟨hin, hin, h⟩))) (fun q => absurd hA q)
      · intro post h
        exact zm_in (fun _ => zm_in (fun _ => zm_g0 zn_10 zn_10 (zn_if zn_10 ⟨hin, hin, h⟩)) (fun q => absurd (by omega) q)) (fun q => absurd (by omega) q)
    · refine ⟨2, 0, fo, lr, ?_, ?_, fun q => absurd q (by decide)⟩
      · intro post h
        unfold wp_L_enable wp_PS_enable
        refine zc_hasL (fun _ => zn_if zn_10 ?_) (fun q => absurd hA q)
        by_cases b1 : s < 0
        · exact zn_it b1 (Or.inr ⟨rfl, h⟩)
        · refine zn_if b1 (zn_if ?_ (Or.inr ⟨rfl, h⟩))
          rw [zn_lt32] at b1
          rw [zn_le32]; omega
      · intro post h
        exact zm_in (fun _ => zm_in (fun q => absurd (by omega) hb) (fun _ => zm_g2 zn_10 rfl (zn_it rfl h))) (fun q => absurd (by omega) q)
  · refine ⟨1, 0, fo, lr, ?_, ?_, fun q => absurd q (by decide)⟩
    · intro post h
      unfold wp_L_enable wp_PS_enable
      exact zc_hasL (fun q => absurd q hA) (fun _ => zn_it rfl (Or.inl ⟨rfl, h⟩))
    · intro post h
      exact zm_in (fun q => absurd (by omega) hA) (fun _ => zm_in (fun _ => zm_g1 rfl (zn_it rfl h)) (fun _ => zm_g1 rfl (zn_it rfl h)))
set_option maxRecDepth 20000 in
theorem zy_13 {gthr greg gcon gfld gtrn gins glev gkep glvs gkps gwrd gsta gflt gend ghal gwro gwai gwrs ghlt : Int32} {gwpl : Int64} {mw mh mk mp a : Int32} {fo : Nat → Int64} : ∃ (code x : Int32) (fo1 : Nat → Int64), (∀ post, post code fo1 → wp_L_fault mw mh mk mp fo a post) ∧ (∀ post, post x code → wp_M_fault gthr greg gcon gfld gtrn gins glev gkep glvs gkps gwrd gsta gflt gend ghal gwro gwai gwpl gwrs ghlt mk mp a post) ∧ (code = 0 → fo1 0 = zq_j_i2l x) := by
  have k0 : (0 : Int32).toInt = 0 := by decide
  have k1 : (1 : Int32).toInt = 1 := by decide
  have l0 : (0 : Int64).toInt = 0 := by decide
  have l1 : (1 : Int64).toInt = 1 := by decide
  have ka := zn_i2l a
  by_cases hA : 0 ≤ a.toInt ∧ a.toInt ≤ 1
  · have a1 : ¬ a < 0 := by rw [zn_lt32]; omega
    have a2 : a ≤ 1 := by rw [zn_le32]; omega
    by_cases a0 : a = 0
    · exact ⟨0, mk, vp_updL fo 0 (zq_j_i2l mk), fun post h => zn_if a1 (zn_it a2 (zn_it a0 h)), fun post h => zm_in (fun _ => zm_g0 zn_10 zn_10 (zn_if zn_10 (zn_it a0 h))) (fun q => absurd (by omega) q), fun _ => zf_updLs⟩
    · exact ⟨0, mp, vp_updL fo 0 (zq_j_i2l mp), fun post h => zn_if a1 (zn_it a2 (zn_if a0 h)), fun post h => zm_in (fun _ => zm_g0 zn_10 zn_10 (zn_if zn_10 (zn_if a0 h))) (fun q => absurd (by omega) q), fun _ => zf_updLs⟩
  · refine ⟨1, 0, fo, ?_, ?_, fun q => absurd q (by decide)⟩
    · intro post h
      by_cases a1 : a < 0
      · exact zn_it a1 ⟨rfl, h⟩
      · refine zn_if a1 (zn_if ?_ ⟨rfl, h⟩)
        rw [zn_lt32] at a1
        rw [zn_le32]; omega
    · intro post h
      exact zm_in (fun q => absurd (by omega) hA) (fun _ => zm_g1 rfl (zn_it rfl h))
set_option maxRecDepth 20000 in
theorem zy_15 {gthr greg gcon gfld gtrn gins glvs gkps gwrd gsta gflt gend ghal gwro gwai gwrs ghlt glat glpl : Int32} {gwpl : Int64} {kn kv a : Int32} {fo : Nat → Int64} {cn : Nat → Int32} : ∃ (code x : Int32) (fo1 : Nat → Int64), (∀ post, post code fo1 → wp_L_counter kn kv cn fo a post) ∧ (∀ post, post x code → wp_M_counter gthr greg gcon gfld gtrn gins kv kn glvs gkps gwrd gsta gflt gend ghal gwro gwai gwpl gwrs ghlt glat glpl cn a post) ∧ (code = 0 → fo1 0 = zq_j_i2l x) := by
  have k0 : (0 : Int32).toInt = 0 := by decide
  have k9 : (9 : Int32).toInt = 9 := by decide
  have l0 : (0 : Int64).toInt = 0 := by decide
  have l8 : (8 : Int64).toInt = 8 := by decide
  have ka := zn_i2l a
  by_cases hA : 0 ≤ a.toInt ∧ a.toInt < 9
  · have a1 : ¬ a < 0 := by rw [zn_lt32]; omega
    have a2 : a < 9 := by rw [zn_lt32]; omega
    have hin : vp_in a 9 := vp_in_iff.mpr (by omega)
    by_cases a6 : a = 6
    · exact ⟨0, kv, vp_updL fo 0 (zq_j_i2l kv), fun post h => zn_if a1 (zn_it a2 (zn_it a6 h)), fun post h => zm_in (fun _ => zm_g0 zn_10 zn_10 (zn_if zn_10 (zn_it a6 h))) (fun q => absurd (by omega) q), fun _ => zf_updLs⟩
    by_cases a7 : a = 7
    · exact ⟨0, kn, vp_updL fo 0 (zq_j_i2l kn), fun post h => zn_if a1 (zn_it a2 (zn_if a6 (zn_it a7 h))), fun post h => zm_in (fun _ => zm_g0 zn_10 zn_10 (zn_if zn_10 (zn_if a6 (zn_it a7 h)))) (fun q => absurd (by omega) q), fun _ => zf_updLs⟩
    · exact ⟨0, cn a.toNatClampNeg, vp_updL fo 0 (zq_j_i2l (cn a.toNatClampNeg)), fun post h => zn_if a1 (zn_it a2 (zn_if a6 (zn_if a7 ⟨hin, h⟩))), fun post h => zm_in (fun _ => zm_g0 zn_10 zn_10 (zn_if zn_10 (zn_if a6 (zn_if a7 ⟨hin, h⟩)))) (fun q => absurd (by omega) q), fun _ => zf_updLs⟩
  · refine ⟨1, 0, fo, ?_, ?_, fun q => absurd q (by decide)⟩
    · intro post h
      by_cases a1 : a < 0
      · exact zn_it a1 ⟨rfl, h⟩
      · refine zn_if a1 (zn_if ?_ ⟨rfl, h⟩)
        rw [zn_lt32] at a1 ⊢
        omega
    · intro post h
      exact zm_in (fun q => absurd (by omega) hA) (fun _ => zm_g1 rfl (zn_it rfl h))
