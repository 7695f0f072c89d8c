def zi_par (ahow : Nat → Int32) (i xp : Int32) : Prop := vp_in i 40 ∧ ((xp = 0 ∧ ¬ (ahow i.toNatClampNeg &&& 1) = 1) ∨ (xp = 1 ∧ (ahow i.toNatClampNeg &&& 1) = 1))
set_option maxRecDepth 20000 in
theorem zm_par {gthr greg gcon gfld gtrn gins glev gkep glvs gkps gwrd gsta gflt gend ghal gwro gwai gwrs ghlt glat glpl : Int32} {gwpl : Int64} {ahow : Nat → Int32} {i xp : Int32} {post : Int32 → Prop} (h : zi_par ahow i xp) (hp : post xp) : wp_M_isParallel gthr greg gcon gfld gtrn gins glev gkep glvs gkps gwrd gsta gflt gend ghal gwro gwai gwpl gwrs ghlt glat glpl ahow i post := by
  rcases h with ⟨h, ⟨rfl, h1⟩ | ⟨rfl, h1⟩⟩
  · exact ⟨h, zn_if h1 hp⟩
  · exact ⟨h, zn_it h1 hp⟩
set_option maxRecDepth 20000 in
theorem zm_cut {gthr greg gcon gfld gtrn gins glev gkep glvs gkps gwrd gsta gflt gend ghal gwro gwai gwrs ghlt glat glpl : Int32} {gwpl : Int64} {awid : Nat → Int32} {t : Int32} {v : Int64} {post : Int64 → Prop} (h : vp_in t 24) (hp : post (zn_cut (awid t.toNatClampNeg) v)) : wp_M_cut gthr greg gcon gfld gtrn gins glev gkep glvs gkps gwrd gsta gflt gend ghal gwro gwai gwpl gwrs ghlt glat glpl awid t v post := by
  refine ⟨h, ?_⟩
  unfold zn_cut at hp
  by_cases e : awid t.toNatClampNeg = 64
  · rw [if_pos e] at hp ⊢; exact hp
  · rw [if_neg e] at hp ⊢; exact ⟨h, hp⟩
set_option maxRecDepth 20000 in
theorem zm_set {gthr greg gcon gfld gtrn gins glev gkep glvs gkps gwrd gsta gflt gend ghal gwro gwai gwrs ghlt glat glpl : Int32} {gwpl : Int64} {aval : Nat → Int64} {amrk : Nat → Int32} {t m : Int32} {v : Int64} {post : Int32 → (Nat → Int64) → (Nat → Int32) → Prop} (h : vp_in t 24) (hg : zq_bz gwro) (hp : post (if t = 0 then 1 else gwro) (vp_updL aval t.toNatClampNeg v) (upd amrk t.toNatClampNeg (vp_nar .boolean m))) : wp_M_setRegister gthr greg gcon gfld gtrn gins glev gkep glvs gkps gwrd gsta gflt gend ghal gwro gwai gwpl gwrs ghlt glat glpl aval amrk t v m post := by
  refine ⟨h, h, ?_⟩
  rcases hg with rfl | rfl
  · refine zn_it rfl ?_
    by_cases e : t = 0
    · rw [if_pos e] at hp ⊢; exact hp
    · rw [if_neg e] at hp ⊢; exact hp
  · refine zn_if (by decide) ?_
    rw [show (if t = 0 then (1 : Int32) else 1) = 1 by split <;> rfl] at hp
    exact hp
set_option maxRecDepth 20000 in
theorem zf_xqb {f t x : Int32} (hf : zq_bz f) : zf_xq f t x = if t = 0 then 1 else x := by
  unfold zf_xq
  by_cases e : t = 0
  · rw [if_pos ⟨e, hf⟩, if_pos e]
  · rw [if_neg (fun q => e q.1), if_neg e]
set_option maxRecDepth 20000 in
theorem zf_xq2 {f t x : Int32} (h0 : ¬ f = 0) (h1 : ¬ f = 1) : zf_xq f t x = x := if_neg (fun q => q.2.elim h0 h1)
set_option maxRecDepth 20000 in
theorem zf_xqz {f t x : Int32} (hx : zq_bz x) : zq_bz (zf_xq f t x) := by
  unfold zf_xq
  split
  · exact Or.inr rfl
  · exact hx
set_option maxRecDepth 20000 in
theorem zf_okb {f t : Int32} (hf : zq_bz f) (ht : vp_in t 24) : zf_ok f t := by
  unfold zf_ok
  rcases hf with rfl | rfl <;> rw [if_neg (by decide), if_neg (by decide)] <;> exact ht
set_option maxRecDepth 20000 in
theorem zw_reg {gthr greg gcon gfld gtrn gins glev gkep glvs gkps gwrd gsta gflt gend ghal gwai ghlt glat glpl : Int32} {gwpl : Int64} {xp xr xw xe xh rn : Int32} {rc : Nat → Int64} {awid : Nat → Int32} {s0 : ((Nat → Int64) × (Nat → Int32) × (Nat → Int32))} {n : Nat} {rv : Nat → Int64} {rm : Nat → Int32} {bc : Nat → Int32} {wn : Int32} {wf : Nat → Int32} {wt : Nat → Int32} {wv : Nat → Int64} {xq : Int32} {xb : Int32} {gwro : Int32} {gwrs : Int32} {aval : Nat → Int64} {amrk : Nat → Int32} {awto : Nat → Int32} {awat : Nat → Int32} {awvl : Nat → Int64} {awmk : Nat → Int32} {atgt : Nat → Int32} {ahow : Nat → Int32} {i t f : Int32} (v : Int64) (hpar : zi_par ahow i xp) (hJ : zJ xp xr rn rc awid s0 n rv rm bc wn wf wt wv xq xb gwro gwrs aval amrk awto awat awvl awmk) (hn : n < 200) (hin : vp_in t 200) (ht : zi_t rn (atgt t.toNatClampNeg)) (hf : zq_bz f) : ∃ (rv1 : Nat → Int64) (rm1 : Nat → Int32) (bc1 : Nat → Int32) (wn1 : Int32) (wf1 : Nat → Int32) (wt1 : Nat → Int32) (wv1 : Nat → Int64) (xq1 : Int32) (gwro1 : Int32) (gwrs1 : Int32) (aval1 : Nat → Int64) (amrk1 : Nat → Int32) (awto1 : Nat → Int32) (awat1 : Nat → Int32) (awvl1 : Nat → Int64) (awmk1 : Nat → Int32), (∀ post, post rv1 rm1 bc1 wn1 wf1 wt1 wv1 xq1 → wp_Work_write rn rc rv rm bc wn wf wt wv xw xp xr xq xe xh xb f (atgt t.toNatClampNeg) v post) ∧ (∀ post, post gwro1 gwrs1 aval1 amrk1 awto1 awat1 awvl1 awmk1 → wp_M_result gthr greg gcon gfld gtrn gins glev gkep glvs gkps gwrd gsta gflt gend ghal gwro gwai gwpl gwrs ghlt glat glpl awid aval amrk atgt ahow awto awat awvl awmk i t v f post) ∧ bc1 = bc ∧ zJ xp xr rn rc awid s0 (n + 1) rv1 rm1 bc1 wn1 wf1 wt1 wv1 xq1 xb gwro1 gwrs1 aval1 amrk1 awto1 awat1 awvl1 awmk1 := by
  obtain ⟨hR, hB, hg, hJ⟩ := hJ
  rcases hJ with ⟨rfl, hJ⟩ | ⟨rfl, hJ⟩
  · obtain ⟨wn1, wf1, wt1, wv1, hw, hJ1⟩ := zw_c0 (xw := xw) (xe := xe) (xh := xh) v hR hB hJ hn (zf_okb hf ht.in) (fun _ _ => ht)
    obtain ⟨j1, rfl, rfl, rfl, rfl, _⟩ := hJ
    have hp := hR.perf (v := v) (f := f) hB (zf_okb hf ht.in) (fun _ _ => ht)
    refine ⟨_, _, _, _, _, _, _, _, _, _, _, _, _, _, _, _, hw, ?_, ?_, hp.1, hp.2, zf_xqz hg, Or.inl ⟨rfl, hJ1⟩⟩
    · intro post hq
      refine ⟨hin, zm_cut ht.in (zm_par hpar (zn_it rfl ⟨hin, zm_set ht.in hg ?_⟩))⟩
      rw [zf_perf_b hf, zf_xqb hf] at hq
      dsimp only at hq
      rw [hR.cut ht] at hq
      exact hq
    · rw [zf_perf_b hf]
  · have hE : zE rn rc f (atgt t.toNatClampNeg) v (atgt t.toNatClampNeg) 0 (zn_cut (awid (atgt t.toNatClampNeg).toNatClampNeg) v) (vp_nar .boolean f) := Or.inl ⟨hf, ht, rfl, (hR.cut ht v).symm, zn_bool hf⟩
    obtain ⟨wn1, wf1, wt1, wv1, xq1, gwrs1, awto1, awat1, awvl1, awmk1, hw, hl, hJ1⟩ := zw_c1 (xr := xr) (xw := xw) (xe := xe) (xh := xh) hJ hn hE
    refine ⟨_, _, _, _, _, _, _, _, _, _, _, _, _, _, _, _, hw, ?_, rfl, hR, hB, hg, Or.inr ⟨rfl, hJ1⟩⟩
    intro post hq
    exact ⟨hin, zm_cut ht.in (zm_par hpar (zn_if (by decide) ⟨hin, hl _ hq⟩))⟩
set_option maxRecDepth 20000 in
theorem zw_mark {gthr greg gcon gfld gtrn gins glev gkep glvs gkps gwrd gsta gflt gend ghal gwai ghlt glat glpl : Int32} {gwpl : Int64} {xp xr xw xe xh rn : Int32} {rc : Nat → Int64} {awid : Nat → Int32} {s0 : ((Nat → Int64) × (Nat → Int32) × (Nat → Int32))} {n : Nat} {rv : Nat → Int64} {rm : Nat → Int32} {bc : Nat → Int32} {wn : Int32} {wf : Nat → Int32} {wt : Nat → Int32} {wv : Nat → Int64} {xq : Int32} {xb : Int32} {gwro : Int32} {gwrs : Int32} {aval : Nat → Int64} {amrk : Nat → Int32} {awto : Nat → Int32} {awat : Nat → Int32} {awvl : Nat → Int64} {awmk : Nat → Int32} {ahow : Nat → Int32} {i t : Int32} (v : Int64) (hpar : zi_par ahow i xp) (hJ : zJ xp xr rn rc awid s0 n rv rm bc wn wf wt wv xq xb gwro gwrs aval amrk awto awat awvl awmk) (hn : n < 200) (ht : zi_t rn t) : ∃ (rv1 : Nat → Int64) (rm1 : Nat → Int32) (bc1 : Nat → Int32) (wn1 : Int32) (wf1 : Nat → Int32) (wt1 : Nat → Int32) (wv1 : Nat → Int64) (xq1 : Int32) (gwrs1 : Int32) (amrk1 : Nat → Int32) (awto1 : Nat → Int32) (awat1 : Nat → Int32) (awvl1 : Nat → Int64) (awmk1 : Nat → Int32), (∀ post, post rv1 rm1 bc1 wn1 wf1 wt1 wv1 xq1 → wp_Work_write rn rc rv rm bc wn wf wt wv xw xp xr xq xe xh xb 2 t v post) ∧ (∀ post, post gwrs1 amrk1 awto1 awat1 awvl1 awmk1 → wp_M_markOnly gthr greg gcon gfld gtrn gins glev gkep glvs gkps gwrd gsta gflt gend ghal gwro gwai gwpl gwrs ghlt glat glpl amrk ahow awto awat awvl awmk i t post) ∧ bc1 = bc ∧ zJ xp xr rn rc awid s0 (n + 1) rv1 rm1 bc1 wn1 wf1 wt1 wv1 xq1 xb gwro gwrs1 aval amrk1 awto1 awat1 awvl1 awmk1 := by
  obtain ⟨hR, hB, hg, hJ⟩ := hJ
  have hok : zf_ok 2 t := by unfold zf_ok; rw [if_neg (by decide), if_neg (by decide)]; exact ht.in
  have hx : zf_xq 2 t xq = xq := zf_xq2 (by decide) (by decide)
  rcases hJ with ⟨rfl, hJ⟩ | ⟨rfl, hJ⟩
  · obtain ⟨wn1, wf1, wt1, wv1, hw, hJ1⟩ := zw_c0 (xw := xw) (xe := xe) (xh := xh) v hR hB hJ hn hok (fun _ _ => ht)
    obtain ⟨j1, rfl, rfl, rfl, rfl, _⟩ := hJ
    have hp := hR.perf (v := v) (f := 2) hB hok (fun _ _ => ht)
    rw [hx, zf_perf_2] at hJ1 hw
    rw [zf_perf_2] at hp
    dsimp only at hJ1 hp hw
    rw [(hR.vt ht).1, zf_updLself rfl] at hJ1 hp hw
    refine ⟨_, _, _, _, _, _, _, _, _, _, _, _, _, _, hw, ?_, rfl, hp.1, hp.2, hg, Or.inl ⟨rfl, hJ1⟩⟩
    intro post hq
    exact zm_par hpar (zn_it rfl ⟨ht.in, hq⟩)
  · have hE : zE rn rc 2 t v (26 + t) 0 0 (vp_nar .boolean 1) := Or.inr (Or.inl ⟨rfl, ht, rfl⟩)
    obtain ⟨wn1, wf1, wt1, wv1, xq1, gwrs1, awto1, awat1, awvl1, awmk1, hw, hl, hJ1⟩ := zw_c1 (xr := xr) (xw := xw) (xe := xe) (xh := xh) hJ hn hE
    refine ⟨_, _, _, _, _, _, _, _, _, _, _, _, _, _, hw, ?_, rfl, hR, hB, hg, Or.inr ⟨rfl, hJ1⟩⟩
    intro post hq
    exact zm_par hpar (zn_if (by decide) (hl _ hq))
set_option maxRecDepth 20000 in
theorem zn_l2i {a : Int64} (h0 : 0 ≤ a.toInt) (h1 : a.toInt < 2 ^ 31) : zq_j_l2i a = nI a.toInt.toNat := by
  apply Int32.toInt_inj.mp
  rw [nI_toInt (by omega)]
  unfold zq_j_l2i
  rw [Int64.toInt_toInt32]
  rw [Int.bmod_eq_of_le (by omega) (by omega)]
  omega
set_option maxRecDepth 20000 in
theorem zn_lt {a b : Int64} : a < b ↔ a.toInt < b.toInt := Int64.lt_iff_toInt_lt
set_option maxRecDepth 20000 in
theorem zn_le {a b : Int64} : a ≤ b ↔ a.toInt ≤ b.toInt := Int64.le_iff_toInt_le
set_option maxRecDepth 20000 in
theorem zn_even {a : Int64} (h0 : 0 ≤ a.toInt) (h : a &&& 1 = 0) : a.toInt % 2 = 0 := by
  have h' := congrArg (fun x : Int64 => x.toBitVec.toNat) h
  rw [Int64.toBitVec_and, BitVec.toNat_and] at h'
  have e2 : (1 : Int64).toBitVec.toNat = 2 ^ 1 - 1 := by decide
  have e3 : (0 : Int64).toBitVec.toNat = 0 := by decide
  rw [e2, e3, Nat.and_two_pow_sub_one_eq_mod] at h'
  have e4 := zn_toInt a
  unfold zn_N at e4
  rw [e4]
  split
  · omega
  · omega
set_option maxRecDepth 20000 in
theorem zn_odd {a : Int64} (h0 : 0 ≤ a.toInt) (h : ¬ a &&& 1 = 0) : a.toInt % 2 = 1 := by
  by_cases e : a.toInt % 2 = 0
  · exfalso
    apply h
    apply Int64.toBitVec_inj.mp
    apply BitVec.eq_of_toNat_eq
    rw [Int64.toBitVec_and, BitVec.toNat_and]
    have e2 : (1 : Int64).toBitVec.toNat = 2 ^ 1 - 1 := by decide
    have e3 : (0 : Int64).toBitVec.toNat = 0 := by decide
    rw [e2, e3, Nat.and_two_pow_sub_one_eq_mod]
    have e4 := zn_toInt a
    unfold zn_N at e4
    rw [e4] at e
    split at e <;> omega
  · omega
def zi_there (w : Int32) (a : Int64) : Prop := 0 ≤ a.toInt ∧ a.toInt < 4096 ∧ (w = 1 → a &&& 1 = 0)
set_option maxRecDepth 20000 in
theorem zc_there {w : Int32} {a : Int64} (hw : zq_bz w) {p q : Prop} (h1 : zi_there w a → p) (h0 : ¬ zi_there w a → q) : if w = 0 then wp_Bytes_hasByte a (fun r => if r = 0 then q else p) else wp_Bytes_hasWord a (fun r => if r = 0 then q else p) := by
  have c0 : (0 : Int64).toInt = 0 := by decide
  have c1 : (4096 : Int64).toInt = 4096 := by decide
  unfold wp_Bytes_hasWord wp_Bytes_hasByte
  rcases hw with rfl | rfl
  · refine zn_it rfl (zn_ite (fun h => zn_it rfl (h0 ?_)) (fun h => zn_ite (fun h' => zn_it rfl (h0 ?_)) (fun h' => zn_if (by decide) (h1 ?_))))
    · rw [zn_lt, c0] at h; intro g; have := g.1; omega
    · rw [zn_le, c1] at h'; intro g; have := g.2.1; omega
    · rw [zn_lt, c0] at h; rw [zn_le, c1] at h'; exact ⟨by omega, by omega, fun q => absurd q (by decide)⟩
  · refine zn_if (by decide) (zn_ite (fun h => zn_it rfl (zn_it rfl (h0 ?_))) (fun h => zn_ite (fun h' => zn_it rfl (zn_it rfl (h0 ?_))) (fun h' => zn_if (by decide) (zn_ite (fun e => zn_if (by decide) (h1 ?_)) (fun e => zn_it rfl (h0 ?_))))))
    · rw [zn_lt, c0] at h; intro g; have := g.1; omega
    · rw [zn_le, c1] at h'; intro g; have := g.2.1; omega
    · rw [zn_lt, c0] at h; rw [zn_le, c1] at h'; exact ⟨by omega, by omega, fun _ => e⟩
    · intro g; exact e (g.2.2 rfl)
set_option maxRecDepth 20000 in
theorem zm_there {gthr greg gcon gfld gtrn gins glev gkep glvs gkps gwrd gsta gflt gend ghal gwro gwai gwrs ghlt glat glpl : Int32} {gwpl : Int64} {w : Int32} {a : Int64} (hw : zq_bz w) {p q : Prop} (h1 : zi_there w a → p) (h0 : ¬ zi_there w a → q) : wp_M_isThere gthr greg gcon gfld gtrn gins glev gkep glvs gkps gwrd gsta gflt gend ghal gwro gwai gwpl gwrs ghlt glat glpl a (w + 1) (fun r => if r = 0 then q else p) := by
  have c0 : (0 : Int64).toInt = 0 := by decide
  unfold wp_M_isThere wp_M_in
  rcases hw with rfl | rfl
  · have c1 : (zq_j_i2l (4096 - (0 + 1))).toInt = 4095 := by rw [zn_i2l]; decide
    refine zn_ite (fun h => zn_it rfl (zn_it rfl (h0 ?_))) (fun h => zn_ite (fun h' => zn_it rfl (zn_it rfl (h0 ?_))) (fun h' => zn_if (by decide) (zn_it (by decide) (zn_if (by decide) (h1 ?_)))))
    · rw [zn_lt, c0] at h; intro g; have := g.1; omega
    · rw [zn_lt, c1] at h'; intro g; have := g.2.1; omega
    · rw [zn_lt, c0] at h; rw [zn_lt, c1] at h'; exact ⟨by omega, by omega, fun q => absurd q (by decide)⟩
  · have c1 : (zq_j_i2l (4096 - (1 + 1))).toInt = 4094 := by rw [zn_i2l]; decide
    refine zn_ite (fun h => zn_it rfl (zn_it rfl (h0 ?_))) (fun h => zn_ite (fun h' => zn_it rfl (zn_it rfl (h0 ?_))) (fun h' => zn_if (by decide) (zn_if (by decide) (zn_ite (fun e => zn_if (by decide) (h1 ?_)) (fun e => zn_it rfl (h0 ?_))))))
    · rw [zn_lt, c0] at h; intro g; have := g.1; omega
    · rw [zn_lt, c1] at h'; intro g; have g1 := g.1; have g2 := g.2.1; have := zn_even g1 (g.2.2 rfl); omega
    · rw [zn_lt, c0] at h; rw [zn_lt, c1] at h'; exact ⟨by omega, by omega, fun _ => e⟩
    · intro g; exact e (g.2.2 rfl)
set_option maxRecDepth 20000 in
theorem zi_there.in {w : Int32} {a : Int64} (h : zi_there w a) : vp_in (zq_j_l2i a) 4096 ∧ (w = 1 → vp_in (zq_j_l2i a + 1) 4096) := by
  obtain ⟨h0, h1, h2⟩ := h
  rw [zn_l2i h0 (by omega), nI_1]
  refine ⟨vp_in_nI (by omega) (by omega), fun e => vp_in_nI ?_ (by omega)⟩
  have := zn_even h0 (h2 e)
  omega
