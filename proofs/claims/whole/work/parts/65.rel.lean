def zi_R (rn : Int32) (rc rv : Nat → Int64) (rm awid : Nat → Int32) : Prop := ∃ c : Nat, rn = nI c ∧ 1 ≤ c ∧ c ≤ 24 ∧ awid 0 = 16 ∧ (∀ k, k < c → ∃ w : Nat, 1 ≤ w ∧ w ≤ 64 ∧ awid k = nI w ∧ rc k = zq_j_lushr (-1) (64 - nI w)) ∧ (∀ k, k < c → rv k &&& rc k = rv k) ∧ (∀ k, k < c → zq_bz (rm k)) ∧ (∀ k, c ≤ k → rv k = 0 ∧ rm k = 0)
def zi_B (bc : Nat → Int32) : Prop := (∀ k, zn_isb (bc k)) ∧ ∀ k, 4096 ≤ k → bc k = 0
def zi_t (rn t : Int32) : Prop := ∃ c k : Nat, rn = nI c ∧ c ≤ 24 ∧ t = nI k ∧ k < c
set_option maxRecDepth 20000 in
theorem zi_t.in {rn t : Int32} (h : zi_t rn t) : vp_in t 24 := by
  obtain ⟨c, k, rfl, hc, rfl, hk⟩ := h
  exact vp_in_nI (by omega) (by omega)
set_option maxRecDepth 20000 in
theorem zi_R.t0 {rn : Int32} {rc rv : Nat → Int64} {rm awid : Nat → Int32} (h : zi_R rn rc rv rm awid) : zi_t rn 0 := by
  obtain ⟨c, e, h1, h2, _⟩ := h
  exact ⟨c, 0, e, h2, by decide, by omega⟩
set_option maxRecDepth 20000 in
theorem zi_R.cut {rn t : Int32} {rc rv : Nat → Int64} {rm awid : Nat → Int32} (h : zi_R rn rc rv rm awid) (ht : zi_t rn t) (v : Int64) : v &&& rc t.toNatClampNeg = zn_cut (awid t.toNatClampNeg) v := by
  obtain ⟨c, e, h1, h2, _, hw, _⟩ := h
  obtain ⟨c', k, e', hc, rfl, hk⟩ := ht
  rw [e, nI_eq (by omega) (by omega)] at e'
  subst e'
  rw [nI_clamp (by omega)]
  obtain ⟨w, w1, w2, w3, w4⟩ := hw k hk
  rw [w3, w4, zn_cut_eq w1 w2]
set_option maxRecDepth 20000 in
theorem zi_R.vt {rn t : Int32} {rc rv : Nat → Int64} {rm awid : Nat → Int32} (h : zi_R rn rc rv rm awid) (ht : zi_t rn t) : rv t.toNatClampNeg &&& rc t.toNatClampNeg = rv t.toNatClampNeg ∧ zq_bz (rm t.toNatClampNeg) := by
  obtain ⟨c, e, h1, h2, _, hw, hv, hm, _⟩ := h
  obtain ⟨c', k, e', hc, rfl, hk⟩ := ht
  rw [e, nI_eq (by omega) (by omega)] at e'
  subst e'
  rw [nI_clamp (by omega)]
  exact ⟨hv k hk, hm k hk⟩
set_option maxRecDepth 20000 in
theorem zi_R.put {rn t : Int32} {rc rv : Nat → Int64} {rm awid : Nat → Int32} (h : zi_R rn rc rv rm awid) (ht : zi_t rn t) (v : Int64) {m : Int32} (hm : zq_bz m) : zi_R rn rc (vp_updL rv t.toNatClampNeg (v &&& rc t.toNatClampNeg)) (upd rm t.toNatClampNeg (vp_nar .boolean m)) awid := by
  obtain ⟨c, e, h1, h2, h0, hw, hv, hb, hz⟩ := h
  obtain ⟨c', k, e', hc, rfl, hk⟩ := ht
  have e2 := e'
  rw [e, nI_eq (by omega) (by omega)] at e2
  subst e2
  rw [nI_clamp (by omega), zn_bool hm]
  refine ⟨c, e, h1, h2, h0, hw, ?_, ?_, ?_⟩
  · intro j hj
    unfold vp_updL
    by_cases ej : j = k
    · rw [if_pos ej, ej]; exact zn_and2 _ _
    · rw [if_neg ej]; exact hv j hj
  · intro j hj
    unfold upd
    by_cases ej : j = k
    · rw [if_pos ej]; exact hm
    · rw [if_neg ej]; exact hb j hj
  · intro j hj
    unfold vp_updL upd
    rw [if_neg (by omega), if_neg (by omega)]
    exact hz j hj
set_option maxRecDepth 20000 in
theorem zf_updLself {f : Nat → Int64} {k : Nat} {x : Int64} (h : x = f k) : vp_updL f k x = f := by
  funext j
  unfold vp_updL
  by_cases e : j = k
  · rw [if_pos e, h, e]
  · rw [if_neg e]
set_option maxRecDepth 20000 in
theorem zi_R.mark {rn t : Int32} {rc rv : Nat → Int64} {rm awid : Nat → Int32} (h : zi_R rn rc rv rm awid) (ht : zi_t rn t) {m : Int32} (hm : zq_bz m) : zi_R rn rc rv (upd rm t.toNatClampNeg (vp_nar .boolean m)) awid := by
  have g := h.put ht (rv t.toNatClampNeg) hm
  rw [zf_updLself (h.vt ht).1] at g
  exact g
set_option maxRecDepth 20000 in
theorem zi_B.put {bc : Nat → Int32} (h : zi_B bc) {k : Nat} (hk : k < 4096) (x : Int32) : zi_B (upd bc k (vp_nar .byte (zq_j_i2b x))) := by
  refine ⟨fun j => ?_, fun j hj => ?_⟩
  · unfold upd
    by_cases e : j = k
    · rw [if_pos e, zn_narb]; exact zn_isb_i2b x
    · rw [if_neg e]; exact h.1 j
  · unfold upd
    rw [if_neg (by omega)]
    exact h.2 j hj
set_option maxRecDepth 20000 in
theorem zi_N {t : Int32} {n : Nat} (h : vp_in t n) : t.toNatClampNeg < n := by
  unfold vp_in at h
  omega
set_option maxRecDepth 20000 in
theorem zi_R.perf {rn f t : Int32} {rc rv : Nat → Int64} {rm bc awid : Nat → Int32} {v : Int64} (h : zi_R rn rc rv rm awid) (hB : zi_B bc) (hok : zf_ok f t) (ht : ¬ f = 3 → ¬ f = 4 → zi_t rn t) : zi_R rn rc (zf_perf rc f t v (rv, rm, bc)).1 (zf_perf rc f t v (rv, rm, bc)).2.1 awid ∧ zi_B (zf_perf rc f t v (rv, rm, bc)).2.2 := by
  unfold zf_ok at hok
  by_cases f3 : f = 3
  · subst f3; rw [if_pos rfl] at hok; rw [zf_perf_3]; exact ⟨h, hB.put (zi_N hok) _⟩
  by_cases f4 : f = 4
  · subst f4; rw [if_neg (by decide), if_pos rfl] at hok; rw [zf_perf_4]; exact ⟨h, (hB.put (zi_N hok.1) _).put (zi_N hok.2) _⟩
  have ht' := ht f3 f4
  by_cases f2 : f = 2
  · subst f2; rw [zf_perf_2]
    exact ⟨h.put ht' _ (Or.inr rfl), hB⟩
  unfold zf_perf
  rw [if_neg f2, if_neg f3, if_neg f4]
  by_cases f1 : f = 1
  · rw [if_pos f1]; exact ⟨h.put ht' _ (Or.inr rfl), hB⟩
  · rw [if_neg f1]; exact ⟨h.put ht' _ (Or.inl rfl), hB⟩
def zE (rn : Int32) (rc : Nat → Int64) (f t : Int32) (v : Int64) (to at' : Int32) (vl : Int64) (mk : Int32) : Prop :=
  (zq_bz f ∧ zi_t rn t ∧ to = t ∧ vl = v &&& rc t.toNatClampNeg ∧ mk = f) ∨ (f = 2 ∧ zi_t rn t ∧ to = 26 + t) ∨ (f = 3 ∧ vp_in t 4096 ∧ to = 24 ∧ at' = t ∧ vl = v) ∨ (f = 4 ∧ vp_in t 4096 ∧ vp_in (t + 1) 4096 ∧ to = 25 ∧ at' = t ∧ vl = v)
def zf_xq (f t xq : Int32) : Int32 := if t = 0 ∧ (f = 0 ∨ f = 1) then 1 else xq
def zf_wro (wf wt : Nat → Int32) (x : Int32) : Nat → Int32
  | 0 => x
  | n + 1 => zf_xq (wf n) (wt n) (zf_wro wf wt x n)
def zJ0 (xr rn : Int32) (rc : Nat → Int64) (s0 : ((Nat → Int64) × (Nat → Int32) × (Nat → Int32))) (n : Nat) (rv : Nat → Int64) (rm : Nat → Int32) (bc : Nat → Int32) (wn : Int32) (wf : Nat → Int32) (wt : Nat → Int32) (wv : Nat → Int64) (xq : Int32) (xb : Int32) (gwro : Int32) (gwrs : Int32) (aval : Nat → Int64) (amrk : Nat → Int32) (awto : Nat → Int32) (awat : Nat → Int32) (awvl : Nat → Int64) (awmk : Nat → Int32) : Prop :=
  xb = -1 ∧ aval = rv ∧ amrk = rm ∧ gwro = xq ∧ gwrs = 0 ∧ ∃ m : Nat, m ≤ n ∧ wn = nI m ∧ (∀ k, k < m → zf_ok (wf k) (wt k)) ∧ (¬ xr = 0 → zf_back rc wf wt wv m (rv, rm, bc) = s0)
def zJ1 (rn : Int32) (rc : Nat → Int64) (s0 : ((Nat → Int64) × (Nat → Int32) × (Nat → Int32))) (n : Nat) (rv : Nat → Int64) (rm : Nat → Int32) (bc : Nat → Int32) (wn : Int32) (wf : Nat → Int32) (wt : Nat → Int32) (wv : Nat → Int64) (xq : Int32) (xb : Int32) (gwro : Int32) (gwrs : Int32) (aval : Nat → Int64) (amrk : Nat → Int32) (awto : Nat → Int32) (awat : Nat → Int32) (awvl : Nat → Int64) (awmk : Nat → Int32) : Prop :=
  (rv, rm, bc) = s0 ∧ (∃ m : Nat, m ≤ n ∧ wn = nI m ∧ gwrs = nI m ∧ (∀ k, k < m → zE rn rc (wf k) (wt k) (wv k) (awto k) (awat k) (awvl k) (awmk k)) ∧ xq = zf_wro wf wt gwro m) ∧ ((xb = -1 ∧ aval = rv ∧ amrk = rm) ∨ (0 ≤ xb.toInt ∧ xb.toInt ≤ 65535 ∧ aval = vp_updL rv 0 (zq_j_i2l xb) ∧ amrk = upd rm 0 (vp_nar .boolean 0)))
def zJ (xp xr rn : Int32) (rc : Nat → Int64) (awid : Nat → Int32) (s0 : ((Nat → Int64) × (Nat → Int32) × (Nat → Int32))) (n : Nat) (rv : Nat → Int64) (rm : Nat → Int32) (bc : Nat → Int32) (wn : Int32) (wf : Nat → Int32) (wt : Nat → Int32) (wv : Nat → Int64) (xq : Int32) (xb : Int32) (gwro : Int32) (gwrs : Int32) (aval : Nat → Int64) (amrk : Nat → Int32) (awto : Nat → Int32) (awat : Nat → Int32) (awvl : Nat → Int64) (awmk : Nat → Int32) : Prop :=
  zi_R rn rc rv rm awid ∧ zi_B bc ∧ zq_bz gwro ∧ ((xp = 0 ∧ zJ0 xr rn rc s0 n rv rm bc wn wf wt wv xq xb gwro gwrs aval amrk awto awat awvl awmk) ∨ (xp = 1 ∧ zJ1 rn rc s0 n rv rm bc wn wf wt wv xq xb gwro gwrs aval amrk awto awat awvl awmk))
set_option maxRecDepth 20000 in
theorem zi_R.inv {rn f t : Int32} {rc rv : Nat → Int64} {rm bc awid : Nat → Int32} (h : zi_R rn rc rv rm awid) (hB : zi_B bc) (ht : ¬ f = 3 → ¬ f = 4 → zi_t rn t) : zf_inv rc f t (rv, rm, bc) :=
  ⟨fun f3 f4 => h.vt (ht f3 f4), hB.1⟩
set_option maxRecDepth 20000 in
theorem zc_write {xp xr xw xe xh xb rn : Int32} {rc : Nat → Int64} {rv : Nat → Int64} {rm : Nat → Int32} {bc : Nat → Int32} {wn : Int32} {wf : Nat → Int32} {wt : Nat → Int32} {wv : Nat → Int64} {xq : Int32} {f t : Int32} {v : Int64} {post : (Nat → Int64) → (Nat → Int32) → (Nat → Int32) → Int32 → (Nat → Int32) → (Nat → Int32) → (Nat → Int64) → Int32 → Prop} (h : wp_Work_write_18 rn rc xw xp xr xe xh xb rv rm bc wn wf wt wv (zf_xq f t xq) f t v post) : wp_Work_write rn rc rv rm bc wn wf wt wv xw xp xr xq xe xh xb f t v post := by
  unfold wp_Work_write
  unfold zf_xq at h
  by_cases t0 : t = 0
  · rw [if_pos t0]
    by_cases f0 : f = 0
    · rw [if_pos f0]; rw [if_pos ⟨t0, Or.inl f0⟩] at h; exact h
    rw [if_neg f0]
    by_cases f1 : f = 1
    · rw [if_pos f1]; rw [if_pos ⟨t0, Or.inr f1⟩] at h; exact h
    rw [if_neg f1]
    rw [if_neg (fun q => q.2.elim f0 f1)] at h; exact h
  · rw [if_neg t0]
    rw [if_neg (fun q => t0 q.1)] at h; exact h
set_option maxRecDepth 20000 in
theorem zf_updb {f : Nat → Int32} {k j : Nat} {x : Int32} (h : j < k) : upd f k x j = f j := by
  unfold upd; rw [if_neg (by omega)]
set_option maxRecDepth 20000 in
theorem zf_updb' {f : Nat → Int32} {k j : Nat} {x : Int32} (h : ¬ j = k) : upd f k x j = f j := by
  unfold upd; rw [if_neg h]
set_option maxRecDepth 20000 in
theorem zf_updLb' {f : Nat → Int64} {k j : Nat} {x : Int64} (h : ¬ j = k) : vp_updL f k x j = f j := by
  unfold vp_updL; rw [if_neg h]
set_option maxRecDepth 20000 in
theorem zf_upds {f : Nat → Int32} {k : Nat} {x : Int32} : upd f k x k = x := by
  unfold upd; rw [if_pos rfl]
set_option maxRecDepth 20000 in
theorem zf_updLb {f : Nat → Int64} {k j : Nat} {x : Int64} (h : j < k) : vp_updL f k x j = f j := by
  unfold vp_updL; rw [if_neg (by omega)]
set_option maxRecDepth 20000 in
theorem zf_updLs {f : Nat → Int64} {k : Nat} {x : Int64} : vp_updL f k x k = x := by
  unfold vp_updL; rw [if_pos rfl]
set_option maxRecDepth 20000 in
theorem zf_ok_rev {f t : Int32} {s : ((Nat → Int64) × (Nat → Int32) × (Nat → Int32))} (h : zf_ok f t) : zf_ok (zf_rev f t s).1 t := by
  unfold zf_ok zf_rev at *
  by_cases f3 : f = 3
  · rw [if_pos f3] at h; rw [if_pos f3, if_pos rfl]; exact h
  by_cases f4 : f = 4
  · rw [if_neg f3, if_pos f4] at h; rw [if_neg f3, if_pos f4, if_neg (by show ¬ (4 : Int32) = 3; decide), if_pos rfl]; exact h
  rw [if_neg f3, if_neg f4] at h
  rw [if_neg f3, if_neg f4]
  by_cases e : s.2.1 t.toNatClampNeg = 0
  · rw [if_pos e, if_neg (by show ¬ (0 : Int32) = 3; decide), if_neg (by show ¬ (0 : Int32) = 4; decide)]; exact h
  · rw [if_neg e, if_neg (by show ¬ (1 : Int32) = 3; decide), if_neg (by show ¬ (1 : Int32) = 4; decide)]; exact h
set_option maxRecDepth 20000 in
theorem zw_c0 {xr xw xe xh rn : Int32} {rc : Nat → Int64} {s0 : ((Nat → Int64) × (Nat → Int32) × (Nat → Int32))} {awid : Nat → Int32} {n : Nat} {rv : Nat → Int64} {rm : Nat → Int32} {bc : Nat → Int32} {wn : Int32} {wf : Nat → Int32} {wt : Nat → Int32} {wv : Nat → Int64} {xq : Int32} {xb : Int32} {gwro : Int32} {gwrs : Int32} {aval : Nat → Int64} {amrk : Nat → Int32} {awto : Nat → Int32} {awat : Nat → Int32} {awvl : Nat → Int64} {awmk : Nat → Int32} {f t : Int32} (v : Int64) (hR : zi_R rn rc rv rm awid) (hB : zi_B bc) (hJ : zJ0 xr rn rc s0 n rv rm bc wn wf wt wv xq xb gwro gwrs aval amrk awto awat awvl awmk) (hn : n < 200) (hok : zf_ok f t) (ht : ¬ f = 3 → ¬ f = 4 → zi_t rn t) : ∃ (wn1 : Int32) (wf1 : Nat → Int32) (wt1 : Nat → Int32) (wv1 : Nat → Int64), (∀ post, post (zf_perf rc f t v (rv, rm, bc)).1 (zf_perf rc f t v (rv, rm, bc)).2.1 (zf_perf rc f t v (rv, rm, bc)).2.2 wn1 wf1 wt1 wv1 (zf_xq f t xq) → wp_Work_write rn rc rv rm bc wn wf wt wv xw 0 xr xq xe xh xb f t v post) ∧ zJ0 xr rn rc s0 (n + 1) (zf_perf rc f t v (rv, rm, bc)).1 (zf_perf rc f t v (rv, rm, bc)).2.1 (zf_perf rc f t v (rv, rm, bc)).2.2 wn1 wf1 wt1 wv1 (zf_xq f t xq) xb (zf_xq f t xq) 0 (zf_perf rc f t v (rv, rm, bc)).1 (zf_perf rc f t v (rv, rm, bc)).2.1 awto awat awvl awmk := by
  obtain ⟨j1, j2, j3, j4, j5, m, hm, rfl, hk, hb⟩ := hJ
  by_cases hr : xr = 0
  · refine ⟨nI m, wf, wt, wv, ?_, j1, rfl, rfl, rfl, rfl, m, by omega, rfl, hk, fun q => absurd hr q⟩
    intro post hp
    refine zc_write ?_
    unfold wp_Work_write_18
    refine zn_it rfl (zn_it hr ?_)
    exact zc_perform (s := (rv, rm, bc)) hok hp
  · refine ⟨nI (m + 1), upd wf m (zf_rev f t (rv, rm, bc)).1, upd wt m t, vp_updL wv m (zf_rev f t (rv, rm, bc)).2, ?_, j1, rfl, rfl, rfl, rfl, m + 1, by omega, rfl, ?_, ?_⟩
    · intro post hp
      refine zc_write ?_
      unfold wp_Work_write_18
      refine zn_it rfl (zn_if hr ?_)
      refine zc_rev (s := (rv, rm, bc)) (by omega) hok (hR.inv hB ht) ?_
      exact zc_perform (s := (rv, rm, bc)) hok hp
    · intro k h
      by_cases e : k < m
      · rw [zf_updb e, zf_updb e]; exact hk k e
      · have : k = m := by omega
        subst this
        rw [zf_upds, zf_upds]; exact zf_ok_rev hok
    · intro _
      show zf_back rc _ _ _ m (zf_perf rc _ _ _ (zf_perf rc f t v (rv, rm, bc))) = s0
      rw [zf_back_upd m (Nat.le_refl _), zf_upds, zf_upds, zf_updLs, zu_undo hok (hR.inv hB ht)]
      exact hb hr
set_option maxRecDepth 20000 in
theorem zE.ok {rn : Int32} {rc : Nat → Int64} {f t : Int32} {v : Int64} {to at' : Int32} {vl : Int64} {mk : Int32} (h : zE rn rc f t v to at' vl mk) : zf_ok f t := by
  unfold zf_ok
  rcases h with ⟨hf, ht, _⟩ | ⟨rfl, ht, _⟩ | ⟨rfl, ht, _⟩ | ⟨rfl, h1, h2, _⟩
  · rcases hf with rfl | rfl
    · rw [if_neg (by decide), if_neg (by decide)]; exact ht.in
    · rw [if_neg (by decide), if_neg (by decide)]; exact ht.in
  · rw [if_neg (by decide), if_neg (by decide)]; exact ht.in
  · rw [if_pos rfl]; exact ht
  · rw [if_neg (by decide), if_pos rfl]; exact ⟨h1, h2⟩
set_option maxRecDepth 20000 in
theorem zf_wro_upd {wf wt : Nat → Int32} {x f t : Int32} {m : Nat} : ∀ n, n ≤ m → zf_wro (upd wf m f) (upd wt m t) x n = zf_wro wf wt x n := by
  intro n
  induction n with
  | zero => intro _; rfl
  | succ n ih =>
    intro h
    show zf_xq _ _ _ = zf_xq _ _ _
    rw [ih (by omega), zf_updb (by omega), zf_updb (by omega)]
set_option maxRecDepth 20000 in
theorem zw_c1 {xr xw xe xh rn : Int32} {rc : Nat → Int64} {s0 : ((Nat → Int64) × (Nat → Int32) × (Nat → Int32))} {n : Nat} {rv : Nat → Int64} {rm : Nat → Int32} {bc : Nat → Int32} {wn : Int32} {wf : Nat → Int32} {wt : Nat → Int32} {wv : Nat → Int64} {xq : Int32} {xb : Int32} {gwro : Int32} {gwrs : Int32} {aval : Nat → Int64} {amrk : Nat → Int32} {awto : Nat → Int32} {awat : Nat → Int32} {awvl : Nat → Int64} {awmk : Nat → Int32} {f t to at' mk : Int32} {v vl : Int64} (hJ : zJ1 rn rc s0 n rv rm bc wn wf wt wv xq xb gwro gwrs aval amrk awto awat awvl awmk) (hn : n < 200) (hE : zE rn rc f t v to at' vl (vp_nar .boolean mk)) : ∃ (wn1 : Int32) (wf1 : Nat → Int32) (wt1 : Nat → Int32) (wv1 : Nat → Int64) (xq1 : Int32) (gwrs1 : Int32) (awto1 : Nat → Int32) (awat1 : Nat → Int32) (awvl1 : Nat → Int64) (awmk1 : Nat → Int32), (∀ post, post rv rm bc wn1 wf1 wt1 wv1 xq1 → wp_Work_write rn rc rv rm bc wn wf wt wv xw 1 xr xq xe xh xb f t v post) ∧ (∀ {gthr greg gcon gfld gtrn gins glev gkep glvs gkps gwrd gsta gflt gend ghal gwai ghlt glat glpl : Int32} {gwpl : Int64} post, post gwrs1 awto1 awat1 awvl1 awmk1 → wp_M_later gthr greg gcon gfld gtrn gins glev gkep glvs gkps gwrd gsta gflt gend ghal gwro gwai gwpl gwrs ghlt glat glpl awto awat awvl awmk to at' vl mk post) ∧ zJ1 rn rc s0 (n + 1) rv rm bc wn1 wf1 wt1 wv1 xq1 xb gwro gwrs1 aval amrk awto1 awat1 awvl1 awmk1 := by
  obtain ⟨j1, ⟨m, hm, rfl, rfl, hk, hq⟩, j3⟩ := hJ
  refine ⟨nI (m + 1), upd wf m f, upd wt m t, vp_updL wv m v, zf_xq f t xq, nI (m + 1), upd awto m to, upd awat m at', vp_updL awvl m vl, upd awmk m (vp_nar .boolean mk), ?_, ?_, j1, ⟨m + 1, by omega, rfl, rfl, ?_, ?_⟩, j3⟩
  · intro post hp
    refine zc_write ?_
    unfold wp_Work_write_18
    exact zn_if (by decide) (zc_note (by omega) hp)
  · intros
    rename_i hp
    have h : vp_in (nI m) 200 := vp_in_nI (by omega) (by omega)
    refine ⟨h, h, h, h, ?_⟩
    rw [nI_clamp (by omega), nI_1]
    exact hp
  · intro k h
    by_cases e : k < m
    · rw [zf_updb e, zf_updb e, zf_updLb e, zf_updb e, zf_updb e, zf_updLb e, zf_updb e]; exact hk k e
    · have : k = m := by omega
      subst this
      rw [zf_upds, zf_upds, zf_updLs, zf_upds, zf_upds, zf_updLs, zf_upds]; exact hE
  · show _ = zf_xq _ _ _
    rw [zf_wro_upd m (Nat.le_refl _), zf_upds, zf_upds, hq]
