def zf_perf (rc : Nat → Int64) (f t : Int32) (v : Int64) (s : ((Nat → Int64) × (Nat → Int32) × (Nat → Int32))) : ((Nat → Int64) × (Nat → Int32) × (Nat → Int32)) :=
  if f = 2 then (vp_updL s.1 t.toNatClampNeg (s.1 t.toNatClampNeg &&& rc t.toNatClampNeg), upd s.2.1 t.toNatClampNeg (vp_nar .boolean 1), s.2.2)
  else if f = 3 then (s.1, s.2.1, upd s.2.2 t.toNatClampNeg (vp_nar .byte (zq_j_i2b (zq_j_l2i v))))
  else if f = 4 then (s.1, s.2.1, upd (upd s.2.2 t.toNatClampNeg (vp_nar .byte (zq_j_i2b (zq_j_l2i v)))) (t + 1).toNatClampNeg (vp_nar .byte (zq_j_i2b (zq_j_l2i (zq_j_lushr v 8)))))
  else if f = 1 then (vp_updL s.1 t.toNatClampNeg (v &&& rc t.toNatClampNeg), upd s.2.1 t.toNatClampNeg (vp_nar .boolean 1), s.2.2)
  else (vp_updL s.1 t.toNatClampNeg (v &&& rc t.toNatClampNeg), upd s.2.1 t.toNatClampNeg (vp_nar .boolean 0), s.2.2)
set_option maxRecDepth 20000 in
theorem zf_perf_2 {rc : Nat → Int64} {t : Int32} {v : Int64} {s : ((Nat → Int64) × (Nat → Int32) × (Nat → Int32))} : zf_perf rc 2 t v s = (vp_updL s.1 t.toNatClampNeg (s.1 t.toNatClampNeg &&& rc t.toNatClampNeg), upd s.2.1 t.toNatClampNeg (vp_nar .boolean 1), s.2.2) := if_pos rfl
set_option maxRecDepth 20000 in
theorem zf_perf_3 {rc : Nat → Int64} {t : Int32} {v : Int64} {s : ((Nat → Int64) × (Nat → Int32) × (Nat → Int32))} : zf_perf rc 3 t v s = (s.1, s.2.1, upd s.2.2 t.toNatClampNeg (vp_nar .byte (zq_j_i2b (zq_j_l2i v)))) := by
  unfold zf_perf; rw [if_neg (by decide), if_pos rfl]
set_option maxRecDepth 20000 in
theorem zf_perf_4 {rc : Nat → Int64} {t : Int32} {v : Int64} {s : ((Nat → Int64) × (Nat → Int32) × (Nat → Int32))} : zf_perf rc 4 t v s = (s.1, s.2.1, upd (upd s.2.2 t.toNatClampNeg (vp_nar .byte (zq_j_i2b (zq_j_l2i v)))) (t + 1).toNatClampNeg (vp_nar .byte (zq_j_i2b (zq_j_l2i (zq_j_lushr v 8))))) := by
  unfold zf_perf; rw [if_neg (by decide), if_neg (by decide), if_pos rfl]
set_option maxRecDepth 20000 in
theorem zf_perf_b {rc : Nat → Int64} {f t : Int32} {v : Int64} {s : ((Nat → Int64) × (Nat → Int32) × (Nat → Int32))} (hf : zq_bz f) : zf_perf rc f t v s = (vp_updL s.1 t.toNatClampNeg (v &&& rc t.toNatClampNeg), upd s.2.1 t.toNatClampNeg (vp_nar .boolean f), s.2.2) := by
  unfold zf_perf
  rcases hf with rfl | rfl
  · rw [if_neg (by decide), if_neg (by decide), if_neg (by decide), if_neg (by decide)]
  · rw [if_neg (by decide), if_neg (by decide), if_neg (by decide), if_pos rfl]
def zf_ok (f t : Int32) : Prop := if f = 3 then vp_in t 4096 else if f = 4 then vp_in t 4096 ∧ vp_in (t + 1) 4096 else vp_in t 24
set_option maxRecDepth 20000 in
theorem zc_perform {rn : Int32} {rc : Nat → Int64} {s : ((Nat → Int64) × (Nat → Int32) × (Nat → Int32))} {wn f t : Int32} {v : Int64} {post : (Nat → Int64) → (Nat → Int32) → (Nat → Int32) → Prop} (h : zf_ok f t) (hp : post (zf_perf rc f t v s).1 (zf_perf rc f t v s).2.1 (zf_perf rc f t v s).2.2) : wp_Writes_perform rn rc s.1 s.2.1 s.2.2 wn f t v post := by
  unfold zf_ok at h
  unfold zf_perf at hp
  unfold wp_Writes_perform
  by_cases f2 : f = 2
  · subst f2
    rw [if_neg (by decide), if_neg (by decide)] at h
    rw [if_pos rfl] at hp ⊢
    exact ⟨h, h, h, h, hp⟩
  rw [if_neg f2] at hp ⊢
  by_cases f3 : f = 3
  · subst f3
    rw [if_pos rfl] at h hp ⊢
    exact ⟨h, hp⟩
  rw [if_neg f3] at h hp ⊢
  by_cases f4 : f = 4
  · subst f4
    rw [if_pos rfl] at h hp ⊢
    exact ⟨h.1, h.2, hp⟩
  rw [if_neg f4] at h hp ⊢
  by_cases f1 : f = 1
  · subst f1
    rw [if_pos rfl] at hp ⊢
    exact ⟨h, h, h, hp⟩
  rw [if_neg f1] at hp ⊢
  exact ⟨h, h, h, hp⟩
def zf_rev (f t : Int32) (s : ((Nat → Int64) × (Nat → Int32) × (Nat → Int32))) : Int32 × Int64 :=
  if f = 3 then (3, zq_j_i2l (s.2.2 t.toNatClampNeg &&& 255))
  else if f = 4 then (4, zq_j_i2l ((s.2.2 t.toNatClampNeg &&& 255) ||| ((s.2.2 (t + 1).toNatClampNeg &&& 255) <<< ((8 : Int32) &&& 31))))
  else if s.2.1 t.toNatClampNeg = 0 then (0, s.1 t.toNatClampNeg) else (1, s.1 t.toNatClampNeg)
def zf_inv (rc : Nat → Int64) (f t : Int32) (s : ((Nat → Int64) × (Nat → Int32) × (Nat → Int32))) : Prop := (¬ f = 3 → ¬ f = 4 → (s.1 t.toNatClampNeg &&& rc t.toNatClampNeg = s.1 t.toNatClampNeg ∧ zq_bz (s.2.1 t.toNatClampNeg))) ∧ (∀ k, zn_isb (s.2.2 k))
set_option maxRecDepth 20000 in
theorem zc_note {m : Nat} {wf wt : Nat → Int32} {wv : Nat → Int64} {f t : Int32} {v : Int64} {post : Int32 → (Nat → Int32) → (Nat → Int32) → (Nat → Int64) → Prop} (hm : m < 200) (hp : post (nI (m + 1)) (upd wf m f) (upd wt m t) (vp_updL wv m v)) : wp_Writes_note (nI m) wf wt wv f t v post := by
  unfold wp_Writes_note
  have h : vp_in (nI m) 200 := vp_in_nI hm (by omega)
  refine zn_it (nI_lt hm (by omega) : nI m < nI 200) ⟨h, h, h, ?_⟩
  rw [nI_clamp (by omega), nI_1]
  exact hp
set_option maxRecDepth 20000 in
theorem zc_rev {rn : Int32} {rc : Nat → Int64} {s : ((Nat → Int64) × (Nat → Int32) × (Nat → Int32))} {m : Nat} {wf wt : Nat → Int32} {wv : Nat → Int64} {f t : Int32} {post : Int32 → (Nat → Int32) → (Nat → Int32) → (Nat → Int64) → Prop} (hm : m < 200) (h : zf_ok f t) (hi : zf_inv rc f t s) (hp : post (nI (m + 1)) (upd wf m (zf_rev f t s).1) (upd wt m t) (vp_updL wv m (zf_rev f t s).2)) : wp_Writes_noteReverse rn s.1 s.2.1 s.2.2 (nI m) wf wt wv f t post := by
  unfold zf_ok at h
  unfold zf_rev at hp
  unfold wp_Writes_noteReverse
  by_cases f3 : f = 3
  · subst f3
    rw [if_pos rfl] at h hp ⊢
    exact ⟨h, zc_note hm hp⟩
  have hi' := hi.1 f3
  rw [if_neg f3] at h hp ⊢
  by_cases f4 : f = 4
  · subst f4
    rw [if_pos rfl] at h hp ⊢
    exact ⟨h.1, h.2, zc_note hm hp⟩
  have hi2 := hi' f4
  rw [if_neg f4] at h hp ⊢
  refine ⟨h, hi2.2, ?_⟩
  by_cases e : s.2.1 t.toNatClampNeg = 0
  · rw [if_pos e] at hp ⊢
    exact ⟨h, zc_note hm hp⟩
  · rw [if_neg e] at hp ⊢
    exact ⟨h, zc_note hm hp⟩
set_option maxRecDepth 20000 in
theorem zf_upd2 {f : Nat → Int32} {k : Nat} {x y : Int32} (h : y = f k) : upd (upd f k x) k y = f := by
  funext j
  unfold upd
  by_cases e : j = k
  · rw [if_pos e, h, e]
  · rw [if_neg e, if_neg e]
set_option maxRecDepth 20000 in
theorem zf_updL2 {f : Nat → Int64} {k : Nat} {x y : Int64} (h : y = f k) : vp_updL (vp_updL f k x) k y = f := by
  funext j
  unfold vp_updL
  by_cases e : j = k
  · rw [if_pos e, h, e]
  · rw [if_neg e, if_neg e]
set_option maxRecDepth 20000 in
theorem zf_nar01 {x : Int32} (h : zq_bz x) : vp_nar .boolean x = x := zn_bool h
set_option maxRecDepth 20000 in
theorem zf_N1 {t : Int32} (h : vp_in t 4096) (h1 : vp_in (t + 1) 4096) : (t + 1).toNatClampNeg = t.toNatClampNeg + 1 := by
  obtain ⟨j, hj, rfl⟩ := vp_in_of h (by omega)
  rw [nI_1, nI_clamp (by omega), nI_clamp (by omega)]
set_option maxRecDepth 20000 in
theorem zu_undo {rc : Nat → Int64} {s : ((Nat → Int64) × (Nat → Int32) × (Nat → Int32))} {f t : Int32} {v : Int64} (h : zf_ok f t) (hi : zf_inv rc f t s) : zf_perf rc (zf_rev f t s).1 t (zf_rev f t s).2 (zf_perf rc f t v s) = s := by
  unfold zf_ok at h
  obtain ⟨s1, s2, s3⟩ := s
  obtain ⟨hi1, hi2⟩ := hi
  dsimp only at hi1 hi2
  by_cases f3 : f = 3
  · subst f3
    rw [if_pos rfl] at h
    have e : zf_rev 3 t (s1, s2, s3) = (3, zq_j_i2l (s3 t.toNatClampNeg &&& 255)) := by unfold zf_rev; rw [if_pos rfl]
    rw [e]
    dsimp only
    rw [zf_perf_3, zf_perf_3]
    dsimp only
    rw [zf_upd2]
    rw [zn_undo (hi2 _)]
    have := hi2 t.toNatClampNeg
    unfold zn_isb at this
    rw [← this, zn_narb]
  by_cases f4 : f = 4
  · subst f4
    rw [if_neg (by decide), if_pos rfl] at h
    have e : zf_rev 4 t (s1, s2, s3) = (4, zq_j_i2l ((s3 t.toNatClampNeg &&& 255) ||| ((s3 (t + 1).toNatClampNeg &&& 255) <<< ((8 : Int32) &&& 31)))) := by unfold zf_rev; rw [if_neg (by decide), if_pos rfl]
    rw [e]
    dsimp only
    rw [zf_perf_4, zf_perf_4]
    dsimp only
    rw [zn_undo0 (hi2 _), zn_undo1 (hi2 _), zf_N1 h.1 h.2]
    have h1 : vp_nar .byte (s3 t.toNatClampNeg) = s3 t.toNatClampNeg := by
      have := hi2 t.toNatClampNeg
      unfold zn_isb at this
      rw [← this, zn_narb]
    have h2 : vp_nar .byte (s3 (t.toNatClampNeg + 1)) = s3 (t.toNatClampNeg + 1) := by
      have := hi2 (t.toNatClampNeg + 1)
      unfold zn_isb at this
      rw [← this, zn_narb]
    rw [h1, h2]
    congr 2
    funext j
    unfold upd
    by_cases e : j = t.toNatClampNeg + 1
    · rw [if_pos e, e]
    rw [if_neg e]
    by_cases e' : j = t.toNatClampNeg
    · rw [if_pos e', e']
    rw [if_neg e', if_neg e, if_neg e']
  obtain ⟨hv, hm⟩ := hi1 f3 f4
  rw [if_neg f3, if_neg f4] at h
  have e : zf_rev f t (s1, s2, s3) = (s2 t.toNatClampNeg, s1 t.toNatClampNeg) := by
    unfold zf_rev
    rw [if_neg f3, if_neg f4]
    dsimp only
    by_cases hz : s2 t.toNatClampNeg = 0
    · rw [if_pos hz, hz]
    · rw [if_neg hz, hm.resolve_left hz]
  rw [e]
  dsimp only
  have e2 : ∃ x y, zf_perf rc f t v (s1, s2, s3) = (vp_updL s1 t.toNatClampNeg x, upd s2 t.toNatClampNeg y, s3) := by
    unfold zf_perf
    rw [if_neg f3, if_neg f4]
    by_cases f2 : f = 2
    · rw [if_pos f2]; exact ⟨_, _, rfl⟩
    rw [if_neg f2]
    by_cases f1 : f = 1
    · rw [if_pos f1]; exact ⟨_, _, rfl⟩
    rw [if_neg f1]; exact ⟨_, _, rfl⟩
  obtain ⟨x, y, e2⟩ := e2
  rw [e2, zf_perf_b hm]
  dsimp only
  rw [zf_updL2 hv, zf_upd2 (zn_bool hm)]
def zf_back (rc : Nat → Int64) (wf wt : Nat → Int32) (wv : Nat → Int64) : Nat → ((Nat → Int64) × (Nat → Int32) × (Nat → Int32)) → ((Nat → Int64) × (Nat → Int32) × (Nat → Int32))
  | 0 => fun s => s
  | n + 1 => fun s => zf_back rc wf wt wv n (zf_perf rc (wf n) (wt n) (wv n) s)
set_option maxRecDepth 20000 in
theorem zf_back_upd {rc : Nat → Int64} {wf wt : Nat → Int32} {wv : Nat → Int64} {m : Nat} {f t : Int32} {v : Int64} : ∀ n, n ≤ m → ∀ s, zf_back rc (upd wf m f) (upd wt m t) (vp_updL wv m v) n s = zf_back rc wf wt wv n s := by
  intro n
  induction n with
  | zero => intro _ s; rfl
  | succ n ih =>
    intro hn s
    show zf_back rc _ _ _ n _ = zf_back rc wf wt wv n _
    rw [ih (by omega)]
    unfold upd vp_updL
    rw [if_neg (by omega), if_neg (by omega), if_neg (by omega)]
set_option maxRecDepth 20000 in
theorem zc_back {rn wn : Int32} {rc : Nat → Int64} {wf wt : Nat → Int32} {wv : Nat → Int64} {post : (Nat → Int64) → (Nat → Int32) → (Nat → Int32) → Prop} : ∀ n, n ≤ 200 → (∀ k, k < n → zf_ok (wf k) (wt k)) → ∀ s, post (zf_back rc wf wt wv n s).1 (zf_back rc wf wt wv n s).2.1 (zf_back rc wf wt wv n s).2.2 → wp_Writes_performBackwards_7 rn rc wn wf wt wv post (n + 1) s.1 s.2.1 s.2.2 (nI n - 1) := by
  intro n
  induction n with
  | zero =>
    intro _ _ s hp
    unfold wp_Writes_performBackwards_7
    exact zn_it (by decide) hp
  | succ n ih =>
    intro hn hk s hp
    unfold wp_Writes_performBackwards_7
    rw [nI_pred]
    have h : vp_in (nI n) 200 := vp_in_nI (by omega) (by omega)
    refine zn_if (nI_pos (by omega)) ⟨h, h, h, ?_⟩
    rw [nI_clamp (by omega)]
    refine zc_perform (hk n (by omega)) ?_
    generalize hq : zf_perf rc (wf n) (wt n) (wv n) s = q at *
    have hp' : post (zf_back rc wf wt wv n q).1 (zf_back rc wf wt wv n q).2.1 (zf_back rc wf wt wv n q).2.2 := by
      rw [← hq]; exact hp
    have g := ih (by omega) (fun k h => hk k (by omega)) q hp'
    rw [show nI n + (-1) = nI n - 1 from (Int32.sub_eq_add_neg _ _).symm]
    exact g
set_option maxRecDepth 20000 in
theorem zc_backwards {rn : Int32} {rc : Nat → Int64} {wf wt : Nat → Int32} {wv : Nat → Int64} {post : (Nat → Int64) → (Nat → Int32) → (Nat → Int32) → Prop} {n : Nat} {s s' : ((Nat → Int64) × (Nat → Int32) × (Nat → Int32))} (hn : n ≤ 200) (hk : ∀ k, k < n → zf_ok (wf k) (wt k)) (hb : zf_back rc wf wt wv n s = s') (hp : post s'.1 s'.2.1 s'.2.2) : wp_Writes_performBackwards rn rc s.1 s.2.1 s.2.2 (nI n) wf wt wv post := by
  subst hb
  exact ⟨n + 1, zc_back n hn hk s hp⟩
