/-- what such a callee asks -/
theorem zq_preX {D : va_G} {kT : Nat → ClassId} {w wc : va_W} {A : Nat → Prop} {s : State} {H : Heap} {locs : List Loc} {av : List Value} (hE : zq_EV D kT s) (hX : zq_TX A s s.heap) (hP : va_P D vwCl w H) (hD : va_D A w) (hS : va_S A s.heap H locs) (hA : ∀ q : Nat, s.heap.size ≤ q → A q) (isC : List Nat) (hC : isC.map (fun i => w[i]?) = wc.map some) (hnd : va_nd isC = true) :
    ∀ U : State, U.heap = H → s.WarmedH U.vm → va_Pc av (zq_CX D kT H.size wc) av.toArray U := by
  intro U hU hW
  have hFc := va_free (wc := wc) hD hS hA isC hC
  have h := zq_pre (av := av) hE hP hD isC hC hnd U hU hW
  refine ⟨h.1, h.2, ?_⟩
  rw [hU]
  exact ((hX.kept hS.2.1).narrow hFc).warm hW
/-- the callee threw: its cells are as they were, and so is the rest -/
theorem zq_jx {A0 : Nat → Prop} {D : va_G} {cl : List vw_C} {ws wc : va_W} {H H1 : Heap} (hP : va_P D cl ws H) (hD : va_D A0 ws) (isC : List Nat) (hC : isC.map (fun i => ws[i]?) = wc.map some)
    (hk : ∀ q : Nat, q < H.size → ¬ va_A wc H.size q → H1[q]? = H[q]?) (hP1 : va_P D cl wc H1) : va_P D cl ws H1 := by
  intro k q hq
  have h0 := hP k q hq
  by_cases hin : va_A wc H.size q.1
  · rcases hin with ⟨j, e, hj⟩ | h
    · have h1 : (isC.map (fun i => ws[i]?))[j]? = some (some (q.1, e)) := by rw [hC, List.getElem?_map, hj]; rfl
      rw [List.getElem?_map] at h1
      cases hi : isC[j]? with
      | none => rw [hi] at h1; cases h1
      | some i =>
        rw [hi] at h1
        have h2 : ws[i]? = some (q.1, e) := Option.some.inj h1
        have h3 := hD.1 i k _ _ h2 hq rfl
        subst h3
        exact (Option.some.inj (h2.symm.trans hq) : (q.1, e) = q) ▸ hP1 j _ hj
    · exact absurd h0.lt (by omega)
  · exact h0.kept (hk q.1 h0.lt hin)
theorem zq_SL {A A1 : Nat → Prop} {s st t : State} {H : Heap} {locs L : List Loc} {free : Addr → Prop} (hst : st.heap = H) (hS : va_S A s.heap H locs) (hF : va_F A1 st t) (hA : ∀ q, A1 q → A q) (hL : ∀ z ∈ L, free z.base) (hfr : ∀ q, free q → A q) : va_S A s.heap t.heap (locs ++ L) := by
  subst hst
  refine ⟨Nat.le_trans hS.1 hF.1, fun q h1 h2 => ?_, fun z hz => ?_⟩
  · rw [hF.2 q (Nat.lt_of_lt_of_le h1 hS.1) (fun h => h2 (hA q h))]
    exact hS.2.1 q h1 h2
  · rcases List.mem_append.mp hz with h | h
    · exact hS.2.2 z h
    · exact hfr _ (hL z h)
theorem zq_x_Vi {p : Program} {l : Launch} {e : Env} {R : Room} {s : State} {m : MethodId} {AV : Array Value} {below : List Frame} {meth : Method} {c : Code} {H : Heap} {locs : List Loc} {cells slots : Nat} {Q : State → Prop} {y : MethodName} {wsY : List Cond} {rmY : Room} {bytes cc : ByteArray} {maxL nL n index pc : Nat} {ret : Option FieldType} {Ts : List Cond} {own C : String} {b : Addr} {As rest st0 : List Value} {ls : Array Slot} {D : va_G} {kT : Nat → ClassId} {w wc wr : va_W} {adl : List Nat} {A : Nat → Prop} {PF : Int32 → va_W → Prop} {px : String → Prop}
    (S : CallFix p m c cc nL s AV Ts own) (hM : zq_MXi l y wsY rmY D kT (.ref b :: As) wc PF px) (cw : CallW R s AV own C index y bytes maxL ret wsY rmY 1 6 n) (hE : zq_EV D kT s) (hX : zq_TX A s s.heap) (hP : va_P D vwCl w H) (hD : va_D A w) (hS : va_S A s.heap H locs) (hA : ∀ q : Nat, s.heap.size ≤ q → A q)
    (isC isR : List Nat) (n0 : Nat) (hC : isC.map (fun i => w[i]?) = wc.map some) (hnd : va_nd isC = true) (hlen : w.length = n0) (hcov : ∀ k, k < n0 → k ∈ isC ∨ k ∈ isR) (hR : isR.map (fun i => w[i]?) = wr.map some) (hadl : w.map Prod.fst = adl) (q0 : Nat) {ci : Nat} {fs : List Value} {qc : vw_C} (hr0 : wc[q0]? = some (b, .inr (ci, fs))) (hcl : vwCl[ci]? = some qc) (hqc : qc.1 = C)
    (hn : As.length = n) (hsize : ls.size = nL) (hroom : (rest.map fun v => v.category).sum ≤ 8) (hst : st0 = As.reverse ++ .ref b :: rest) (hdg : decode cc pc = .ok (.invokevirtual index, 3)) (hf : cells + 1 ≤ R.cells ∧ slots + 6 ≤ R.slots)
    (kx : ∀ (E : String) (ce : Cell) (q9 : Addr) (H1 : Heap) (locs1 : List Loc), px E → va_P D vwCl w H1 → va_S A s.heap H1 locs1 → H1[q9]? = some ce → ce.vm = .none → s.vm.findClass E = some ce.cls → zq_WX p l e R s m AV below meth c H1 locs1 (cells + 1) (slots + 6) Q (F0 m pc ls rest) q9)
    (kk : ∀ (r : Int32) (w1 : va_W) (H1 : Heap) (locs1 : List Loc), PF r w1 → (∀ w2 : va_W, isC.map (fun i => w2[i]?) = w1.map some → isR.map (fun i => w2[i]?) = wr.map some → w2.map Prod.fst = adl → va_P D vwCl w2 H1 ∧ va_D A w2) → va_S A s.heap H1 locs1 → W p l e R s m AV below meth c H1 locs1 (cells + 1) (slots + 6) Q (F0 m (pc + 3) ls (.int r :: rest))) :
    W p l e R s m AV below meth c H locs cells slots Q (F0 m pc ls st0) := by
  subst hst
  obtain ⟨hx, hb, hml, hown, -⟩ := S
  have hf2 : isC.filterMap (fun i => w[i]?) = wc := by
    have h1 : isC.filterMap (fun i => w[i]?) = (isC.map (fun i => w[i]?)).filterMap id := by rw [List.filterMap_map]; rfl
    rw [h1, hC]
    simp
  have hPc : va_P D vwCl wc H := hP.sub isC hf2
  have hFc := va_free (wc := wc) hD hS hA isC hC
  intro T hT X
  rcases zq_xcall X hx hown cw (hM H.size) (As := As) (rest := rest) (by rw [hT]; exact ⟨zq_CX.blind, by rw [← hqc]; exact va_recv (hE.1) hPc hcl hr0, zq_preX hE hX hP hD hS hA isC hC hnd⟩) (g := F0 m pc ls (As.reverse ++ .ref b :: rest)) rfl hn (hsize.trans hml.symm) rfl (lv_room hroom) (by rw [hb]; exact hdg) hf with ⟨v, st, t, T', L, h0, X', hL, e1, ⟨⟨r, w1, hv, hpf, hP1, -⟩, hF⟩, st1⟩ | ⟨q, E, ce, st, t, T', L, h0, X', hL, e1, hpx, ⟨hP1, hF⟩, hce, hcv, hcE, st1⟩
  · cases hv
    rw [hT] at h0
    have hk : ∀ a : Nat, a < H.size → ¬ va_A wc H.size a → t.heap[a]? = H[a]? := by
      intro a h1 h2; rw [hF.2 a (by rw [h0]; exact h1) h2, h0]
    obtain ⟨t2, a1, b1⟩ := kk r w1 t.heap (locs ++ L) hpf (zq_j2 hP hD isC isR n0 hlen hcov hC hR hadl hk hP1) (zq_SL h0 hS hF hFc hL hFc) T' e1 X'
    exact ⟨t2, st1 t2 a1, b1⟩
  · rw [hT] at h0
    have hk : ∀ a : Nat, a < H.size → ¬ va_A wc H.size a → t.heap[a]? = H[a]? := by
      intro a h1 h2; rw [hF.2 a (by rw [h0]; exact h1) h2, h0]
    obtain ⟨t2, a1, b1⟩ := kx E ce q t.heap (locs ++ L) hpx (zq_jx hP hD isC hC hk hP1) (zq_SL h0 hS hF hFc hL hFc) hce hcv hcE T' e1 X'
    exact ⟨t2, st1 t2 a1, b1⟩
theorem zq_x_Vl {p : Program} {l : Launch} {e : Env} {R : Room} {s : State} {m : MethodId} {AV : Array Value} {below : List Frame} {meth : Method} {c : Code} {H : Heap} {locs : List Loc} {cells slots : Nat} {Q : State → Prop} {y : MethodName} {wsY : List Cond} {rmY : Room} {bytes cc : ByteArray} {maxL nL n index pc : Nat} {ret : Option FieldType} {Ts : List Cond} {own C : String} {b : Addr} {As rest st0 : List Value} {ls : Array Slot} {D : va_G} {kT : Nat → ClassId} {w wc wr : va_W} {adl : List Nat} {A : Nat → Prop} {PF : Int64 → va_W → Prop} {px : String → Prop}
    (S : CallFix p m c cc nL s AV Ts own) (hM : zq_MXl l y wsY rmY D kT (.ref b :: As) wc PF px) (cw : CallW R s AV own C index y bytes maxL ret wsY rmY 1 6 n) (hE : zq_EV D kT s) (hX : zq_TX A s s.heap) (hP : va_P D vwCl w H) (hD : va_D A w) (hS : va_S A s.heap H locs) (hA : ∀ q : Nat, s.heap.size ≤ q → A q)
    (isC isR : List Nat) (n0 : Nat) (hC : isC.map (fun i => w[i]?) = wc.map some) (hnd : va_nd isC = true) (hlen : w.length = n0) (hcov : ∀ k, k < n0 → k ∈ isC ∨ k ∈ isR) (hR : isR.map (fun i => w[i]?) = wr.map some) (hadl : w.map Prod.fst = adl) (q0 : Nat) {ci : Nat} {fs : List Value} {qc : vw_C} (hr0 : wc[q0]? = some (b, .inr (ci, fs))) (hcl : vwCl[ci]? = some qc) (hqc : qc.1 = C)
    (hn : As.length = n) (hsize : ls.size = nL) (hroom : (rest.map fun v => v.category).sum ≤ 8) (hst : st0 = As.reverse ++ .ref b :: rest) (hdg : decode cc pc = .ok (.invokevirtual index, 3)) (hf : cells + 1 ≤ R.cells ∧ slots + 6 ≤ R.slots)
    (kx : ∀ (E : String) (ce : Cell) (q9 : Addr) (H1 : Heap) (locs1 : List Loc), px E → va_P D vwCl w H1 → va_S A s.heap H1 locs1 → H1[q9]? = some ce → ce.vm = .none → s.vm.findClass E = some ce.cls → zq_WX p l e R s m AV below meth c H1 locs1 (cells + 1) (slots + 6) Q (F0 m pc ls rest) q9)
    (kk : ∀ (r : Int64) (w1 : va_W) (H1 : Heap) (locs1 : List Loc), PF r w1 → (∀ w2 : va_W, isC.map (fun i => w2[i]?) = w1.map some → isR.map (fun i => w2[i]?) = wr.map some → w2.map Prod.fst = adl → va_P D vwCl w2 H1 ∧ va_D A w2) → va_S A s.heap H1 locs1 → W p l e R s m AV below meth c H1 locs1 (cells + 1) (slots + 6) Q (F0 m (pc + 3) ls (.long r :: rest))) :
    W p l e R s m AV below meth c H locs cells slots Q (F0 m pc ls st0) := by
  subst hst
  obtain ⟨hx, hb, hml, hown, -⟩ := S
  have hf2 : isC.filterMap (fun i => w[i]?) = wc := by
    have h1 : isC.filterMap (fun i => w[i]?) = (isC.map (fun i => w[i]?)).filterMap id := by rw [List.filterMap_map]; rfl
    rw [h1, hC]
    simp
  have hPc : va_P D vwCl wc H := hP.sub isC hf2
  have hFc := va_free (wc := wc) hD hS hA isC hC
  intro T hT X
  rcases zq_xcall X hx hown cw (hM H.size) (As := As) (rest := rest) (by rw [hT]; exact ⟨zq_CX.blind, by rw [← hqc]; exact va_recv (hE.1) hPc hcl hr0, zq_preX hE hX hP hD hS hA isC hC hnd⟩) (g := F0 m pc ls (As.reverse ++ .ref b :: rest)) rfl hn (hsize.trans hml.symm) rfl (lv_room hroom) (by rw [hb]; exact hdg) hf with ⟨v, st, t, T', L, h0, X', hL, e1, ⟨⟨r, w1, hv, hpf, hP1, -⟩, hF⟩, st1⟩ | ⟨q, E, ce, st, t, T', L, h0, X', hL, e1, hpx, ⟨hP1, hF⟩, hce, hcv, hcE, st1⟩
  · cases hv
    rw [hT] at h0
    have hk : ∀ a : Nat, a < H.size → ¬ va_A wc H.size a → t.heap[a]? = H[a]? := by
      intro a h1 h2; rw [hF.2 a (by rw [h0]; exact h1) h2, h0]
    obtain ⟨t2, a1, b1⟩ := kk r w1 t.heap (locs ++ L) hpf (zq_j2 hP hD isC isR n0 hlen hcov hC hR hadl hk hP1) (zq_SL h0 hS hF hFc hL hFc) T' e1 X'
    exact ⟨t2, st1 t2 a1, b1⟩
  · rw [hT] at h0
    have hk : ∀ a : Nat, a < H.size → ¬ va_A wc H.size a → t.heap[a]? = H[a]? := by
      intro a h1 h2; rw [hF.2 a (by rw [h0]; exact h1) h2, h0]
    obtain ⟨t2, a1, b1⟩ := kx E ce q t.heap (locs ++ L) hpx (zq_jx hP hD isC hC hk hP1) (zq_SL h0 hS hF hFc hL hFc) hce hcv hcE T' e1 X'
    exact ⟨t2, st1 t2 a1, b1⟩
