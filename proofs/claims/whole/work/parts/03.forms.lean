/-! the forms of the contracts: a method on cells w that it may change but neither makes nor moves; PF says of the answer and of the cells behind it what holds -/
def zq_isN : Cond → Bool
  | .fieldLinkNest .. => true
  | .methodLinkNest .. => true
  | _ => false
theorem zq_isN_on {w : Cond} (h : zq_isN w = true) : w.onTables = true := by
  cases w <;> first | rfl | cases h
theorem zq_nwW {w : Cond} {s U : State} (hw : zq_isN w = true) (hW : s.WarmedH U.vm) (h : va_Nw w s) : va_Nw w U := by
  cases w <;> first | exact va_Nw.warmF hW h | exact va_Nw.warmM hW h | cases hw
theorem zq_nws_ok : ∀ w ∈ zq_nws, zq_isN w = true := by decide +kernel
abbrev zq_tys (kT : Nat → ClassId) : List (ClassId × FieldType) := [(kT 0, .int), (kT 1, .long), (kT 2, .boolean), (kT 3, .byte)]
/-- what the tables give everywhere: classes, array classes, links to private members of nest mates -/
def zq_EV (D : va_G) (kT : Nat → ClassId) (U : State) : Prop := va_K D vwCl (zq_tys kT) U ∧ (∀ w ∈ zq_nws, va_Nw w U) ∧ ∀ x ∈ zq_strs, ∃ a, vk_R x.1 x.2.1 x.2.2 a U
theorem zq_EV.warm {D : va_G} {kT : Nat → ClassId} {s U : State} (hW : s.WarmedH U.vm) (h : zq_EV D kT s) : zq_EV D kT U :=
  ⟨va_K.moved hW.alike h.1, fun w hw => zq_nwW (zq_nws_ok w hw) hW (h.2.1 w hw), fun x hx => (h.2.2 x hx).elim fun a ha => ⟨a, vk_R.warm hW ha⟩⟩
theorem zq_EV.calling {D : va_G} {kT : Nat → ClassId} {U : State} {g : JFrame} {mk : MethodId} {a : Array Value} (h : zq_EV D kT U) : zq_EV D kT (U.calling g mk a) :=
  ⟨va_K.moved (u := U) (U := U.calling g mk a) (Vm.Alike.refl U.vm) h.1, fun w hw => va_Nw.same (u := U) (U := U.calling g mk a) (zq_isN_on (zq_nws_ok w hw)) rfl (h.2.1 w hw), fun x hx => (h.2.2 x hx).elim fun y hy => ⟨y, vk_R.same (u := U) (U := U.calling g mk a) rfl hy⟩⟩
theorem zq_EV.nw {D : va_G} {kT : Nat → ClassId} {U : State} (h : zq_EV D kT U) {w : Cond} (hw : w ∈ zq_nws) {a : Array Value} : w.before a U = true := va_Nw.use (zq_isN_on (zq_nws_ok w hw)) (h.2.1 w hw)
def zq_CP (D : va_G) (kT : Nat → ClassId) (sz : Nat) (w : va_W) (U : State) : Prop := U.heap.size = sz ∧ va_P D vwCl w U.heap ∧ zq_EV D kT U ∧ va_D (fun _ => True) w
theorem zq_CP.blind {D : va_G} {kT : Nat → ClassId} {sz : Nat} {w : va_W} {av : List Value} : FrameBlind (va_Pc av (zq_CP D kT sz w)) := by
  intro a U g mk q
  obtain ⟨q0, q1, qP, qE, qD⟩ := q
  exact ⟨q0, q1, qP, qE.calling, qD⟩
def zq_WB (D : va_G) (adl : List Nat) (w' : va_W) (t : State) : Prop := va_P D vwCl w' t.heap ∧ w'.map Prod.fst = adl
theorem zq_pre {D : va_G} {kT : Nat → ClassId} {w wc : va_W} {A : Nat → Prop} {s : State} {H : Heap} {av : List Value} (hE : zq_EV D kT s) (hP : va_P D vwCl w H) (hD : va_D A w) (isC : List Nat) (hC : isC.map (fun i => w[i]?) = wc.map some) (hnd : va_nd isC = true) :
    ∀ U : State, U.heap = H → s.WarmedH U.vm → va_Pc av (zq_CP D kT H.size wc) av.toArray U := by
  intro U hU hW
  have hf : isC.filterMap (fun i => w[i]?) = wc := by
    have h1 : isC.filterMap (fun i => w[i]?) = (isC.map (fun i => w[i]?)).filterMap id := by rw [List.filterMap_map]; rfl
    rw [h1, hC]
    simp
  refine ⟨rfl, by rw [hU], by rw [hU]; exact hP.sub isC hf, hE.warm hW, (hD.sub isC hnd hC).weaken (fun _ _ _ _ => trivial)⟩

/-- behind a call: any world w2 that has the callee's cells, changed, in their places and the others as they were -/
theorem zq_j2 {A0 : Nat → Prop} {D : va_G} {cl : List vw_C} {ws wc w1 wr : va_W} {adl : List Nat} {H H1 : Heap} (hP : va_P D cl ws H) (hD : va_D A0 ws) (isC isR : List Nat) (n0 : Nat) (hlen : ws.length = n0) (hcov : ∀ k, k < n0 → k ∈ isC ∨ k ∈ isR) (hC : isC.map (fun i => ws[i]?) = wc.map some) (hR : isR.map (fun i => ws[i]?) = wr.map some) (hadl : ws.map Prod.fst = adl)
    (hk : ∀ q : Nat, q < H.size → ¬ va_A wc H.size q → H1[q]? = H[q]?) (hP1 : va_P D cl w1 H1) (w2 : va_W) (h1 : isC.map (fun i => w2[i]?) = w1.map some) (h2 : isR.map (fun i => w2[i]?) = wr.map some) (h3 : w2.map Prod.fst = adl) : va_P D cl w2 H1 ∧ va_D A0 w2 := by
  rw [← hR] at h2
  rw [← hadl] at h3
  refine ⟨fun k q hq => ?_, zq_D_fst h3 hD⟩
  have hl2 : w2.length = n0 := by
    have := congrArg List.length h3
    simp at this
    omega
  have hkn : k < n0 := by rw [← hl2]; exact (List.getElem?_eq_some_iff.mp hq).1
  by_cases hin : k ∈ isC
  · obtain ⟨j, hj⟩ := List.getElem?_of_mem hin
    have e1 : (isC.map (fun i => w2[i]?))[j]? = some (some q) := by rw [List.getElem?_map, hj]; simp [hq]
    rw [h1, List.getElem?_map] at e1
    cases hw : w1[j]? with
    | none => rw [hw] at e1; cases e1
    | some q1 =>
      rw [hw] at e1
      have : q1 = q := Option.some.inj (Option.some.inj e1)
      exact hP1 j q (this ▸ hw)
  · have hr : k ∈ isR := (hcov k hkn).resolve_left hin
    obtain ⟨j, hj⟩ := List.getElem?_of_mem hr
    have e1 : (isR.map (fun i => w2[i]?))[j]? = some (some q) := by rw [List.getElem?_map, hj]; simp [hq]
    rw [h2, List.getElem?_map, hj] at e1
    have hq0 : ws[k]? = some q := Option.some.inj e1
    have h0 := hP k q hq0
    refine h0.kept (hk q.1 h0.lt ?_)
    rintro (⟨i, e, hi⟩ | h)
    · have e2 : (isC.map (fun i => ws[i]?))[i]? = some (some (q.1, e)) := by rw [hC, List.getElem?_map, hi]; rfl
      rw [List.getElem?_map] at e2
      cases hi2 : isC[i]? with
      | none => rw [hi2] at e2; cases e2
      | some i2 =>
        rw [hi2] at e2
        have h4 : ws[i2]? = some (q.1, e) := Option.some.inj e2
        have h5 := hD.1 i2 k _ _ h4 hq0 rfl
        exact hin (h5 ▸ List.mem_of_getElem? hi2)
    · exact absurd h0.lt (by omega)

def zq_Mi (l : Launch) (y : MethodName) (ws : List Cond) (rm : Room) (D : va_G) (kT : Nat → ClassId) (av : List Value) (w : va_W) (PF : Int32 → va_W → Prop) : Prop := ∀ sz : Nat, Met l y ws rm (va_Pc av (zq_CP D kT sz w)) (va_Qi PF (zq_WB D (w.map Prod.fst)) (va_A w sz)) 0 0 (va_A w sz)
theorem zq_Mi_of {l : Launch} {y : MethodName} {ws : List Cond} {rm : Room} {D : va_G} {kT : Nat → ClassId} {av : List Value} {w : va_W} {PF : Int32 → va_W → Prop} {cc : ByteArray} {maxL : Nat} {own : String} {adl : List Nat} (hadl : w.map Prod.fst = adl)
    (hy : plainName y.cls = true) (hw : ws = Cond.code y cc maxL (some .int) :: zq_W) (ho : y.cls = own) (hav : (lg_sl av).length ≤ maxL)
    (body : ∀ (p : Program) (e : Env) (s : State) (m : MethodId) (AV : Array Value) (below : List Frame) (meth : Method) (c : Code) (A : Nat → Prop) (QQ : State → Prop) (H : Heap) (locs : List Loc) (ls : Array Slot),
      p.tables.exec = Jvm.exec → c.code = cc → c.maxLocals = maxL → s.vm.findClass own = some m.cls → (∀ w ∈ zq_W, w.before AV s = true) → zq_EV D kT s → (∀ q : Nat, s.heap.size ≤ q → A q) →
      (∀ (r : Int32) (w' : va_W) (H : Heap) (locs : List Loc) (pc : Nat) (ls : Array Slot), PF r w' → va_P D vwCl w' H → w'.map Prod.fst = adl → va_S A s.heap H locs → decode cc pc = .ok (.ireturn, 1) → W p l e rm s m AV below meth c H locs 0 0 QQ (F0 m pc ls [.int r])) →
      va_P D vwCl w H → va_D A w → va_S A s.heap H locs → lv_has ls maxL (lv_args 0 av) → W p l e rm s m AV below meth c H locs 0 0 QQ (F0 m 0 ls [])) : zq_Mi l y ws rm D kT av w PF := by
  intro sz
  refine Met.ofW (cc := cc) (maxL := maxL) (ret := (some .int)) hy hw ?_
  intro p e s m args below meth c s₁ B hml hv
  obtain ⟨rfl, hsz, hP, hE, hD0⟩ := hv
  subst hsz
  have hr := B.returns
  have hlocks := B.notSynchronized
  rw [lg_entry_eq]
  refine body p e s m _ below meth c (va_A w s.heap.size) _ s.heap [] _ B.exec B.bytes hml (by rw [← ho]; exact findClass_of_methodNamed B.named) (fun w h => atoms_spec (ws := ws) B.pre w (by rw [hw]; exact List.mem_cons_of_mem _ h)) hE (fun q h => Or.inr h) ?_ hP hD0.self va_S.rf (lv_entry av hav)
  intro r w' H locs pc ls hpf hP' ha hS hd
  exact W.iret B.exec B.bytes hr (fun t ht hW => ⟨⟨r, w', rfl, hpf, by rw [ht]; exact hP', by rw [hadl]; exact ha⟩, hS.F ht⟩) hS.2.2 hd
theorem zq_Mz_of {l : Launch} {y : MethodName} {ws : List Cond} {rm : Room} {D : va_G} {kT : Nat → ClassId} {av : List Value} {w : va_W} {PF : Int32 → va_W → Prop} {cc : ByteArray} {maxL : Nat} {own : String} {adl : List Nat} (hadl : w.map Prod.fst = adl)
    (hy : plainName y.cls = true) (hw : ws = Cond.code y cc maxL (some .boolean) :: zq_W) (ho : y.cls = own) (hav : (lg_sl av).length ≤ maxL)
    (body : ∀ (p : Program) (e : Env) (s : State) (m : MethodId) (AV : Array Value) (below : List Frame) (meth : Method) (c : Code) (A : Nat → Prop) (QQ : State → Prop) (H : Heap) (locs : List Loc) (ls : Array Slot),
      p.tables.exec = Jvm.exec → c.code = cc → c.maxLocals = maxL → s.vm.findClass own = some m.cls → (∀ w ∈ zq_W, w.before AV s = true) → zq_EV D kT s → (∀ q : Nat, s.heap.size ≤ q → A q) →
      (∀ (r : Int32) (_ : narrow .boolean (.int r) = .int r) (w' : va_W) (H : Heap) (locs : List Loc) (pc : Nat) (ls : Array Slot), PF r w' → va_P D vwCl w' H → w'.map Prod.fst = adl → va_S A s.heap H locs → decode cc pc = .ok (.ireturn, 1) → W p l e rm s m AV below meth c H locs 0 0 QQ (F0 m pc ls [.int r])) →
      va_P D vwCl w H → va_D A w → va_S A s.heap H locs → lv_has ls maxL (lv_args 0 av) → W p l e rm s m AV below meth c H locs 0 0 QQ (F0 m 0 ls [])) : zq_Mi l y ws rm D kT av w PF := by
  intro sz
  refine Met.ofW (cc := cc) (maxL := maxL) (ret := (some .boolean)) hy hw ?_
  intro p e s m args below meth c s₁ B hml hv
  obtain ⟨rfl, hsz, hP, hE, hD0⟩ := hv
  subst hsz
  have hr := B.returns
  have hlocks := B.notSynchronized
  rw [lg_entry_eq]
  refine body p e s m _ below meth c (va_A w s.heap.size) _ s.heap [] _ B.exec B.bytes hml (by rw [← ho]; exact findClass_of_methodNamed B.named) (fun w h => atoms_spec (ws := ws) B.pre w (by rw [hw]; exact List.mem_cons_of_mem _ h)) hE (fun q h => Or.inr h) ?_ hP hD0.self va_S.rf (lv_entry av hav)
  intro r hn w' H locs pc ls hpf hP' ha hS hd
  exact W.zret B.exec B.bytes hr hn (fun t ht hW => ⟨⟨r, w', rfl, hpf, by rw [ht]; exact hP', by rw [hadl]; exact ha⟩, hS.F ht⟩) hS.2.2 hd
theorem zq_c_Vi {p : Program} {l : Launch} {e : Env} {R : Room} {s : State} {m : MethodId} {AV : Array Value} {below : List Frame} {meth : Method} {c : Code} {H : Heap} {locs : List Loc} {cells slots : Nat} {Q : State → Prop} {y : MethodName} {wsY : List Cond} {rmY : Room} {bytes cc : ByteArray} {maxL nL n index pc : Nat} {ret : Option FieldType} {Ts : List Cond} {own C : String} {b : Addr} {As rest st0 : List Value} {ls : Array Slot} {D : va_G} {kT : Nat → ClassId} {w wc wr : va_W} {adl : List Nat} {A : Nat → Prop} {PF : Int32 → va_W → Prop}
    (S : CallFix p m c cc nL s AV Ts own) (hM : zq_Mi l y wsY rmY D kT (.ref b :: As) wc PF) (cw : CallW R s AV own C index y bytes maxL ret wsY rmY 0 0 n) (hE : zq_EV D kT s) (hP : va_P D vwCl w H) (hD : va_D A w) (hS : va_S A s.heap H locs) (hA : ∀ q : Nat, s.heap.size ≤ q → A q)
    (isC isR : List Nat) (n0 : Nat) (hC : isC.map (fun i => w[i]?) = wc.map some) (hnd : va_nd isC = true) (hlen : w.length = n0) (hcov : ∀ k, k < n0 → k ∈ isC ∨ k ∈ isR) (hR : isR.map (fun i => w[i]?) = wr.map some) (hadl : w.map Prod.fst = adl) (q0 : Nat) {ci : Nat} {fs : List Value} {qc : vw_C} (hr0 : wc[q0]? = some (b, .inr (ci, fs))) (hcl : vwCl[ci]? = some qc) (hqc : qc.1 = C) (hn : As.length = n) (hsize : ls.size = nL) (hroom : (rest.map fun v => v.category).sum ≤ 8) (hst : st0 = As.reverse ++ .ref b :: rest) (hdg : decode cc pc = .ok (.invokevirtual index, 3)) (hf : cells + 0 ≤ R.cells ∧ slots + 0 ≤ R.slots)
    (kk : ∀ (r : Int32) (w1 : va_W) (H1 : Heap) (locs1 : List Loc), PF r w1 → (∀ w2 : va_W, isC.map (fun i => w2[i]?) = w1.map some → isR.map (fun i => w2[i]?) = wr.map some → w2.map Prod.fst = adl → va_P D vwCl w2 H1 ∧ va_D A w2) → va_S A s.heap H1 locs1 → W p l e R s m AV below meth c H1 locs1 cells slots Q (F0 m (pc + 3) ls (.int r :: rest))) :
    W p l e R s m AV below meth c H locs cells slots Q (F0 m pc ls st0) := by
  subst hst
  have hf2 : isC.filterMap (fun i => w[i]?) = wc := by
    have h1 : isC.filterMap (fun i => w[i]?) = (isC.map (fun i => w[i]?)).filterMap id := by rw [List.filterMap_map]; rfl
    rw [h1, hC]
    simp
  have hPc : va_P D vwCl wc H := hP.sub isC hf2
  have hFc := va_free (wc := wc) hD hS hA isC hC
  refine va_calli (va_runV (rest := rest) S (hM H.size) cw ⟨zq_CP.blind, by rw [← hqc]; exact va_recv (hE.1) hPc hcl hr0, zq_pre hE hP hD isC hC hnd⟩ rfl hn hsize rfl (lv_room hroom) hdg hf) hS (fun q _ h => hFc q h) hFc (fun r w1 t H1 locs1 ht hvm hw hB hz1 hk1 hS1 => ?_)
  obtain ⟨hP1, ha⟩ := hB
  rw [ht] at hP1
  exact kk r w1 H1 locs1 hw (zq_j2 hP hD isC isR n0 hlen hcov hC hR hadl hk1 hP1) hS1
theorem zq_c_Si {p : Program} {l : Launch} {e : Env} {R : Room} {s : State} {m : MethodId} {AV : Array Value} {below : List Frame} {meth : Method} {c : Code} {H : Heap} {locs : List Loc} {cells slots : Nat} {Q : State → Prop} {y : MethodName} {wsY : List Cond} {rmY : Room} {bytes cc : ByteArray} {maxL nL n index pc : Nat} {ret : Option FieldType} {Ts : List Cond} {own : String} {As rest st0 : List Value} {ls : Array Slot} {D : va_G} {kT : Nat → ClassId} {w wc wr : va_W} {adl : List Nat} {A : Nat → Prop} {PF : Int32 → va_W → Prop}
    (S : CallFix p m c cc nL s AV Ts own) (hM : zq_Mi l y wsY rmY D kT As wc PF) (cw : CallB R s AV own index y bytes maxL ret wsY rmY 0 0 n ∧ (Cond.static y).before AV s = true) (hE : zq_EV D kT s) (hP : va_P D vwCl w H) (hD : va_D A w) (hS : va_S A s.heap H locs) (hA : ∀ q : Nat, s.heap.size ≤ q → A q)
    (isC isR : List Nat) (n0 : Nat) (hC : isC.map (fun i => w[i]?) = wc.map some) (hnd : va_nd isC = true) (hlen : w.length = n0) (hcov : ∀ k, k < n0 → k ∈ isC ∨ k ∈ isR) (hR : isR.map (fun i => w[i]?) = wr.map some) (hadl : w.map Prod.fst = adl) (hn : As.length = n) (hsize : ls.size = nL) (hroom : (rest.map fun v => v.category).sum ≤ 8) (hst : st0 = As.reverse ++ rest) (hdg : decode cc pc = .ok (.invokestatic index, 3)) (hf : cells + 0 ≤ R.cells ∧ slots + 0 ≤ R.slots)
    (kk : ∀ (r : Int32) (w1 : va_W) (H1 : Heap) (locs1 : List Loc), PF r w1 → (∀ w2 : va_W, isC.map (fun i => w2[i]?) = w1.map some → isR.map (fun i => w2[i]?) = wr.map some → w2.map Prod.fst = adl → va_P D vwCl w2 H1 ∧ va_D A w2) → va_S A s.heap H1 locs1 → W p l e R s m AV below meth c H1 locs1 cells slots Q (F0 m (pc + 3) ls (.int r :: rest))) :
    W p l e R s m AV below meth c H locs cells slots Q (F0 m pc ls st0) := by
  subst hst
  have hf2 : isC.filterMap (fun i => w[i]?) = wc := by
    have h1 : isC.filterMap (fun i => w[i]?) = (isC.map (fun i => w[i]?)).filterMap id := by rw [List.filterMap_map]; rfl
    rw [h1, hC]
    simp
  have hPc : va_P D vwCl wc H := hP.sub isC hf2
  have hFc := va_free (wc := wc) hD hS hA isC hC
  refine va_calli (va_runS (rest := rest) S (hM H.size) cw ⟨zq_CP.blind, zq_pre hE hP hD isC hC hnd⟩ rfl hn hsize rfl (lv_room hroom) hdg hf) hS (fun q _ h => hFc q h) hFc (fun r w1 t H1 locs1 ht hvm hw hB hz1 hk1 hS1 => ?_)
  obtain ⟨hP1, ha⟩ := hB
  rw [ht] at hP1
  exact kk r w1 H1 locs1 hw (zq_j2 hP hD isC isR n0 hlen hcov hC hR hadl hk1 hP1) hS1
def zq_Ml (l : Launch) (y : MethodName) (ws : List Cond) (rm : Room) (D : va_G) (kT : Nat → ClassId) (av : List Value) (w : va_W) (PF : Int64 → va_W → Prop) : Prop := ∀ sz : Nat, Met l y ws rm (va_Pc av (zq_CP D kT sz w)) (va_Ql PF (zq_WB D (w.map Prod.fst)) (va_A w sz)) 0 0 (va_A w sz)
theorem zq_Ml_of {l : Launch} {y : MethodName} {ws : List Cond} {rm : Room} {D : va_G} {kT : Nat → ClassId} {av : List Value} {w : va_W} {PF : Int64 → va_W → Prop} {cc : ByteArray} {maxL : Nat} {own : String} {adl : List Nat} (hadl : w.map Prod.fst = adl)
    (hy : plainName y.cls = true) (hw : ws = Cond.code y cc maxL (some .long) :: zq_W) (ho : y.cls = own) (hav : (lg_sl av).length ≤ maxL)
    (body : ∀ (p : Program) (e : Env) (s : State) (m : MethodId) (AV : Array Value) (below : List Frame) (meth : Method) (c : Code) (A : Nat → Prop) (QQ : State → Prop) (H : Heap) (locs : List Loc) (ls : Array Slot),
      p.tables.exec = Jvm.exec → c.code = cc → c.maxLocals = maxL → s.vm.findClass own = some m.cls → (∀ w ∈ zq_W, w.before AV s = true) → zq_EV D kT s → (∀ q : Nat, s.heap.size ≤ q → A q) →
      (∀ (r : Int64) (w' : va_W) (H : Heap) (locs : List Loc) (pc : Nat) (ls : Array Slot), PF r w' → va_P D vwCl w' H → w'.map Prod.fst = adl → va_S A s.heap H locs → decode cc pc = .ok (.lreturn, 1) → W p l e rm s m AV below meth c H locs 0 0 QQ (F0 m pc ls [.long r])) →
      va_P D vwCl w H → va_D A w → va_S A s.heap H locs → lv_has ls maxL (lv_args 0 av) → W p l e rm s m AV below meth c H locs 0 0 QQ (F0 m 0 ls [])) : zq_Ml l y ws rm D kT av w PF := by
  intro sz
  refine Met.ofW (cc := cc) (maxL := maxL) (ret := (some .long)) hy hw ?_
  intro p e s m args below meth c s₁ B hml hv
  obtain ⟨rfl, hsz, hP, hE, hD0⟩ := hv
  subst hsz
  have hr := B.returns
  have hlocks := B.notSynchronized
  rw [lg_entry_eq]
  refine body p e s m _ below meth c (va_A w s.heap.size) _ s.heap [] _ B.exec B.bytes hml (by rw [← ho]; exact findClass_of_methodNamed B.named) (fun w h => atoms_spec (ws := ws) B.pre w (by rw [hw]; exact List.mem_cons_of_mem _ h)) hE (fun q h => Or.inr h) ?_ hP hD0.self va_S.rf (lv_entry av hav)
  intro r w' H locs pc ls hpf hP' ha hS hd
  exact W.lret B.exec B.bytes hr (fun t ht hW => ⟨⟨r, w', rfl, hpf, by rw [ht]; exact hP', by rw [hadl]; exact ha⟩, hS.F ht⟩) hS.2.2 hd
theorem zq_c_Vl {p : Program} {l : Launch} {e : Env} {R : Room} {s : State} {m : MethodId} {AV : Array Value} {below : List Frame} {meth : Method} {c : Code} {H : Heap} {locs : List Loc} {cells slots : Nat} {Q : State → Prop} {y : MethodName} {wsY : List Cond} {rmY : Room} {bytes cc : ByteArray} {maxL nL n index pc : Nat} {ret : Option FieldType} {Ts : List Cond} {own C : String} {b : Addr} {As rest st0 : List Value} {ls : Array Slot} {D : va_G} {kT : Nat → ClassId} {w wc wr : va_W} {adl : List Nat} {A : Nat → Prop} {PF : Int64 → va_W → Prop}
    (S : CallFix p m c cc nL s AV Ts own) (hM : zq_Ml l y wsY rmY D kT (.ref b :: As) wc PF) (cw : CallW R s AV own C index y bytes maxL ret wsY rmY 0 0 n) (hE : zq_EV D kT s) (hP : va_P D vwCl w H) (hD : va_D A w) (hS : va_S A s.heap H locs) (hA : ∀ q : Nat, s.heap.size ≤ q → A q)
    (isC isR : List Nat) (n0 : Nat) (hC : isC.map (fun i => w[i]?) = wc.map some) (hnd : va_nd isC = true) (hlen : w.length = n0) (hcov : ∀ k, k < n0 → k ∈ isC ∨ k ∈ isR) (hR : isR.map (fun i => w[i]?) = wr.map some) (hadl : w.map Prod.fst = adl) (q0 : Nat) {ci : Nat} {fs : List Value} {qc : vw_C} (hr0 : wc[q0]? = some (b, .inr (ci, fs))) (hcl : vwCl[ci]? = some qc) (hqc : qc.1 = C) (hn : As.length = n) (hsize : ls.size = nL) (hroom : (rest.map fun v => v.category).sum ≤ 8) (hst : st0 = As.reverse ++ .ref b :: rest) (hdg : decode cc pc = .ok (.invokevirtual index, 3)) (hf : cells + 0 ≤ R.cells ∧ slots + 0 ≤ R.slots)
    (kk : ∀ (r : Int64) (w1 : va_W) (H1 : Heap) (locs1 : List Loc), PF r w1 → (∀ w2 : va_W, isC.map (fun i => w2[i]?) = w1.map some → isR.map (fun i => w2[i]?) = wr.map some → w2.map Prod.fst = adl → va_P D vwCl w2 H1 ∧ va_D A w2) → va_S A s.heap H1 locs1 → W p l e R s m AV below meth c H1 locs1 cells slots Q (F0 m (pc + 3) ls (.long r :: rest))) :
    W p l e R s m AV below meth c H locs cells slots Q (F0 m pc ls st0) := by
  subst hst
  have hf2 : isC.filterMap (fun i => w[i]?) = wc := by
    have h1 : isC.filterMap (fun i => w[i]?) = (isC.map (fun i => w[i]?)).filterMap id := by rw [List.filterMap_map]; rfl
    rw [h1, hC]
    simp
  have hPc : va_P D vwCl wc H := hP.sub isC hf2
  have hFc := va_free (wc := wc) hD hS hA isC hC
  refine va_calll (va_runV (rest := rest) S (hM H.size) cw ⟨zq_CP.blind, by rw [← hqc]; exact va_recv (hE.1) hPc hcl hr0, zq_pre hE hP hD isC hC hnd⟩ rfl hn hsize rfl (lv_room hroom) hdg hf) hS (fun q _ h => hFc q h) hFc (fun r w1 t H1 locs1 ht hvm hw hB hz1 hk1 hS1 => ?_)
  obtain ⟨hP1, ha⟩ := hB
  rw [ht] at hP1
  exact kk r w1 H1 locs1 hw (zq_j2 hP hD isC isR n0 hlen hcov hC hR hadl hk1 hP1) hS1
theorem zq_c_Sl {p : Program} {l : Launch} {e : Env} {R : Room} {s : State} {m : MethodId} {AV : Array Value} {below : List Frame} {meth : Method} {c : Code} {H : Heap} {locs : List Loc} {cells slots : Nat} {Q : State → Prop} {y : MethodName} {wsY : List Cond} {rmY : Room} {bytes cc : ByteArray} {maxL nL n index pc : Nat} {ret : Option FieldType} {Ts : List Cond} {own : String} {As rest st0 : List Value} {ls : Array Slot} {D : va_G} {kT : Nat → ClassId} {w wc wr : va_W} {adl : List Nat} {A : Nat → Prop} {PF : Int64 → va_W → Prop}
    (S : CallFix p m c cc nL s AV Ts own) (hM : zq_Ml l y wsY rmY D kT As wc PF) (cw : CallB R s AV own index y bytes maxL ret wsY rmY 0 0 n ∧ (Cond.static y).before AV s = true) (hE : zq_EV D kT s) (hP : va_P D vwCl w H) (hD : va_D A w) (hS : va_S A s.heap H locs) (hA : ∀ q : Nat, s.heap.size ≤ q → A q)
    (isC isR : List Nat) (n0 : Nat) (hC : isC.map (fun i => w[i]?) = wc.map some) (hnd : va_nd isC = true) (hlen : w.length = n0) (hcov : ∀ k, k < n0 → k ∈ isC ∨ k ∈ isR) (hR : isR.map (fun i => w[i]?) = wr.map some) (hadl : w.map Prod.fst = adl) (hn : As.length = n) (hsize : ls.size = nL) (hroom : (rest.map fun v => v.category).sum ≤ 8) (hst : st0 = As.reverse ++ rest) (hdg : decode cc pc = .ok (.invokestatic index, 3)) (hf : cells + 0 ≤ R.cells ∧ slots + 0 ≤ R.slots)
    (kk : ∀ (r : Int64) (w1 : va_W) (H1 : Heap) (locs1 : List Loc), PF r w1 → (∀ w2 : va_W, isC.map (fun i => w2[i]?) = w1.map some → isR.map (fun i => w2[i]?) = wr.map some → w2.map Prod.fst = adl → va_P D vwCl w2 H1 ∧ va_D A w2) → va_S A s.heap H1 locs1 → W p l e R s m AV below meth c H1 locs1 cells slots Q (F0 m (pc + 3) ls (.long r :: rest))) :
    W p l e R s m AV below meth c H locs cells slots Q (F0 m pc ls st0) := by
  subst hst
  have hf2 : isC.filterMap (fun i => w[i]?) = wc := by
    have h1 : isC.filterMap (fun i => w[i]?) = (isC.map (fun i => w[i]?)).filterMap id := by rw [List.filterMap_map]; rfl
    rw [h1, hC]
    simp
  have hPc : va_P D vwCl wc H := hP.sub isC hf2
  have hFc := va_free (wc := wc) hD hS hA isC hC
  refine va_calll (va_runS (rest := rest) S (hM H.size) cw ⟨zq_CP.blind, zq_pre hE hP hD isC hC hnd⟩ rfl hn hsize rfl (lv_room hroom) hdg hf) hS (fun q _ h => hFc q h) hFc (fun r w1 t H1 locs1 ht hvm hw hB hz1 hk1 hS1 => ?_)
  obtain ⟨hP1, ha⟩ := hB
  rw [ht] at hP1
  exact kk r w1 H1 locs1 hw (zq_j2 hP hD isC isR n0 hlen hcov hC hR hadl hk1 hP1) hS1
def zq_Mv (l : Launch) (y : MethodName) (ws : List Cond) (rm : Room) (D : va_G) (kT : Nat → ClassId) (av : List Value) (w : va_W) (PF : va_W → Prop) : Prop := ∀ sz : Nat, Met l y ws rm (va_Pc av (zq_CP D kT sz w)) (va_Qv PF (zq_WB D (w.map Prod.fst)) (va_A w sz)) 0 0 (va_A w sz)
theorem zq_Mv_of {l : Launch} {y : MethodName} {ws : List Cond} {rm : Room} {D : va_G} {kT : Nat → ClassId} {av : List Value} {w : va_W} {PF : va_W → Prop} {cc : ByteArray} {maxL : Nat} {own : String} {adl : List Nat} (hadl : w.map Prod.fst = adl)
    (hy : plainName y.cls = true) (hw : ws = Cond.code y cc maxL none :: zq_W) (ho : y.cls = own) (hav : (lg_sl av).length ≤ maxL)
    (body : ∀ (p : Program) (e : Env) (s : State) (m : MethodId) (AV : Array Value) (below : List Frame) (meth : Method) (c : Code) (A : Nat → Prop) (QQ : State → Prop) (H : Heap) (locs : List Loc) (ls : Array Slot),
      p.tables.exec = Jvm.exec → c.code = cc → c.maxLocals = maxL → s.vm.findClass own = some m.cls → (∀ w ∈ zq_W, w.before AV s = true) → zq_EV D kT s → (∀ q : Nat, s.heap.size ≤ q → A q) →
      (∀ (w' : va_W) (H : Heap) (locs : List Loc) (pc : Nat) (ls : Array Slot), PF w' → va_P D vwCl w' H → w'.map Prod.fst = adl → va_S A s.heap H locs → decode cc pc = .ok (.return_, 1) → W p l e rm s m AV below meth c H locs 0 0 QQ (F0 m pc ls [])) →
      va_P D vwCl w H → va_D A w → va_S A s.heap H locs → lv_has ls maxL (lv_args 0 av) → W p l e rm s m AV below meth c H locs 0 0 QQ (F0 m 0 ls [])) : zq_Mv l y ws rm D kT av w PF := by
  intro sz
  refine Met.ofW (cc := cc) (maxL := maxL) (ret := none) hy hw ?_
  intro p e s m args below meth c s₁ B hml hv
  obtain ⟨rfl, hsz, hP, hE, hD0⟩ := hv
  subst hsz
  have hr := B.returns
  have hlocks := B.notSynchronized
  rw [lg_entry_eq]
  refine body p e s m _ below meth c (va_A w s.heap.size) _ s.heap [] _ B.exec B.bytes hml (by rw [← ho]; exact findClass_of_methodNamed B.named) (fun w h => atoms_spec (ws := ws) B.pre w (by rw [hw]; exact List.mem_cons_of_mem _ h)) hE (fun q h => Or.inr h) ?_ hP hD0.self va_S.rf (lv_entry av hav)
  intro w' H locs pc ls hpf hP' ha hS hd
  exact W.vret B.exec B.bytes hr (fun t ht hW => ⟨⟨w', rfl, hpf, by rw [ht]; exact hP', by rw [hadl]; exact ha⟩, hS.F ht⟩) hS.2.2 hd
theorem zq_c_Vv {p : Program} {l : Launch} {e : Env} {R : Room} {s : State} {m : MethodId} {AV : Array Value} {below : List Frame} {meth : Method} {c : Code} {H : Heap} {locs : List Loc} {cells slots : Nat} {Q : State → Prop} {y : MethodName} {wsY : List Cond} {rmY : Room} {bytes cc : ByteArray} {maxL nL n index pc : Nat} {ret : Option FieldType} {Ts : List Cond} {own C : String} {b : Addr} {As rest st0 : List Value} {ls : Array Slot} {D : va_G} {kT : Nat → ClassId} {w wc wr : va_W} {adl : List Nat} {A : Nat → Prop} {PF : va_W → Prop}
    (S : CallFix p m c cc nL s AV Ts own) (hM : zq_Mv l y wsY rmY D kT (.ref b :: As) wc PF) (cw : CallW R s AV own C index y bytes maxL ret wsY rmY 0 0 n) (hE : zq_EV D kT s) (hP : va_P D vwCl w H) (hD : va_D A w) (hS : va_S A s.heap H locs) (hA : ∀ q : Nat, s.heap.size ≤ q → A q)
    (isC isR : List Nat) (n0 : Nat) (hC : isC.map (fun i => w[i]?) = wc.map some) (hnd : va_nd isC = true) (hlen : w.length = n0) (hcov : ∀ k, k < n0 → k ∈ isC ∨ k ∈ isR) (hR : isR.map (fun i => w[i]?) = wr.map some) (hadl : w.map Prod.fst = adl) (q0 : Nat) {ci : Nat} {fs : List Value} {qc : vw_C} (hr0 : wc[q0]? = some (b, .inr (ci, fs))) (hcl : vwCl[ci]? = some qc) (hqc : qc.1 = C) (hn : As.length = n) (hsize : ls.size = nL) (hroom : (rest.map fun v => v.category).sum ≤ 8) (hst : st0 = As.reverse ++ .ref b :: rest) (hdg : decode cc pc = .ok (.invokevirtual index, 3)) (hf : cells + 0 ≤ R.cells ∧ slots + 0 ≤ R.slots)
    (kk : ∀ (w1 : va_W) (H1 : Heap) (locs1 : List Loc), PF w1 → (∀ w2 : va_W, isC.map (fun i => w2[i]?) = w1.map some → isR.map (fun i => w2[i]?) = wr.map some → w2.map Prod.fst = adl → va_P D vwCl w2 H1 ∧ va_D A w2) → va_S A s.heap H1 locs1 → W p l e R s m AV below meth c H1 locs1 cells slots Q (F0 m (pc + 3) ls (rest))) :
    W p l e R s m AV below meth c H locs cells slots Q (F0 m pc ls st0) := by
  subst hst
  have hf2 : isC.filterMap (fun i => w[i]?) = wc := by
    have h1 : isC.filterMap (fun i => w[i]?) = (isC.map (fun i => w[i]?)).filterMap id := by rw [List.filterMap_map]; rfl
    rw [h1, hC]
    simp
  have hPc : va_P D vwCl wc H := hP.sub isC hf2
  have hFc := va_free (wc := wc) hD hS hA isC hC
  refine va_callv (va_runV (rest := rest) S (hM H.size) cw ⟨zq_CP.blind, by rw [← hqc]; exact va_recv (hE.1) hPc hcl hr0, zq_pre hE hP hD isC hC hnd⟩ rfl hn hsize rfl (lv_room hroom) hdg hf) hS (fun q _ h => hFc q h) hFc (fun w1 t H1 locs1 ht hvm hw hB hz1 hk1 hS1 => ?_)
  obtain ⟨hP1, ha⟩ := hB
  rw [ht] at hP1
  exact kk w1 H1 locs1 hw (zq_j2 hP hD isC isR n0 hlen hcov hC hR hadl hk1 hP1) hS1
theorem zq_c_Sv {p : Program} {l : Launch} {e : Env} {R : Room} {s : State} {m : MethodId} {AV : Array Value} {below : List Frame} {meth : Method} {c : Code} {H : Heap} {locs : List Loc} {cells slots : Nat} {Q : State → Prop} {y : MethodName} {wsY : List Cond} {rmY : Room} {bytes cc : ByteArray} {maxL nL n index pc : Nat} {ret : Option FieldType} {Ts : List Cond} {own : String} {As rest st0 : List Value} {ls : Array Slot} {D : va_G} {kT : Nat → ClassId} {w wc wr : va_W} {adl : List Nat} {A : Nat → Prop} {PF : va_W → Prop}
    (S : CallFix p m c cc nL s AV Ts own) (hM : zq_Mv l y wsY rmY D kT As wc PF) (cw : CallB R s AV own index y bytes maxL ret wsY rmY 0 0 n ∧ (Cond.static y).before AV s = true) (hE : zq_EV D kT s) (hP : va_P D vwCl w H) (hD : va_D A w) (hS : va_S A s.heap H locs) (hA : ∀ q : Nat, s.heap.size ≤ q → A q)
    (isC isR : List Nat) (n0 : Nat) (hC : isC.map (fun i => w[i]?) = wc.map some) (hnd : va_nd isC = true) (hlen : w.length = n0) (hcov : ∀ k, k < n0 → k ∈ isC ∨ k ∈ isR) (hR : isR.map (fun i => w[i]?) = wr.map some) (hadl : w.map Prod.fst = adl) (hn : As.length = n) (hsize : ls.size = nL) (hroom : (rest.map fun v => v.category).sum ≤ 8) (hst : st0 = As.reverse ++ rest) (hdg : decode cc pc = .ok (.invokestatic index, 3)) (hf : cells + 0 ≤ R.cells ∧ slots + 0 ≤ R.slots)
    (kk : ∀ (w1 : va_W) (H1 : Heap) (locs1 : List Loc), PF w1 → (∀ w2 : va_W, isC.map (fun i => w2[i]?) = w1.map some → isR.map (fun i => w2[i]?) = wr.map some → w2.map Prod.fst = adl → va_P D vwCl w2 H1 ∧ va_D A w2) → va_S A s.heap H1 locs1 → W p l e R s m AV below meth c H1 locs1 cells slots Q (F0 m (pc + 3) ls (rest))) :
    W p l e R s m AV below meth c H locs cells slots Q (F0 m pc ls st0) := by
  subst hst
  have hf2 : isC.filterMap (fun i => w[i]?) = wc := by
    have h1 : isC.filterMap (fun i => w[i]?) = (isC.map (fun i => w[i]?)).filterMap id := by rw [List.filterMap_map]; rfl
    rw [h1, hC]
    simp
  have hPc : va_P D vwCl wc H := hP.sub isC hf2
  have hFc := va_free (wc := wc) hD hS hA isC hC
  refine va_callv (va_runS (rest := rest) S (hM H.size) cw ⟨zq_CP.blind, zq_pre hE hP hD isC hC hnd⟩ rfl hn hsize rfl (lv_room hroom) hdg hf) hS (fun q _ h => hFc q h) hFc (fun w1 t H1 locs1 ht hvm hw hB hz1 hk1 hS1 => ?_)
  obtain ⟨hP1, ha⟩ := hB
  rw [ht] at hP1
  exact kk w1 H1 locs1 hw (zq_j2 hP hD isC isR n0 hlen hcov hC hR hadl hk1 hP1) hS1
theorem zq_a_iald {p : Program} {l : Launch} {e : Env} {R : Room} {s : State} {m : MethodId} {AV : Array Value} {below : List Frame} {meth : Method} {c : Code} {H : Heap} {locs : List Loc} {cells slots : Nat} {Q : State → Prop} {cc : ByteArray} {pc : Nat} {ls : Array Slot} {rest : List Value} {D : va_G} {cl : List vw_C} {a : Nat} {tys : List (ClassId × FieldType)} {ws : va_W} (hexec : p.tables.exec = Jvm.exec) (hb : c.code = cc) (hK : va_K D cl tys s) (hP : va_P D cl ws H) (q0 t0 : Nat) {cA : ClassId} {n : Nat} {f : Nat → Int32} (ha : ws[q0]? = some (a, .inl (cA, n, .inl f))) (ht : tys[t0]? = some (cA, .int)) {i : Int32} (hin : vp_in i n) {j : Nat} (hj : i.toNatClampNeg = j) (hdg : decode cc pc = .ok (.iaload, 1))
    (kk : W p l e R s m AV below meth c H locs cells slots Q (F0 m (pc + 1) ls (.int (f j) :: rest))) : W p l e R s m AV below meth c H locs cells slots Q (F0 m pc ls (.int i :: .ref a :: rest)) := by
  subst hj
  exact va_iald hexec hb hK hP q0 t0 ha ht hin hdg kk
theorem zq_a_iast {p : Program} {l : Launch} {e : Env} {R : Room} {s : State} {m : MethodId} {AV : Array Value} {below : List Frame} {meth : Method} {c : Code} {H : Heap} {locs : List Loc} {cells slots : Nat} {Q : State → Prop} {cc : ByteArray} {pc : Nat} {ls : Array Slot} {rest : List Value} {D : va_G} {cl : List vw_C} {A : Nat → Prop} {a : Nat} {tys : List (ClassId × FieldType)} {ws : va_W} {H0 : Heap} (hexec : p.tables.exec = Jvm.exec) (hb : c.code = cc) (hK : va_K D cl tys s) (hP : va_P D cl ws H) (hD : va_D A ws) (hS : va_S A H0 H locs) (q0 t0 : Nat) {cA : ClassId} {n : Nat} {f : Nat → Int32} (ha : ws[q0]? = some (a, .inl (cA, n, .inl f))) (ht : tys[t0]? = some (cA, .int)) {i : Int32} {x : Int32} (hin : vp_in i n) {j : Nat} (hj : i.toNatClampNeg = j) (hdg : decode cc pc = .ok (.iastore, 1))
    (kk : ∀ (H1 : Heap) (locs1 : List Loc), va_P D cl (ws.set q0 (a, .inl (cA, n, .inl (upd f j x)))) H1 → va_D A (ws.set q0 (a, .inl (cA, n, .inl (upd f j x)))) → va_S A H0 H1 locs1 → W p l e R s m AV below meth c H1 locs1 cells slots Q (F0 m (pc + 1) ls rest)) : W p l e R s m AV below meth c H locs cells slots Q (F0 m pc ls (.int x :: .int i :: .ref a :: rest)) := by
  subst hj
  exact va_iast hexec hb hK hP hD hS q0 t0 ha ht hin hdg kk
theorem zq_a_bald {p : Program} {l : Launch} {e : Env} {R : Room} {s : State} {m : MethodId} {AV : Array Value} {below : List Frame} {meth : Method} {c : Code} {H : Heap} {locs : List Loc} {cells slots : Nat} {Q : State → Prop} {cc : ByteArray} {pc : Nat} {ls : Array Slot} {rest : List Value} {D : va_G} {cl : List vw_C} {a : Nat} {tys : List (ClassId × FieldType)} {ws : va_W} (hexec : p.tables.exec = Jvm.exec) (hb : c.code = cc) (hK : va_K D cl tys s) (hP : va_P D cl ws H) (q0 t0 : Nat) {cA : ClassId} {n : Nat} {f : Nat → Int32} (ha : ws[q0]? = some (a, .inl (cA, n, .inl f))) (ht : tys[t0]? = some (cA, .byte)) {i : Int32} (hin : vp_in i n) {j : Nat} (hj : i.toNatClampNeg = j) (hdg : decode cc pc = .ok (.baload, 1))
    (kk : W p l e R s m AV below meth c H locs cells slots Q (F0 m (pc + 1) ls (.int (f j) :: rest))) : W p l e R s m AV below meth c H locs cells slots Q (F0 m pc ls (.int i :: .ref a :: rest)) := by
  subst hj
  exact va_bald hexec hb hK hP q0 t0 ha ht hin hdg kk
theorem zq_a_bast {p : Program} {l : Launch} {e : Env} {R : Room} {s : State} {m : MethodId} {AV : Array Value} {below : List Frame} {meth : Method} {c : Code} {H : Heap} {locs : List Loc} {cells slots : Nat} {Q : State → Prop} {cc : ByteArray} {pc : Nat} {ls : Array Slot} {rest : List Value} {D : va_G} {cl : List vw_C} {A : Nat → Prop} {a : Nat} {tys : List (ClassId × FieldType)} {ws : va_W} {H0 : Heap} (hexec : p.tables.exec = Jvm.exec) (hb : c.code = cc) (hK : va_K D cl tys s) (hP : va_P D cl ws H) (hD : va_D A ws) (hS : va_S A H0 H locs) (q0 t0 : Nat) {cA : ClassId} {n : Nat} {f : Nat → Int32} (ha : ws[q0]? = some (a, .inl (cA, n, .inl f))) (ht : tys[t0]? = some (cA, .byte)) {i : Int32} {x : Int32} (hin : vp_in i n) {j : Nat} (hj : i.toNatClampNeg = j) (hdg : decode cc pc = .ok (.bastore, 1))
    (kk : ∀ (H1 : Heap) (locs1 : List Loc), va_P D cl (ws.set q0 (a, .inl (cA, n, .inl (upd f j (vp_nar .byte x))))) H1 → va_D A (ws.set q0 (a, .inl (cA, n, .inl (upd f j (vp_nar .byte x))))) → va_S A H0 H1 locs1 → W p l e R s m AV below meth c H1 locs1 cells slots Q (F0 m (pc + 1) ls rest)) : W p l e R s m AV below meth c H locs cells slots Q (F0 m pc ls (.int x :: .int i :: .ref a :: rest)) := by
  subst hj
  exact va_bast hexec hb hK hP hD hS q0 t0 ha ht hin hdg kk
theorem zq_a_zald {p : Program} {l : Launch} {e : Env} {R : Room} {s : State} {m : MethodId} {AV : Array Value} {below : List Frame} {meth : Method} {c : Code} {H : Heap} {locs : List Loc} {cells slots : Nat} {Q : State → Prop} {cc : ByteArray} {pc : Nat} {ls : Array Slot} {rest : List Value} {D : va_G} {cl : List vw_C} {a : Nat} {tys : List (ClassId × FieldType)} {ws : va_W} (hexec : p.tables.exec = Jvm.exec) (hb : c.code = cc) (hK : va_K D cl tys s) (hP : va_P D cl ws H) (q0 t0 : Nat) {cA : ClassId} {n : Nat} {f : Nat → Int32} (ha : ws[q0]? = some (a, .inl (cA, n, .inl f))) (ht : tys[t0]? = some (cA, .boolean)) {i : Int32} (hin : vp_in i n) {j : Nat} (hj : i.toNatClampNeg = j) (hdg : decode cc pc = .ok (.baload, 1))
    (kk : W p l e R s m AV below meth c H locs cells slots Q (F0 m (pc + 1) ls (.int (f j) :: rest))) : W p l e R s m AV below meth c H locs cells slots Q (F0 m pc ls (.int i :: .ref a :: rest)) := by
  subst hj
  exact va_zald hexec hb hK hP q0 t0 ha ht hin hdg kk
theorem zq_a_zast {p : Program} {l : Launch} {e : Env} {R : Room} {s : State} {m : MethodId} {AV : Array Value} {below : List Frame} {meth : Method} {c : Code} {H : Heap} {locs : List Loc} {cells slots : Nat} {Q : State → Prop} {cc : ByteArray} {pc : Nat} {ls : Array Slot} {rest : List Value} {D : va_G} {cl : List vw_C} {A : Nat → Prop} {a : Nat} {tys : List (ClassId × FieldType)} {ws : va_W} {H0 : Heap} (hexec : p.tables.exec = Jvm.exec) (hb : c.code = cc) (hK : va_K D cl tys s) (hP : va_P D cl ws H) (hD : va_D A ws) (hS : va_S A H0 H locs) (q0 t0 : Nat) {cA : ClassId} {n : Nat} {f : Nat → Int32} (ha : ws[q0]? = some (a, .inl (cA, n, .inl f))) (ht : tys[t0]? = some (cA, .boolean)) {i : Int32} {x : Int32} (hin : vp_in i n) {j : Nat} (hj : i.toNatClampNeg = j) (hdg : decode cc pc = .ok (.bastore, 1))
    (kk : ∀ (H1 : Heap) (locs1 : List Loc), va_P D cl (ws.set q0 (a, .inl (cA, n, .inl (upd f j (vp_nar .boolean x))))) H1 → va_D A (ws.set q0 (a, .inl (cA, n, .inl (upd f j (vp_nar .boolean x))))) → va_S A H0 H1 locs1 → W p l e R s m AV below meth c H1 locs1 cells slots Q (F0 m (pc + 1) ls rest)) : W p l e R s m AV below meth c H locs cells slots Q (F0 m pc ls (.int x :: .int i :: .ref a :: rest)) := by
  subst hj
  exact va_zast hexec hb hK hP hD hS q0 t0 ha ht hin hdg kk
theorem zq_a_lald {p : Program} {l : Launch} {e : Env} {R : Room} {s : State} {m : MethodId} {AV : Array Value} {below : List Frame} {meth : Method} {c : Code} {H : Heap} {locs : List Loc} {cells slots : Nat} {Q : State → Prop} {cc : ByteArray} {pc : Nat} {ls : Array Slot} {rest : List Value} {D : va_G} {cl : List vw_C} {a : Nat} {tys : List (ClassId × FieldType)} {ws : va_W} (hexec : p.tables.exec = Jvm.exec) (hb : c.code = cc) (hK : va_K D cl tys s) (hP : va_P D cl ws H) (q0 t0 : Nat) {cA : ClassId} {n : Nat} {f : Nat → Int64} (ha : ws[q0]? = some (a, .inl (cA, n, .inr (.inl f)))) (ht : tys[t0]? = some (cA, .long)) {i : Int32} (hin : vp_in i n) {j : Nat} (hj : i.toNatClampNeg = j) (hdg : decode cc pc = .ok (.laload, 1))
    (kk : W p l e R s m AV below meth c H locs cells slots Q (F0 m (pc + 1) ls (.long (f j) :: rest))) : W p l e R s m AV below meth c H locs cells slots Q (F0 m pc ls (.int i :: .ref a :: rest)) := by
  subst hj
  exact va_lald hexec hb hK hP q0 t0 ha ht hin hdg kk
theorem zq_a_last {p : Program} {l : Launch} {e : Env} {R : Room} {s : State} {m : MethodId} {AV : Array Value} {below : List Frame} {meth : Method} {c : Code} {H : Heap} {locs : List Loc} {cells slots : Nat} {Q : State → Prop} {cc : ByteArray} {pc : Nat} {ls : Array Slot} {rest : List Value} {D : va_G} {cl : List vw_C} {A : Nat → Prop} {a : Nat} {tys : List (ClassId × FieldType)} {ws : va_W} {H0 : Heap} (hexec : p.tables.exec = Jvm.exec) (hb : c.code = cc) (hK : va_K D cl tys s) (hP : va_P D cl ws H) (hD : va_D A ws) (hS : va_S A H0 H locs) (q0 t0 : Nat) {cA : ClassId} {n : Nat} {f : Nat → Int64} (ha : ws[q0]? = some (a, .inl (cA, n, .inr (.inl f)))) (ht : tys[t0]? = some (cA, .long)) {i : Int32} {x : Int64} (hin : vp_in i n) {j : Nat} (hj : i.toNatClampNeg = j) (hdg : decode cc pc = .ok (.lastore, 1))
    (kk : ∀ (H1 : Heap) (locs1 : List Loc), va_P D cl (ws.set q0 (a, .inl (cA, n, .inr (.inl (vp_updL f j x))))) H1 → va_D A (ws.set q0 (a, .inl (cA, n, .inr (.inl (vp_updL f j x))))) → va_S A H0 H1 locs1 → W p l e R s m AV below meth c H1 locs1 cells slots Q (F0 m (pc + 1) ls rest)) : W p l e R s m AV below meth c H locs cells slots Q (F0 m pc ls (.long x :: .int i :: .ref a :: rest)) := by
  subst hj
  exact va_last hexec hb hK hP hD hS q0 t0 ha ht hin hdg kk
/-! constructors: the world is the object alone; cells are made -/
def zq_MC (l : Launch) (y : MethodName) (ws : List Cond) (rm : Room) (D : va_G) (kT : Nat → ClassId) (av : List Value) (w : va_W) (PF : va_W → Prop) (mc ms : Nat) : Prop := ∀ sz : Nat, Met l y ws rm (va_Pc av (zq_CP D kT sz w)) (va_Qv PF (fun w' t => va_P D vwCl w' t.heap ∧ va_D (va_A w sz) w') (va_A w sz)) mc ms (va_A w sz)
theorem zq_MC_of {l : Launch} {y : MethodName} {ws : List Cond} {rm : Room} {D : va_G} {kT : Nat → ClassId} {av : List Value} {w : va_W} {PF : va_W → Prop} {mc ms : Nat} {cc : ByteArray} {maxL : Nat} {own : String}
    (hy : plainName y.cls = true) (hw : ws = Cond.code y cc maxL none :: zq_W) (ho : y.cls = own) (hav : (lg_sl av).length ≤ maxL) (hyn : y.name = "<init>")
    (body : ∀ (p : Program) (e : Env) (s : State) (m : MethodId) (AV : Array Value) (below : List Frame) (meth : Method) (c : Code) (A : Nat → Prop) (QQ : State → Prop) (H : Heap) (locs : List Loc) (ls : Array Slot),
      p.tables.exec = Jvm.exec → c.code = cc → c.maxLocals = maxL → s.vm.findClass own = some m.cls → (∀ w ∈ zq_W, w.before AV s = true) → zq_EV D kT s → (∀ q : Nat, s.heap.size ≤ q → A q) → meth.name = "<init>" →
      (∀ (w' : va_W) (H : Heap) (locs : List Loc) (pc : Nat) (ls : Array Slot), PF w' → va_P D vwCl w' H → va_D A w' → va_S A s.heap H locs → decode cc pc = .ok (.return_, 1) → W p l e rm s m AV below meth c H locs mc ms QQ (F0 m pc ls [])) →
      va_P D vwCl w H → va_D A w → va_S A s.heap H locs → lv_has ls maxL (lv_args 0 av) → W p l e rm s m AV below meth c H locs 0 0 QQ (F0 m 0 ls [])) : zq_MC l y ws rm D kT av w PF mc ms := by
  intro sz
  refine Met.ofW (cc := cc) (maxL := maxL) (ret := none) hy hw ?_
  intro p e s m args below meth c s₁ B hml hv
  obtain ⟨rfl, hsz, hP, hE, hD0⟩ := hv
  subst hsz
  have hr := B.returns
  have hlocks := B.notSynchronized
  have hin : meth.name = "<init>" := (name_of_methodNamed B.named B.method).1.trans hyn
  rw [lg_entry_eq]
  refine body p e s m _ below meth c (va_A w s.heap.size) _ s.heap [] _ B.exec B.bytes hml (by rw [← ho]; exact findClass_of_methodNamed B.named) (fun w h => atoms_spec (ws := ws) B.pre w (by rw [hw]; exact List.mem_cons_of_mem _ h)) hE (fun q h => Or.inr h) hin ?_ hP hD0.self va_S.rf (lv_entry av hav)
  intro w' H locs pc ls hpf hP' hD' hS hd
  exact W.vret B.exec B.bytes hr (fun t ht hW => ⟨⟨w', rfl, hpf, by rw [ht]; exact hP', hD'⟩, hS.F ht⟩) hS.2.2 hd
theorem zq_c_I {p : Program} {l : Launch} {e : Env} {R : Room} {s : State} {m : MethodId} {AV : Array Value} {below : List Frame} {meth : Method} {c : Code} {H : Heap} {locs : List Loc} {cells slots : Nat} {Q : State → Prop} {y : MethodName} {wsY : List Cond} {rmY : Room} {bytes cc : ByteArray} {maxL nL n index pc mc ms : Nat} {Ts : List Cond} {own : String} {b : Addr} {As rest st0 : List Value} {ls : Array Slot} {D : va_G} {kT : Nat → ClassId} {w wc wr : va_W} {A : Nat → Prop} {PF : va_W → Prop}
    (S : CallFix p m c cc nL s AV Ts own) (hM : zq_MC l y wsY rmY D kT (.ref b :: As) wc PF mc ms) (cw : CallB R s AV own index y bytes maxL none wsY rmY mc ms n ∧ y.name = "<init>" ∧ (Cond.instanceMethod y).before AV s = true) (hE : zq_EV D kT s) (hP : va_P D vwCl w H) (hD : va_D A w) (hS : va_S A s.heap H locs) (hA : ∀ q : Nat, s.heap.size ≤ q → A q)
    (isC isR : List Nat) (hC : isC.map (fun i => w[i]?) = wc.map some) (hR : isR.map (fun i => w[i]?) = wr.map some) (hnd : va_nd isC = true) (hndR : va_nd isR = true) (hdis : ∀ i ∈ isR, i ∉ isC) (hn : As.length = n) (hsize : ls.size = nL) (hroom : (rest.map fun v => v.category).sum ≤ 8) (hst : st0 = As.reverse ++ .ref b :: rest) (hdg : decode cc pc = .ok (.invokespecial index, 3)) (hf : cells + mc ≤ R.cells ∧ slots + ms ≤ R.slots)
    (kk : ∀ (w1 : va_W) (H1 : Heap) (locs1 : List Loc), PF w1 → va_P D vwCl (wr ++ w1) H1 → va_D A (wr ++ w1) → va_S A s.heap H1 locs1 → W p l e R s m AV below meth c H1 locs1 (cells + mc) (slots + ms) Q (F0 m (pc + 3) ls rest)) :
    W p l e R s m AV below meth c H locs cells slots Q (F0 m pc ls st0) := by
  subst hst
  have hFc := va_free (wc := wc) hD hS hA isC hC
  refine va_callv (va_runI (rest := rest) S (hM H.size) cw ⟨zq_CP.blind, zq_pre hE hP hD isC hC hnd⟩ rfl hn hsize rfl (lv_room hroom) hdg hf) hS (fun q _ h => hFc q h) hFc (fun w1 t H1 locs1 ht hvm hw hB hz1 hk1 hS1 => ?_)
  obtain ⟨hP1, hD1⟩ := hB
  rw [ht] at hP1
  obtain ⟨hP2, hD2⟩ := va_join (wr := wr) (w1 := w1) hP hD isC isR hC hR hndR hdis hk1 hFc hP1 hD1
  exact kk w1 H1 locs1 hw hP2 hD2 hS1
theorem zq_c_IN {p : Program} {l : Launch} {e : Env} {R : Room} {s : State} {m : MethodId} {AV : Array Value} {below : List Frame} {meth : Method} {c : Code} {H : Heap} {locs : List Loc} {cells slots : Nat} {Q : State → Prop} {y : MethodName} {wsY : List Cond} {rmY : Room} {bytes cc : ByteArray} {maxL nL n index pc mc ms : Nat} {Ts : List Cond} {own host : String} {b : Addr} {As rest st0 : List Value} {ls : Array Slot} {D : va_G} {kT : Nat → ClassId} {w wc wr : va_W} {A : Nat → Prop} {PF : va_W → Prop}
    (S : CallFix p m c cc nL s AV Ts own) (hM : zq_MC l y wsY rmY D kT (.ref b :: As) wc PF mc ms) (cw : va_CN R s AV own index y host bytes maxL none wsY rmY mc ms n ∧ y.name = "<init>" ∧ (Cond.instanceMethod y).before AV s = true) (hE : zq_EV D kT s) (hP : va_P D vwCl w H) (hD : va_D A w) (hS : va_S A s.heap H locs) (hA : ∀ q : Nat, s.heap.size ≤ q → A q)
    (isC isR : List Nat) (hC : isC.map (fun i => w[i]?) = wc.map some) (hR : isR.map (fun i => w[i]?) = wr.map some) (hnd : va_nd isC = true) (hndR : va_nd isR = true) (hdis : ∀ i ∈ isR, i ∉ isC) (hn : As.length = n) (hsize : ls.size = nL) (hroom : (rest.map fun v => v.category).sum ≤ 8) (hst : st0 = As.reverse ++ .ref b :: rest) (hdg : decode cc pc = .ok (.invokespecial index, 3)) (hf : cells + mc ≤ R.cells ∧ slots + ms ≤ R.slots)
    (kk : ∀ (w1 : va_W) (H1 : Heap) (locs1 : List Loc), PF w1 → va_P D vwCl (wr ++ w1) H1 → va_D A (wr ++ w1) → va_S A s.heap H1 locs1 → W p l e R s m AV below meth c H1 locs1 (cells + mc) (slots + ms) Q (F0 m (pc + 3) ls rest)) :
    W p l e R s m AV below meth c H locs cells slots Q (F0 m pc ls st0) := by
  subst hst
  have hFc := va_free (wc := wc) hD hS hA isC hC
  refine va_callv (va_runIN (rest := rest) S (hM H.size) cw ⟨zq_CP.blind, zq_pre hE hP hD isC hC hnd⟩ rfl hn hsize rfl (lv_room hroom) hdg hf) hS (fun q _ h => hFc q h) hFc (fun w1 t H1 locs1 ht hvm hw hB hz1 hk1 hS1 => ?_)
  obtain ⟨hP1, hD1⟩ := hB
  rw [ht] at hP1
  obtain ⟨hP2, hD2⟩ := va_join (wr := wr) (w1 := w1) hP hD isC isR hC hR hndR hdis hk1 hFc hP1 hD1
  exact kk w1 H1 locs1 hw hP2 hD2 hS1
/-- a new array, of an array class that is known already -/
theorem zq_newa {p : Program} {l : Launch} {e : Env} {R : Room} {s : State} {m : MethodId} {AV : Array Value} {below : List Frame} {meth : Method} {c : Code} {H : Heap} {locs : List Loc} {cells slots : Nat} {Q : State → Prop} {cc : ByteArray} {pc : Nat} {ls : Array Slot} {rest : List Value} {D : va_G} {cl : List vw_C} {A : Nat → Prop} {tys : List (ClassId × FieldType)} {ws : va_W} {H0 : Heap} (hexec : p.tables.exec = Jvm.exec) (hb : c.code = cc) {atype : ArrayType} (harr : (Cond.arrayClass (newarray.typeOf atype)).before AV s = true) {ty : FieldType} (hty : newarray.typeOf atype = ty) (hK : va_K D cl tys s) (hP : va_P D cl ws H) (hD : va_D A ws) (hS : va_S A H0 H locs) (hA : ∀ q, H0.size ≤ q → A q)
    (t0 : Nat) {cT : ClassId} (ht : tys[t0]? = some (cT, ty)) {n : Int32} {N' : Nat} {a0 : vp_A} (ha : ∀ cA : ClassId, vp_cell cA a0 = arrV cA N' (fun _ => defaultValue ty)) (hn : ¬ n < 0) (hN : n.toNatClampNeg = N') (hbytes : N' * componentBytes ty ≤ 536870912) (hcells : cells + 1 ≤ R.cells) (hslots : slots + N' ≤ R.slots) (hdg : decode cc pc = .ok (.newarray atype, 2))
    (kk : ∀ (q : Nat) (H1 : Heap), va_P D cl (ws ++ [(q, .inl (cT, a0))]) H1 → va_D A (ws ++ [(q, .inl (cT, a0))]) → va_S A H0 H1 locs →
      W p l e R s m AV below meth c H1 locs (cells + 1) (slots + N') Q (F0 m (pc + 2) ls (.ref q :: rest))) : W p l e R s m AV below meth c H locs cells slots Q (F0 m pc ls (.int n :: rest)) := by
  refine va_newa hexec hb harr hty hK hP hD hS hA ha hn hN hbytes hcells hslots hdg (fun q cA H1 hK1 hP1 hD1 hS1 => ?_)
  have e : cA = cT := by
    have h1 := (hK.2 t0 _ ht).2
    have h2 := (hK1.2 tys.length (cA, ty) (by simp)).2
    subst hty
    cases atype <;> exact Option.some.inj (h2.symm.trans h1)
  subst e
  exact kk q H1 hP1 hD1 hS1
