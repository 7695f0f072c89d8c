/-! the call of a method that may throw -/
section ZXC
variable {p : Program} {l : Launch} {e : Env} {R : Room} {s : State} {m : MethodId} {AV : Array Value} {below : List Frame} {meth : Method} {c : Code} {H : Heap} {locs : List Loc} {cells slots : Nat} {Q : State → Prop}
/-- the invocation stands in what the callee left -/
theorem zq_left {U t : State} {L : List Loc} {g : JFrame} {mk : MethodId} {a : Array Value} (X : Stand p l e R s m AV below meth c U locs cells slots) (hsame : (U.calling g mk a).sameButNew ({ t with vm := (U.calling g mk a).vm } : State) L 1 6) (hW : U.WarmedH t.vm) :
    Stand p l e R s m AV below meth c (({ U with heap := t.heap, slotsUsed := t.slotsUsed } : State).setVm t.vm) (locs ++ L) (cells + 1) (slots + 6) := by
  obtain ⟨-, q2, q3, q4, q5, q6⟩ := hsame
  have h2 : U.sameButNew ({ U with heap := t.heap, slotsUsed := t.slotsUsed } : State) L 1 6 := by
    refine ⟨?_, q2, q3, q4, q5, q6⟩
    obtain ⟨g0, hg0⟩ := Option.isSome_iff_exists.mp X.here.top
    obtain ⟨r, hr⟩ := State.topJava?_eq_some.mp hg0
    obtain ⟨th, hth, -⟩ := State.frames_cons hr
    show ({ U with heap := t.heap, slotsUsed := t.slotsUsed } : State) = { U.setFrames U.frames with heap := t.heap, slotsUsed := t.slotsUsed }
    rw [State.setFrames_self hth]
  exact ⟨X.admits, X.cas, X.clock, X.frames, X.room, X.hears, X.method, X.code, (X.here.setHeapUsed t.heap t.slotsUsed).setVm hW.alike, X.tail, State.WarmedH.trans X.warmed hW, X.limits, X.bytes, X.same.trans (h2.setVm s.vm)⟩
theorem zq_xcall {T : State} {y : MethodName} {wsY : List Cond} {rmY : Room} {bytes : ByteArray} {maxL n index : Nat} {ret : Option FieldType} {own C : String} {b : Addr} {As rest : List Value} {Pc : Array Value → State → Prop} {Qc : Array Value → State → Outcome → State → Prop} {px : String → Prop} {XB : State → State → Prop} {free : Addr → Prop}
    (X : Stand p l e R s m AV below meth c T locs cells slots) (hexec : p.tables.exec = Jvm.exec) (hown : s.vm.findClass own = some m.cls) (cw : CallW R s AV own C index y bytes maxL ret wsY rmY 1 6 n) (hM : zq_MetX l y wsY rmY Pc Qc px XB free) (hp : PreV s T.heap C b Pc As)
    {g : JFrame} (hg : g.method = m) (hn : As.length = n) (hsize : g.locals.size = c.maxLocals) (hstack : g.stack = As.reverse ++ .ref b :: rest) (hW : 2 * g.monitorRoom + (rest.map fun v => v.category).sum ≤ 8) (hdg : decode c.code g.pc = .ok (.invokevirtual index, 3)) (hf : cells + 1 ≤ R.cells ∧ slots + 6 ≤ R.slots) :
    (∃ (v : Option Value) (st0 t T' : State) (L : List Loc), st0.heap = T.heap ∧ Stand p l e R s m AV below meth c T' (locs ++ L) (cells + 1) (slots + 6) ∧ (∀ q ∈ L, free q.base) ∧ T'.heap = t.heap ∧ Qc (Value.ref b :: As).toArray st0 (.returned v) t ∧ ∀ target, Steps p.tables e below (T'.setTop { g with pc := g.pc + 3, stack := v.toList ++ rest }) target → Steps p.tables e below (T.setTop g) target) ∨
    (∃ (q : Addr) (E : String) (ce : Cell) (st0 t T' : State) (L : List Loc), st0.heap = T.heap ∧ Stand p l e R s m AV below meth c T' (locs ++ L) (cells + 1) (slots + 6) ∧ (∀ z ∈ L, free z.base) ∧ T'.heap = t.heap ∧ px E ∧ XB st0 t ∧ t.heap[q]? = some ce ∧ ce.vm = .none ∧ s.vm.findClass E = some ce.cls ∧ ∀ target, Steps p.tables e below ((T'.setTop { g with stack := rest }).pushFrame (.throwing q)) target → Steps p.tables e below (T.setTop g) target) := by
  obtain ⟨⟨hrc, hrs, hfr, hlo, hws, hcw, hcode, hini, hy, hlen, hl⟩, hinst, hsel⟩ := cw
  obtain ⟨hbl, ⟨cellB, hcell, hobj, hcls⟩, hPc⟩ := hp
  obtain ⟨mk, methM, hnamed, hmethM, hstM, habM⟩ := Cond.instanceMethod_spec hinst
  obtain ⟨methM', cM, hmethM', -, -, -, -, -, -, hsigM⟩ := Cond.code_spec hnamed hcode
  cases hmethM.symm.trans hmethM'
  obtain ⟨c2, r2, m2, q1, q2, q3, q4, kP, hkP, hkPi⟩ := Cond.selects_spec hsel
  cases hcls.symm.trans q1
  cases (State.methodFound?_of_named hnamed hy).symm.trans q2
  cases hnamed.symm.trans q3
  have hselP : selectMethod e.platform s.vm cellB.cls mk = .method mk := by rw [Launch.admits_selectMethod X.admits]; exact q4
  obtain ⟨vm1, X1, hstep1⟩ := X.invokevirtual hexec hown hl hnamed hmethM hstM hkP hkPi hy (a := b) (cell := cellB) hcell
    (fun z h => by rw [h] at hobj; cases hobj) hselP hmethM habM hkP hkPi (g := g) hg (argsL := As) (rest := rest) (hn.trans (hlen _ hsigM)) hstack hdg
  obtain ⟨U, hU⟩ : ∃ z, z = T.setVm vm1 := ⟨_, rfl⟩
  obtain ⟨g1, hg1⟩ : ∃ z, z = ({ g with stack := rest } : JFrame) := ⟨_, rfl⟩
  rw [← hU] at X1
  rw [← hg1, ← hU] at hstep1
  have hg1m : g1.method = m := by rw [hg1]; exact hg
  have hg1p : g1.pc = g.pc := by rw [hg1]
  have hg1s : g1.stack = rest := by rw [hg1]
  have hUh : U.heap = T.heap := by rw [hU]; rfl
  have hPU : Pc (Value.ref b :: As).toArray U := hPc U hUh X1.warmed
  have hnU : U.methodNamed? y = some mk := X1.named hnamed
  obtain ⟨methY, cY, hmY, hcY, -, hlY, -, -, -, -⟩ := Cond.code_spec hnU (hws _ hcw (Value.ref b :: As).toArray U X1.warmed)
  obtain ⟨kY, hkY, -⟩ := className_of_methodNamed hnU
  have hinitY : kY.init = .initialized := Cond.initialized_spec (args := (Value.ref b :: As).toArray) (findClass_of_methodNamed hnU) hkY (word_at X1.warmed (Or.inl (by first | rfl | simp [Cond.onTables, Cond.keeps, Cond.steady])) hini)
  have hA : At U g1.method c below := by rw [hg1m]; exact X1.here
  have hdg1 : decode c.code g1.pc = .ok (.invokevirtual index, 3) := by rw [hg1p]; exact hdg
  have happ : (headSpec wsY rmY).appliesLoose y e.platform (U.calling g1 mk (Value.ref b :: As).toArray) = true := by
    refine Spec.appliesLoose_calling (g := g1) hA hdg1 hnU hkY hinitY (X1.room_calling (g := g1) (R' := (headSpec wsY rmY).room) (by rw [hg1]; exact hsize) hmY hcY hfr ?_ ?_ ?_) (atoms_intro fun w hw => hws w hw _ _ X1.warmed)
    · rw [hlY, hg1s]
      have h1 : g1.monitorRoom = g.monitorRoom := by rw [hg1]
      rw [h1]
      have h2 : (headSpec wsY rmY).room.locals = rmY.locals := rfl
      omega
    · show cells + rmY.cells ≤ R.cells
      rw [hrc]; exact hf.1
    · show slots + rmY.slots ≤ R.slots
      rw [hrs]; exact hf.2
  obtain ⟨mid, hmid⟩ := hA.above
  have hfr2 : (U.setTop g1).frames = (.java g1 :: mid) ++ below := by rw [State.frames_setTop' g1 hA.top, hmid]; rfl
  obtain ⟨o, t, hsteps, -, hend, hq⟩ := Steps.callFree hM p X1.admits X1.cas X1.clock (acts := []) hfr2 happ (hbl _ _ _ _ hPU) trivial
  rw [State.frames_setTop' g1 hA.top] at hend
  obtain ⟨g0, hg0⟩ := Option.isSome_iff_exists.mp hA.top
  obtain ⟨r, hr⟩ := State.topJava?_eq_some.mp hg0
  have hr' : (({ U with heap := t.heap, slotsUsed := t.slotsUsed } : State).setVm t.vm).frames = .java g0 :: r := hr
  have hst0 : (U.calling g1 mk (Value.ref b :: As).toArray).heap = T.heap := hUh
  rcases (show zq_XQ Qc px XB free (Value.ref b :: As).toArray (U.calling g1 mk (Value.ref b :: As).toArray) o t from hq) with ⟨hqc, L, ⟨⟨v, rfl⟩, hWt, hsm⟩, hL⟩ | ⟨q, E, ce, L, rfl, hpx, hxb, hce, hcv, hcl, hWt, hsm, hL⟩
  · refine Or.inl ⟨v, U.calling g1 mk (Value.ref b :: As).toArray, t, _, L, hst0, zq_left X1 hsm hWt, hL, rfl, hqc, fun target hrest => ?_⟩
    refine hstep1 _ fun acts => ?_
    rw [doInvoke_state]
    refine hsteps.trans ?_
    obtain ⟨c3, i3, len3, hc3, hd3, hf3⟩ := hend
    have hWt' : U.WarmedH t.vm := hWt
    have hcc : c3 = c := by
      have h1 : t.code? g1.method = U.code? g1.method := by
        rw [State.code?_eq, State.code?_eq, hWt'.alike.method?]
      exact Option.some.inj (hc3.symm.trans (h1.trans hA.code))
    subst hcc
    have hlen3 : len3 = 3 := by rw [hdg1] at hd3; cases hd3; rfl
    subst hlen3
    have e1 : t = ({ (U.calling g1 mk (Value.ref b :: As).toArray).setFrames t.frames with heap := t.heap, slotsUsed := t.slotsUsed } : State).setVm t.vm := by
      have : t = ({ t with vm := (U.calling g1 mk (Value.ref b :: As).toArray).vm } : State).setVm t.vm := rfl
      rw [hsm.1] at this
      exact this
    have e2 : t = (({ U with heap := t.heap, slotsUsed := t.slotsUsed } : State).setVm t.vm).setTop { g with pc := g.pc + 3, stack := v.toList ++ rest } := by
      refine e1.trans ?_
      rw [hf3, State.calling_eq hA.top, State.setFrames_setFrames, State.setTop_of_frames _ hr', hr, hg1]
      rfl
    rw [e2]
    exact hrest
  · refine Or.inr ⟨q, E, ce, U.calling g1 mk (Value.ref b :: As).toArray, t, _, L, hst0, zq_left X1 hsm hWt, hL, rfl, hpx, hxb, hce, hcv, ?_, fun target hrest => ?_⟩
    · have h9 : U.vm.findClass E = some ce.cls := hcl
      rw [X1.warmed.alike.findClass] at h9
      exact h9
    · refine hstep1 _ fun acts => ?_
      rw [doInvoke_state]
      refine hsteps.trans ?_
      have hf3 : t.frames = .throwing q :: .java g1 :: U.frames.tail := hend
      have e1 : t = ({ (U.calling g1 mk (Value.ref b :: As).toArray).setFrames t.frames with heap := t.heap, slotsUsed := t.slotsUsed } : State).setVm t.vm := by
        have : t = ({ t with vm := (U.calling g1 mk (Value.ref b :: As).toArray).vm } : State).setVm t.vm := rfl
        rw [hsm.1] at this
        exact this
      have e2 : t = ((({ U with heap := t.heap, slotsUsed := t.slotsUsed } : State).setVm t.vm).setTop { g with stack := rest }).pushFrame (.throwing q) := by
        refine e1.trans ?_
        rw [hf3, State.calling_eq hA.top, State.setFrames_setFrames, State.pushFrame, State.frames_setTop _ hr', State.setTop_of_frames _ hr', State.setFrames_setFrames, hr, hg1]
        rfl
      rw [e2]
      exact hrest
end ZXC
