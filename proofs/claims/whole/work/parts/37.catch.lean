/-! a call of a method that may throw; the exception caught by the first or the second row of the caller's own table, whose classes may be linked there for the first time -/
/-- one row of the table, its class linked: it takes the exception, or the search goes on; the link is noted -/
theorem zq_row {Q : Handler → Pre} {E : CtlPost} {e : Env} {d : Bool} {acts : List Action} {s : State} {f : JFrame} {a : Addr} {x : ExceptionTableEntry} {t : List ExceptionTableEntry} {k : ClassId} {cell : Cell} (hx : covers x f.pc = true) (h0 : x.catchType ≠ 0)
    (hl : s.vm.ClassLinks e.platform f.method.cls x.catchType k) (hcell : s.heap[a]? = some cell) (hobj : ∀ j, cell.vm ≠ .statics j) (hc1 : ∃ j, s.vm.classes[cell.cls]? = some j) (hc2 : ∃ j, s.vm.classes[k]? = some j) :
    wp (findHandler.go f a (x :: t)) Q E e d acts s ↔ if s.vm.assignable cell.cls k = true then Q (.found x.handlerPc) d acts (s.setVm (s.vm.noted f.method.cls x.catchType (.cls k))) else wp (findHandler.go f a t) Q E e d acts (s.setVm (s.vm.noted f.method.cls x.catchType (.cls k))) := by
  simp only [covers] at hx
  obtain ⟨g1, g2⟩ := (resolveClass_links e.toSetting hl).op (op := VmOp.resolveClass f.method.cls x.catchType) rfl
  have hal : s.vm.Alike (s.vm.noted f.method.cls x.catchType (.cls k)) := (Vm.Alike.refl s.vm).noted _ _ _
  obtain ⟨j1, hj1⟩ := hc1
  obtain ⟨j2, hj2⟩ := hc2
  obtain ⟨i1, hi1, -⟩ := hal.2.2 _ _ hj1
  obtain ⟨i2, hi2, -⟩ := hal.2.2 _ _ hj2
  cases hfit : s.vm.assignable cell.cls k with
  | true =>
    have hf : (s.vm.noted f.method.cls x.catchType (.cls k)).assignable cell.cls k = true := by rw [hal.assignable]; exact hfit
    simp [findHandler.go, hx, h0, g1, g2, hcell, hobj, hi1, hi2, hf, VmOp.dirties, VmOp.acts]
  | false =>
    have hf : (s.vm.noted f.method.cls x.catchType (.cls k)).assignable cell.cls k = false := by rw [hal.assignable]; exact hfit
    simp [findHandler.go, hx, h0, g1, g2, hcell, hobj, hi1, hi2, hf, VmOp.dirties, VmOp.acts]
/-- the search ends at a handler, with these tables -/
def zq_Fd (e : Env) (s : State) (f : JFrame) (a : Addr) (pc : Nat) (vm' : Vm) : Prop := ∀ (Q : Handler → Pre) (E : CtlPost) (d : Bool) (acts : List Action), wp (findHandler f a) Q E e d acts s ↔ Q (.found pc) d acts (s.setVm vm')
theorem zq_Fd.go {tb : Tables} {e : Env} {s target : State} {g : JFrame} {c : Code} {below : List Frame} {a : Addr} (h : At s g.method c below) {pc : Nat} {vm' : Vm} (hf : zq_Fd e ((s.setTop g).pushFrame (.throwing a)) g a pc vm')
    (hr : Steps tb e below ((s.setVm vm').setTop { g with pc := pc, stack := [.ref a] }) target) : Steps tb e below ((s.setTop g).pushFrame (.throwing a)) target := by
  obtain ⟨h1, h2⟩ := h.throwing a
  refine Steps.head h1 h2 ?_
  have key : ∀ (u : State) (r : List Frame), zq_Fd e u g a pc vm' → (stepThrowing e u a (.java g :: r)).Is ((u.setVm vm').setFrames (.java { g with pc := pc, stack := [.ref a] } :: r)) [] := by
    intro u r hu
    simp only [stepThrowing, searchFrame, vmDo]
    generalize hq : Sem.go _ e false [] u = res
    obtain ⟨as, rfl, ha⟩ := Sem.eq_ok_of hq (a := Handler.found pc) (s' := u.setVm vm') (acts' := []) (by simp [hu _ _ _ _])
    exact ⟨rfl, ha⟩
  have swap : ∀ (u : State) (F G : List Frame), ((u.setFrames F).setVm vm').setFrames G = (u.setVm vm').setFrames G := by
    intro u F G
    have e1 : (u.setFrames F).setVm vm' = (u.setVm vm').setFrames F := rfl
    rw [e1, State.setFrames_setFrames]
  rw [stepThread_throwing (frames_entered h.top _), (key _ _ hf).1]
  obtain ⟨g0, hg0⟩ := Option.isSome_iff_exists.mp h.top
  obtain ⟨r, hr0⟩ := State.topJava?_eq_some.mp hg0
  have hr1 : (s.setVm vm').frames = .java g0 :: r := hr0
  rw [State.setTop_of_frames _ hr1] at hr
  rw [hr0, List.tail_cons, State.pushFrame, swap, State.setTop_of_frames _ hr0, swap]
  exact hr
section ZCA
variable {p : Program} {l : Launch} {e : Env} {R : Room} {s : State} {m : MethodId} {AV : Array Value} {below : List Frame} {meth : Method} {c : Code} {H : Heap} {locs : List Loc} {cells slots : Nat} {Q : State → Prop}
/-- the method's frame g, with q thrown over it -/
def zq_WX (p : Program) (l : Launch) (e : Env) (R : Room) (s : State) (m : MethodId) (AV : Array Value) (below : List Frame) (meth : Method) (c : Code) (H : Heap) (locs : List Loc) (cells slots : Nat) (Q : State → Prop) (g : JFrame) (q : Addr) : Prop :=
  ∀ T : State, T.heap = H → Stand p l e R s m AV below meth c T locs cells slots → ∃ t, Steps p.tables e below ((T.setTop g).pushFrame (.throwing q)) t ∧ Q t
theorem zq_lk {own name : String} {T : State} (X : Stand p l e R s m AV below meth c T locs cells slots) (hown : s.vm.findClass own = some m.cls) {j : Nat} (hlink : (Cond.classLink own j name).before AV s = true) {S : State} (hW : s.WarmedH S.vm) :
    ∃ k, s.vm.findClass name = some k ∧ S.vm.ClassLinks e.platform m.cls j k ∧ (∃ z, S.vm.classes[k]? = some z) ∧ s.WarmedH (S.vm.noted m.cls j (.cls k)) := by
  have hpl : e.platform.magicAccessors = ({} : Platform).magicAccessors := by rw [X.admits.platform]
  obtain ⟨k, hk, hcl⟩ := Cond.classLink_spec hown hlink e.platform hpl
  obtain ⟨dk, _, _, kt, hd, _, _, _, _, hkt, _, hopen⟩ := hcl.here
  obtain ⟨kt2, hkt2, -⟩ := hW.alike.2.2 _ _ hkt
  exact ⟨k, hk, hW.classLinks hcl, ⟨kt2, hkt2⟩, hW.noted hd hopen (State.rightAt_cls hcl)⟩
/-- caught by the first row -/
theorem zq_catch1 {pc : Nat} {ls : Array Slot} {rest : List Value} {own name E : String} {ce : Cell} {q : Addr} {x : ExceptionTableEntry} {suf : List ExceptionTableEntry} (hown : s.vm.findClass own = some m.cls) (htab : c.exceptionTable.toList = x :: suf) (hx : covers x pc = true) (h0 : x.catchType ≠ 0)
    (hlink : (Cond.classLink own x.catchType name).before AV s = true) (hcast : (Cond.castable E name).before AV s = true) (hcell : H[q]? = some ce) (hv : ce.vm = .none) (hcl : s.vm.findClass E = some ce.cls)
    (kk : W p l e R s m AV below meth c H locs cells slots Q (F0 m x.handlerPc ls [.ref q])) : zq_WX p l e R s m AV below meth c H locs cells slots Q (F0 m pc ls rest) q := by
  intro T hT X
  obtain ⟨c3, c4, hc3, hc4, hasg⟩ := Cond.castable_spec hcast
  cases Option.some.inj (hc3.symm.trans hcl)
  obtain ⟨k, hk, hl1, hl2, hl3⟩ := zq_lk X hown hlink (S := T) X.warmed
  cases Option.some.inj (hc4.symm.trans hk)
  obtain ⟨z1, hz1, -⟩ := Vm.findClass_spec hcl
  obtain ⟨z2, hz2, -⟩ := X.warmed.alike.2.2 _ _ hz1
  have hfd : zq_Fd e ((T.setTop (F0 m pc ls rest)).pushFrame (.throwing q)) (F0 m pc ls rest) q x.handlerPc (T.vm.noted m.cls x.catchType (.cls c4)) := by
    intro Q2 E2 d acts
    rw [W.findHandler_eq (meth := meth) (code := c) X.method' X.code, htab, zq_row (s := (T.setTop (F0 m pc ls rest)).pushFrame (.throwing q)) (f := F0 m pc ls rest) hx h0 hl1 (show T.heap[q]? = some ce by rw [hT]; exact hcell) (by rw [hv]; intro j hj; cases hj) ⟨z2, hz2⟩ hl2]
    rw [if_pos (show ((T.setTop (F0 m pc ls rest)).pushFrame (.throwing q)).vm.assignable ce.cls c4 = true by rw [Stand.throwing_vm, X.warmed.alike.assignable]; exact hasg), Stand.throwing_vm]
  obtain ⟨t, a1, b1⟩ := kk (T.setVm (T.vm.noted m.cls x.catchType (.cls c4))) hT (X.noted hl3)
  exact ⟨t, hfd.go X.here a1, b1⟩
/-- passed by the first row, caught by the second -/
theorem zq_catch2 {pc : Nat} {ls : Array Slot} {rest : List Value} {own nm1 name E : String} {ce : Cell} {q : Addr} {y x : ExceptionTableEntry} {suf : List ExceptionTableEntry} (hown : s.vm.findClass own = some m.cls) (htab : c.exceptionTable.toList = y :: x :: suf) (hy : covers y pc = true) (hy0 : y.catchType ≠ 0) (hx : covers x pc = true) (h0 : x.catchType ≠ 0)
    (hlink1 : (Cond.classLink own y.catchType nm1).before AV s = true) (hno : va_Nc E nm1 s) (hlink : (Cond.classLink own x.catchType name).before AV s = true) (hcast : (Cond.castable E name).before AV s = true) (hcell : H[q]? = some ce) (hv : ce.vm = .none) (hcl : s.vm.findClass E = some ce.cls)
    (kk : W p l e R s m AV below meth c H locs cells slots Q (F0 m x.handlerPc ls [.ref q])) : zq_WX p l e R s m AV below meth c H locs cells slots Q (F0 m pc ls rest) q := by
  intro T hT X
  obtain ⟨c3, c4, hc3, hc4, hasg⟩ := Cond.castable_spec hcast
  cases Option.some.inj (hc3.symm.trans hcl)
  obtain ⟨k1, hk1, hm1, hm2, hm3⟩ := zq_lk X hown hlink1 (S := T) X.warmed
  obtain ⟨a8, b8, n1, n2, n3⟩ := hno
  cases Option.some.inj (n1.symm.trans hcl)
  cases Option.some.inj (n2.symm.trans hk1)
  obtain ⟨k, hk, hl1, hl2, hl3⟩ := zq_lk X hown hlink (S := T.setVm (T.vm.noted m.cls y.catchType (.cls k1))) hm3
  cases Option.some.inj (hc4.symm.trans hk)
  obtain ⟨z1, hz1, -⟩ := Vm.findClass_spec hcl
  obtain ⟨z2, hz2, -⟩ := X.warmed.alike.2.2 _ _ hz1
  obtain ⟨z3, hz3, -⟩ := hm3.alike.2.2 _ _ hz1
  have hfd : zq_Fd e ((T.setTop (F0 m pc ls rest)).pushFrame (.throwing q)) (F0 m pc ls rest) q x.handlerPc ((T.vm.noted m.cls y.catchType (.cls k1)).noted m.cls x.catchType (.cls c4)) := by
    intro Q2 E2 d acts
    rw [W.findHandler_eq (meth := meth) (code := c) X.method' X.code, htab, zq_row (s := (T.setTop (F0 m pc ls rest)).pushFrame (.throwing q)) (f := F0 m pc ls rest) hy hy0 hm1 (show T.heap[q]? = some ce by rw [hT]; exact hcell) (by rw [hv]; intro j hj; cases hj) ⟨z2, hz2⟩ hm2]
    rw [if_neg (show ¬ ((T.setTop (F0 m pc ls rest)).pushFrame (.throwing q)).vm.assignable ce.cls k1 = true by rw [Stand.throwing_vm, X.warmed.alike.assignable, n3]; decide), Stand.throwing_vm]
    rw [zq_row (s := ((T.setTop (F0 m pc ls rest)).pushFrame (.throwing q)).setVm (T.vm.noted m.cls y.catchType (.cls k1))) (f := F0 m pc ls rest) hx h0 hl1 (show T.heap[q]? = some ce by rw [hT]; exact hcell) (by rw [hv]; intro j hj; cases hj) ⟨z3, hz3⟩ hl2]
    rw [if_pos (show (((T.setTop (F0 m pc ls rest)).pushFrame (.throwing q)).setVm (T.vm.noted m.cls y.catchType (.cls k1))).vm.assignable ce.cls c4 = true by show (T.vm.noted m.cls y.catchType (.cls k1)).assignable ce.cls c4 = true; rw [hm3.alike.assignable]; exact hasg)]
    rfl
  obtain ⟨t, a1, b1⟩ := kk (T.setVm ((T.vm.noted m.cls y.catchType (.cls k1)).noted m.cls x.catchType (.cls c4))) hT (X.noted hl3)
  exact ⟨t, hfd.go X.here a1, b1⟩
end ZCA
