/-! exceptions: what Throwable's statics hold is carried; a method that throws new E("..") where it has changed nothing; its contract -/
/-- a static of Throwable, null or a reference, in a cell that isn't of A -/
def zq_Z (n d : String) (A : Nat → Prop) (U : State) (H : Heap) : Prop :=
  ∃ (c : ClassId) (k : Class) (i : Nat) (f : Field) (a : Nat) (cell : Cell) (v : Value), U.vm.findClass Bundle.tN = some c ∧ U.fieldFound? Bundle.tN n d = some (c, k, i, f) ∧ f.isStatic = true ∧ k.statics = some a ∧ cell.vm.isStatics = true ∧ cell.cls = c ∧ f.slot < cell.slots.size ∧ k.staticTypes[f.slot]? = some f.type ∧ cell.slots[f.slot]? = some v ∧ v.isRef = true ∧ ¬ A a ∧ H[a]? = some cell
theorem zq_Z.moved {n d : String} {A : Nat → Prop} {u U : State} {H : Heap} (hvm : u.vm.Alike U.vm) (h : zq_Z n d A u H) : zq_Z n d A U H := by
  obtain ⟨c, k, i, f, a, cell, v, h1, h2, h3, h4, h5, h6, h7, h8, h9⟩ := h
  obtain ⟨k2, g1, g2⟩ := State.fieldFound?_setVm hvm h2
  exact ⟨c, k2, i, f, a, cell, v, by rw [hvm.findClass]; exact h1, g1, h3, by rw [g2]; exact h4, h5, h6, h7, by rw [g2]; exact h8, h9⟩
theorem zq_Z.kept {n d : String} {A : Nat → Prop} {U : State} {H H1 : Heap} (h : zq_Z n d A U H) (hq : ∀ a : Nat, a < H.size → ¬ A a → H1[a]? = H[a]?) : zq_Z n d A U H1 := by
  obtain ⟨c, k, i, f, a, cell, v, h1, h2, h3, h4, h5, h6, h7, h8, h9, h10, h11, h12⟩ := h
  exact ⟨c, k, i, f, a, cell, v, h1, h2, h3, h4, h5, h6, h7, h8, h9, h10, h11, (hq a (Array.getElem?_eq_some_iff.mp h12).1 h11).trans h12⟩
theorem zq_Z.narrow {n d : String} {A B : Nat → Prop} {U : State} {H : Heap} (h : zq_Z n d A U H) (hAB : ∀ q, B q → A q) : zq_Z n d B U H := by
  obtain ⟨c, k, i, f, a, cell, v, h1, h2, h3, h4, h5, h6, h7, h8, h9, h10, h11, h12⟩ := h
  exact ⟨c, k, i, f, a, cell, v, h1, h2, h3, h4, h5, h6, h7, h8, h9, h10, fun z => h11 (hAB a z), h12⟩
theorem zq_Z.lays {n d : String} {A : Nat → Prop} {s : State} {args : Array Value} (h : zq_Z n d A s s.heap) : (Cond.laysStatic Bundle.tN n d).before args s = true := by
  obtain ⟨c, k, i, f, a, cell, v, h1, h2, h3, h4, h5, h6, h7, h8, h9, h10, h11, h12⟩ := h
  exact Cond.laysStatic_of (args := args) (first := s) (o := none) (idx := []) h1 h2 h3 h4 h12 h5 h6 h7 h8
theorem zq_Z.isRef {n d : String} {A : Nat → Prop} {s : State} {args : Array Value} (h : zq_Z n d A s s.heap) : (Cond.isRef (.static Bundle.tN n d)).before args s = true := by
  obtain ⟨c, k, i, f, a, cell, v, h1, h2, h3, h4, h5, h6, h7, h8, h9, h10, h11, h12⟩ := h
  have he : (Term.static Bundle.tN n d).eval args s none [] s = some v := by
    simp [Term.eval, State.fieldNamed?, h2, h3, h4, h5, h9, h12]
  simp only [Cond.before, Cond.holds, Cond.value, he]
  cases v <;> simp_all [Value.isRef]
theorem zq_Z.of {args : Array Value} {s : State} {n d : String} {A : Nat → Prop} (hl : (Cond.laysStatic Bundle.tN n d).before args s = true) (h : (Cond.isRef (.static Bundle.tN n d)).before args s = true) (hA : ∀ a : Nat, a < s.heap.size → ¬ A a) : zq_Z n d A s s.heap := by
  obtain ⟨c, k, i, f, a, cell, h1, h2, h3, h4, h5, h6, h7, h8, h9⟩ := Cond.laysStatic_spec hl
  have hslot : cell.slots[f.slot]? = some cell.slots[f.slot] := Array.getElem?_eq_getElem h8
  refine ⟨c, k, i, f, a, cell, cell.slots[f.slot], h1, h2, h3, h4, h6, h7, h8, h9, hslot, ?_, hA a (Array.getElem?_eq_some_iff.mp h5).1, h5⟩
  have he : (Term.static Bundle.tN n d).eval args s none [] s = some cell.slots[f.slot] := by
    simp [Term.eval, State.fieldNamed?, h2, h3, h4, h5, h6, hslot]
  simp only [Cond.before, Cond.holds, Cond.value, he] at h
  revert h
  cases cell.slots[f.slot] <;> simp [Value.isRef]
section ZTH
variable {p : Program} {l : Launch} {e : Env} {R : Room} {s : State} {m : MethodId} {AV : Array Value} {below : List Frame} {meth : Method} {c : Code} {H : Heap} {locs : List Loc} {cells slots : Nat} {Q : State → Prop}
/-- the invocation, begun anew in the heap that it stands in: nothing is written yet, its room is what is left -/
theorem zq_anew {T : State} (X : Stand p l e R s m AV below meth c T locs cells slots) {R' : Room} (hf : R'.frames ≤ R.frames) (hl : R'.locals ≤ R.locals) (hc : cells + R'.cells ≤ R.cells) (hs : slots + R'.slots ≤ R.slots) :
    Stand p l e R' ((T.setVm s.vm).setFrames (.invoking m AV :: below)) m AV below meth c T [] 0 0 := by
  have ht : (T.setVm s.vm).topJava?.isSome := X.here.top
  obtain ⟨g, hg⟩ := Option.isSome_iff_exists.mp ht
  obtain ⟨r, hr⟩ := State.topJava?_eq_some.mp hg
  obtain ⟨th, hth, -⟩ := State.frames_cons hr
  have hF : ((T.setVm s.vm).setFrames (.invoking m AV :: below)).frames = .invoking m AV :: below := State.frames_setFrames _ (State.cur_lt_of_top ht)
  have hU : ((T.setVm s.vm).setFrames (.invoking m AV :: below)).localsInUse = s.localsInUse := by
    rw [State.localsInUse_invoking hF (meth := meth) (c := c) X.method X.code, State.localsInUse_invoking X.frames X.method X.code]
  have hL : e.platform.stackLimits (T.setVm s.vm).me = e.platform.stackLimits s.me := X.limits
  have hB : (T.setVm s.vm).me.stackBytes = s.me.stackBytes := X.bytes
  have hnil : T.heap.toList.drop T.heap.size = [] := List.drop_eq_nil_of_le (Nat.le_of_eq Array.length_toList)
  refine ⟨X.admits, X.cas, X.clock, hF, ?_, X.hears, X.method, X.code, X.here, X.tail, X.warmed, by rw [State.stackLimits_setFrames]; rfl, by rw [State.stackBytes_setFrames]; rfl, ?_⟩
  · have hroom := X.room
    have z1 := X.heapSize
    have z2 := X.used
    simp only [State.hasRoom, Bool.and_eq_true, decide_eq_true_eq] at hroom ⊢
    obtain ⟨⟨⟨⟨h1, h2, h3, h4, h5, h6⟩, h7⟩, h8⟩, h9⟩ := hroom
    rw [X.frames, List.length_cons] at h2 h3
    simp only [hF, hU, List.length_cons, State.stackLimits_setFrames, State.stackBytes_setFrames, hL, hB]
    refine ⟨⟨⟨⟨by omega, by omega, by omega, by omega, by omega, h6⟩, ?_⟩, ?_⟩, X.book⟩
    · show T.heap.size + R'.cells ≤ e.platform.maxCells
      omega
    · show T.slotsUsed + R'.slots ≤ e.platform.maxSlots
      omega
  · refine ⟨?_, Nat.le_refl _, Nat.le_refl _, ?_, ?_, fun a c9 h9 => ⟨c9, h9, rfl, rfl, fun _ _ => rfl⟩⟩
    · show T.setVm s.vm = { ((T.setVm s.vm).setFrames (.invoking m AV :: below)).setFrames (T.setVm s.vm).frames with heap := T.heap, slotsUsed := T.slotsUsed }
      rw [State.setFrames_setFrames, State.setFrames_self hth]
      rfl
    · show T.slotsUsed = T.slotsUsed + ((T.heap.toList.drop T.heap.size).map (·.slots.size)).sum
      rw [hnil]; rfl
    · show ((T.heap.toList.drop T.heap.size).map (·.slots.size)).sum ≤ 0
      rw [hnil]; exact Nat.le_refl _
/-- throw new cls(text), outside every row of the method's table; at its end: the exception q, of that class; the heap H is as it was -/
theorem zq_throw {cc : ByteArray} {pc : Nat} {ls : Array Slot} {rest : List Value} (hexec : p.tables.exec = Jvm.exec) (hb : c.code = cc) (hst : l.stackTraces = false) {own cls text : String} {names : List String} {ik is ic sa : Nat} {A : Nat → Prop}
    (hown : s.vm.findClass own = some m.cls) (hcls : Bundle.fit cls = true) (hnames : ∀ n ∈ names, Bundle.fit n = true)
    (hk : (Cond.classLink own ik cls).before AV s = true) (hini : (Cond.initialized cls).before AV s = true) (hstr : vk_R own is text sa s)
    (hkt : ∀ w ∈ Cond.classLink own ik cls :: Cond.initialized cls :: (Bundle.ownAtoms own ic cls names).filter (fun w => goodWord w), goodWord w = true ∧ w.before AV s = true)
    (hoff : ∀ w ∈ Bundle.ownAtoms own ic cls names, goodWord w = false → w = .laysStatic Bundle.tN "UNASSIGNED_STACK" Bundle.steD ∨ w = .laysStatic Bundle.tN "SUPPRESSED_SENTINEL" Bundle.listD ∨ w = .isRef (.static Bundle.tN "UNASSIGNED_STACK" Bundle.steD) ∨ w = .isRef (.static Bundle.tN "SUPPRESSED_SENTINEL" Bundle.listD) ∨ (w.onTables = true ∧ w.before AV s = true))
    (hU : zq_Z "UNASSIGNED_STACK" Bundle.steD A s s.heap) (hN : zq_Z "SUPPRESSED_SENTINEL" Bundle.listD A s s.heap) (hS : va_S A s.heap H locs) (hsize : ls.size = c.maxLocals)
    (d0 : decode cc pc = .ok (.new ik, 3)) (d3 : decode cc (pc + 3) = .ok (.dup, 1)) (d4 : decode cc (pc + 4) = .ok (.ldc is, 2)) (d6 : decode cc (pc + 6) = .ok (.invokespecial ic, 3)) (d9 : decode cc (pc + 9) = .ok (.athrow, 1))
    (hout : ∀ x ∈ c.exceptionTable.toList, covers x (pc + 9) = false) (hRf : names.length + 3 < R.frames) (hRl : (rest.map fun v => v.category).sum + (13 * (names.length + 1) + 43) ≤ R.locals) (hRc : cells + 1 ≤ R.cells) (hRs : slots + 6 ≤ R.slots) (hlocks : meth.locks = false)
    (hQ : ∀ (t : State) (q : Addr) (ce : Cell), t.status = .running → Ended t below (.threw q) → s.WarmedH t.vm → s.sameButNew ({ t with vm := s.vm } : State) locs (cells + 1) (slots + 6) → H.size ≤ t.heap.size → (∀ a : Nat, a < H.size → t.heap[a]? = H[a]?) → t.heap[q]? = some ce → ce.vm = .none → s.vm.findClass cls = some ce.cls → Q t) :
    W p l e R s m AV below meth c H locs cells slots Q (F0 m pc ls rest) := by
  intro T hT X
  have htr : e.platform.stackTraces = false := (show e.platform.stackTraces = l.stackTraces by rw [X.admits.platform]).trans hst
  have Y := zq_anew X (R' := { frames := R.frames, locals := R.locals, cells := 1, slots := 6 }) (Nat.le_refl _) (Nat.le_refl _) hRc hRs
  obtain ⟨s2, hs2⟩ : ∃ z, z = (T.setVm s.vm).setFrames (.invoking m AV :: below) := ⟨_, rfl⟩
  rw [← hs2] at Y
  have hvm : s2.vm = s.vm := by rw [hs2]; rfl
  have hhp : s2.heap = H := by rw [hs2]; exact hT
  have hW0 : s.WarmedH s2.vm := by rw [hvm]; exact State.WarmedH.refl s
  have good : ∀ w : Cond, goodWord w = true → w.before AV s = true → w.before AV s2 = true := by
    intro w hg hw
    exact word_at hW0 (good_of_word hg) hw
  have hk2 := good _ (hkt _ List.mem_cons_self).1 hk
  have hini2 := good _ (hkt _ (List.mem_cons_of_mem _ List.mem_cons_self)).1 hini
  have hU2 : zq_Z "UNASSIGNED_STACK" Bundle.steD A s2 s2.heap := by rw [hhp]; exact zq_Z.moved hW0.alike (hU.kept hS.2.1)
  have hN2 : zq_Z "SUPPRESSED_SENTINEL" Bundle.listD A s2 s2.heap := by rw [hhp]; exact zq_Z.moved hW0.alike (hN.kept hS.2.1)
  have hat : ∀ w ∈ Bundle.ownAtoms own ic cls names, w.before AV s2 = true := by
    intro w hw
    cases hg : goodWord w with
    | true => exact good w hg (hkt w (List.mem_cons_of_mem _ (List.mem_cons_of_mem _ (List.mem_filter.mpr ⟨hw, hg⟩)))).2
    | false =>
      rcases hoff w hw hg with rfl | rfl | rfl | rfl | ⟨ho, hw2⟩
      · exact hU2.lays
      · exact hN2.lays
      · exact hU2.isRef
      · exact hN2.isRef
      · exact va_tabs ho hvm.symm hw2
  have hown2 : s2.vm.findClass own = some m.cls := by rw [hvm]; exact hown
  have hstr2 : vk_R own is text sa s2 := vk_R.warm hW0 hstr
  obtain ⟨vm1, cX, kX, hfX, hkX, -, -, X1, st1⟩ := Y.newCold hexec (own := own) (C := cls) (index := ik) (n := 6) hown2 hk2 (hat _ (by simp [Bundle.ownAtoms])) hini2 (g := F0 m pc ls rest) rfl (by rw [hb]; exact d0) (Nat.le_refl _) (Nat.le_refl _)
  generalize hT1 : (T.setVm vm1).pushCell { cls := cX, slots := kX.instanceTypes.map defaultValue, vm := .none } = T1 at X1 st1
  have hcell : T1.heap[T.heap.size]? = some (freshCell cX kX) := by rw [← hT1]; exact State.heap_pushCell_size _ _
  have d3' : decode c.code (pc + 3) = .ok (.dup, 1) := by rw [hb]; exact d3
  have d4' : decode c.code (pc + 4) = .ok (.ldc is, 2) := by rw [hb]; exact d4
  have hcat : (Value.ref T.heap.size).category = 1 := rfl
  obtain ⟨t, hsteps, hrun, hend, hWt, hsame, ce, hce, hO⟩ := X1.ctorThrowS hexec htr (own := own) (cls := cls) (names := names) (ic := ic) hown2 hcls hnames hat (fun x hx => nomatch hx) hfX hkX hcell (by rw [hhp, hT]; exact Nat.le_refl _) (msg := .ref sa) rfl
    (g := { method := m, pc := pc + 6, locals := ls, stack := .ref sa :: .ref T.heap.size :: .ref T.heap.size :: rest, locked := none }) rfl hsize rfl rfl (rest := rest) rfl
    (by rw [hb]; exact d6) (by rw [hb]; exact d9) hout hRf (by simp only [List.map_cons, List.sum_cons, hcat]; omega) hlocks
  have hkeep : H.size ≤ t.heap.size ∧ ∀ a : Nat, a < H.size → t.heap[a]? = H[a]? := by
    obtain ⟨-, k2, -, -, -, k6⟩ := id hsame
    rw [hhp] at k2
    refine ⟨k2, fun a ha => ?_⟩
    have h0 : s2.heap[a]? = some H[a] := by rw [hhp]; exact Array.getElem?_eq_getElem ha
    obtain ⟨c9, e1, e2, e3, e4⟩ := k6 a _ h0
    have hsl : c9.slots = (H[a]).slots := Array.ext_getElem? fun i => e4 i (fun hm => nomatch hm)
    have e5 : c9 = H[a] := by
      rw [hsl] at e2
      exact e2
    have e6 : t.heap[a]? = some c9 := e1
    rw [e6, e5]
    exact (Array.getElem?_eq_getElem ha).symm
  have hall : s.sameButNew ({ t with vm := s.vm } : State) locs (cells + 1) (slots + 6) := by
    subst hs2
    obtain ⟨e1, e2⟩ := hsame
    rw [State.setFrames_setFrames] at e1
    have h2 : (T.setVm s.vm).sameButNew ({ t with vm := s.vm } : State) [] (0 + 1) (0 + 6) := ⟨e1, e2⟩
    have h3 := X.same.trans h2
    rw [List.append_nil] at h3
    exact h3.mono (by omega) (by omega)
  refine ⟨t, ?_, hQ t _ ce hrun hend (State.WarmedH.trans hW0 hWt) hall hkeep.1 hkeep.2 hce hO.vm (by have h9 := hO.cls; rw [hvm] at h9; exact h9)⟩
  refine st1 _ ?_
  show Steps p.tables e below (T1.setTop { method := m, pc := pc + 3, locals := ls, stack := .ref T.heap.size :: rest, locked := none }) _
  jvm_step X1.here [X1.here.top, hexec, d3', Value.category]
  exact X1.ldcString hexec (own := own) (text := text) (index := is) (a := sa) hown2 hstr2.1 hstr2.2 (g := { method := m, pc := pc + 4, locals := ls, stack := .ref T.heap.size :: .ref T.heap.size :: rest, locked := none }) rfl d4' _ hsteps
end ZTH
