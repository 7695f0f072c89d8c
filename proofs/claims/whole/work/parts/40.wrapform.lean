/-! the law's own methods with a table of rows: static; what the class throws is caught; one cell of six slots may be new -/
def zq_ncs : List (String × String) := [("java/lang/UnsupportedOperationException", "java/lang/IllegalArgumentException"), ("java/lang/IllegalArgumentException", "java/lang/IndexOutOfBoundsException"), ("java/lang/IllegalStateException", "java/lang/IllegalArgumentException")]
def zq_CY (D : va_G) (kT : Nat → ClassId) (sz : Nat) (w : va_W) (U : State) : Prop := zq_CX D kT sz w U ∧ ∀ x ∈ zq_ncs, va_Nc x.1 x.2 U
theorem zq_CY.blind {D : va_G} {kT : Nat → ClassId} {sz : Nat} {w : va_W} {av : List Value} : FrameBlind (va_Pc av (zq_CY D kT sz w)) := by
  intro a U g mk q
  obtain ⟨q0, q1, q2⟩ := q
  have h := zq_CX.blind (D := D) (kT := kT) (sz := sz) (w := w) (av := av) a U g mk ⟨q0, q1⟩
  exact ⟨h.1, h.2, fun x hx => va_Nc.moved (u := U) (U := U.calling g mk a) (Vm.Alike.refl U.vm) (q2 x hx)⟩
def zq_MW (l : Launch) (y : MethodName) (ws : List Cond) (rm : Room) (D : va_G) (kT : Nat → ClassId) (av : List Value) (w : va_W) (PF : Int32 → va_W → Prop) : Prop := ∀ sz : Nat, Met l y ws rm (va_Pc av (zq_CY D kT sz w)) (va_Qi PF (zq_WB D (w.map Prod.fst)) (va_A w sz)) 1 6 (va_A w sz)
theorem zq_MW_of {l : Launch} {y : MethodName} {ws : List Cond} {rm : Room} {D : va_G} {kT : Nat → ClassId} {av : List Value} {w : va_W} {PF : Int32 → va_W → Prop} {cc : ByteArray} {maxL : Nat} {own : String} {adl : List Nat} {hh : List (Nat × Nat × Nat × Nat)} (hadl : w.map Prod.fst = adl)
    (hy : plainName y.cls = true) (hw : ws = Cond.codeWith y cc maxL (some .int) hh :: zq_W) (ho : y.cls = own) (hav : (lg_sl av).length ≤ maxL)
    (body : ∀ (p : Program) (e : Env) (s : State) (m : MethodId) (AV : Array Value) (below : List Frame) (meth : Method) (c : Code) (A : Nat → Prop) (QQ : State → Prop) (H : Heap) (locs : List Loc) (ls : Array Slot),
      p.tables.exec = Jvm.exec → c.code = cc → c.maxLocals = maxL → s.vm.findClass own = some m.cls → (∀ w ∈ zq_W, w.before AV s = true) → zq_EV D kT s → zq_TX A s s.heap → (∀ x ∈ zq_ncs, va_Nc x.1 x.2 s) → c.exceptionTable.toList = tableOf hh → (∀ q : Nat, s.heap.size ≤ q → A q) →
      (∀ (r : Int32) (w' : va_W) (H : Heap) (locs : List Loc) (pc : Nat) (ls : Array Slot), PF r w' → va_P D vwCl w' H → w'.map Prod.fst = adl → va_S A s.heap H locs → decode cc pc = .ok (.ireturn, 1) → W p l e rm s m AV below meth c H locs 1 6 QQ (F0 m pc ls [.int r])) →
      va_P D vwCl w H → va_D A w → va_S A s.heap H locs → lv_has ls maxL (lv_args 0 av) → W p l e rm s m AV below meth c H locs 0 0 QQ (F0 m 0 ls [])) : zq_MW l y ws rm D kT av w PF := by
  intro sz
  refine va_MetW (cc := cc) (maxL := maxL) (ret := (some .int)) (hh := hh) hy hw ?_
  intro p e s m args below meth c s₁ B hml hv
  obtain ⟨rfl, ⟨⟨hsz, hP, hE, hD0⟩, hX⟩, hN⟩ := hv
  subst hsz
  have hr := B.returns
  have htab : c.exceptionTable.toList = tableOf hh := by
    obtain ⟨m9, meth9, c9, hn9, h1, h2, h3, h4, h5, -⟩ := Cond.codeWith_spec (atoms_spec (ws := ws) B.pre _ (by rw [hw]; exact List.mem_cons_self))
    cases B.named.symm.trans hn9
    cases B.method.symm.trans h1
    have hc := (Stand.of_body B).code
    cases hc.symm.trans h2
    rw [← h5, table_eq]
  rw [lg_entry_eq]
  refine body p e s m _ below meth c (va_A w s.heap.size) _ s.heap [] _ B.exec B.bytes hml (by rw [← ho]; exact findClass_of_methodNamed B.named) (fun w h => atoms_spec (ws := ws) B.pre w (by rw [hw]; exact List.mem_cons_of_mem _ h)) hE hX hN htab (fun q h => Or.inr h) ?_ hP hD0.self va_S.rf (lv_entry av hav)
  intro r w' H locs pc ls hpf hP' ha hS hd
  exact W.iret B.exec B.bytes hr (fun t ht hW => ⟨⟨r, w', rfl, hpf, by rw [ht]; exact hP', by rw [hadl]; exact ha⟩, hS.F ht⟩) hS.2.2 hd
theorem zq_gSW {own : String} {idx : Nat} {y : MethodName} {b : ByteArray} {n : Nat} {r : Option FieldType} {hh : List (Nat × Nat × Nat × Nat)} (h1 : Cond.methodLink own idx y ∈ zq_W) (h2 : Cond.static y ∈ zq_W) (h3 : Cond.initialized own ∈ zq_W) (h5 : Cond.codeWith y b n r hh ∈ zq_W) : GoodIn zq_W (wsS own idx y (.codeWith y b n r hh :: zq_W)) := fun w hw => by
  unfold wsS at hw
  rcases List.mem_append.mp hw with hw | hw
  · simp only [List.mem_cons, List.not_mem_nil, or_false] at hw
    rcases hw with rfl | rfl | rfl
    · exact zq_gW h1
    · exact zq_gW h2
    · exact zq_gW h3
  · rcases List.mem_cons.mp hw with rfl | hw
    · exact zq_gW h5
    · exact zq_gW hw
section ZWC
variable {p : Program} {l : Launch} {e : Env} {R : Room} {s : State} {m : MethodId} {AV : Array Value} {below : List Frame} {meth : Method} {c : Code} {H : Heap} {locs : List Loc} {cells slots : Nat} {Q : State → Prop}
theorem zq_callSW {T : State} (X : Stand p l e R s m AV below meth c T locs cells slots) (hexec : p.tables.exec = Jvm.exec) {own : String} {index : Nat} {y : MethodName} {bytes : ByteArray} {maxL : Nat} {ret : Option FieldType} {hh : List (Nat × Nat × Nat × Nat)}
    (hown : s.vm.findClass own = some m.cls) (hlink : (Cond.methodLink own index y).before AV s = true) (hstat : (Cond.static y).before AV s = true) (hinit : (Cond.initialized y.cls).before AV s = true)
    (hcode : (Cond.codeWith y bytes maxL ret hh).before AV s = true) (hy : y.cls ≠ "java/lang/invoke/MethodHandle" ∧ y.cls ≠ "java/lang/invoke/VarHandle")
    {W : Nat} {Pre : Pt → Array Value → Prop} {Post : Pt → Array Value → Option Value → Pt → Prop} (hK : Back l R p e below s AV y 3 W Pre Post)
    {g : JFrame} (hg : g.method = m) (hsize : g.locals.size = c.maxLocals) {argsL rest : List Value} (hlen : ∀ sig, parseMethodDescriptor y.desc = some sig → argsL.length = sig.parameters.length)
    (hstack : g.stack = argsL.reverse ++ rest) (hW : 2 * g.monitorRoom + (rest.map fun v => v.category).sum ≤ W) (hdg : decode c.code g.pc = .ok (.invokestatic index, 3))
    (hpre : ∀ vm₁, s.WarmedH vm₁ → Pre ⟨T.setVm vm₁, locs, cells, slots⟩ argsL.toArray) :
    ∃ (v : Option Value) (vm₁ : Vm) (B : Pt), s.WarmedH vm₁ ∧ Stand p l e R s m AV below meth c B.U B.locs B.cells B.slots ∧ Post ⟨T.setVm vm₁, locs, cells, slots⟩ argsL.toArray v B ∧
      ∀ target, Steps p.tables e below (B.U.setTop { g with pc := g.pc + 3, stack := v.toList ++ rest }) target → Steps p.tables e below (T.setTop g) target := by
  obtain ⟨mk, methM, cM, hnamed, hmethM, -, -, -, -, -, -, hsigM⟩ := Cond.codeWith_spec hcode
  have hstatic : methM.isStatic = true := Cond.static_spec hnamed hmethM hstat
  obtain ⟨kP, hkP, -⟩ := className_of_methodNamed hnamed
  have hinitP : kP.init = .initialized := Cond.initialized_spec (findClass_of_methodNamed hnamed) hkP hinit
  obtain ⟨vm₁, X₁, hstep₁⟩ := X.invokestatic hexec hown hlink hnamed hmethM hstatic hkP hinitP hy (g := g) hg (argsL := argsL) (rest := rest) (hlen _ hsigM) hstack hdg
  obtain ⟨v, B, X', hpost, hsteps⟩ := hK m meth c ⟨T.setVm vm₁, locs, cells, slots⟩ { g with stack := rest } (.invokestatic index) mk argsL.toArray X₁ hg hsize hdg hW (X₁.named hnamed) (hpre vm₁ X₁.warmed)
  exact ⟨v, vm₁, B, X₁.warmed, X', hpost, fun target h => hstep₁ _ fun acts => by rw [doInvoke_state]; exact hsteps.trans h⟩
abbrev zq_CB (R : Room) (s : State) (AV : Array Value) (own : String) (index : Nat) (y : MethodName) (bytes : ByteArray) (maxL : Nat) (ret : Option FieldType) (hh : List (Nat × Nat × Nat × Nat)) (ws : List Cond) (rm : Room) (mc ms n : Nat) : Prop :=
  (rm.cells = mc ∧ rm.slots = ms ∧ rm.frames + 1 ≤ R.frames ∧ 8 + (maxL + 11) + rm.locals ≤ R.locals ∧ (∀ w ∈ ws, ∀ (a' : Array Value) (U : State), s.WarmedH U.vm → w.before a' U = true) ∧ Cond.codeWith y bytes maxL ret hh ∈ ws) ∧
  (Cond.codeWith y bytes maxL ret hh).before AV s = true ∧ (Cond.initialized y.cls).before AV s = true ∧ (y.cls ≠ "java/lang/invoke/MethodHandle" ∧ y.cls ≠ "java/lang/invoke/VarHandle") ∧ (∀ sig, parseMethodDescriptor y.desc = some sig → n = sig.parameters.length) ∧ (Cond.methodLink own index y).before AV s = true ∧ (Cond.static y).before AV s = true
theorem zq_cwSW {own : String} {index : Nat} {y : MethodName} {bytes : ByteArray} {maxL mc ms : Nat} {ret : Option FieldType} {hh : List (Nat × Nat × Nat × Nat)} {Ts ws ws' : List Cond} {rm : Room} (n : Nat) (ht : ∀ w ∈ Ts, w.before AV s = true) (hT : GoodIn Ts (wsS own index y ws)) (hw : ws = Cond.codeWith y bytes maxL ret hh :: ws') (hrc : rm.cells = mc) (hrs : rm.slots = ms)
    (hd : y.cls = own ∧ y.cls ≠ "java/lang/invoke/MethodHandle" ∧ y.cls ≠ "java/lang/invoke/VarHandle" ∧ (parseMethodDescriptor y.desc).map (fun d => d.parameters.length) = some n) (hR : rm.frames + 1 ≤ R.frames ∧ 8 + (maxL + 11) + rm.locals ≤ R.locals) :
    zq_CB R s AV own index y bytes maxL ret hh ws rm mc ms n := by
  obtain ⟨hC, hd⟩ := hd
  have ok : ∀ w ∈ wsS own index y ws, w.before AV s = true := fun w h => ht w (hT w h).1
  have hG : GoodIn Ts ws := fun w h => hT w (by unfold wsS; exact List.mem_append_right _ h)
  have hc : Cond.codeWith y bytes maxL ret hh ∈ ws := by rw [hw]; exact List.mem_cons_self
  refine ⟨⟨hrc, hrs, hR.1, hR.2, pay_in ht hG, hc⟩, ht _ (hG _ hc).1, by rw [hC]; exact ok _ (by simp [wsS]), ⟨hd.1, hd.2.1⟩, fun sig h => ?_, ok _ (by simp [wsS]), ok _ (by simp [wsS])⟩
  have h2 := hd.2.2
  rw [h] at h2
  exact (Option.some.inj h2).symm
theorem zq_runSW {y : MethodName} {bytes cc : ByteArray} {maxL nL mc ms n index : Nat} {ret : Option FieldType} {hh : List (Nat × Nat × Nat × Nat)} {ws : List Cond} {rm : Room} {Pc : Array Value → State → Prop} {Qc : Array Value → State → Outcome → State → Prop} {free : Addr → Prop} {Ts : List Cond} {own : String} {As rest : List Value} {g : JFrame}
    (S : CallFix p m c cc nL s AV Ts own) (hM : Met l y ws rm Pc Qc mc ms free) (cw : zq_CB R s AV own index y bytes maxL ret hh ws rm mc ms n) (hp : PreS s H Pc As)
    (hg : g.method = m) (hn : As.length = n) (hsize : g.locals.size = nL) (hstack : g.stack = As.reverse ++ rest) (hW : 2 * g.monitorRoom + (rest.map fun v => v.category).sum ≤ 8) (hdg : decode cc g.pc = .ok (.invokestatic index, 3)) (hf : cells + mc ≤ R.cells ∧ slots + ms ≤ R.slots) :
    va_Run p l e R s m AV below meth c H locs cells slots mc ms g rest (Qc As.toArray) (free) := by
  obtain ⟨⟨hrc, hrs, hfr, hlo, hws, hcw⟩, hcode, hini, hy, hlen, hl, hstt⟩ := cw
  have hK : Back l R p e below s AV y 3 8 (PreOf R mc ms Pc) (PostOf Qc mc ms free) :=
    va_backW (bytes := bytes) (maxL := maxL) (ret := ret) (hh := hh) hM hp.1 hrc hrs hfr hlo hws hcw (fun a' U hW => word_at hW (Or.inl (by first | rfl | simp [Cond.onTables, Cond.keeps, Cond.steady])) hini)
  obtain ⟨hx, hb, hml, ho, -⟩ := S
  intro T hT X
  obtain ⟨v, vm₁, ⟨U', l2, c2, s2⟩, hW₁, X', ⟨g', mk, t, L, e1, e2, hq, h1, hL, h2, h3⟩, st⟩ := zq_callSW X hx (bytes := bytes) (maxL := maxL) (ret := ret) (hh := hh) ho hl hstt hini hcode hy hK hg (hsize.trans hml.symm) (argsL := As) (rest := rest) (fun sig h => hn.trans (hlen sig h)) hstack hW (by rw [hb]; exact hdg)
    (fun vm₁ hW₁ => ⟨hf.1, hf.2, hp.2 (T.setVm vm₁) hT hW₁⟩)
  dsimp only [Pt.U, Pt.locs, Pt.cells, Pt.slots] at X' e1 e2 h1 h2 h3 st
  subst h1; subst h2; subst h3
  exact ⟨v, (T.setVm vm₁).calling g' mk As.toArray, t, U', L, hT, X', hL, e1, e2, hq, st⟩
theorem zq_c_SW {y : MethodName} {wsY : List Cond} {rmY : Room} {bytes cc : ByteArray} {maxL nL n index pc : Nat} {ret : Option FieldType} {hh : List (Nat × Nat × Nat × Nat)} {Ts : List Cond} {own : String} {As rest st0 : List Value} {ls : Array Slot} {D : va_G} {kT : Nat → ClassId} {w wc wr : va_W} {adl : List Nat} {A : Nat → Prop} {PF : Int32 → va_W → Prop}
    (S : CallFix p m c cc nL s AV Ts own) (hM : zq_MW l y wsY rmY D kT As wc PF) (cw : zq_CB R s AV own index y bytes maxL ret hh wsY rmY 1 6 n) (hE : zq_EV D kT s) (hX : zq_TX A s s.heap) (hN : ∀ x ∈ zq_ncs, va_Nc x.1 x.2 s) (hP : va_P D vwCl w H) (hD : va_D A w) (hS : va_S A s.heap H locs) (hA : ∀ q : Nat, s.heap.size ≤ q → A q)
    (isC isR : List Nat) (n0 : Nat) (hC : isC.map (fun i => w[i]?) = wc.map some) (hnd : va_nd isC = true) (hlen : w.length = n0) (hcov : ∀ k, k < n0 → k ∈ isC ∨ k ∈ isR) (hR : isR.map (fun i => w[i]?) = wr.map some) (hadl : w.map Prod.fst = adl) (hn : As.length = n) (hsize : ls.size = nL) (hroom : (rest.map fun v => v.category).sum ≤ 8) (hst : st0 = As.reverse ++ rest) (hdg : decode cc pc = .ok (.invokestatic index, 3)) (hf : cells + 1 ≤ R.cells ∧ slots + 6 ≤ R.slots)
    (kk : ∀ (r : Int32) (w1 : va_W) (H1 : Heap) (locs1 : List Loc), PF r w1 → (∀ w2 : va_W, isC.map (fun i => w2[i]?) = w1.map some → isR.map (fun i => w2[i]?) = wr.map some → w2.map Prod.fst = adl → va_P D vwCl w2 H1 ∧ va_D A w2) → va_S A s.heap H1 locs1 → W p l e R s m AV below meth c H1 locs1 (cells + 1) (slots + 6) Q (F0 m (pc + 3) ls (.int r :: rest))) :
    W p l e R s m AV below meth c H locs cells slots Q (F0 m pc ls st0) := by
  subst hst
  have hFc := va_free (wc := wc) hD hS hA isC hC
  refine va_calli (zq_runSW (rest := rest) S (hM H.size) cw ⟨zq_CY.blind, fun U hU hW => ?_⟩ rfl hn hsize rfl (lv_room hroom) hdg hf) hS (fun q _ h => hFc q h) hFc (fun r w1 t H1 locs1 ht hvm hw hB hz1 hk1 hS1 => ?_)
  · have h := zq_preX (av := As) hE hX hP hD hS hA isC hC hnd U hU hW
    exact ⟨h.1, h.2, fun x hx => va_Nc.moved hW.alike (hN x hx)⟩
  · obtain ⟨hP1, ha⟩ := hB
    rw [ht] at hP1
    exact kk r w1 H1 locs1 hw (zq_j2 hP hD isC isR n0 hlen hcov hC hR hadl hk1 hP1) hS1
end ZWC
