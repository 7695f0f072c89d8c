/-! methods that may throw: nothing is changed where they throw; 'px' holds of the name of the exception's class; one cell of six slots may be new -/
def zq_nw2 : List Cond := [(Jvm.Cond.castable "java/lang/IllegalArgumentException" "java/lang/IllegalArgumentException"), (Jvm.Cond.declares ({ cls := "java/lang/RuntimeException", name := "<init>", desc := "()V" } : Jvm.MethodName)), (Jvm.Cond.declares ({ cls := "java/lang/RuntimeException", name := "<init>", desc := "(Ljava/lang/String;)V" } : Jvm.MethodName)), (Jvm.Cond.declares ({ cls := "java/lang/Exception", name := "<init>", desc := "()V" } : Jvm.MethodName)), (Jvm.Cond.declares ({ cls := "java/lang/Exception", name := "<init>", desc := "(Ljava/lang/String;)V" } : Jvm.MethodName)), (Jvm.Cond.declares ({ cls := "java/lang/Throwable", name := "<init>", desc := "()V" } : Jvm.MethodName)), (Jvm.Cond.declares ({ cls := "java/lang/Throwable", name := "<init>", desc := "(Ljava/lang/String;)V" } : Jvm.MethodName)), (Jvm.Cond.castable "java/lang/UnsupportedOperationException" "java/lang/UnsupportedOperationException"), (Jvm.Cond.castable "java/lang/IndexOutOfBoundsException" "java/lang/IndexOutOfBoundsException"), (Jvm.Cond.castable "java/lang/IllegalStateException" "java/lang/IllegalStateException")]
def zq_isD : Cond → Bool
  | .declares _ => true
  | .castable .. => true
  | _ => false
theorem zq_isD_on {w : Cond} (h : zq_isD w = true) : w.onTables = true := by
  cases w <;> first | rfl | cases h
theorem zq_nw2_ok : ∀ w ∈ zq_nw2, zq_isD w = true := by decide +kernel
theorem zq_nw2W {w : Cond} {s U : State} (hw : zq_isD w = true) (hW : s.WarmedH U.vm) (h : va_Nw w s) : va_Nw w U := by
  cases w <;> first | exact va_Nw.warmD hW h | exact va_Nw.warmC hW h | cases hw
/-- what a throw asks of the tables beyond the words that stay, and of Throwable's statics -/
def zq_TX (A : Nat → Prop) (U : State) (H : Heap) : Prop := zq_Z "UNASSIGNED_STACK" Bundle.steD A U H ∧ zq_Z "SUPPRESSED_SENTINEL" Bundle.listD A U H ∧ ∀ w ∈ zq_nw2, va_Nw w U
theorem zq_TX.warm {A : Nat → Prop} {s U : State} {H : Heap} (hW : s.WarmedH U.vm) (h : zq_TX A s H) : zq_TX A U H := ⟨zq_Z.moved hW.alike h.1, zq_Z.moved hW.alike h.2.1, fun w hw => zq_nw2W (zq_nw2_ok w hw) hW (h.2.2 w hw)⟩
theorem zq_TX.kept {A : Nat → Prop} {U : State} {H H1 : Heap} (h : zq_TX A U H) (hq : ∀ a : Nat, a < H.size → ¬ A a → H1[a]? = H[a]?) : zq_TX A U H1 := ⟨h.1.kept hq, h.2.1.kept hq, h.2.2⟩
theorem zq_TX.narrow {A B : Nat → Prop} {U : State} {H : Heap} (h : zq_TX A U H) (hAB : ∀ q, B q → A q) : zq_TX B U H := ⟨h.1.narrow hAB, h.2.1.narrow hAB, h.2.2⟩
def zq_CX (D : va_G) (kT : Nat → ClassId) (sz : Nat) (w : va_W) (U : State) : Prop := zq_CP D kT sz w U ∧ zq_TX (va_A w sz) U U.heap
theorem zq_CX.blind {D : va_G} {kT : Nat → ClassId} {sz : Nat} {w : va_W} {av : List Value} : FrameBlind (va_Pc av (zq_CX D kT sz w)) := by
  intro a U g mk q
  obtain ⟨q0, ⟨q1, qP, qE, qD⟩, h1⟩ := q
  exact ⟨q0, ⟨q1, qP, qE.calling, qD⟩, h1.warm (s := U) (U := U.calling g mk a) (State.WarmedH.refl U)⟩
/-- what a method owes at its end: it returned, or it threw and nothing of B's has changed -/
def zq_XQ (Qc : Array Value → State → Outcome → State → Prop) (px : String → Prop) (XB : State → State → Prop) (free : Addr → Prop) : Array Value → State → Outcome → State → Prop := fun a st o t =>
  (Qc a st o t ∧ ∃ L, FrameEnd st o t L 1 6 ∧ ∀ q ∈ L, free q.base) ∨
  ∃ (q : Addr) (E : String) (ce : Cell) (L : List Loc), o = .threw q ∧ px E ∧ XB st t ∧ t.heap[q]? = some ce ∧ ce.vm = .none ∧ st.vm.findClass E = some ce.cls ∧ st.WarmedH t.vm ∧ st.sameButNew ({ t with vm := st.vm } : State) L 1 6 ∧ ∀ z ∈ L, free z.base
def zq_MetX (l : Launch) (y : MethodName) (ws : List Cond) (rm : Room) (Pc : Array Value → State → Prop) (Qc : Array Value → State → Outcome → State → Prop) (px : String → Prop) (XB : State → State → Prop) (free : Addr → Prop) : Prop :=
  MetFree l y (headSpec ws rm) Pc (fun _ _ _ _ _ => True) (zq_XQ Qc px XB free)
def zq_XM (below : List Frame) (Qc : Array Value → State → Outcome → State → Prop) (px : String → Prop) (XB : State → State → Prop) (a : Array Value) (s : State) (free : Addr → Prop) : State → Prop := fun t =>
  ∃ o, t.status = .running ∧ Ended t below o ∧ zq_XQ Qc px XB free a s o t
theorem zq_MetX_of {l : Launch} {y : MethodName} {ws ws' : List Cond} {rm : Room} {Pc : Array Value → State → Prop} {Qc : Array Value → State → Outcome → State → Prop} {px : String → Prop} {XB : State → State → Prop} {free : Addr → Prop} {cc : ByteArray} {maxL : Nat} {ret : Option FieldType}
    (hy : plainName y.cls = true) (hw : ws = Cond.code y cc maxL ret :: ws')
    (body : ∀ p e s m args below meth c s₁, BodyLoose p l y (headSpec ws rm) cc maxL ret e s m args below meth c s₁ → c.maxLocals = maxL → (∀ x ∈ c.exceptionTable.toList, False) → Pc args s →
      W p l e rm s m args below meth c s.heap [] 0 0 (zq_XM below Qc px XB args s free) (entryFrame m args maxL)) : zq_MetX l y ws rm Pc Qc px XB free := by
  refine MetFree.of_bodyS (code := cc) (maxLocals := maxL) (ret := ret) hy ?_ ?_
  · intro args s m h hn
    obtain ⟨meth, c, h1, h2, h3, h4, h5, h6, -, -⟩ := Cond.code_spec hn (atoms_spec (ws := ws) h _ (by rw [hw]; exact List.mem_cons_self))
    exact ⟨meth, c, h1, h2, h3, h4, h5, h6⟩
  · intro p e s m args below meth c s₁ B hml hP _
    have hno := B.noHandlers (atoms_spec (ws := ws) B.pre _ (by rw [hw]; exact List.mem_cons_self))
    have hno2 : ∀ x ∈ c.exceptionTable.toList, False := by
      intro x hx
      rw [Array.isEmpty_iff.mp hno] at hx
      cases hx
    obtain ⟨t, a1, o, b1, b2, b3⟩ := body p e s m args below meth c s₁ B hml hno2 hP s₁ (by rw [B.state]; rfl) (Stand.of_body B)
    exact ⟨t, o, a1, b1, b2, b3⟩
theorem zq_XM_ret {p : Program} {l : Launch} {e : Env} {R : Room} {s : State} {m : MethodId} {AV : Array Value} {below : List Frame} {meth : Method} {c : Code} {H : Heap} {locs : List Loc} {Qc : Array Value → State → Outcome → State → Prop} {px : String → Prop} {XB : State → State → Prop} {free : Addr → Prop} {g : JFrame}
    (k : W p l e R s m AV below meth c H locs 1 6 (MQ below Qc AV s 1 6 free) g) : W p l e R s m AV below meth c H locs 0 0 (zq_XM below Qc px XB AV s free) g := by
  refine W.widen (k := 1) (n := 6) (Nat.zero_le _) (Nat.zero_le _) ?_
  intro T hT X
  obtain ⟨t, a1, o, b1, b2, b3, b4⟩ := k T hT X
  exact ⟨t, a1, o, b1, b2, Or.inl ⟨b3, b4⟩⟩

def zq_MXi (l : Launch) (y : MethodName) (ws : List Cond) (rm : Room) (D : va_G) (kT : Nat → ClassId) (av : List Value) (w : va_W) (PF : Int32 → va_W → Prop) (px : String → Prop) : Prop := ∀ sz : Nat, zq_MetX l y ws rm (va_Pc av (zq_CX D kT sz w)) (va_Qi PF (zq_WB D (w.map Prod.fst)) (va_A w sz)) px (fun st t => va_P D vwCl w t.heap ∧ va_F (va_A w sz) st t) (va_A w sz)
theorem zq_MXi_of {l : Launch} {y : MethodName} {ws : List Cond} {rm : Room} {D : va_G} {kT : Nat → ClassId} {av : List Value} {w : va_W} {PF : Int32 → va_W → Prop} {px : String → Prop} {cc : ByteArray} {maxL : Nat} {own : String} {adl : List Nat} (hst : l.stackTraces = false) (hadl : w.map Prod.fst = adl)
    (hy : plainName y.cls = true) (hw : ws = Cond.code y cc maxL (some .int) :: zq_W) (ho : y.cls = own) (hav : (lg_sl av).length ≤ maxL) (hrc : 1 ≤ rm.cells) (hrs : 6 ≤ rm.slots)
    (body : ∀ (p : Program) (e : Env) (s : State) (m : MethodId) (AV : Array Value) (below : List Frame) (meth : Method) (c : Code) (A : Nat → Prop) (QQ : State → Prop) (H : Heap) (locs : List Loc) (ls : Array Slot),
      p.tables.exec = Jvm.exec → c.code = cc → c.maxLocals = maxL → s.vm.findClass own = some m.cls → (∀ w ∈ zq_W, w.before AV s = true) → zq_EV D kT s → (∀ q : Nat, s.heap.size ≤ q → A q) →
      (∀ (cls text : String) (names : List String) (ik is ic : Nat) (H : Heap) (locs : List Loc) (pc : Nat) (ls : Array Slot) (rest : List Value), px cls → Bundle.fit cls = true → (∀ n ∈ names, Bundle.fit n = true) → Cond.classLink own ik cls ∈ zq_W → Cond.initialized cls ∈ zq_W → (own, is, text) ∈ zq_strs →
        (∀ w ∈ (Bundle.ownAtoms own ic cls names).filter (fun w => goodWord w), w ∈ zq_W) → (∀ w ∈ Bundle.ownAtoms own ic cls names, goodWord w = false → w = .laysStatic Bundle.tN "UNASSIGNED_STACK" Bundle.steD ∨ w = .laysStatic Bundle.tN "SUPPRESSED_SENTINEL" Bundle.listD ∨ w = .isRef (.static Bundle.tN "UNASSIGNED_STACK" Bundle.steD) ∨ w = .isRef (.static Bundle.tN "SUPPRESSED_SENTINEL" Bundle.listD) ∨ w ∈ zq_nw2) → ls.size = maxL →
        decode cc pc = .ok (.new ik, 3) → decode cc (pc + 3) = .ok (.dup, 1) → decode cc (pc + 4) = .ok (.ldc is, 2) → decode cc (pc + 6) = .ok (.invokespecial ic, 3) → decode cc (pc + 9) = .ok (.athrow, 1) →
        names.length + 3 < rm.frames → (rest.map fun v => v.category).sum + (13 * (names.length + 1) + 43) ≤ rm.locals → va_P D vwCl w H → va_S A s.heap H locs → W p l e rm s m AV below meth c H locs 0 0 QQ (F0 m pc ls rest)) →
      (∀ (r : Int32) (w' : va_W) (H : Heap) (locs : List Loc) (pc : Nat) (ls : Array Slot), PF r w' → va_P D vwCl w' H → w'.map Prod.fst = adl → va_S A s.heap H locs → decode cc pc = .ok (.ireturn, 1) → W p l e rm s m AV below meth c H locs 0 0 QQ (F0 m pc ls [.int r])) →
      va_P D vwCl w H → va_D A w → va_S A s.heap H locs → lv_has ls maxL (lv_args 0 av) → W p l e rm s m AV below meth c H locs 0 0 QQ (F0 m 0 ls [])) : zq_MXi l y ws rm D kT av w PF px := by
  intro sz
  refine zq_MetX_of (cc := cc) (maxL := maxL) (ret := (some .int)) hy hw ?_
  intro p e s m args below meth c s₁ B hml hex hv
  obtain ⟨rfl, ⟨hsz, hP, hE, hD0⟩, hU, hN, hX2⟩ := hv
  subst hsz
  have hr := B.returns
  have hlocks := B.notSynchronized
  have hown : s.vm.findClass own = some m.cls := by rw [← ho]; exact findClass_of_methodNamed B.named
  have ht : ∀ w ∈ zq_W, w.before av.toArray s = true := fun w h => atoms_spec (ws := ws) B.pre w (by rw [hw]; exact List.mem_cons_of_mem _ h)
  rw [lg_entry_eq]
  refine body p e s m _ below meth c (va_A w s.heap.size) _ s.heap [] _ B.exec B.bytes hml hown ht hE (fun q h => Or.inr h) ?_ ?_ hP hD0.self va_S.rf (lv_entry av hav)
  · intro cls text names ik is ic H locs pc ls rest hpx hfit hnm hk hini hstr hat hoff hsize d0 d3 d4 d6 d9 hRf hRl hP' hS
    obtain ⟨sa, hsa⟩ := hE.2.2 _ hstr
    refine zq_throw (names := names) B.exec B.bytes hst hown hfit hnm (ht _ hk) (ht _ hini) hsa ?_ (fun w h1 h2 => ?_) hU hN hS (hsize.trans hml.symm) d0 d3 d4 d6 d9 (fun x hx => (hex x hx).elim) hRf hRl (by omega) (by omega) hlocks ?_
    · intro w hw2
      rcases List.mem_cons.mp hw2 with rfl | hw2
      · exact ⟨zq_Wg hk, ht _ hk⟩
      · rcases List.mem_cons.mp hw2 with rfl | hw2
        · exact ⟨zq_Wg hini, ht _ hini⟩
        · exact ⟨zq_Wg (hat w hw2), ht _ (hat w hw2)⟩
    · rcases hoff w h1 h2 with h | h | h | h | h
      · exact Or.inl h
      · exact Or.inr (Or.inl h)
      · exact Or.inr (Or.inr (Or.inl h))
      · exact Or.inr (Or.inr (Or.inr (Or.inl h)))
      · exact Or.inr (Or.inr (Or.inr (Or.inr ⟨zq_isD_on (zq_nw2_ok w h), va_Nw.use (zq_isD_on (zq_nw2_ok w h)) (hX2 w h)⟩)))
    · intro t q ce hrun hend hW hsame hz hk2 hce hcv hcl
      exact ⟨.threw q, hrun, hend, Or.inr ⟨q, cls, ce, locs, rfl, hpx, ⟨hP'.kept (fun k x hx => hk2 x.1 ((hP' k x hx).lt)), ⟨Nat.le_trans hS.1 hz, fun x h1 h2 => (hk2 x (Nat.lt_of_lt_of_le h1 hS.1)).trans (hS.2.1 x h1 h2)⟩⟩, hce, hcv, hcl, hW, hsame, hS.2.2⟩⟩
  · intro r w' H locs pc ls hpf hP' ha hS hd
    exact zq_XM_ret (W.iret B.exec B.bytes hr (fun t ht hW => ⟨⟨r, w', rfl, hpf, by rw [ht]; exact hP', by rw [hadl]; exact ha⟩, hS.F ht⟩) hS.2.2 hd)
theorem zq_MXz_of {l : Launch} {y : MethodName} {ws : List Cond} {rm : Room} {D : va_G} {kT : Nat → ClassId} {av : List Value} {w : va_W} {PF : Int32 → va_W → Prop} {px : String → Prop} {cc : ByteArray} {maxL : Nat} {own : String} {adl : List Nat} (hst : l.stackTraces = false) (hadl : w.map Prod.fst = adl)
    (hy : plainName y.cls = true) (hw : ws = Cond.code y cc maxL (some .boolean) :: zq_W) (ho : y.cls = own) (hav : (lg_sl av).length ≤ maxL) (hrc : 1 ≤ rm.cells) (hrs : 6 ≤ rm.slots)
    (body : ∀ (p : Program) (e : Env) (s : State) (m : MethodId) (AV : Array Value) (below : List Frame) (meth : Method) (c : Code) (A : Nat → Prop) (QQ : State → Prop) (H : Heap) (locs : List Loc) (ls : Array Slot),
      p.tables.exec = Jvm.exec → c.code = cc → c.maxLocals = maxL → s.vm.findClass own = some m.cls → (∀ w ∈ zq_W, w.before AV s = true) → zq_EV D kT s → (∀ q : Nat, s.heap.size ≤ q → A q) →
      (∀ (cls text : String) (names : List String) (ik is ic : Nat) (H : Heap) (locs : List Loc) (pc : Nat) (ls : Array Slot) (rest : List Value), px cls → Bundle.fit cls = true → (∀ n ∈ names, Bundle.fit n = true) → Cond.classLink own ik cls ∈ zq_W → Cond.initialized cls ∈ zq_W → (own, is, text) ∈ zq_strs →
        (∀ w ∈ (Bundle.ownAtoms own ic cls names).filter (fun w => goodWord w), w ∈ zq_W) → (∀ w ∈ Bundle.ownAtoms own ic cls names, goodWord w = false → w = .laysStatic Bundle.tN "UNASSIGNED_STACK" Bundle.steD ∨ w = .laysStatic Bundle.tN "SUPPRESSED_SENTINEL" Bundle.listD ∨ w = .isRef (.static Bundle.tN "UNASSIGNED_STACK" Bundle.steD) ∨ w = .isRef (.static Bundle.tN "SUPPRESSED_SENTINEL" Bundle.listD) ∨ w ∈ zq_nw2) → ls.size = maxL →
        decode cc pc = .ok (.new ik, 3) → decode cc (pc + 3) = .ok (.dup, 1) → decode cc (pc + 4) = .ok (.ldc is, 2) → decode cc (pc + 6) = .ok (.invokespecial ic, 3) → decode cc (pc + 9) = .ok (.athrow, 1) →
        names.length + 3 < rm.frames → (rest.map fun v => v.category).sum + (13 * (names.length + 1) + 43) ≤ rm.locals → va_P D vwCl w H → va_S A s.heap H locs → W p l e rm s m AV below meth c H locs 0 0 QQ (F0 m pc ls rest)) →
      (∀ (r : Int32) (_ : narrow .boolean (.int r) = .int r) (w' : va_W) (H : Heap) (locs : List Loc) (pc : Nat) (ls : Array Slot), PF r w' → va_P D vwCl w' H → w'.map Prod.fst = adl → va_S A s.heap H locs → decode cc pc = .ok (.ireturn, 1) → W p l e rm s m AV below meth c H locs 0 0 QQ (F0 m pc ls [.int r])) →
      va_P D vwCl w H → va_D A w → va_S A s.heap H locs → lv_has ls maxL (lv_args 0 av) → W p l e rm s m AV below meth c H locs 0 0 QQ (F0 m 0 ls [])) : zq_MXi l y ws rm D kT av w PF px := by
  intro sz
  refine zq_MetX_of (cc := cc) (maxL := maxL) (ret := (some .boolean)) hy hw ?_
  intro p e s m args below meth c s₁ B hml hex hv
  obtain ⟨rfl, ⟨hsz, hP, hE, hD0⟩, hU, hN, hX2⟩ := hv
  subst hsz
  have hr := B.returns
  have hlocks := B.notSynchronized
  have hown : s.vm.findClass own = some m.cls := by rw [← ho]; exact findClass_of_methodNamed B.named
  have ht : ∀ w ∈ zq_W, w.before av.toArray s = true := fun w h => atoms_spec (ws := ws) B.pre w (by rw [hw]; exact List.mem_cons_of_mem _ h)
  rw [lg_entry_eq]
  refine body p e s m _ below meth c (va_A w s.heap.size) _ s.heap [] _ B.exec B.bytes hml hown ht hE (fun q h => Or.inr h) ?_ ?_ hP hD0.self va_S.rf (lv_entry av hav)
  · intro cls text names ik is ic H locs pc ls rest hpx hfit hnm hk hini hstr hat hoff hsize d0 d3 d4 d6 d9 hRf hRl hP' hS
    obtain ⟨sa, hsa⟩ := hE.2.2 _ hstr
    refine zq_throw (names := names) B.exec B.bytes hst hown hfit hnm (ht _ hk) (ht _ hini) hsa ?_ (fun w h1 h2 => ?_) hU hN hS (hsize.trans hml.symm) d0 d3 d4 d6 d9 (fun x hx => (hex x hx).elim) hRf hRl (by omega) (by omega) hlocks ?_
    · intro w hw2
      rcases List.mem_cons.mp hw2 with rfl | hw2
      · exact ⟨zq_Wg hk, ht _ hk⟩
      · rcases List.mem_cons.mp hw2 with rfl | hw2
        · exact ⟨zq_Wg hini, ht _ hini⟩
        · exact ⟨zq_Wg (hat w hw2), ht _ (hat w hw2)⟩
    · rcases hoff w h1 h2 with h | h | h | h | h
      · exact Or.inl h
      · exact Or.inr (Or.inl h)
      · exact Or.inr (Or.inr (Or.inl h))
      · exact Or.inr (Or.inr (Or.inr (Or.inl h)))
      · exact Or.inr (Or.inr (Or.inr (Or.inr ⟨zq_isD_on (zq_nw2_ok w h), va_Nw.use (zq_isD_on (zq_nw2_ok w h)) (hX2 w h)⟩)))
    · intro t q ce hrun hend hW hsame hz hk2 hce hcv hcl
      exact ⟨.threw q, hrun, hend, Or.inr ⟨q, cls, ce, locs, rfl, hpx, ⟨hP'.kept (fun k x hx => hk2 x.1 ((hP' k x hx).lt)), ⟨Nat.le_trans hS.1 hz, fun x h1 h2 => (hk2 x (Nat.lt_of_lt_of_le h1 hS.1)).trans (hS.2.1 x h1 h2)⟩⟩, hce, hcv, hcl, hW, hsame, hS.2.2⟩⟩
  · intro r hn w' H locs pc ls hpf hP' ha hS hd
    exact zq_XM_ret (W.zret B.exec B.bytes hr hn (fun t ht hW => ⟨⟨r, w', rfl, hpf, by rw [ht]; exact hP', by rw [hadl]; exact ha⟩, hS.F ht⟩) hS.2.2 hd)
def zq_MXl (l : Launch) (y : MethodName) (ws : List Cond) (rm : Room) (D : va_G) (kT : Nat → ClassId) (av : List Value) (w : va_W) (PF : Int64 → va_W → Prop) (px : String → Prop) : Prop := ∀ sz : Nat, zq_MetX l y ws rm (va_Pc av (zq_CX D kT sz w)) (va_Ql PF (zq_WB D (w.map Prod.fst)) (va_A w sz)) px (fun st t => va_P D vwCl w t.heap ∧ va_F (va_A w sz) st t) (va_A w sz)
theorem zq_MXl_of {l : Launch} {y : MethodName} {ws : List Cond} {rm : Room} {D : va_G} {kT : Nat → ClassId} {av : List Value} {w : va_W} {PF : Int64 → va_W → Prop} {px : String → Prop} {cc : ByteArray} {maxL : Nat} {own : String} {adl : List Nat} (hst : l.stackTraces = false) (hadl : w.map Prod.fst = adl)
    (hy : plainName y.cls = true) (hw : ws = Cond.code y cc maxL (some .long) :: zq_W) (ho : y.cls = own) (hav : (lg_sl av).length ≤ maxL) (hrc : 1 ≤ rm.cells) (hrs : 6 ≤ rm.slots)
    (body : ∀ (p : Program) (e : Env) (s : State) (m : MethodId) (AV : Array Value) (below : List Frame) (meth : Method) (c : Code) (A : Nat → Prop) (QQ : State → Prop) (H : Heap) (locs : List Loc) (ls : Array Slot),
      p.tables.exec = Jvm.exec → c.code = cc → c.maxLocals = maxL → s.vm.findClass own = some m.cls → (∀ w ∈ zq_W, w.before AV s = true) → zq_EV D kT s → (∀ q : Nat, s.heap.size ≤ q → A q) →
      (∀ (cls text : String) (names : List String) (ik is ic : Nat) (H : Heap) (locs : List Loc) (pc : Nat) (ls : Array Slot) (rest : List Value), px cls → Bundle.fit cls = true → (∀ n ∈ names, Bundle.fit n = true) → Cond.classLink own ik cls ∈ zq_W → Cond.initialized cls ∈ zq_W → (own, is, text) ∈ zq_strs →
        (∀ w ∈ (Bundle.ownAtoms own ic cls names).filter (fun w => goodWord w), w ∈ zq_W) → (∀ w ∈ Bundle.ownAtoms own ic cls names, goodWord w = false → w = .laysStatic Bundle.tN "UNASSIGNED_STACK" Bundle.steD ∨ w = .laysStatic Bundle.tN "SUPPRESSED_SENTINEL" Bundle.listD ∨ w = .isRef (.static Bundle.tN "UNASSIGNED_STACK" Bundle.steD) ∨ w = .isRef (.static Bundle.tN "SUPPRESSED_SENTINEL" Bundle.listD) ∨ w ∈ zq_nw2) → ls.size = maxL →
        decode cc pc = .ok (.new ik, 3) → decode cc (pc + 3) = .ok (.dup, 1) → decode cc (pc + 4) = .ok (.ldc is, 2) → decode cc (pc + 6) = .ok (.invokespecial ic, 3) → decode cc (pc + 9) = .ok (.athrow, 1) →
        names.length + 3 < rm.frames → (rest.map fun v => v.category).sum + (13 * (names.length + 1) + 43) ≤ rm.locals → va_P D vwCl w H → va_S A s.heap H locs → W p l e rm s m AV below meth c H locs 0 0 QQ (F0 m pc ls rest)) →
      (∀ (r : Int64) (w' : va_W) (H : Heap) (locs : List Loc) (pc : Nat) (ls : Array Slot), PF r w' → va_P D vwCl w' H → w'.map Prod.fst = adl → va_S A s.heap H locs → decode cc pc = .ok (.lreturn, 1) → W p l e rm s m AV below meth c H locs 0 0 QQ (F0 m pc ls [.long r])) →
      va_P D vwCl w H → va_D A w → va_S A s.heap H locs → lv_has ls maxL (lv_args 0 av) → W p l e rm s m AV below meth c H locs 0 0 QQ (F0 m 0 ls [])) : zq_MXl l y ws rm D kT av w PF px := by
  intro sz
  refine zq_MetX_of (cc := cc) (maxL := maxL) (ret := (some .long)) hy hw ?_
  intro p e s m args below meth c s₁ B hml hex hv
  obtain ⟨rfl, ⟨hsz, hP, hE, hD0⟩, hU, hN, hX2⟩ := hv
  subst hsz
  have hr := B.returns
  have hlocks := B.notSynchronized
  have hown : s.vm.findClass own = some m.cls := by rw [← ho]; exact findClass_of_methodNamed B.named
  have ht : ∀ w ∈ zq_W, w.before av.toArray s = true := fun w h => atoms_spec (ws := ws) B.pre w (by rw [hw]; exact List.mem_cons_of_mem _ h)
  rw [lg_entry_eq]
  refine body p e s m _ below meth c (va_A w s.heap.size) _ s.heap [] _ B.exec B.bytes hml hown ht hE (fun q h => Or.inr h) ?_ ?_ hP hD0.self va_S.rf (lv_entry av hav)
  · intro cls text names ik is ic H locs pc ls rest hpx hfit hnm hk hini hstr hat hoff hsize d0 d3 d4 d6 d9 hRf hRl hP' hS
    obtain ⟨sa, hsa⟩ := hE.2.2 _ hstr
    refine zq_throw (names := names) B.exec B.bytes hst hown hfit hnm (ht _ hk) (ht _ hini) hsa ?_ (fun w h1 h2 => ?_) hU hN hS (hsize.trans hml.symm) d0 d3 d4 d6 d9 (fun x hx => (hex x hx).elim) hRf hRl (by omega) (by omega) hlocks ?_
    · intro w hw2
      rcases List.mem_cons.mp hw2 with rfl | hw2
      · exact ⟨zq_Wg hk, ht _ hk⟩
      · rcases List.mem_cons.mp hw2 with rfl | hw2
        · exact ⟨zq_Wg hini, ht _ hini⟩
        · exact ⟨zq_Wg (hat w hw2), ht _ (hat w hw2)⟩
    · rcases hoff w h1 h2 with h | h | h | h | h
      · exact Or.inl h
      · exact Or.inr (Or.inl h)
      · exact Or.inr (Or.inr (Or.inl h))
      · exact Or.inr (Or.inr (Or.inr (Or.inl h)))
      · exact Or.inr (Or.inr (Or.inr (Or.inr ⟨zq_isD_on (zq_nw2_ok w h), va_Nw.use (zq_isD_on (zq_nw2_ok w h)) (hX2 w h)⟩)))
    · intro t q ce hrun hend hW hsame hz hk2 hce hcv hcl
      exact ⟨.threw q, hrun, hend, Or.inr ⟨q, cls, ce, locs, rfl, hpx, ⟨hP'.kept (fun k x hx => hk2 x.1 ((hP' k x hx).lt)), ⟨Nat.le_trans hS.1 hz, fun x h1 h2 => (hk2 x (Nat.lt_of_lt_of_le h1 hS.1)).trans (hS.2.1 x h1 h2)⟩⟩, hce, hcv, hcl, hW, hsame, hS.2.2⟩⟩
  · intro r w' H locs pc ls hpf hP' ha hS hd
    exact zq_XM_ret (W.lret B.exec B.bytes hr (fun t ht hW => ⟨⟨r, w', rfl, hpf, by rw [ht]; exact hP', by rw [hadl]; exact ha⟩, hS.F ht⟩) hS.2.2 hd)
set_option maxRecDepth 100000 in
theorem zt_IllegalArgumentException_a : ∀ w ∈ (Bundle.ownAtoms "PlainSteps" 75 "java/lang/IllegalArgumentException" ["java/lang/RuntimeException", "java/lang/Exception"]).filter (fun w => goodWord w), w ∈ zq_W := by
  intro w hw
  refine List.mem_filter.mpr ⟨?_, (List.mem_filter.mp hw).2⟩
  revert w
  decide +kernel
set_option maxRecDepth 100000 in
theorem zt_IllegalArgumentException_b : ∀ w ∈ Bundle.ownAtoms "PlainSteps" 75 "java/lang/IllegalArgumentException" ["java/lang/RuntimeException", "java/lang/Exception"], goodWord w = false → w = .laysStatic Bundle.tN "UNASSIGNED_STACK" Bundle.steD ∨ w = .laysStatic Bundle.tN "SUPPRESSED_SENTINEL" Bundle.listD ∨ w = .isRef (.static Bundle.tN "UNASSIGNED_STACK" Bundle.steD) ∨ w = .isRef (.static Bundle.tN "SUPPRESSED_SENTINEL" Bundle.listD) ∨ w ∈ zq_nw2 := by decide +kernel
set_option maxRecDepth 100000 in
theorem zt_UnsupportedOperationException_a : ∀ w ∈ (Bundle.ownAtoms "PlainSteps" 86 "java/lang/UnsupportedOperationException" ["java/lang/RuntimeException", "java/lang/Exception"]).filter (fun w => goodWord w), w ∈ zq_W := by
  intro w hw
  refine List.mem_filter.mpr ⟨?_, (List.mem_filter.mp hw).2⟩
  revert w
  decide +kernel
set_option maxRecDepth 100000 in
theorem zt_UnsupportedOperationException_b : ∀ w ∈ Bundle.ownAtoms "PlainSteps" 86 "java/lang/UnsupportedOperationException" ["java/lang/RuntimeException", "java/lang/Exception"], goodWord w = false → w = .laysStatic Bundle.tN "UNASSIGNED_STACK" Bundle.steD ∨ w = .laysStatic Bundle.tN "SUPPRESSED_SENTINEL" Bundle.listD ∨ w = .isRef (.static Bundle.tN "UNASSIGNED_STACK" Bundle.steD) ∨ w = .isRef (.static Bundle.tN "SUPPRESSED_SENTINEL" Bundle.listD) ∨ w ∈ zq_nw2 := by decide +kernel
set_option maxRecDepth 100000 in
theorem zt_IndexOutOfBoundsException_a : ∀ w ∈ (Bundle.ownAtoms "PlainSteps" 155 "java/lang/IndexOutOfBoundsException" ["java/lang/RuntimeException", "java/lang/Exception"]).filter (fun w => goodWord w), w ∈ zq_W := by
  intro w hw
  refine List.mem_filter.mpr ⟨?_, (List.mem_filter.mp hw).2⟩
  revert w
  decide +kernel
set_option maxRecDepth 100000 in
theorem zt_IndexOutOfBoundsException_b : ∀ w ∈ Bundle.ownAtoms "PlainSteps" 155 "java/lang/IndexOutOfBoundsException" ["java/lang/RuntimeException", "java/lang/Exception"], goodWord w = false → w = .laysStatic Bundle.tN "UNASSIGNED_STACK" Bundle.steD ∨ w = .laysStatic Bundle.tN "SUPPRESSED_SENTINEL" Bundle.listD ∨ w = .isRef (.static Bundle.tN "UNASSIGNED_STACK" Bundle.steD) ∨ w = .isRef (.static Bundle.tN "SUPPRESSED_SENTINEL" Bundle.listD) ∨ w ∈ zq_nw2 := by decide +kernel
set_option maxRecDepth 100000 in
theorem zt_IllegalStateException_a : ∀ w ∈ (Bundle.ownAtoms "PlainSteps" 174 "java/lang/IllegalStateException" ["java/lang/RuntimeException", "java/lang/Exception"]).filter (fun w => goodWord w), w ∈ zq_W := by
  intro w hw
  refine List.mem_filter.mpr ⟨?_, (List.mem_filter.mp hw).2⟩
  revert w
  decide +kernel
set_option maxRecDepth 100000 in
theorem zt_IllegalStateException_b : ∀ w ∈ Bundle.ownAtoms "PlainSteps" 174 "java/lang/IllegalStateException" ["java/lang/RuntimeException", "java/lang/Exception"], goodWord w = false → w = .laysStatic Bundle.tN "UNASSIGNED_STACK" Bundle.steD ∨ w = .laysStatic Bundle.tN "SUPPRESSED_SENTINEL" Bundle.listD ∨ w = .isRef (.static Bundle.tN "UNASSIGNED_STACK" Bundle.steD) ∨ w = .isRef (.static Bundle.tN "SUPPRESSED_SENTINEL" Bundle.listD) ∨ w ∈ zq_nw2 := by decide +kernel
