/-! THE CLAIM OUT OF ONE WALK OF THE LAW'S BODY. Your part is whole_start (and what it stands on); all else here is the same for every law, but numbers. -/
def R_law : String := "PlainStepsLaw"
def lw_P (b : Addr) (xs : List Int32) (args : Array Value) (s : State) : Prop := args = #[.ref b] ∧ s.IntsAt b xs ∧ xs.length ≤ 2560 ∧ (Jvm.Cond.and given_1 narrow_1).before args s = true
def lw_Q (_ : Array Value) (s : State) (o : Outcome) (t : State) : Prop := o = .returned (some (.int 1)) ∧ Framed s o t [] 1117 24568
def lw_Z (below : List Frame) (a : Array Value) (s : State) : State → Prop := fun t => ∃ o, t.status = .running ∧ Ended t below o ∧ lw_Q a s o t
/-- the law's own end, with 1 on the stack, nothing written that was there before, its room as the claim has it -/
theorem lw_ret {p : Program} {l : Launch} {e : Env} {s : State} {m : MethodId} {below : List Frame} {meth : Method} {c : Code} {b : Nat} (hx : p.tables.exec = Jvm.exec) (hb : c.code = code) (hr : meth.sig.returnType = ret) (hlocks : meth.locks = false) {pc : Nat} {H : Heap} {ls : Array Slot} (hdg : decode code pc = .ok (.ireturn, 1)) : W p l e room_1 s m #[Value.ref b] below meth c H [] 1117 24568 (lw_Z below #[Value.ref b] s) (F0 m pc ls [.int 1]) := by
  intro T hT X
  obtain ⟨fs, hret, hrun, hended, hW, hframe⟩ := X.leave (v := some (.int 1)) (hlocks := hlocks) (fun h => by rw [hr] at h; cases h)
  have hmeth' : T.vm.method? m = some meth := X.method'
  refine ⟨T.setFrames fs, ?_, .returned (some (.int 1)), hrun, hended, rfl, ⟨_, rfl⟩, hW, hframe⟩
  jvm_step X.here [X.here.top, hx, hb, hdg, hmeth', hr, ret, narrow_b1]
  (try refine ⟨rfl, ?_⟩); (try refine ⟨rfl, ?_⟩)
  first | (intro acts; rw [hret _ acts rfl rfl rfl]) | rw [hret _ _ rfl rfl rfl]
  exact Steps.refl _
/-- what holds at the law's entry: the machine, the code, the tables' words (any of lw_tbl by 'hts w (by decide +kernel)'), the script of L ints xs at the cell b, what the Statement gives of the start (any of its parts by flat_of_before) -/
def lw_At (p : Program) (s : State) (m : MethodId) (meth : Method) (c : Code) (b L : Nat) (xs : Nat → Int32) : Prop :=
  p.tables.exec = Jvm.exec ∧ c.code = code ∧ meth.sig.returnType = ret ∧ c.maxLocals = 8 ∧ s.vm.findClass R_law = some m.cls ∧ (∀ w ∈ lw_tbl, w.before #[Value.ref b] s = true) ∧ va_X b L xs s s.heap ∧ b < s.heap.size ∧ meth.locks = false ∧ (Jvm.Cond.and given_1 narrow_1).before #[Value.ref b] s = true
theorem zq_gt {a i : Nat} (ha : a ≤ 2560) (hi : i ≤ 2560) : Int32.ofNat a - 5 < nI i ↔ a < i + 5 := by
  have e1 : (Int32.ofNat a).toInt = (a : Int) := nI_toInt (by omega)
  have e2 : (5 : Int32).toInt = 5 := by decide
  rw [Int32.lt_iff_toInt_lt, nI_toInt (by omega), Int32.toInt_sub, e1, e2, Int.bmod_eq_of_le (by omega) (by omega)]
  omega
/-- every turn leads from states that agree to states that agree -/
def zq_turns (Inv : zq_C → zq_M → Prop) : Prop := ∀ (u : zq_C) (v : zq_M), Inv u v → (∀ (fo : Nat → Int64) (a1 : Int32), zq_t0 u v fo a1 Inv) ∧ (∀ (fo : Nat → Int64) (a1 : Int32) (a2 : Int32), zq_t1 u v fo a1 a2 Inv) ∧ (∀ (fo : Nat → Int64) (a1 : Int32) (a2 : Int32) (a3 : Int32), zq_t2 u v fo a1 a2 a3 Inv) ∧ (∀ (fo : Nat → Int64) (a1 : Int32) (a2 : Int32) (a3 : Int32) (a4 : Int32), zq_t3 u v fo a1 a2 a3 a4 Inv) ∧ (∀ (fo : Nat → Int64) (a1 : Int32) (a2 : Int32) (a3 : Int32), zq_t4 u v fo a1 a2 a3 Inv) ∧ (∀ (fo : Nat → Int64) (a1 : Int32) (a2 : Int32), zq_t5 u v fo a1 a2 Inv) ∧ (∀ (fo : Nat → Int64) (a1 : Int32), zq_t6 u v fo a1 Inv) ∧ (∀ (fo : Nat → Int64) (a1 : Int32), zq_t7 u v fo a1 Inv) ∧ (∀ (fo : Nat → Int64) (a1 : Int32) (a2 : Int32) (a3 : Int32), zq_t8 u v fo a1 a2 a3 Inv) ∧ (∀ (fo : Nat → Int64) (a1 : Int32), zq_t9 u v fo a1 Inv) ∧ (∀ (fo : Nat → Int64) (a1 : Int32), zq_t10 u v fo a1 Inv) ∧ (∀ (fo : Nat → Int64) (a1 : Int32) (a2 : Int32), zq_t11 u v fo a1 a2 Inv) ∧ (∀ (fo : Nat → Int64) (a1 : Int32) (a2 : Int32), zq_t12 u v fo a1 a2 Inv) ∧ (∀ (fo : Nat → Int64) (a1 : Int32), zq_t13 u v fo a1 Inv) ∧ (∀ (fo : Nat → Int64), zq_t14 u v fo  Inv) ∧ (∀ (fo : Nat → Int64) (a1 : Int32), zq_t15 u v fo a1 Inv)
set_option maxHeartbeats 4000000 in
set_option maxRecDepth 100000 in
theorem zq_loop {p : Program} {l : Launch} {e : Env} {s : State} {m : MethodId} {below : List Frame} {meth : Method} {c : Code} {D : va_G} {kT : Nat → ClassId} {b L : Nat} {xs : Nat → Int32} {adc adm : Nat → Nat} {ao : Nat} {Inv : zq_C → zq_M → Prop} (hT : zq_turns Inv) (X : zq_lx p l s m c D kT b L xs) (hL : L ≤ 2560) (hr : meth.sig.returnType = ret) (hlocks : meth.locks = false) :
    ∀ (n j : Nat), 5 * j ≤ L → L < 5 * j + 5 * n → ∀ (u : zq_C) (v : zq_M) (fo : Nat → Int64) (H : Heap) (locs : List Loc) (ls : Array Slot), Inv u v → va_P D vwCl (zq_Wl kT adc adm ao u v fo) H → va_D (zq_lA s) (zq_Wl kT adc adm ao u v fo) → va_S (zq_lA s) s.heap H locs → lv_has ls 8 [(0, .ref b), (1, .ref (adc 0)), (2, .ref (adm 0)), (3, .ref ao), (4, .int (nI (5 * j)))] → W p l e room_1 s m #[Value.ref b] below meth c H locs (67 + j) (16220 + 6 * j) (lw_Z below #[Value.ref b] s) (F0 m 23 ls []) := by
  obtain ⟨hst, hx, hb, hml, hown, ht, hE, hX, hN, hXs, hbl⟩ := id X
  have hbA : ¬ zq_lA s b := Nat.not_le.mpr hbl
  intro n
  induction n with
  | zero => intro j h1 h2; omega
  | succ n ih =>
    intro j hj hn u v fo H locs ls hI hP hD hS hl
    refine lv_iload hx hb zd_law_23 (lv_at hl 4 rfl) ?_
    refine lv_aload_n hx hb zd_law_25 rfl (lv_at hl 0 rfl) ?_
    refine va_slen hx hb hXs hbl hbA hS zd_law_26 ?_
    refine lv_iconst (v := 5) hx hb zd_law_27 (by decide) ?_
    refine lv_isub hx hb zd_law_28 ?_
    refine lv_icmp_gt (tgt := 1215) hx hb zd_law_29 (by decide) (fun c_1 => ?_) (fun c_1 => ?_)
    · refine lv_iconst (v := 1) hx hb zd_law_1215 (by decide) ?_
      refine va_forget (fun q hq => hS.2.2 q hq) ?_
      refine W.widen (k := 1117) (n := 24568) (by omega) (by omega) ?_
      exact lw_ret hx hb hr hlocks zd_law_1216
    · have hlt : 5 * j + 5 ≤ L := by
        rcases Nat.lt_or_ge L (5 * j + 5) with q | q
        · exact absurd ((zq_gt hL (by omega)).mpr q) c_1
        · exact q
      have kk : ∀ (u : zq_C) (v : zq_M) (fo : Nat → Int64) (H : Heap) (locs : List Loc) (ls : Array Slot), Inv u v → va_P D vwCl (zq_Wl kT adc adm ao u v fo) H → va_D (zq_lA s) (zq_Wl kT adc adm ao u v fo) → va_S (zq_lA s) s.heap H locs → lv_has ls 8 [(0, .ref b), (1, .ref (adc 0)), (2, .ref (adm 0)), (3, .ref ao), (4, .int (nI (5 * j)))] → W p l e room_1 s m #[Value.ref b] below meth c H locs (67 + j + 1) (16220 + 6 * j + 6) (lw_Z below #[Value.ref b] s) (F0 m 1209 ls []) := by
        intro u v fo H locs ls hI hP hD hS hl
        refine lv_iinc (v := nI (5 * (j + 1))) (lv' := [(4, .int (nI (5 * (j + 1)))), (0, .ref b), (1, .ref (adc 0)), (2, .ref (adm 0)), (3, .ref ao)]) hx hb zd_law_1209 hl (k := 4) rfl (by rw [show 5 * (j + 1) = 5 * j + 5 by omega, ← nI_add]; rfl) (by decide) rfl (fun ls hl => ?_)
        refine lv_goto (tgt := 23) hx hb zd_law_1212 (by decide) ?_
        have g := ih (j + 1) (by omega) (by omega) u v fo H locs ls hI hP hD hS (lv_sub hl [1, 2, 3, 4, 0] rfl)
        rw [show 67 + (j + 1) = 67 + j + 1 by omega, show 16220 + 6 * (j + 1) = 16220 + 6 * j + 6 by omega] at g
        exact g
      have hf : 67 + j + 1 ≤ room_1.cells ∧ 16220 + 6 * j + 6 ≤ room_1.slots := ⟨show 67 + j + 1 ≤ 1117 by omega, show 16220 + 6 * j + 6 ≤ 24568 by omega⟩
      have hi : ∀ k : Nat, k < 5 → vp_in (nI (5 * j) + nI k) L := fun k hk => by rw [nI_add]; exact vp_in_nI (by omega) (by omega)
      have hi0 : vp_in (nI (5 * j)) L := vp_in_nI (by omega) (by omega)
      have hi1 : vp_in (nI (5 * j) + 1) L := hi 1 (by omega)
      have hi2 : vp_in (nI (5 * j) + 2) L := hi 2 (by omega)
      have hi3 : vp_in (nI (5 * j) + 3) L := hi 3 (by omega)
      have hi4 : vp_in (nI (5 * j) + 4) L := hi 4 (by omega)
      obtain ⟨T0, T1, T2, T3, T4, T5, T6, T7, T8, T9, T10, T11, T12, T13, T14, T15⟩ := hT u v hI
      refine lv_aload_n hx hb zd_law_32 rfl (lv_at hl 0 rfl) ?_
      refine lv_iload hx hb zd_law_33 (lv_at hl 4 rfl) ?_
      refine va_sld hx hb hXs hbl hbA hS hi0 zd_law_35 ?_
      refine lv_bipush (v := 15) hx hb zd_law_36 (by decide) ?_
      refine lv_iand hx hb zd_law_38 ?_
      generalize xs (nI (5 * j)).toNatClampNeg &&& 15 = z
      by_cases k0 : z = 0
      · refine lv_tableIn (off := 77) (tgt := 116) hx hb zd_law_39 (by rw [k0]; decide) (by rw [k0]; decide) (by rw [k0]; rfl) (by decide) ?_
        exact zq_arm0 X u v fo Inv hi1 rfl (T0 fo _) hf hP hD hS hl kk
      by_cases k1 : z = 1
      · refine lv_tableIn (off := 133) (tgt := 172) hx hb zd_law_39 (by rw [k1]; decide) (by rw [k1]; decide) (by rw [k1]; rfl) (by decide) ?_
        exact zq_arm1 X u v fo Inv hi1 rfl hi2 rfl (T1 fo _ _) hf hP hD hS hl kk
      by_cases k2 : z = 2
      · refine lv_tableIn (off := 221) (tgt := 260) hx hb zd_law_39 (by rw [k2]; decide) (by rw [k2]; decide) (by rw [k2]; rfl) (by decide) ?_
        exact zq_arm2 X u v fo Inv hi1 rfl hi2 rfl hi3 rfl (T2 fo _ _ _) hf hP hD hS hl kk
      by_cases k3 : z = 3
      · refine lv_tableIn (off := 317) (tgt := 356) hx hb zd_law_39 (by rw [k3]; decide) (by rw [k3]; decide) (by rw [k3]; rfl) (by decide) ?_
        exact zq_arm3 X u v fo Inv hi1 rfl hi2 rfl hi3 rfl hi4 rfl (T3 fo _ _ _ _) hf hP hD hS hl kk
      by_cases k4 : z = 4
      · refine lv_tableIn (off := 409) (tgt := 448) hx hb zd_law_39 (by rw [k4]; decide) (by rw [k4]; decide) (by rw [k4]; rfl) (by decide) ?_
        exact zq_arm4 X u v fo Inv hi1 rfl hi2 rfl hi3 rfl (T4 fo _ _ _) hf hP hD hS hl kk
      by_cases k5 : z = 5
      · refine lv_tableIn (off := 489) (tgt := 528) hx hb zd_law_39 (by rw [k5]; decide) (by rw [k5]; decide) (by rw [k5]; rfl) (by decide) ?_
        exact zq_arm5 X u v fo Inv hi1 rfl hi2 rfl (T5 fo _ _) hf hP hD hS hl kk
      by_cases k6 : z = 6
      · refine lv_tableIn (off := 557) (tgt := 596) hx hb zd_law_39 (by rw [k6]; decide) (by rw [k6]; decide) (by rw [k6]; rfl) (by decide) ?_
        exact zq_arm6 X u v fo Inv hi1 rfl (T6 fo _) hf hP hD hS hl kk
      by_cases k7 : z = 7
      · refine lv_tableIn (off := 613) (tgt := 652) hx hb zd_law_39 (by rw [k7]; decide) (by rw [k7]; decide) (by rw [k7]; rfl) (by decide) ?_
        exact zq_arm7 X u v fo Inv hi1 rfl (T7 fo _) hf hP hD hS hl kk
      by_cases k8 : z = 8
      · refine lv_tableIn (off := 669) (tgt := 708) hx hb zd_law_39 (by rw [k8]; decide) (by rw [k8]; decide) (by rw [k8]; rfl) (by decide) ?_
        exact zq_arm8 X u v fo Inv hi1 rfl hi2 rfl hi3 rfl (T8 fo _ _ _) hf hP hD hS hl kk
      by_cases k9 : z = 9
      · refine lv_tableIn (off := 768) (tgt := 807) hx hb zd_law_39 (by rw [k9]; decide) (by rw [k9]; decide) (by rw [k9]; rfl) (by decide) ?_
        exact zq_arm9 X u v fo Inv hi1 rfl (T9 fo _) hf hP hD hS hl kk
      by_cases k10 : z = 10
      · refine lv_tableIn (off := 823) (tgt := 862) hx hb zd_law_39 (by rw [k10]; decide) (by rw [k10]; decide) (by rw [k10]; rfl) (by decide) ?_
        exact zq_arm10 X u v fo Inv hi1 rfl (T10 fo _) hf hP hD hS hl kk
      by_cases k11 : z = 11
      · refine lv_tableIn (off := 886) (tgt := 925) hx hb zd_law_39 (by rw [k11]; decide) (by rw [k11]; decide) (by rw [k11]; rfl) (by decide) ?_
        exact zq_arm11 X u v fo Inv hi1 rfl hi2 rfl (T11 fo _ _) hf hP hD hS hl kk
      by_cases k12 : z = 12
      · refine lv_tableIn (off := 977) (tgt := 1016) hx hb zd_law_39 (by rw [k12]; decide) (by rw [k12]; decide) (by rw [k12]; rfl) (by decide) ?_
        exact zq_arm12 X u v fo Inv hi1 rfl hi2 rfl (T12 fo _ _) hf hP hD hS hl kk
      by_cases k13 : z = 13
      · refine lv_tableIn (off := 1045) (tgt := 1084) hx hb zd_law_39 (by rw [k13]; decide) (by rw [k13]; decide) (by rw [k13]; rfl) (by decide) ?_
        exact zq_arm13 X u v fo Inv hi1 rfl (T13 fo _) hf hP hD hS hl kk
      by_cases k14 : z = 14
      · refine lv_tableIn (off := 1101) (tgt := 1140) hx hb zd_law_39 (by rw [k14]; decide) (by rw [k14]; decide) (by rw [k14]; rfl) (by decide) ?_
        exact zq_arm14 X u v fo Inv  (T14 fo ) hf hP hD hS hl kk
      by_cases k15 : z = 15
      · refine lv_tableIn (off := 1114) (tgt := 1153) hx hb zd_law_39 (by rw [k15]; decide) (by rw [k15]; decide) (by rw [k15]; rfl) (by decide) ?_
        exact zq_arm15 X u v fo Inv hi1 rfl (T15 fo _) hf hP hD hS hl kk
      refine lv_tableOut (tgt := 1209) hx hb zd_law_39 (by have q0 := lv_neT k0 (a := 0) (by decide); have q1 := lv_neT k1 (a := 1) (by decide); have q2 := lv_neT k2 (a := 2) (by decide); have q3 := lv_neT k3 (a := 3) (by decide); have q4 := lv_neT k4 (a := 4) (by decide); have q5 := lv_neT k5 (a := 5) (by decide); have q6 := lv_neT k6 (a := 6) (by decide); have q7 := lv_neT k7 (a := 7) (by decide); have q8 := lv_neT k8 (a := 8) (by decide); have q9 := lv_neT k9 (a := 9) (by decide); have q10 := lv_neT k10 (a := 10) (by decide); have q11 := lv_neT k11 (a := 11) (by decide); have q12 := lv_neT k12 (a := 12) (by decide); have q13 := lv_neT k13 (a := 13) (by decide); have q14 := lv_neT k14 (a := 14) (by decide); have q15 := lv_neT k15 (a := 15) (by decide); omega) (by decide) ?_
      refine W.widen (k := 67 + j + 1) (n := 16220 + 6 * j + 6) (by omega) (by omega) ?_
      exact kk u v fo H locs ls hI hP hD hS hl
