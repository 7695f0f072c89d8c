/-! helpers of this proof: pure words for what the machine computes; branches; a call on cells of a world, laid back in their places -/
def zq_bz (x : Int32) : Prop := x = 0 ∨ x = 1
theorem zq_bzn {x : Int32} (h : zq_bz x) : narrow .boolean (.int x) = .int x := by
  rcases h with rfl | rfl <;> rfl
theorem zq_bzf {x : Int32} (h : zq_bz x) : fits .boolean (.int x) = true := by
  rcases h with rfl | rfl <;> rfl
theorem zq_it {c A B : Prop} [Decidable c] (hc : c) (h : if c then A else B) : A := by
  rw [if_pos hc] at h
  exact h
theorem zq_if {c A B : Prop} [Decidable c] (hc : ¬ c) (h : if c then A else B) : B := by
  rw [if_neg hc] at h
  exact h
theorem zq_in {i : Int32} {n : Nat} (h : decide (¬ (i < 0 ∨ n ≤ i.toNatClampNeg)) = true) : vp_in i n := by
  unfold vp_in
  exact of_decide_eq_true h
theorem zq_lc_eq {x y : Int64} : lg_cmp x y = 0 ↔ x = y := by
  unfold lg_cmp
  by_cases h1 : x > y
  · rw [if_pos h1]
    refine ⟨fun h => absurd h (by decide), fun h => ?_⟩
    rw [h] at h1
    exact absurd h1 (by rw [gt_iff_lt, Int64.lt_iff_toInt_lt]; omega)
  · rw [if_neg h1]
    by_cases h2 : x = y
    · rw [if_pos h2]; exact ⟨fun _ => h2, fun _ => rfl⟩
    · rw [if_neg h2]; exact ⟨fun h => absurd h (by decide), fun h => absurd h h2⟩
theorem zq_lc_gt {x y : Int64} : 0 < lg_cmp x y ↔ y < x := by
  unfold lg_cmp
  by_cases h1 : x > y
  · rw [if_pos h1]; exact ⟨fun _ => h1, fun _ => by decide⟩
  · rw [if_neg h1]
    by_cases h2 : x = y
    · rw [if_pos h2]; exact ⟨fun h => absurd h (by decide), fun h => absurd h h1⟩
    · rw [if_neg h2]; exact ⟨fun h => absurd h (by decide), fun h => absurd h h1⟩
theorem zq_lc_le {x y : Int64} : lg_cmp x y ≤ 0 ↔ x ≤ y := by
  have e : x ≤ y ↔ ¬ y < x := by rw [Int64.le_iff_toInt_le, Int64.lt_iff_toInt_lt]; omega
  have e2 : lg_cmp x y ≤ 0 ↔ ¬ 0 < lg_cmp x y := by
    rw [Int32.le_iff_toInt_le, Int32.lt_iff_toInt_lt]; omega
  rw [e, e2, zq_lc_gt]
theorem zq_lc_ge {x y : Int64} : 0 ≤ lg_cmp x y ↔ y ≤ x := lg_cmp_ge x y
theorem zq_lc_lt {x y : Int64} : lg_cmp x y < 0 ↔ x < y := by
  have e : x < y ↔ ¬ y ≤ x := by rw [Int64.le_iff_toInt_le, Int64.lt_iff_toInt_lt]; omega
  have e2 : lg_cmp x y < 0 ↔ ¬ 0 ≤ lg_cmp x y := by
    rw [Int32.le_iff_toInt_le, Int32.lt_iff_toInt_lt]; omega
  rw [e, e2, zq_lc_ge]
/-- the least long, as a word that nobody opens -/
noncomputable def zq_min : Int64 := Classical.choose (⟨-9223372036854775808, rfl⟩ : ∃ v : Int64, v = -9223372036854775808)
theorem zq_min_eq : zq_min = -9223372036854775808 := Classical.choose_spec (⟨-9223372036854775808, rfl⟩ : ∃ v : Int64, v = -9223372036854775808)
def zq_j_i2l (x : Int32) : Int64 := x.toInt64
def zq_j_l2i (x : Int64) : Int32 := x.toInt32
def zq_j_i2b (x : Int32) : Int32 := x.toInt8.toInt32
def zq_j_i2s (x : Int32) : Int32 := x.toInt16.toInt32
def zq_j_i2c (x : Int32) : Int32 := (x.toUInt32 % 65536).toInt32
def zq_j_iushr (x y : Int32) : Int32 := (x.toUInt32 >>> (y.toUInt32 &&& Int32.toUInt32 31)).toInt32
def zq_j_lushr (x : Int64) (y : Int32) : Int64 := (x.toUInt64 >>> (y.toInt64.toUInt64 &&& Int64.toUInt64 63)).toInt64
def zq_j_lshl (x : Int64) (y : Int32) : Int64 := x <<< (y.toInt64 &&& 63)
def zq_j_lshr (x : Int64) (y : Int32) : Int64 := x >>> (y.toInt64 &&& 63)
-- cells laid into a world, at their places
def zq_put : va_W → List Nat → va_W → va_W
  | w, [], _ => w
  | w, _ :: _, [] => w
  | w, i :: is, x :: xs => zq_put (w.set i x) is xs
theorem zq_put_fst : ∀ (is : List Nat) (w w1 : va_W), is.map (fun i => (w[i]?).map Prod.fst) = w1.map (fun q => some q.1) → (zq_put w is w1).map Prod.fst = w.map Prod.fst := by
  intro is
  induction is with
  | nil => intro w w1 _; rw [zq_put]
  | cons i is ih =>
    intro w w1 h
    cases w1 with
    | nil => rw [zq_put]
    | cons x xs =>
      simp only [List.map_cons, List.cons.injEq] at h
      obtain ⟨h1, h2⟩ := h
      have hset : (w.set i x).map Prod.fst = w.map Prod.fst := by
        apply List.ext_getElem?
        intro k
        rw [List.getElem?_map, List.getElem?_map, List.getElem?_set]
        by_cases e : i = k
        · subst e
          rw [if_pos rfl]
          by_cases hlt : i < w.length
          · rw [if_pos hlt, h1]; rfl
          · rw [if_neg hlt, List.getElem?_eq_none (by omega)]
        · rw [if_neg e]
      rw [zq_put, ih (w.set i x) xs ?_, hset]
      rw [← h2]
      apply List.map_congr_left
      intro k _
      rw [← List.getElem?_map, ← List.getElem?_map, hset]
theorem zq_D_fst {A : Nat → Prop} {w w' : va_W} (h : w'.map Prod.fst = w.map Prod.fst) (hD : va_D A w) : va_D A w' := by
  have key : ∀ (k : Nat) (q : Nat × va_E), w'[k]? = some q → ∃ q0, w[k]? = some q0 ∧ q0.1 = q.1 := by
    intro k q hq
    have h1 : (w'.map Prod.fst)[k]? = some q.1 := by rw [List.getElem?_map, hq]; rfl
    rw [h, List.getElem?_map] at h1
    cases hw : w[k]? with
    | none => rw [hw] at h1; cases h1
    | some q0 => rw [hw] at h1; exact ⟨q0, rfl, Option.some.inj h1⟩
  refine ⟨fun i j p q hi hj e => ?_, fun k q hk => ?_⟩
  · obtain ⟨p0, a1, a2⟩ := key i p hi
    obtain ⟨q0, b1, b2⟩ := key j q hj
    exact hD.1 i j p0 q0 a1 b1 (by rw [a2, b2]; exact e)
  · obtain ⟨q0, b1, b2⟩ := key k q hk
    rw [← b2]
    exact hD.2 k q0 b1
theorem zq_put_P {D : va_G} {cl : List vw_C} {H1 : Heap} : ∀ (is : List Nat) (w w1 : va_W), is.length ≤ w1.length → (∀ (k : Nat) (q : Nat × va_E), w[k]? = some q → k ∉ is → va_at D cl q H1) → (∀ (k : Nat) (q : Nat × va_E), w1[k]? = some q → va_at D cl q H1) → va_P D cl (zq_put w is w1) H1 := by
  intro is
  induction is with
  | nil => intro w w1 _ h1 _ k q hq; rw [zq_put] at hq; exact h1 k q hq (by simp)
  | cons i is ih =>
    intro w w1 hlen h1 h2
    cases w1 with
    | nil => simp at hlen
    | cons x xs =>
      rw [zq_put]
      refine ih (w.set i x) xs (by simpa using hlen) ?_ (fun k q hq => h2 (k + 1) q (by simpa using hq))
      intro k q hq hk
      rw [List.getElem?_set] at hq
      by_cases e : i = k
      · rw [if_pos e] at hq
        by_cases hlt : i < w.length
        · rw [if_pos hlt] at hq
          cases hq
          exact h2 0 x (by simp)
        · rw [if_neg hlt] at hq; cases hq
      · rw [if_neg e] at hq
        exact h1 k q hq (by simp [hk]; exact fun z => e z.symm)
/-- behind a call: the callee's cells, changed, stand in their places; the rest is as it was -/
theorem zq_jn {A0 : Nat → Prop} {D : va_G} {cl : List vw_C} {ws wc w1 : va_W} {H H1 : Heap} (hP : va_P D cl ws H) (hD : va_D A0 ws) (isC : List Nat) (hC : isC.map (fun i => ws[i]?) = wc.map some)
    (hk : ∀ q : Nat, q < H.size → ¬ va_A wc H.size q → H1[q]? = H[q]?) (hP1 : va_P D cl w1 H1) (ha : w1.map Prod.fst = wc.map Prod.fst) : va_P D cl (zq_put ws isC w1) H1 ∧ va_D A0 (zq_put ws isC w1) := by
  have hlen : isC.length = wc.length := by
    have := congrArg List.length hC
    simpa using this
  have hlen1 : w1.length = wc.length := by
    have := congrArg List.length ha
    simpa using this
  refine ⟨zq_put_P isC ws w1 (by omega) ?_ hP1, zq_D_fst (zq_put_fst isC ws w1 ?_) hD⟩
  · intro k q hq hkn
    have h0 := hP k q hq
    refine h0.kept (hk q.1 h0.lt ?_)
    rintro (⟨j, e, hj⟩ | h)
    · have h1 : (isC.map (fun i => ws[i]?))[j]? = some (some (q.1, e)) := by rw [hC, List.getElem?_map, hj]; rfl
      rw [List.getElem?_map] at h1
      cases hi : isC[j]? with
      | none => rw [hi] at h1; cases h1
      | some i =>
        rw [hi] at h1
        have h2 : ws[i]? = some (q.1, e) := Option.some.inj h1
        have h3 := hD.1 i k _ _ h2 hq rfl
        exact hkn (h3 ▸ List.mem_of_getElem? hi)
    · exact absurd h0.lt (by omega)
  · have h1 : isC.map (fun i => (ws[i]?).map Prod.fst) = (isC.map (fun i => ws[i]?)).map (fun o => o.map Prod.fst) := by rw [List.map_map]; rfl
    have h2 : w1.map (fun q => some q.1) = (w1.map Prod.fst).map some := by rw [List.map_map]; rfl
    rw [h1, h2, hC, ha, List.map_map, List.map_map]
    rfl
