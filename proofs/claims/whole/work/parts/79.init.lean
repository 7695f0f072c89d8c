set_option maxRecDepth 20000 in
theorem zv_init : zv_I zq_C0 zq_M0 := by
  refine ⟨_, _, _, _, _, _, _, _, _, _, _, _, _, _, _, _, _, _, _, _, _, _, _, _, _, _, _, _, _, _, _, _, _, _, _, _, _, _, _, _, _, _, _, _, _, _, _, _, _, _, _, _, _, _, _, _, _, _, _, _, _, _, _, _, _, _, _, rfl, rfl, ?_⟩
  refine ⟨?_, ?_, ?_, Or.inl ⟨rfl, rfl⟩, ?_, ⟨0, by decide, by decide⟩, ?_, ⟨0, by decide, by decide, fun j hj => absurd hj (by omega)⟩, fun _ => Or.inl rfl⟩
  · refine ⟨1, by decide, by omega, by omega, by unfold upd; rw [if_pos rfl], ?_, ?_, fun _ _ => Or.inl rfl, fun _ _ => ⟨rfl, rfl⟩⟩
    · intro k hk
      have e : k = 0 := by omega
      subst e
      exact ⟨16, by omega, by omega, by unfold upd; rw [if_pos rfl]; decide, by unfold vp_updL; rw [if_pos rfl]; decide⟩
    · intro k hk
      exact Int64.zero_and
  · exact ⟨fun _ => (by decide : zq_j_i2b 0 = 0), fun _ _ => rfl⟩
  · exact ⟨0, by decide, by omega, fun _ => (by decide : 0 ≤ (0 : Int32).toInt ∧ (0 : Int32).toInt ≤ 65535)⟩
  · exact ⟨0, by omega, by decide, fun k hk => absurd hk (by omega)⟩
  · exact ⟨0, 0, by decide, by omega, by decide, by omega, ⟨0, by omega, by decide, Or.inl ⟨rfl, rfl⟩⟩, fun k hk => absurd hk (by omega)⟩
