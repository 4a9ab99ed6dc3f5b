-- the law holds: the relation at the start, and every call
section AL
variable {kw : Nat → Int64}
theorem rel0 : Rel kw s0M (s0C kw) := by
  refine ⟨0, EnvN.none, 0, 0, 0, 0, 0, ⟨rfl, rfl, rfl, ⟨Nat.zero_le _, fun k hk => absurd hk (Nat.not_lt_zero _)⟩, rfl, rfl⟩, progNone ⟨rfl, fun j hj => absurd hj (Nat.not_lt_zero _), fun s _ => rfl, fun s i _ _ hi => absurd hi (Nat.not_lt_zero _), fun i hi => absurd hi (Nat.not_lt_zero _), fun i hi => absurd hi (Nat.not_lt_zero _)⟩ ⟨rfl, fun j hj => absurd hj (Nat.not_lt_zero _), fun s _ => rfl, fun s i _ _ hi => absurd hi (Nat.not_lt_zero _), fun i hi => absurd hi (Nat.not_lt_zero _), fun i hi => absurd hi (Nat.not_lt_zero _)⟩ rfl rfl rfl rfl rfl, ⟨Nat.zero_le _, rfl, rfl, TmOK.zero, fun i hi => absurd hi (Nat.not_lt_zero _), fun k i _ _ => rfl, fun k hk => absurd hk (Nat.not_lt_zero _)⟩, ⟨Nat.zero_le _, Nat.zero_le _, rfl, rfl, rfl, rfl, TmOK.zero, fun i hi => absurd hi (Nat.not_lt_zero _), fun k i hk _ => absurd hk (Nat.not_lt_zero _)⟩, fun q _ i hi => absurd hi (Nat.not_lt_zero _), fun q _ i hi => absurd hi (Nat.not_lt_zero _), Or.inl ⟨rfl, rfl, Or.inl rfl⟩⟩
theorem lawOK (hkw : kwOK kw) : LawOK (Rel kw) := ⟨ok_feed, ok_trim, ok_compile hkw, ok_errorAt, ok_count, ok_set, ok_tick, ok_back, ok_restart, ok_keep, ok_replay, ok_time, ok_signal, ok_value, ok_let, ok_watch, ok_told, ok_alarms, ok_why, ok_differ, ok_share, ok_ask hkw, ok_answer, ok_digest⟩
theorem packSome : ∃ kw, FX9_pack = some kw := by
  cases h : FX9_pack with
  | some kw => exact ⟨kw, rfl⟩
  | none =>
    have : FX9_pack.isSome = true := by decide +kernel
    rw [h] at this
    cases this
end AL
