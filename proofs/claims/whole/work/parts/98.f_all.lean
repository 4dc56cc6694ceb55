/-! the start, and all calls -/
theorem R_start : R 0 kX0 kM0 := by
  refine ⟨⟨0, fun _ => 0, ⟨by decide, rfl, fun j hj => absurd hj (Nat.not_lt_zero j)⟩, ⟨by decide, rfl, fun j hj => absurd hj (Nat.not_lt_zero j)⟩⟩, rfl, ⟨by decide, by decide⟩, 0, Nat.le_refl 0, rfl, rfl, Or.inl ⟨rfl, rfl, rfl, rfl, rfl, rfl, rfl, rfl⟩⟩
theorem sim_all : kSim R := ⟨sim_letters, sim_blank, sim_fault, sim_ring, sim_aim, sim_letter, sim_house, sim_as, sim_at, sim_feud, sim_touch, sim_joins, sim_walk, sim_night, sim_nights, sim_seed, sim_apart, sim_choose, sim_fewest, sim_surely, sim_odds, sim_ways, sim_must, sim_image, sim_restore, sim_count, sim_digest⟩
