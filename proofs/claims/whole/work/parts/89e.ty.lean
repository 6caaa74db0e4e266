theorem pm_e {f : Nat → Bool} : pm f 0 = 0 := rfl
theorem inv0 : INV c0S m0 := by
  refine ⟨⟨4, 0, fun _ => 0, fun _ => 0, fun _ => false, 0, 0, 0, 0, 0, ?_, ?_⟩, ⟨0, fun _ => 1, ?_⟩, ⟨0, fun _ => false, fun _ _ => 0, ?_⟩, ⟨0, fun _ => 0, fun _ => 0, fun _ => false, 1, 0, ?_, ?_⟩, ⟨0, fun _ => 0, fun _ => 0, 0, ?_⟩, ⟨3, fun _ _ => false, ?_⟩⟩
  · refine ⟨by decide, rfl, rfl, rfl, rfl, fun k hk => absurd hk (Nat.not_lt_zero k), fun i j hi => absurd hi (Nat.not_lt_zero i), fun k hk => absurd hk (Nat.not_lt_zero k), fun k hk => absurd hk (Nat.not_lt_zero k), fun q _ => rfl, fun k _ => ?_, fun k hk => absurd hk (Nat.not_lt_zero k), fun k hk => absurd hk (Nat.not_lt_zero k), fun k hk => absurd hk (Nat.not_lt_zero k)⟩
    rw [if_neg (Nat.not_lt_zero k)]
    rfl
  · exact ⟨rfl, rfl, rfl, by decide, rfl, rfl, by decide, rfl, by decide, fun _ => rfl, fun _ => rfl, fun _ k hk => absurd hk (Nat.not_lt_zero k), fun k hk => absurd hk (Nat.not_lt_zero k), Or.inl rfl, fun h => absurd rfl h, fun h => by rcases h with h | h <;> exact absurd h (by decide), fun h => absurd h (by decide), fun h => absurd h (by decide)⟩
  · exact ⟨by decide, rfl, rfl, rfl, fun k hk => absurd hk (Nat.not_lt_zero k)⟩
  · exact ⟨by decide, fun q hq => absurd hq (Nat.not_lt_zero q), rfl, rfl, rfl, fun q hq => absurd hq (Nat.not_lt_zero q)⟩
  · exact ⟨by decide, rfl, rfl, rfl, fun k hk => absurd hk (Nat.not_lt_zero k)⟩
  · refine ⟨by decide, by decide, rfl, fun _ => ⟨by decide, fun j _ => ?_⟩, fun s2 v2 h1 h2 h3 h4 => ?_⟩
    · rw [Nat.mod_one]
      rfl
    · omega
  · refine ⟨by decide, by decide, rfl, rfl, rfl, rfl, fun k hk => absurd hk (Nat.not_lt_zero k), ?_⟩
    show (-1 : Int64) = _
    rw [lN_m1]
    exact congrArg lN (pm_cong (fun _ _ => rfl))
  · exact ⟨by decide, by decide, fun _ _ e => absurd e Bool.false_ne_true, ⟨rfl, fun x hx => by rw [show pm (fun _ => false) 5 = 0 from pm_0 5]; rfl⟩, ⟨rfl, fun j _ x _ => rfl⟩⟩
