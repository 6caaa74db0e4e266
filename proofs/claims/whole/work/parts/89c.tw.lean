section TW
variable {L : Nat} {xs : Nat → Int32} {k28 : Nat → Nat → Int32 → LSt → Option Bool} {kc ks : Nat} {v5 : Int32} {S : LSt}
theorem u_8 (hI : INV S.2.1 S.1) (hq : qs3 L v5) (hc : kc + 1601 ≤ room_1.cells) (hs : ks + 10400 ≤ room_1.slots) : okT k28 kc ks v5 S (f_L_law_734 L xs k28 kc ks v5 S) := by
  obtain ⟨v, h1, h2⟩ := D_answers hI.1
  have e2 : f_L_law_734 L xs k28 kc ks v5 S = k28 (kc + 0) (ks + 0) (v5 + 4) (mset S.1 0 0, S.2) := by
    unfold f_L_law_734
    rw [if_pos ⟨by omega, by omega⟩, h2]
    exact (Option.bind_some _ _).trans (if_pos h1)
  exact okT.mk e2 (INV.m0 hI) (by decide) (by decide)
theorem u_36 (hI : INV S.2.1 S.1) (hq : qs3 L v5) (hc : kc + 1601 ≤ room_1.cells) (hs : ks + 10400 ≤ room_1.slots) : okT k28 kc ks v5 S (f_L_law_2172 L xs k28 kc ks v5 S) := by
  obtain ⟨v, h1, h2⟩ := D_possible hI.2.2.2.2.1
  have e2 : f_L_law_2172 L xs k28 kc ks v5 S = k28 (kc + 340) (ks + 1360) (v5 + 4) (mset S.1 0 0, S.2) := by
    unfold f_L_law_2172
    rw [if_pos ⟨by omega, by omega⟩, h2]
    exact (Option.bind_some _ _).trans (if_pos h1)
  exact okT.mk e2 (INV.m0 hI) (by decide) (by decide)
theorem u_11 (hI : INV S.2.1 S.1) (hq : qs3 L v5) (hc : kc + 1601 ≤ room_1.cells) (hs : ks + 10400 ≤ room_1.slots) : okT k28 kc ks v5 S (f_L_law_866 L xs k28 kc ks v5 S) := by
  obtain ⟨v, h1, h2⟩ := D_alive hI.1
  have e2 : f_L_law_866 L xs k28 kc ks v5 S = k28 (kc + 1) (ks + 4) (v5 + 4) (mset S.1 0 0, S.2) := by
    unfold f_L_law_866
    rw [if_pos ⟨by omega, by omega⟩, h1, h2]
    exact (Option.bind_some _ _).trans ((Option.bind_some _ _).trans (if_pos rfl))
  exact okT.mk e2 (INV.m0 hI) (by decide) (by decide)
theorem u_17 (hI : INV S.2.1 S.1) (hq : qs3 L v5) (hc : kc + 1601 ≤ room_1.cells) (hs : ks + 10400 ≤ room_1.slots) : okT k28 kc ks v5 S (f_L_law_1130 L xs k28 kc ks v5 S) := by
  obtain ⟨v, h1, h2⟩ := D_dimension hI.1
  have e2 : f_L_law_1130 L xs k28 kc ks v5 S = k28 (kc + 140) (ks + 4760) (v5 + 4) (mset S.1 0 0, S.2) := by
    unfold f_L_law_1130
    rw [if_pos ⟨by omega, by omega⟩, h1, h2]
    exact (Option.bind_some _ _).trans ((Option.bind_some _ _).trans (if_pos rfl))
  exact okT.mk e2 (INV.m0 hI) (by decide) (by decide)
theorem u_37 (hI : INV S.2.1 S.1) (hq : qs3 L v5) (hc : kc + 1601 ≤ room_1.cells) (hs : ks + 10400 ≤ room_1.slots) : okT k28 kc ks v5 S (f_L_law_2185 L xs k28 kc ks v5 S) := by
  obtain ⟨v, h1, h2⟩ := D_nextCode hI.2.2.2.2.1
  have e2 : f_L_law_2185 L xs k28 kc ks v5 S = k28 (kc + 345) (ks + 1380) (v5 + 4) (mset S.1 0 0, S.2) := by
    unfold f_L_law_2185
    rw [if_pos ⟨by omega, by omega⟩, h1, h2]
    exact (Option.bind_some _ _).trans ((Option.bind_some _ _).trans (if_pos rfl))
  exact okT.mk e2 (INV.m0 hI) (by decide) (by decide)
theorem u_19 (hI : INV S.2.1 S.1) (hq : qs3 L v5) (hc : kc + 1601 ≤ room_1.cells) (hs : ks + 10400 ≤ room_1.slots) : okT k28 kc ks v5 S (f_L_law_1199 L xs k28 kc ks v5 S) := by
  obtain ⟨v, S1, h1, h2, hf⟩ := D_depth hI.1
  have e2 : f_L_law_1199 L xs k28 kc ks v5 S = k28 (kc + 0) (ks + 0) (v5 + 4) (mset S.1 0 0, S1, S.2.2) := by
    unfold f_L_law_1199
    rw [if_pos ⟨by omega, by omega⟩, h1]
    refine (Option.bind_some _ _).trans ?_
    show ((f_X9_depth S.1).bind _) = _
    rw [h2]
    exact (Option.bind_some _ _).trans (if_pos rfl)
  exact okT.mk e2 (INV.D hI (hf.mono (by decide))) (by decide) (by decide)
theorem u_20 (hI : INV S.2.1 S.1) (hq : qs3 L v5) (hc : kc + 1601 ≤ room_1.cells) (hs : ks + 10400 ≤ room_1.slots) : okT k28 kc ks v5 S (f_L_law_1212 L xs k28 kc ks v5 S) := by
  obtain ⟨v, S1, h1, h2, hf⟩ := D_mistakes hI.1
  have e2 : f_L_law_1212 L xs k28 kc ks v5 S = k28 (kc + 0) (ks + 0) (v5 + 4) (mset S.1 0 0, S1, S.2.2) := by
    unfold f_L_law_1212
    rw [if_pos ⟨by omega, by omega⟩, h1]
    refine (Option.bind_some _ _).trans ?_
    show ((f_X9_mistakes S.1).bind _) = _
    rw [h2]
    exact (Option.bind_some _ _).trans (if_pos rfl)
  exact okT.mk e2 (INV.D hI (hf.mono (by decide))) (by decide) (by decide)
theorem u_40 (hI : INV S.2.1 S.1) (hq : qs3 L v5) (hc : kc + 1601 ≤ room_1.cells) (hs : ks + 10400 ≤ room_1.slots) : okT k28 kc ks v5 S (f_L_law_2322 L xs k28 kc ks v5 S) := by
  obtain ⟨v, S1, h1, h2, hf⟩ := D_orders hI.2.2.2.2.2
  have e2 : f_L_law_2322 L xs k28 kc ks v5 S = k28 (kc + 0) (ks + 0) (v5 + 4) (mset S.1 0 0, S1, S.2.2) := by
    unfold f_L_law_2322
    rw [if_pos ⟨by omega, by omega⟩, h1]
    refine (Option.bind_some _ _).trans ?_
    show ((f_X9_orders_ S.1).bind _) = _
    rw [h2]
    exact (Option.bind_some _ _).trans (if_pos rfl)
  exact okT.mk e2 (INV.D hI (hf.mono (by decide))) (by decide) (by decide)
theorem u_42 (hI : INV S.2.1 S.1) (hq : qs3 L v5) (hc : kc + 1601 ≤ room_1.cells) (hs : ks + 10400 ≤ room_1.slots) : okT k28 kc ks v5 S (f_L_law_2379 L xs k28 kc ks v5 S) := by
  obtain ⟨v, S1, h1, h2, hf⟩ := D_checksum hI.1 hI.2.1 hI.2.2.2.2.1 hI.2.2.2.2.2
  have e2 : f_L_law_2379 L xs k28 kc ks v5 S = k28 (kc + 342) (ks + 1368) (v5 + 4) (mset S.1 0 0, S1, S.2.2) := by
    unfold f_L_law_2379
    rw [if_pos ⟨by omega, by omega⟩, h1]
    refine (Option.bind_some _ _).trans ?_
    show ((f_X9_checksum S.1).bind _) = _
    rw [h2]
    exact (Option.bind_some _ _).trans (if_pos (lg0.mpr rfl))
  exact okT.mk e2 (INV.D hI (hf.mono (by decide))) (by decide) (by decide)
theorem u_45 (hI : INV S.2.1 S.1) (hq : qs3 L v5) (hc : kc + 1601 ≤ room_1.cells) (hs : ks + 10400 ≤ room_1.slots) : okT k28 kc ks v5 S (f_L_law_2524 L xs k28 kc ks v5 S) := by
  obtain ⟨S1, h1, hf⟩ := D_isSound hI.1 hI.2.2.2.2.1
  have e2 : f_L_law_2524 L xs k28 kc ks v5 S = k28 (kc + 0) (ks + 0) (v5 + 4) (mset S.1 0 0, S1, S.2.2) := by
    unfold f_L_law_2524
    rw [if_pos ⟨by omega, by omega⟩, h1]
    refine (Option.bind_some _ _).trans ?_
    show ((f_X9_isSound S.1).bind _) = _
    unfold f_X9_isSound
    exact (Option.bind_some _ _).trans (if_pos rfl)
  exact okT.mk e2 (INV.D hI (hf.mono (by decide))) (by decide) (by decide)
theorem u_30 (hI : INV S.2.1 S.1) (hq : qs3 L v5) (hc : kc + 1601 ≤ room_1.cells) (hc5 : S.1.2.1 2 = 5 → kc + 1621 ≤ room_1.cells) (hs : ks + 10400 ≤ room_1.slots) : okT k28 kc ks v5 S (f_L_law_1825 L xs k28 kc ks v5 S) := by
  obtain ⟨S1, M1, fo1, hP, e⟩ := turn_I (T_leastStates hI.2.2.1 S.2.2.1) S.2.2.2 (fun X => k28 (kc + ((1 + lstK S.1) + 0)) (ks + ((6 + 5 * lstK S.1) + 0)) (v5 + 4) X)
  have hk : (S.1.2.1 2 = 5 ∧ lstK S.1 = 1620) ∨ (S.1.2.1 2 ≠ 5 ∧ lstK S.1 = 972) := by
    unfold lstK
    by_cases c : S.1.2.1 2 = 5
    · exact Or.inl ⟨c, if_pos c⟩
    · exact Or.inr ⟨c, if_neg c⟩
  have e2 : f_L_law_1825 L xs k28 kc ks v5 S = k28 (kc + ((1 + lstK S.1) + 0)) (ks + ((6 + 5 * lstK S.1) + 0)) (v5 + 4) (M1, S1, fo1, S.2.2.2) := by
    unfold f_L_law_1825
    rw [if_pos ⟨by rcases hk with ⟨a, b⟩ | ⟨a, b⟩ <;> first | (have := hc5 a; omega) | omega, by rcases hk with ⟨a, b⟩ | ⟨a, b⟩ <;> omega⟩]
    exact e
  have hS := INV.same hI hP
  refine ⟨_, _, _, e2, hS.1, by rw [hS.2]; exact Nat.le_refl _, ?_, ?_⟩
  · show kc + ((1 + lstK S.1) + 0) + 1591 * M1.2.1 2 ≤ kc + 1591 * S.1.2.1 2 + 1601 + (if M1.2.1 2 = 5 then 20 else 0)
    rw [hS.2]
    rcases hk with ⟨a, b⟩ | ⟨a, b⟩
    · rw [if_pos a, b]; omega
    · rw [if_neg a, b]; omega
  · rcases hk with ⟨a, b⟩ | ⟨a, b⟩ <;> rw [b] <;> omega
theorem u_23 (hI : INV S.2.1 S.1) (hq : qs3 L v5) (hc : kc + 1601 ≤ room_1.cells) (hs : ks + 10400 ≤ room_1.slots) : okT k28 kc ks v5 S (f_L_law_1337 L xs k28 kc ks v5 S) := by
  have key : ∀ b : Bool, ∃ (S1 : CS) (M1 : MS) (fo1 : Nat → Int64), f_L_law_1358 L xs k28 kc ks v5 (q_b b) (xs (v5 + (1 : Int32)).toNatClampNeg) S = f_L_law_1358 L xs k28 kc ks v5 (q_b b) (xs (v5 + (1 : Int32)).toNatClampNeg) S → (if (xs (v5 + (2 : Int32)).toNatClampNeg) = 0 then q_b b = 0 else q_b b = 1) → f_L_law_1358 L xs k28 kc ks v5 (q_b b) (xs (v5 + (1 : Int32)).toNatClampNeg) S = k28 (kc + 1) (ks + 6) (v5 + 4) (M1, S1, fo1, S.2.2.2) ∧ (RelX S1 M1 ∧ Fr [4, 14, 15] S.2.1 S1 ∧ Mr [0, 10] [1] S.1 M1) := by
    intro b
    obtain ⟨S1, M1, fo1, hP, e⟩ := turn_B (T_round hI.2.1 (xs (v5 + (1 : Int32)).toNatClampNeg) b S.2.2.1) S.2.2.2 (fun X => k28 (kc + 1) (ks + 6) (v5 + 4) X)
    refine ⟨S1, M1, fo1, fun _ hb => ⟨?_, hP⟩⟩
    unfold f_L_law_1358
    rw [if_pos ⟨by omega, by omega⟩]
    have g3 : kc + 1 + 0 ≤ room_1.cells ∧ ks + 6 + 0 ≤ room_1.slots := ⟨by omega, by omega⟩
    unfold f_L_law_1385
    by_cases c : (xs (v5 + (2 : Int32)).toNatClampNeg) = 0
    · rw [if_pos c] at hb
      simp only [if_pos hq.1, if_pos hq.2.1, if_pos c, if_pos g3]
      rw [hb] at e ⊢
      exact e
    · rw [if_neg c] at hb
      simp only [if_pos hq.1, if_pos hq.2.1, if_neg c, if_pos g3]
      rw [hb] at e ⊢
      exact e
  have e0 : f_L_law_1337 L xs k28 kc ks v5 S = if (xs (v5 + (2 : Int32)).toNatClampNeg) = 0 then f_L_law_1358 L xs k28 kc ks v5 0 (xs (v5 + (1 : Int32)).toNatClampNeg) S else f_L_law_1358 L xs k28 kc ks v5 1 (xs (v5 + (1 : Int32)).toNatClampNeg) S := by
    unfold f_L_law_1337
    rw [if_pos ⟨by omega, by omega⟩, if_pos hq.1, if_pos hq.2.1]
  rw [e0]
  by_cases c : (xs (v5 + (2 : Int32)).toNatClampNeg) = 0
  · obtain ⟨S1, M1, fo1, h⟩ := key false
    obtain ⟨h1, h2⟩ := h rfl (by rw [if_pos c]; rfl)
    rw [if_pos c]
    exact okT.mk (c := 1) (s := 6) h1 (INV.X hI h2) (by decide) (by decide)
  · obtain ⟨S1, M1, fo1, h⟩ := key true
    obtain ⟨h1, h2⟩ := h rfl (by rw [if_neg c]; rfl)
    rw [if_neg c]
    exact okT.mk (c := 1) (s := 6) h1 (INV.X hI h2) (by decide) (by decide)
theorem u_26 (hI : INV S.2.1 S.1) (hq : qs3 L v5) (hc : kc + 1601 ≤ room_1.cells) (hs : ks + 10400 ≤ room_1.slots) : okT k28 kc ks v5 S (f_L_law_1528 L xs k28 kc ks v5 S) := by
  have key : ∀ b : Int32, (if (xs (v5 + (1 : Int32)).toNatClampNeg) = 0 then b = 0 else b = 1) → okT k28 kc ks v5 S (f_L_law_1543 L xs k28 kc ks v5 b S) := by
    intro b hb
    obtain ⟨S1, M1, fo1, hP, e⟩ := turn_I (T_state hI.2.2.1 b S.2.2.1) S.2.2.2 (fun X => k28 (kc + 1 + 2) (ks + 6 + 103) (v5 + 4) X)
    have e2 : f_L_law_1543 L xs k28 kc ks v5 b S = k28 (kc + 1 + 2) (ks + 6 + 103) (v5 + 4) (M1, S1, fo1, S.2.2.2) := by
      unfold f_L_law_1543
      rw [if_pos ⟨by omega, by omega⟩]
      have g3 : kc + 1 + 2 ≤ room_1.cells ∧ ks + 6 + 103 ≤ room_1.slots := ⟨by omega, by omega⟩
      unfold f_L_law_1564
      by_cases c : (xs (v5 + (1 : Int32)).toNatClampNeg) = 0
      · rw [if_pos c] at hb
        subst hb
        simp only [if_pos hq.1, if_pos c, if_pos g3]
        exact e
      · rw [if_neg c] at hb
        subst hb
        simp only [if_pos hq.1, if_neg c, if_pos g3]
        exact e
    refine ⟨_, _, _, e2, INV.St hI hP.1 hP.2.1 hP.2.2.1, hP.2.2.2.1, ?_, by omega⟩
    have h1 := hP.2.2.2.2
    show kc + 1 + 2 + 1591 * M1.2.1 2 ≤ kc + 1591 * S.1.2.1 2 + 1601 + (if M1.2.1 2 = 5 then 20 else 0)
    omega
  have e0 : f_L_law_1528 L xs k28 kc ks v5 S = if (xs (v5 + (1 : Int32)).toNatClampNeg) = 0 then f_L_law_1543 L xs k28 kc ks v5 0 S else f_L_law_1543 L xs k28 kc ks v5 1 S := by
    unfold f_L_law_1528
    rw [if_pos ⟨by omega, by omega⟩, if_pos hq.1]
  rw [e0]
  by_cases c : (xs (v5 + (1 : Int32)).toNatClampNeg) = 0
  · rw [if_pos c]
    exact key 0 (by rw [if_pos c])
  · rw [if_neg c]
    exact key 1 (by rw [if_neg c])
theorem u_31 (hI : INV S.2.1 S.1) (hq : qs3 L v5) (hc : kc + 1601 ≤ room_1.cells) (hs : ks + 10400 ≤ room_1.slots) : okT k28 kc ks v5 S (f_L_law_1869 L xs k28 kc ks v5 S) := by
  have key : ∀ b : Int32, (if (xs (v5 + (3 : Int32)).toNatClampNeg) = 0 then b = 0 else b = 1) → okT k28 kc ks v5 S (f_L_law_1896 L xs k28 kc ks v5 b (xs (v5 + (2 : Int32)).toNatClampNeg) (xs (v5 + (1 : Int32)).toNatClampNeg) S) := by
    intro b hb
    obtain ⟨S1, M1, fo1, hP, e⟩ := turn_I (T_sample hI.2.2.2.1 (xs (v5 + (1 : Int32)).toNatClampNeg) (xs (v5 + (2 : Int32)).toNatClampNeg) b S.2.2.1) S.2.2.2 (fun X => k28 (kc + 1 + 3) (ks + 6 + 107) (v5 + 4) X)
    have e2 : f_L_law_1896 L xs k28 kc ks v5 b (xs (v5 + (2 : Int32)).toNatClampNeg) (xs (v5 + (1 : Int32)).toNatClampNeg) S = k28 (kc + 1 + 3) (ks + 6 + 107) (v5 + 4) (M1, S1, fo1, S.2.2.2) := by
      unfold f_L_law_1896
      rw [if_pos ⟨by omega, by omega⟩]
      have g3 : kc + 1 + 3 ≤ room_1.cells ∧ ks + 6 + 107 ≤ room_1.slots := ⟨by omega, by omega⟩
      unfold f_L_law_1929
      by_cases c : (xs (v5 + (3 : Int32)).toNatClampNeg) = 0
      · rw [if_pos c] at hb
        subst hb
        simp only [if_pos hq.1, if_pos hq.2.1, if_pos hq.2.2, if_pos c, if_pos g3]
        exact e
      · rw [if_neg c] at hb
        subst hb
        simp only [if_pos hq.1, if_pos hq.2.1, if_pos hq.2.2, if_neg c, if_pos g3]
        exact e
    have hW := INV.W hI hP (by decide)
    refine ⟨_, _, _, e2, hW.1, by rw [hW.2]; exact Nat.le_refl _, ?_, by omega⟩
    show kc + 1 + 3 + 1591 * M1.2.1 2 ≤ kc + 1591 * S.1.2.1 2 + 1601 + (if M1.2.1 2 = 5 then 20 else 0)
    rw [hW.2]
    omega
  have e0 : f_L_law_1869 L xs k28 kc ks v5 S = if (xs (v5 + (3 : Int32)).toNatClampNeg) = 0 then f_L_law_1896 L xs k28 kc ks v5 0 (xs (v5 + (2 : Int32)).toNatClampNeg) (xs (v5 + (1 : Int32)).toNatClampNeg) S else f_L_law_1896 L xs k28 kc ks v5 1 (xs (v5 + (2 : Int32)).toNatClampNeg) (xs (v5 + (1 : Int32)).toNatClampNeg) S := by
    unfold f_L_law_1869
    rw [if_pos ⟨by omega, by omega⟩, if_pos hq.1, if_pos hq.2.1, if_pos hq.2.2]
  rw [e0]
  by_cases c : (xs (v5 + (3 : Int32)).toNatClampNeg) = 0
  · rw [if_pos c]
    exact key 0 (by rw [if_pos c])
  · rw [if_neg c]
    exact key 1 (by rw [if_neg c])
theorem turn_S {F : Option (Int32 × (Nat → UInt64) × CS)} {fd : Nat → UInt64} {G : Option (UInt32 × MS)} {code : Int32} {r : UInt32} {S1 : CS} {M1 : MS} (hF : TF F fd code (FP.f2d r) S1) (hG : G = some (r, M1)) (h0 : M1.1 0 = code) (hd : code = 0 → okD (FP.f2d r)) (fo : Nat → Int64) (K : LSt → Option Bool) (Y : (Int32 × (Nat → UInt64) × CS) → (UInt32 × MS) → Option Bool) : ∃ fd' : Nat → UInt64, (F.bind fun u => (G.bind fun v => ((f_X9_thrown v.2).bind fun z => (if z = u.1 then (if u.1 = 0 then (if q_n64 (FP.f2d v.1) then (if (Op.cmpValue (FP.dcmp (u.2.1 0) (FP.f2d v.1)) .l) = 0 then K (v.2, u.2.2, fo, u.2.1) else Y u v) else none) else K (v.2, u.2.2, fo, u.2.1)) else some false)))) = K (M1, S1, fo, fd') := by
  refine ⟨if code = 0 then vf_upd fd 0 (FP.f2d r) else fd, ?_⟩
  have hF' : F = some (code, (if code = 0 then vf_upd fd 0 (FP.f2d r) else fd), S1) := hF
  rw [hF', hG]
  show ((f_X9_thrown M1).bind fun z => (if z = code then (if code = 0 then (if q_n64 (FP.f2d r) then (if (Op.cmpValue (FP.dcmp ((if code = 0 then vf_upd fd 0 (FP.f2d r) else fd) 0) (FP.f2d r)) .l) = 0 then K (M1, S1, fo, (if code = 0 then vf_upd fd 0 (FP.f2d r) else fd)) else Y (code, (if code = 0 then vf_upd fd 0 (FP.f2d r) else fd), S1) (r, M1)) else none) else K (M1, S1, fo, (if code = 0 then vf_upd fd 0 (FP.f2d r) else fd))) else some false)) = _
  rw [thr, h0]
  refine (Option.bind_some _ _).trans ((if_pos rfl).trans ?_)
  by_cases c : code = 0
  · obtain ⟨d1, d2⟩ := hd c
    refine (if_pos c).trans ((if_pos d1).trans (if_pos ?_))
    rw [if_pos c, show vf_upd fd 0 (FP.f2d r) 0 = FP.f2d r from if_pos rfl]
    exact d2
  · exact if_neg c
theorem turn_M {F : Option (Int32 × (Nat → UInt64) × CS)} {fd : Nat → UInt64} {G : Option (UInt64 × MS)} {code : Int32} {r : UInt64} {S1 : CS} {M1 : MS} (hF : TF F fd code r S1) (hG : G = some (r, M1)) (h0 : M1.1 0 = code) (hd : code = 0 → okD r) (fo : Nat → Int64) (K : LSt → Option Bool) (Y : (Int32 × (Nat → UInt64) × CS) → (UInt64 × MS) → Option Bool) : ∃ fd' : Nat → UInt64, (F.bind fun u => (G.bind fun v => ((f_X9_thrown v.2).bind fun z => (if z = u.1 then (if u.1 = 0 then (if (Op.cmpValue (FP.dcmp (u.2.1 0) v.1) .l) = 0 then K (v.2, u.2.2, fo, u.2.1) else Y u v) else K (v.2, u.2.2, fo, u.2.1)) else some false)))) = K (M1, S1, fo, fd') := by
  refine ⟨if code = 0 then vf_upd fd 0 r else fd, ?_⟩
  have hF' : F = some (code, (if code = 0 then vf_upd fd 0 r else fd), S1) := hF
  rw [hF', hG]
  show ((f_X9_thrown M1).bind fun z => (if z = code then (if code = 0 then (if (Op.cmpValue (FP.dcmp ((if code = 0 then vf_upd fd 0 r else fd) 0) r) .l) = 0 then K (M1, S1, fo, (if code = 0 then vf_upd fd 0 r else fd)) else Y (code, (if code = 0 then vf_upd fd 0 r else fd), S1) (r, M1)) else K (M1, S1, fo, (if code = 0 then vf_upd fd 0 r else fd))) else some false)) = _
  rw [thr, h0]
  refine (Option.bind_some _ _).trans ((if_pos rfl).trans ?_)
  by_cases c : code = 0
  · obtain ⟨d1, d2⟩ := hd c
    refine (if_pos c).trans (if_pos ?_)
    rw [if_pos c, show vf_upd fd 0 r 0 = r from if_pos rfl]
    exact d2
  · exact if_neg c
theorem u_43 (hI : INV S.2.1 S.1) (hq : qs3 L v5) (hc : kc + 1601 ≤ room_1.cells) (hs : ks + 10400 ≤ room_1.slots) : okT k28 kc ks v5 S (f_L_law_2393 L xs k28 kc ks v5 S) := by
  obtain ⟨code, r, M1, hF, hG, h0, hd, hm⟩ := T_share hI.1 S.2.2.2
  obtain ⟨fd', e⟩ := turn_S hF hG h0 hd S.2.2.1 (fun X => k28 (kc + 2) (ks + 10) (v5 + 4) X) (fun u v => (if (Op.cmpValue (FP.dcmp (u.2.1 0) (u.2.1 0)) .l) = 0 then some false else (if (Op.cmpValue (FP.fcmp v.1 v.1) .l) = 0 then some false else k28 (kc + 2) (ks + 10) (v5 + 4) (v.2, u.2.2, S.2.2.1, u.2.1))))
  have e2 : f_L_law_2393 L xs k28 kc ks v5 S = k28 (kc + 2) (ks + 10) (v5 + 4) (M1, S.2.1, S.2.2.1, fd') := by
    unfold f_L_law_2393
    rw [if_pos ⟨by omega, by omega⟩]
    exact e
  exact okT.mk e2 (INV.same hI ⟨rfl, hm⟩) (by decide) (by decide)
theorem u_44 (hI : INV S.2.1 S.1) (hq : qs3 L v5) (hc : kc + 1601 ≤ room_1.cells) (hs : ks + 10400 ≤ room_1.slots) : okT k28 kc ks v5 S (f_L_law_2459 L xs k28 kc ks v5 S) := by
  obtain ⟨code, r, M1, hF, hG, h0, hd, hm⟩ := T_mean hI.1 S.2.2.2
  obtain ⟨fd', e⟩ := turn_M hF hG h0 hd S.2.2.1 (fun X => k28 (kc + 1) (ks + 6) (v5 + 4) X) (fun u v => (if (Op.cmpValue (FP.dcmp (u.2.1 0) (u.2.1 0)) .l) = 0 then some false else (if (Op.cmpValue (FP.dcmp v.1 v.1) .l) = 0 then some false else k28 (kc + 1) (ks + 6) (v5 + 4) (v.2, u.2.2, S.2.2.1, u.2.1))))
  have e2 : f_L_law_2459 L xs k28 kc ks v5 S = k28 (kc + 1) (ks + 6) (v5 + 4) (M1, S.2.1, S.2.2.1, fd') := by
    unfold f_L_law_2459
    rw [if_pos ⟨by omega, by omega⟩]
    exact e
  exact okT.mk e2 (INV.same hI ⟨rfl, hm⟩) (by decide) (by decide)
end TW
