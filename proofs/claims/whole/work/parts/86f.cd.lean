section PCD
variable {S : CS} {M : MS} {x0 n : Nat} {gs : Nat → Nat} {hs : Nat → Int32}
theorem RK.poss (h : RKs S M x0 gs hs n) {k : Nat} (hk : k < 334) : f_X9_isPossible M (nI k) = some (isK k && lf gs hs n (rk k)) := by
  have hn := h.2.1
  have hmn : M.2.1 4 = n := h.2.2.2.2.2.1
  obtain ⟨k1, k2⟩ := code_a k hk
  unfold f_X9_isPossible
  rw [k1]
  have key := pu_for0 (W := fun m i => f_X9_isPossible_15 M m (nI k) (q_b (isK k && lf gs hs i (rk k))) (nI i) (M.1 24) = some (isK k && lf gs hs n (rk k))) (e := n) (n := 1000) (by omega) (fun m => ?_) (fun m i hi ih => ?_)
  · have l0 : lf gs hs 0 (rk k) = true := rfl
    rw [l0, Bool.and_true] at key
    exact key
  · show f_X9_isPossible_15b _ _ _ _ _ _ = _
    unfold f_X9_isPossible_15b
    rw [hmn, if_pos it_end]
    cases isK k && lf gs hs n (rk k)
    · rfl
    · rfl
  · obtain ⟨g1, g2, g3, g4⟩ := h.2.2.2.2.2.2.1 i hi
    show f_X9_isPossible_15b _ _ _ _ _ _ = _
    unfold f_X9_isPossible_15b f_X9_isPossible_58 f_X9_isPossible_59
    rw [hmn, if_neg (it_go hi (by omega)), if_pos (it_in hi (by omega) rfl), nI_1]
    rw [lf_succ, ← Bool.and_assoc] at ih
    cases hb : isK k && lf gs hs i (rk k)
    · rw [hb, Bool.false_and] at ih
      rw [if_pos (by decide)]
      exact ih
    · rw [hb, Bool.true_and] at ih
      have hk1 : isK k = true := ((Bool.and_eq_true _ _).mp hb).1
      obtain ⟨r1, r2⟩ := k2 hk1
      have eh := (hintE r1 g1).2
      rw [r2] at eh
      have hcl : (nI i).toNatClampNeg = i := nI_clamp (by omega)
      rw [if_neg (by decide), hcl, if_pos hi, g2, eh]
      simp only [Option.bind_some]
      rw [if_pos hi, g3]
      by_cases e : hvF (rk k) (gs i) = hs i
      · rw [decide_eq_true e] at ih
        rw [if_pos e]
        exact ih
      · rw [decide_eq_false e] at ih
        rw [if_neg e]
        exact ih
theorem RK.cnt (l : Nat → Bool) : ∀ k, k ≤ 334 → fb_ct (fun j => isK j && l (rk j)) k = fb_ct l (rk k)
  | 0, _ => rfl
  | k + 1, h => by
    have ih := RK.cnt l k (by omega)
    have er : rk (k + 1) = rk k + (if isK k then 1 else 0) := fb_ct_succ _ _
    rw [fb_ct_succ, ih, er]
    cases hb : isK k
    · rfl
    · rw [if_pos rfl, fb_ct_succ]
      rfl
theorem RK.pcs (h : RKs S M x0 gs hs n) : f_X9_possibleCodes M = some (nI (fb_ct (lf gs hs n) 64)) := by
  have key := pu_for0 (W := fun m i => f_X9_possibleCodes_4 M m (nI (fb_ct (fun j => isK j && lf gs hs n (rk j)) i)) (nI i) = some (nI (fb_ct (fun j => isK j && lf gs hs n (rk j)) 334))) (e := 334) (n := 340) (by omega) (fun m => ?_) (fun m i hi ih => ?_)
  · rw [RK.cnt _ 334 (Nat.le_refl _), show rk 334 = 64 from code_n] at key
    exact key
  · show f_X9_possibleCodes_4b _ _ _ _ = _
    unfold f_X9_possibleCodes_4b
    rw [if_pos (show (333 : Int32) < nI 334 from nI_lt (a := 333) (by decide) (by decide))]
  · show f_X9_possibleCodes_4b _ _ _ _ = _
    unfold f_X9_possibleCodes_4b f_X9_possibleCodes_25
    rw [if_neg (show ¬ (333 : Int32) < nI i from nI_nlt (b := i) (a := 333) (by omega) (by decide)), h.poss hi]
    simp only [Option.bind_some]
    rw [fb_ct_succ] at ih
    cases hb : isK i && lf gs hs n (rk i)
    · rw [hb, if_neg (by decide), Nat.add_zero] at ih
      rw [if_pos (by decide), Int32.add_zero, nI_1]
      exact ih
    · rw [hb, if_pos rfl] at ih
      rw [if_neg (by decide), nI_1, nI_1]
      exact ih
theorem D_possible (h : RelK S M) : ∃ v : Int32, f_X8_possible S = v ∧ f_X9_possible M = some (v, mset M 0 0) := by
  obtain ⟨x0, gs, hs, n, hK⟩ := h
  refine ⟨nI (fb_ct (lf gs hs n) 64), ?_, ?_⟩
  · unfold f_X8_possible
    rw [hK.2.2.2.2.2.2.2, bitCount_pm64 _ (Nat.le_refl 64)]
  · unfold f_X9_possible
    rw [(hK.m0 0).pcs]
    rfl
theorem D_nextCode (h : RelK S M) : ∃ v : Int32, f_X8_nextCode S = some v ∧ f_X9_nextCode M = some (v, mset M 0 0) := by
  obtain ⟨x0, gs, hs, n, hK⟩ := h
  have hx0 := hK.1
  obtain ⟨j, j1, j2, j3⟩ := fb_ct_kth (p := lf gs hs n) (k := 0) (n := 64) (fb_ct_pos.mpr ⟨x0, hx0, hK.lf0⟩)
  have lo : ∀ i, i < j → lf gs hs n i = false := fb_ct_zero.mp j3
  obtain ⟨b1, b2, b3, b4, b5⟩ := code_b j j1
  refine ⟨nI (cd j), ?_, ?_⟩
  · unfold f_X8_nextCode f_X0_leastLeft
    have : f_X0_leastLeft_2 S 1000 0 = some (nI (cd j)) := by
      refine pu_for (fun m i => f_X0_leastLeft_2 S m (nI i) = some (nI (cd j))) j (fun m => ?_) (fun m i hi ih => ?_) j 1000 0 (Nat.zero_add j) (by omega)
      · show f_X0_leastLeft_2b _ _ _ = _
        unfold f_X0_leastLeft_2b
        rw [if_neg (show ¬ (64 : Int32) ≤ nI j from nI_ge (b := 64) j1 (by decide)), hK.left j1, j2, if_neg (by decide), b5]
      · show f_X0_leastLeft_2b _ _ _ = _
        unfold f_X0_leastLeft_2b
        rw [if_neg (show ¬ (64 : Int32) ≤ nI i from nI_ge (b := 64) (by omega) (by decide)), hK.left (by omega), lo i hi, if_pos (by decide), nI_1]
        exact ih
    rw [this]
    rfl
  · unfold f_X9_nextCode
    refine pu_for (fun m i => f_X9_nextCode_7 m (nI i) (mset M 0 0) = some (nI (cd j), mset M 0 0)) (cd j) (fun m => ?_) (fun m i hi ih => ?_) (cd j) 340 0 (Nat.zero_add _) (by omega)
    · show f_X9_nextCode_7b _ _ _ = _
      unfold f_X9_nextCode_7b
      rw [(hK.m0 0).poss b3]
      simp only [Option.bind_some]
      rw [b1, b2, j2, if_neg (by decide)]
    · show f_X9_nextCode_7b _ _ _ = _
      unfold f_X9_nextCode_7b
      rw [(hK.m0 0).poss (by omega)]
      simp only [Option.bind_some]
      have : (isK i && lf gs hs n (rk i)) = false := by
        cases hb : isK i
        · rfl
        · have m := fb_ct_mono isK (m := i + 1) (n := cd j) (by omega)
          rw [fb_ct_succ, if_pos hb] at m
          have m2 : fb_ct isK (cd j) = j := b2
          rw [lo (rk i) (by unfold rk; omega)]
          rfl
      rw [this, if_pos (by decide), nI_1]
      exact ih
end PCD
