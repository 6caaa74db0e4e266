section PCD
variable {S : CS} {M : MS} {x0 n : Nat} {gs : Nat → Nat} {hs : Nat → Int32}
def ghW (S : CS) (gs : Nat → Nat) (hs : Nat → Int32) (n x0 y m i : Nat) (s : CS) : Prop := ∃ S' : CS, f_X0_giveHint_17 m (nI y) (hvF x0 y) (nI i) s = some (hvF x0 y, S') ∧ Fq [7] S S' ∧ S'.1 7 0 = S.1 7 0 ∧ S'.1 7 1 = S.1 7 1 + 1 ∧ S'.2 = lN (pm (fun x => lf gs hs n x && decide (hvF x y = hvF x0 y)) 64)
def ghI (S : CS) (gs : Nat → Nat) (hs : Nat → Int32) (n x0 y i : Nat) (s : CS) : Prop := s.1 = S.1 ∧ s.2 = lN (pm (fun x => lf gs hs n x && (decide (i ≤ x) || decide (hvF x y = hvF x0 y))) 64)
theorem gh_0 {y : Nat} (m : Nat) (s : CS) (hi : ghI S gs hs n x0 y 64 s) : ghW S gs hs n x0 y (m + 1) 64 s := by
  obtain ⟨i1, i2⟩ := hi
  refine ⟨cset s 7 1 (s.1 7 1 + 1), ?_, fun j hj => ?_, ?_, ?_, ?_⟩
  · show f_X0_giveHint_17b (f_X0_giveHint_17 m) (nI y) (hvF x0 y) (nI 64) s = _
    unfold f_X0_giveHint_17b
    rw [if_pos (show (64 : Int32) ≤ nI 64 from nI_le (Nat.le_refl 64) (by decide))]
  · rw [cs_n (fun e => hj (by simp [e])), i1]
  · rw [cs_k (by decide), i1]
  · rw [cs_s, i1]
  · show s.2 = _
    rw [i2]
    exact congrArg lN (pm_cong (fun k hk => by rw [decide_eq_false (by omega), Bool.false_or]))
theorem gh_e {y : Nat} (hy : y < 64) (m i : Nat) (s : CS) (hi : i < 64) : f_X0_giveHint_17 (m + 1) (nI y) (hvF x0 y) (nI i) s = if hvF i y = hvF x0 y then f_X0_giveHint_17 m (nI y) (hvF x0 y) (nI (i + 1)) s else f_X0_giveHint_17 m (nI y) (hvF x0 y) (nI (i + 1)) (csetL s (s.2 &&& (((1 : Int64) <<< ((nI i).toInt64 &&& 63)) ^^^ (-1 : Int64)))) := by
  show f_X0_giveHint_17b (f_X0_giveHint_17 m) (nI y) (hvF x0 y) (nI i) s = _
  unfold f_X0_giveHint_17b f_X0_giveHint_51
  rw [if_neg (show ¬ (64 : Int32) ≤ nI i from nI_ge (b := 64) hi (by decide)), (hintE hi hy).1]
  simp only [Option.bind_some]
  rw [nI_1]
theorem gh_s {y : Nat} (hy : y < 64) (m i : Nat) (s : CS) (hi : i < 64) (hI : ghI S gs hs n x0 y i s) (ih : ∀ s', ghI S gs hs n x0 y (i + 1) s' → ghW S gs hs n x0 y m (i + 1) s') : ghW S gs hs n x0 y (m + 1) i s := by
  obtain ⟨i1, i2⟩ := hI
  unfold ghW
  rw [gh_e hy m i s hi]
  by_cases e : hvF i y = hvF x0 y
  · rw [if_pos e]
    refine ih s ⟨i1, ?_⟩
    rw [i2]
    refine congrArg lN (pm_cong (fun k _ => ?_))
    by_cases ek : k = i
    · subst ek; rw [decide_eq_true e, Bool.or_true, Bool.or_true]
    · rw [show decide (i + 1 ≤ k) = decide (i ≤ k) from decide_eq_decide.mpr (by omega)]
  · rw [if_neg e]
    refine ih (csetL s (s.2 &&& (((1 : Int64) <<< ((nI i).toInt64 &&& 63)) ^^^ (-1 : Int64)))) ⟨i1, ?_⟩
    show s.2 &&& (((1 : Int64) <<< ((nI i).toInt64 &&& 63)) ^^^ (-1 : Int64)) = _
    rw [i2]
    refine lN_clear hi (fun k _ => ?_)
    by_cases ek : i = k
    · subst ek
      rw [decide_eq_false (show ¬ i + 1 ≤ i by omega), decide_eq_false e, decide_eq_true rfl, Bool.or_false, Bool.and_false, Bool.not_true, Bool.and_false]
    · rw [show decide (i + 1 ≤ k) = decide (i ≤ k) from decide_eq_decide.mpr (by omega), decide_eq_false ek, Bool.not_false, Bool.and_true]
theorem gh_l (hK : RKs S M x0 gs hs n) {y : Nat} (hy : y < 64) : ghW S gs hs n x0 y 1000 0 S := by
  refine pu_forS (ghW S gs hs n x0 y) (ghI S gs hs n x0 y) 64 (fun m s hi => gh_0 m s hi) (fun m i s hi hI ih => gh_s hy m i s hi hI ih) 64 1000 0 S (Nat.zero_add 64) (by omega) ⟨rfl, ?_⟩
  rw [hK.2.2.2.2.2.2.2]
  exact congrArg lN (pm_cong (fun k _ => by rw [decide_eq_true (Nat.zero_le k), Bool.true_or, Bool.and_true]))
theorem x_give (hK : RKs S M x0 gs hs n) {y : Nat} (hy : y < 64) : ∃ S' : CS, f_X0_giveHint (nI (cd y)) S = some (hvF x0 y, S') ∧ Fq [7] S S' ∧ S'.1 7 0 = S.1 7 0 ∧ S'.1 7 1 = S.1 7 1 + 1 ∧ S'.2 = lN (pm (fun x => lf gs hs n x && decide (hvF x y = hvF x0 y)) 64) := by
  obtain ⟨b1, b2, b3, b4, b5⟩ := code_b y hy
  have e0 : f_X0_giveHint (nI (cd y)) S = f_X0_giveHint_17 1000 (nI y) (hvF x0 y) 0 S := by
    unfold f_X0_giveHint
    rw [b4, hK.2.2.1, (hintE hK.1 hy).1]
    exact Option.bind_some _ _
  have h := gh_l hK hy
  unfold ghW at h
  rw [show nI 0 = (0 : Int32) from rfl] at h
  rw [e0]
  exact h
end PCD
