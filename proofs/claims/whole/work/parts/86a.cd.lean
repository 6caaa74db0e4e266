/-! codes -/
def cd (x : Nat) : Nat := x / 16 * 100 + x / 4 % 4 * 10 + x % 4
def dg (x j : Nat) : Nat := x / 4 ^ j % 4
def teq (x y i : Nat) : Nat := fb_ct (fun j => decide (dg x j = dg y j)) i
def tmz (x v i : Nat) : Nat := fb_ct (fun j => decide (dg x j = v)) i
def tms (x y i : Nat) : Nat := fb_sm (fun v => min (tmz x v 3) (tmz y v 3)) i
def hvF (x y : Nat) : Int32 := nI (9 * teq x y 3 + tms x y 4)
theorem dgC : ∀ x, x < 64 → ∀ j, j < 3 → f_X0_digit (nI x) (nI j) = nI (dg x j) := by decide +kernel
theorem dgM : ∀ x, x < 64 → ∀ j, j < 3 → (nI (cd x) / nI (10 ^ j)) - (nI (cd x) / nI (10 ^ j)) / (10 : Int32) * (10 : Int32) = nI (dg x j) := by decide +kernel
theorem dg_lt (x j : Nat) : dg x j < 4 := Nat.mod_lt _ (by decide)
theorem timesC {x v : Nat} (hx : x < 64) (hv : v < 4) : f_X0_times (nI x) (nI v) = some (nI (tmz x v 3)) := by
  refine pu_for0 (W := fun n i => f_X0_times_4 n (nI x) (nI v) (nI (tmz x v i)) (nI i) = some (nI (tmz x v 3))) (e := 3) (n := 1000) (by decide) (fun n => ?_) (fun n i hi ih => ?_)
  · show f_X0_times_4b _ _ _ _ _ = _
    unfold f_X0_times_4b
    rw [if_pos (show (3 : Int32) ≤ nI 3 from nI_le (Nat.le_refl 3) (by decide))]
  · show f_X0_times_4b _ _ _ _ _ = _
    unfold f_X0_times_4b f_X0_times_21
    rw [if_neg (show ¬ (3 : Int32) ≤ nI i from nI_ge (b := 3) hi (by decide)), dgC x hx i hi]
    have es : nI (dg x i) = nI v ↔ dg x i = v := nI_eq (by have := dg_lt x i; omega) (by omega)
    have e : tmz x v (i + 1) = tmz x v i + (if decide (dg x i = v) then 1 else 0) := fb_ct_succ _ _
    rw [e] at ih
    by_cases c : dg x i = v
    · rw [decide_eq_true c, if_pos rfl] at ih
      rw [if_pos (es.mpr c), nI_1, nI_1]
      exact ih
    · rw [decide_eq_false c, if_neg (by decide), Nat.add_zero] at ih
      rw [if_neg (fun f => c (es.mp f)), nI_1]
      exact ih
theorem tmz_le (x v i : Nat) : tmz x v i ≤ i := fb_ct_le _ _
theorem hintC {x y : Nat} (hx : x < 64) (hy : y < 64) : f_X0_hint (nI x) (nI y) = some (hvF x y) := by
  have l33 : f_X0_hint_33 1000 (nI x) (nI y) (nI (9 * teq x y 3)) 0 = some (hvF x y) := by
    refine pu_for0 (W := fun n i => f_X0_hint_33 n (nI x) (nI y) (nI (9 * teq x y 3 + tms x y i)) (nI i) = some (hvF x y)) (e := 4) (n := 1000) (by decide) (fun n => ?_) (fun n i hi ih => ?_)
    · show f_X0_hint_33b _ _ _ _ _ = _
      unfold f_X0_hint_33b
      rw [if_pos (show (4 : Int32) ≤ nI 4 from nI_le (Nat.le_refl 4) (by decide))]
      rfl
    · have e : tms x y (i + 1) = tms x y i + min (tmz x i 3) (tmz y i 3) := fb_sm_succ _ _
      have t1 := tmz_le x i 3
      have t2 := tmz_le y i 3
      show f_X0_hint_33b _ _ _ _ _ = _
      unfold f_X0_hint_33b
      rw [if_neg (show ¬ (4 : Int32) ≤ nI i from nI_ge (b := 4) hi (by decide)), timesC hx hi, timesC hy hi]
      simp only [Option.bind_some]
      rw [min_nI (by omega) (by omega), nI_add, nI_1, Nat.add_assoc, ← e]
      exact ih
  refine pu_for0 (W := fun n i => f_X0_hint_4 n (nI x) (nI y) (nI (9 * teq x y i)) (nI i) = some (hvF x y)) (e := 3) (n := 1000) (by decide) (fun n => ?_) (fun n i hi ih => ?_)
  · show f_X0_hint_4b _ _ _ _ _ = _
    unfold f_X0_hint_4b
    rw [if_pos (show (3 : Int32) ≤ nI 3 from nI_le (Nat.le_refl 3) (by decide))]
    exact l33
  · have es : nI (dg x i) = nI (dg y i) ↔ dg x i = dg y i := nI_eq (by have := dg_lt x i; omega) (by have := dg_lt y i; omega)
    have e : teq x y (i + 1) = teq x y i + (if decide (dg x i = dg y i) then 1 else 0) := fb_ct_succ _ _
    rw [e] at ih
    show f_X0_hint_4b _ _ _ _ _ = _
    unfold f_X0_hint_4b f_X0_hint_25
    rw [if_neg (show ¬ (3 : Int32) ≤ nI i from nI_ge (b := 3) hi (by decide)), dgC x hx i hi, dgC y hy i hi, nI_1]
    by_cases c : dg x i = dg y i
    · rw [decide_eq_true c, if_pos rfl, Nat.mul_add, Nat.mul_one] at ih
      rw [if_pos (es.mpr c), show (9 : Int32) = nI 9 from rfl, nI_add]
      exact ih
    · rw [decide_eq_false c, if_neg (by decide), Nat.add_zero] at ih
      rw [if_neg (fun f => c (es.mp f))]
      exact ih
theorem p10 : ∀ j, j < 3 → ¬ (100 : Int32) < nI (10 ^ j) ∧ ¬ nI (10 ^ j) = 0 ∧ nI (10 ^ j) * (10 : Int32) = nI (10 ^ (j + 1)) := by decide +kernel
