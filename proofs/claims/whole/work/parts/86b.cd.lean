theorem hintM {x y : Nat} (hx : x < 64) (hy : y < 64) : f_X9_hint (nI (cd x)) (nI (cd y)) = some (hvF x y) := by
  have tl : teq x y 3 ≤ 3 := fb_ct_le _ _
  have l67 : ∀ (k52 : Int32 → Int32 → Int32 → Int32 → Int32 → Option Int32) (v2 v3 : Int32) (v : Nat), v < 4 → f_X9_hint_67 k52 1000 (nI (cd x)) (nI (cd y)) v2 v3 (nI v) 0 0 1 = k52 (nI (cd x)) (nI (cd y)) v2 (v3 + nI (min (tmz x v 3) (tmz y v 3))) (nI v + 1) := by
    intro k52 v2 v3 v hv
    refine pu_for0 (W := fun n i => f_X9_hint_67 k52 n (nI (cd x)) (nI (cd y)) v2 v3 (nI v) (nI (tmz x v i)) (nI (tmz y v i)) (nI (10 ^ i)) = k52 (nI (cd x)) (nI (cd y)) v2 (v3 + nI (min (tmz x v 3) (tmz y v 3))) (nI v + 1)) (e := 3) (n := 1000) (by decide) (fun n => ?_) (fun n i hi ih => ?_)
    · have t1 := tmz_le x v 3
      have t2 := tmz_le y v 3
      show f_X9_hint_67b _ _ _ _ _ _ _ _ _ _ = _
      unfold f_X9_hint_67b
      rw [if_pos (by decide), min_nI (by omega) (by omega)]
    · obtain ⟨q1, q2, q3⟩ := p10 i hi
      have e1 : tmz x v (i + 1) = tmz x v i + (if decide (dg x i = v) then 1 else 0) := fb_ct_succ _ _
      have e2 : tmz y v (i + 1) = tmz y v i + (if decide (dg y i = v) then 1 else 0) := fb_ct_succ _ _
      have s1 : nI (dg x i) = nI v ↔ dg x i = v := nI_eq (by have := dg_lt x i; omega) (by omega)
      have s2 : nI (dg y i) = nI v ↔ dg y i = v := nI_eq (by have := dg_lt y i; omega) (by omega)
      rw [e1, e2, ← nI_add, ← nI_add] at ih
      show f_X9_hint_67b _ _ _ _ _ _ _ _ _ _ = _
      unfold f_X9_hint_67b f_X9_hint_93 f_X9_hint_115
      rw [if_neg q1, if_pos q2, dgM x hx i hi, dgM y hy i hi, q3]
      by_cases c1 : dg x i = v
      · rw [if_pos (s1.mpr c1), if_pos q2]
        by_cases c2 : dg y i = v
        · rw [if_pos (s2.mpr c2)]
          rw [decide_eq_true c1, decide_eq_true c2] at ih
          exact ih
        · rw [if_neg (fun f => c2 (s2.mp f))]
          rw [decide_eq_true c1, decide_eq_false c2] at ih
          exact ih
      · rw [if_neg (fun f => c1 (s1.mp f)), if_pos q2]
        by_cases c2 : dg y i = v
        · rw [if_pos (s2.mpr c2)]
          rw [decide_eq_false c1, decide_eq_true c2] at ih
          exact ih
        · rw [if_neg (fun f => c2 (s2.mp f))]
          rw [decide_eq_false c1, decide_eq_false c2] at ih
          exact ih
  have l52 : f_X9_hint_52 1000 (nI (cd x)) (nI (cd y)) (nI (teq x y 3)) 0 0 = some (hvF x y) := by
    refine pu_for0 (W := fun n i => f_X9_hint_52 n (nI (cd x)) (nI (cd y)) (nI (teq x y 3)) (nI (tms x y i)) (nI i) = some (hvF x y)) (e := 4) (n := 1000) (by decide) (fun n => ?_) (fun n i hi ih => ?_)
    · show f_X9_hint_52b _ _ _ _ _ _ = _
      unfold f_X9_hint_52b
      rw [if_pos (by decide), show (10 : Int32) = nI 10 from rfl, pk_mul, nI_add, pk_sub (by omega)]
      unfold hvF
      congr 2
      omega
    · have e : tms x y (i + 1) = tms x y i + min (tmz x i 3) (tmz y i 3) := fb_sm_succ _ _
      show f_X9_hint_52b _ _ _ _ _ _ = _
      unfold f_X9_hint_52b
      rw [if_neg (show ¬ (3 : Int32) < nI i from nI_nlt (b := i) (a := 3) (by omega) (by decide)), l67 _ _ _ i hi, nI_add, nI_1, ← e]
      exact ih
  refine pu_for0 (W := fun n i => f_X9_hint_7 n (nI (cd x)) (nI (cd y)) (nI (teq x y i)) 0 (nI (10 ^ i)) = some (hvF x y)) (e := 3) (n := 1000) (by decide) (fun n => ?_) (fun n i hi ih => ?_)
  · show f_X9_hint_7b _ _ _ _ _ _ = _
    unfold f_X9_hint_7b
    rw [if_pos (by decide)]
    exact l52
  · obtain ⟨q1, q2, q3⟩ := p10 i hi
    have es : nI (dg x i) = nI (dg y i) ↔ dg x i = dg y i := nI_eq (by have := dg_lt x i; omega) (by have := dg_lt y i; omega)
    have e : teq x y (i + 1) = teq x y i + (if decide (dg x i = dg y i) then 1 else 0) := fb_ct_succ _ _
    rw [e, ← nI_add] at ih
    show f_X9_hint_7b _ _ _ _ _ _ = _
    unfold f_X9_hint_7b f_X9_hint_37
    rw [if_neg q1, if_pos q2, if_pos q2, dgM x hx i hi, dgM y hy i hi, q3]
    by_cases c : dg x i = dg y i
    · rw [decide_eq_true c] at ih
      rw [if_pos (es.mpr c)]
      exact ih
    · rw [decide_eq_false c] at ih
      rw [if_neg (fun f => c (es.mp f))]
      exact ih
theorem hintE {x y : Nat} (hx : x < 64) (hy : y < 64) : f_X0_hint (nI x) (nI y) = some (hvF x y) ∧ f_X9_hint (nI (cd x)) (nI (cd y)) = some (hvF x y) := ⟨hintC hx hy, hintM hx hy⟩
