/-! orders: the calls -/
def ROs (S : CS) (M : MS) (T : Nat) (ah : Nat → Nat → Bool) : Prop := 2 ≤ T ∧ T < 6 ∧ (∀ j x, ah j x = true → j < T) ∧ fstQ S T ah ∧ grdQ M T ah
def RelO (S : CS) (M : MS) : Prop := ∃ (T : Nat) (ah : Nat → Nat → Bool), ROs S M T ah
def prO (ah : Nat → Nat → Bool) (one other : Nat) : Nat → Nat → Bool := fun j x => ah j x || (decide (j = one) && decide (x = other))
section OD
variable {S : CS} {M : MS} {T : Nat} {ah : Nat → Nat → Bool}
theorem RO.fr {S' : CS} {M' : MS} (h : ROs S M T ah) (e8 : S'.1 8 2 = S.1 8 2) (e20 : ∀ x, x < 5 → S'.1 20 x = S.1 20 x) (m1 : M'.1 15 = M.1 15) (m2 : M'.2.2.2 = M.2.2.2) : ROs S' M' T ah := by
  obtain ⟨h1, h2, h3, h4, h5⟩ := h
  refine ⟨h1, h2, h3, ⟨e8.trans h4.1, fun x hx => (e20 x (by omega)).trans (h4.2 x hx)⟩, ⟨m1.trans h5.1, fun j hj x hx => ?_⟩⟩
  rw [m2]
  exact h5.2 j hj x hx
theorem RelO.fr {S' : CS} {M' : MS} (h : RelO S M) (e8 : S'.1 8 2 = S.1 8 2) (e20 : ∀ x, x < 5 → S'.1 20 x = S.1 20 x) (m1 : M'.1 15 = M.1 15) (m2 : M'.2.2.2 = M.2.2.2) : RelO S' M' := by
  obtain ⟨T, ah, h⟩ := h
  exact ⟨T, ah, RO.fr h e8 e20 m1 m2⟩
theorem RelO.m0 (h : RelO S M) (v : Int32) : RelO S (mset M 0 v) := h.fr rfl (fun _ _ => rfl) (ms_n (by decide)) rfl
theorem RO.cnt (h : ROs S M T ah) : ∃ S' : CS, f_X4_allWays S = some (nI (dgr ah T), S') ∧ f_X9_orders M 10 0 (-1) (-1) = some (nI (dgr ah T)) ∧ Fr [21] S S' := by
  obtain ⟨h1, h2, h3, h4, h5⟩ := h
  obtain ⟨S', x1, x2⟩ := x_ord h2 h3 h4
  exact ⟨S', x1, m_oall h2 h5 (Or.inl ⟨rfl, rfl, rfl⟩), x2⟩
theorem prO_lt (h : ROs S M T ah) {one other : Nat} (h1 : one < T) : ∀ j x, prO ah one other j x = true → j < T := fun j x e => by
  have e' : (ah j x || (decide (j = one) && decide (x = other))) = true := e
  rw [Bool.or_eq_true, Bool.and_eq_true, decide_eq_true_iff, decide_eq_true_iff] at e'
  rcases e' with d | ⟨d, -⟩
  · exact h.2.2.1 j x d
  · omega
theorem x_line (h : ROs S M T ah) {one other : Nat} (h1 : one < T) (h2 : other < T) : fstQ (f_X4_line (nI one) (nI other) S) T (prO ah one other) ∧ Fr [20] S (f_X4_line (nI one) (nI other) S) ∧ (f_X4_line (nI one) (nI other) S).1 20 = upd (S.1 20) other (nI (pm (fun j => prO ah one other j other) 5)) := by
  obtain ⟨t1, t2, t3, t4, t5⟩ := h
  have e : (f_X4_line (nI one) (nI other) S).1 20 = upd (S.1 20) other (nI (pm (fun j => prO ah one other j other) 5)) := by
    unfold f_X4_line
    rw [cf_s, q_at_nI (by omega) (by decide), q_pu_nI (by omega) (by decide), t4.2 other h2, nI_one one (by omega), nI_or, pm_set (by omega)]
    refine congrArg (fun z => upd (S.1 20) other (nI z)) (pm_cong (fun j _ => ?_))
    show _ = (ah j other || (decide (j = one) && decide (other = other)))
    rw [decide_eq_true (rfl : other = other), Bool.and_true]
  have hF : Fr [20] S (f_X4_line (nI one) (nI other) S) := by
    unfold f_X4_line
    exact Fr.cfun (by decide)
  refine ⟨⟨by rw [hF.1 8 (by decide)]; exact t4.1, fun x hx => ?_⟩, hF, e⟩
  rw [e]
  by_cases c : x = other
  · subst c; rw [pk_us]
  · rw [pk_un c, t4.2 x hx]
    refine congrArg nI (pm_cong (fun j _ => ?_))
    show _ = (ah j x || (decide (j = one) && decide (x = other)))
    rw [decide_eq_false c, Bool.and_false, Bool.or_false]
theorem x_ways (h : ROs S M T ah) {one other : Nat} (h1 : one < T) (h2 : other < T) : ∃ S' : CS, f_X4_ways (nI one) (nI other) S = some (nI (dgr (prO ah one other) T), S') ∧ Fr [20, 21] S S' ∧ (∀ x, S'.1 20 x = S.1 20 x) ∧ ROs S' M T ah := by
  obtain ⟨l1, l2, l3⟩ := x_line h h1 h2
  have hT := h.2.1
  obtain ⟨S', x1, x2⟩ := x_ord (pre := prO ah one other) hT (prO_lt h h1) l1
  have e20 : S'.1 20 = upd (S.1 20) other (nI (pm (fun j => prO ah one other j other) 5)) := (x2.1 20 (by decide)).trans l3
  have hx : ∀ x, (cfun S' 20 (upd (S'.1 20) other (S.1 20 other))).1 20 x = S.1 20 x := fun x => by
    rw [cf_s, e20]
    by_cases c : x = other
    · subst c; rw [pk_us]
    · rw [pk_un c, pk_un c]
  have hF : Fr [20, 21] S (cfun S' 20 (upd (S'.1 20) other (S.1 20 other))) := (l2.mono (by decide)).trans ((x2.mono (by decide)).trans (Fr.cfun (by decide)))
  refine ⟨_, ?_, hF, hx, RO.fr h (by rw [hF.1 8 (by decide)]) (fun x _ => hx x) rfl rfl⟩
  unfold f_X4_ways
  rw [x1]
  simp only [Option.bind_some]
  rw [q_at_nI (by omega) (by decide), q_pu_nI (by omega) (by decide)]
theorem m_ways (h : ROs S M T ah) {one other : Nat} (h1 : one < T) (h2 : other < T) : f_X9_orders M 10 0 (nI one) (nI other) = some (nI (dgr (prO ah one other) T)) :=
  m_oall h.2.1 h.2.2.2.2 (Or.inr ⟨one, other, h1, h2, rfl, rfl, rfl⟩)
theorem D_orders (h : RelO S M) : ∃ (v : Int32) (S' : CS), f_X8_orders S = some (v, S') ∧ f_X9_orders_ M = some (v, mset M 0 0) ∧ Fr [21] S S' := by
  obtain ⟨T, ah, h⟩ := h
  obtain ⟨S', x1, -, x3⟩ := RO.cnt h
  obtain ⟨-, -, m2, -⟩ := RO.cnt (RO.fr (S' := S) (M' := mset M 0 0) h rfl (fun _ _ => rfl) (ms_n (by decide)) rfl)
  refine ⟨nI (dgr ah T), S', ?_, ?_, x3⟩
  · unfold f_X8_orders
    rw [x1]
    rfl
  · unfold f_X9_orders_
    rw [m2]
    rfl
/-! things -/
theorem x_onew (a : Int32) : ∃ S' : CS, f_X4_startAnew a S = some S' ∧ Fr [8, 20] S S' ∧ S'.1 8 2 = a ∧ ∀ x, x < 5 → S'.1 20 x = 0 := by
  show ∃ S' : CS, f_X4_startAnew_7 1000 (nI 0) (cset S 8 2 a) = some S' ∧ Fr [8, 20] S S' ∧ S'.1 8 2 = a ∧ ∀ x, x < 5 → S'.1 20 x = 0
  refine pu_forS (W := fun m i (s : CS) => ∃ S' : CS, f_X4_startAnew_7 m (nI i) s = some S' ∧ Fr [8, 20] S S' ∧ S'.1 8 2 = a ∧ ∀ x, x < 5 → S'.1 20 x = 0) (I := fun i s => Fr [8, 20] S s ∧ s.1 8 2 = a ∧ ∀ x, x < i → s.1 20 x = 0) 5 (fun m s hI => ?_) (fun m i s hi hI ih => ?_) 5 1000 0 (cset S 8 2 a) (by decide) (by decide) ⟨Fr.cset (by decide), cs_s, fun x hx => absurd hx (Nat.not_lt_zero x)⟩
  · refine ⟨s, ?_, hI⟩
    show f_X4_startAnew_7b (f_X4_startAnew_7 m) (nI 5) s = _
    unfold f_X4_startAnew_7b
    rw [if_pos (show (5 : Int32) ≤ nI 5 by decide)]
  · have go : f_X4_startAnew_7 (m + 1) (nI i) s = f_X4_startAnew_7 m (nI (i + 1)) (cfun s 20 (upd (s.1 20) i 0)) := by
      show f_X4_startAnew_7b (f_X4_startAnew_7 m) (nI i) s = _
      unfold f_X4_startAnew_7b
      rw [if_neg (show ¬ (5 : Int32) ≤ nI i from nI_ge (b := 5) hi (by decide)), q_pu_nI hi (by decide), nI_1]
    rw [go]
    refine ih _ ⟨hI.1.trans (Fr.cfun (by decide)), by rw [cf_n (by decide)]; exact hI.2.1, fun x hx => ?_⟩
    rw [cf_s]
    by_cases e : x = i
    · subst e; rw [pk_us]
    · rw [pk_un e]; exact hI.2.2 x (by omega)
theorem nar0 : vp_nar .boolean (0 : Int32) = 0 := by decide +kernel
theorem mg_eq {i x : Nat} {v : Int32} : (mgrid M i (upd (M.2.2.2 i) x v)).2.2.2 = fun p q => if p = i ∧ q = x then v else M.2.2.2 p q := by
  funext p q
  exact nup2
def gzQ (M M' : MS) (i x : Nat) : Prop := M'.1 = M.1 ∧ M'.2.1 = M.2.1 ∧ M'.2.2.1 = M.2.2.1 ∧ ∀ p q, p < 5 → q < 5 → (p < i ∨ p = i ∧ q < x) → M'.2.2.2 p q = 0
theorem m_onew (r : Int32) : ∃ M' : MS, f_X9_things_50 1000 r 5 0 M = some (r, M') ∧ gzQ M M' 5 0 := by
  show ∃ M' : MS, f_X9_things_50 1000 r 5 (nI 0) M = some (r, M') ∧ gzQ M M' 5 0
  refine pu_forS (W := fun m i (s : MS) => ∃ M' : MS, f_X9_things_50 m r 5 (nI i) s = some (r, M') ∧ gzQ M M' 5 0) (I := fun i s => gzQ M s i 0) 5 (fun m s hI => ?_) (fun m i s hi hI ih => ?_) 5 1000 0 M (by decide) (by decide) ⟨rfl, rfl, rfl, fun p q _ _ h => by omega⟩
  · refine ⟨s, ?_, hI⟩
    show f_X9_things_50b (f_X9_things_50 m) r 5 (nI 5) s = _
    unfold f_X9_things_50b
    rw [if_pos (show (5 : Int32) ≤ nI 5 by decide)]
  · have in66 : ∃ M' : MS, f_X9_things_66 (f_X9_things_50 m) 1000 r 5 (nI i) i (nI 0) s = some (r, M') ∧ gzQ M M' 5 0 := by
      refine pu_forS (W := fun k x (s : MS) => ∃ M' : MS, f_X9_things_66 (f_X9_things_50 m) k r 5 (nI i) i (nI x) s = some (r, M') ∧ gzQ M M' 5 0) (I := fun x s => gzQ M s i x) 5 (fun k s hI => ?_) (fun k x s hx hI ih2 => ?_) 5 1000 0 s (by decide) (by decide) hI
      · have go : f_X9_things_66 (f_X9_things_50 m) (k + 1) r 5 (nI i) i (nI 5) s = f_X9_things_50 m r 5 (nI (i + 1)) s := by
          show f_X9_things_66b (f_X9_things_50 m) (f_X9_things_66 (f_X9_things_50 m) k) r 5 (nI i) i (nI 5) s = _
          unfold f_X9_things_66b
          rw [if_pos (show (5 : Int32) ≤ nI 5 by decide), nI_1]
        rw [go]
        exact ih s ⟨hI.1, hI.2.1, hI.2.2.1, fun p q hp hq hd => hI.2.2.2 p q hp hq (by omega)⟩
      · have go : f_X9_things_66 (f_X9_things_50 m) (k + 1) r 5 (nI i) i (nI x) s = f_X9_things_66 (f_X9_things_50 m) k r 5 (nI i) i (nI (x + 1)) (mgrid s i (upd (s.2.2.2 i) x 0)) := by
          show f_X9_things_66b (f_X9_things_50 m) (f_X9_things_66 (f_X9_things_50 m) k) r 5 (nI i) i (nI x) s = _
          unfold f_X9_things_66b
          rw [if_neg (show ¬ (5 : Int32) ≤ nI x from nI_ge (b := 5) hx (by decide)), if_pos ⟨hi, q_in_nI hx (by decide)⟩, nar0, nI_clamp (by omega), nI_1]
        rw [go]
        refine ih2 _ ⟨hI.1, hI.2.1, hI.2.2.1, fun p q hp hq hd => ?_⟩
        rw [mg_eq]
        show (if p = i ∧ q = x then (0 : Int32) else s.2.2.2 p q) = 0
        by_cases c : p = i ∧ q = x
        · rw [if_pos c]
        · rw [if_neg c]
          exact hI.2.2.2 p q hp hq (by omega)
    obtain ⟨M', e1, e2⟩ := in66
    refine ⟨M', ?_, e2⟩
    show f_X9_things_50b (f_X9_things_50 m) r 5 (nI i) s = _
    unfold f_X9_things_50b
    rw [if_neg (show ¬ (5 : Int32) ≤ nI i from nI_ge (b := 5) hi (by decide)), if_pos (q_in_nI hi (by decide)), nI_clamp (by omega)]
    exact e1
/-- what the reference keeps, its grid aside -/
def Mg (L : List Nat) (M M' : MS) : Prop := (∀ s, s ∉ L → M'.1 s = M.1 s) ∧ M'.2.1 = M.2.1 ∧ M'.2.2.1 = M.2.2.1
theorem Mg.mset {L : List Nat} {s : Nat} {v : Int32} (h : s ∈ L) : Mg L M (mset M s v) := ⟨fun j hj => ms_n (fun e => hj (e ▸ h)), rfl, rfl⟩
theorem Mg.trans {L : List Nat} {M1 M2 : MS} (h : Mg L M M1) (h2 : Mg L M1 M2) : Mg L M M2 := ⟨fun s hs => (h2.1 s hs).trans (h.1 s hs), h2.2.1.trans h.2.1, h2.2.2.trans h.2.2⟩
theorem T_things (h : RelO S M) (a : Int32) (fo : Nat → Int64) : TI (f_L_things S a fo) fo (f_X9_things a M) (fun S' M' => RelO S' M' ∧ Fr [8, 20] S S' ∧ Mg [0, 15] M M') := by
  have hR := h
  obtain ⟨T, ah, h1, h2, h3, h4, h5⟩ := h
  have hB : f_X9_isBetween a.toInt64 2 5 = (decide (2 ≤ a) && decide (a ≤ 5)) := isB (lo := 2) (hi := 5)
  have bad : ¬ (2 ≤ a ∧ a ≤ 5) → TI (f_L_things S a fo) fo (f_X9_things a M) (fun S' M' => RelO S' M' ∧ Fr [8, 20] S S' ∧ Mg [0, 15] M M') := by
    intro hn
    refine TI.ex (code := 1) (r := 0) (S := S) (M := M) (by decide) ?_ ?_ ⟨hR.m0 1, Fr.refl S, Mg.mset (by decide)⟩
    · unfold f_L_things f_X8_things f_X8_things_10
      by_cases c1 : a < 2
      · rw [if_pos c1]; rfl
      · rw [if_neg c1, if_neg (fun e => hn ⟨i32_lt.mp c1, e⟩)]; rfl
    · unfold f_X9_things f_X9_things_20
      rw [hB, if_pos (qb_0.mpr (by rcases Decidable.not_and_iff_or_not.mp hn with c | c <;> simp [c])), isWr]
      rfl
  by_cases c1 : 2 ≤ a
  · by_cases c2 : a ≤ 5
    · obtain ⟨t, ht, rfl⟩ := nI_of2 (M := 5) (n := 5) (by decide) (fun e => absurd c1 (i32_le.mpr (Int32.lt_of_lt_of_le e (by decide)))) c2
      have ht2 : 2 ≤ t := by
        rcases Nat.lt_or_ge t 2 with c | c
        · exact absurd c1 (nI_ge (b := 2) c (by decide))
        · exact c
      obtain ⟨S', x1, x2, x3, x4⟩ := x_onew (S := S) (nI t)
      obtain ⟨M', m1, m2, m3, m4, m5⟩ := m_onew (M := mset (mset M 0 0) 15 (nI t)) (nI T)
      refine TI.ok (r := nI T) (S := S') (M := M') ?_ ?_ ?_ ⟨⟨t, fun _ _ => false, ht2, by omega, fun _ _ e => absurd e Bool.false_ne_true, ⟨x3, fun x hx => ?_⟩, ⟨?_, fun j hj x hx => ?_⟩⟩, x2, ⟨fun s hs => ?_, m3, m4⟩⟩
      · unfold f_L_things f_X8_things
        rw [if_neg (i32_lt.mpr c1), if_pos c2, x1]
        simp only [Option.bind_some, if_true]
        rw [h4.1]
      · unfold f_X9_things f_X9_things_20
        rw [hB, decide_eq_true c1, decide_eq_true c2, if_neg (by decide), isWr]
        simp only [Option.bind_some]
        rw [if_pos (by decide), show (mset M 0 0).1 15 = nI T from (ms_n (by decide)).trans h5.1]
        exact m1
      · rw [m2, ms_n (by decide), ms_s]
      · rw [x4 x (by omega), show pm (fun _ => false) 5 = 0 from pm_0 5]
        rfl
      · rw [m2, ms_s]
      · exact m5 j x hj hx (Or.inl hj)
      · rw [m2, ms_n (fun e => hs (by simp [e])), ms_n (fun e => hs (by simp [e]))]
    · exact bad (fun e => c2 e.2)
  · exact bad (fun e => c1 e.1)
theorem RO.isTh (h : ROs S M T ah) (a : Int32) : (f_X4_isThing S a = false ∧ f_X9_isThing M a = some false) ∨ ∃ q, q < T ∧ a = nI q ∧ f_X4_isThing S a = true ∧ f_X9_isThing M a = some true := by
  obtain ⟨h1, h2, h3, h4, h5⟩ := h
  have hB : f_X9_isThing M a = some (decide (0 ≤ a) && decide (a ≤ nI (T - 1))) := by
    unfold f_X9_isThing
    rw [h5.1, show nI T - 1 = nI (T - 1) from nI_sub (a := T) (b := 1) (by omega)]
    exact congrArg some (isB (lo := 0) (hi := nI (T - 1)))
  rw [hB]
  unfold f_X4_isThing
  rw [h4.1]
  by_cases c1 : a < 0
  · rw [if_pos c1, decide_eq_false (i32_le.mpr c1)]
    exact Or.inl ⟨rfl, rfl⟩
  · by_cases c2 : nI T ≤ a
    · rw [if_neg c1, if_pos c2]
      refine Or.inl ⟨rfl, ?_⟩
      rw [decide_eq_false (fun e => nI_ge (a := T - 1) (b := T) (by omega) (by omega) (Int32.le_trans c2 e)), Bool.and_false]
    · obtain ⟨q, hq, rfl⟩ := btw (by omega) c1 c2
      rw [if_neg c1, if_neg c2, decide_eq_true (i32_lt.mp c1), decide_eq_true (nI_le (by omega) (by omega))]
      exact Or.inr ⟨q, hq, rfl, rfl, rfl⟩
theorem T_ahead (h : RelO S M) (a b : Int32) (fo : Nat → Int64) : TI (f_L_ahead S a b fo) fo (f_X9_ahead a b M) (fun S' M' => RelO S' M' ∧ Fr [20, 21] S S' ∧ Mg [0] M M') := by
  have hR := h
  obtain ⟨T, ah, h⟩ := h
  have hT := h.2.1
  have bad : f_X8_ahead a b S = f_X8_ahead_27 S → f_X9_ahead a b M = f_X9_ahead_22 a b M → TI (f_L_ahead S a b fo) fo (f_X9_ahead a b M) (fun S' M' => RelO S' M' ∧ Fr [20, 21] S S' ∧ Mg [0] M M') := by
    intro e1 e2
    refine TI.ex (code := 1) (r := 0) (S := S) (M := M) (by decide) ?_ ?_ ⟨hR.m0 1, Fr.refl S, Mg.mset (by decide)⟩
    · unfold f_L_ahead
      rw [e1]
      rfl
    · rw [e2]
      unfold f_X9_ahead_22 f_X9_ahead_41
      rw [isWr]
      rfl
  rcases RO.isTh h a with ⟨a1, a2⟩ | ⟨one, ho, rfl, a1, a2⟩
  · refine bad ?_ ?_
    · unfold f_X8_ahead
      rw [a1, if_pos (by decide)]
    · unfold f_X9_ahead
      rw [a2]
      rfl
  · rcases RO.isTh h b with ⟨b1, b2⟩ | ⟨other, hq, rfl, b1, b2⟩
    · refine bad ?_ ?_
      · unfold f_X8_ahead
        rw [a1, b1, if_neg (by decide), if_pos (by decide)]
      · unfold f_X9_ahead
        rw [a2, b2]
        rfl
    · by_cases e : nI one = nI other
      · refine bad ?_ ?_
        · unfold f_X8_ahead
          rw [a1, b1, if_neg (by decide), if_neg (by decide), if_pos e]
        · unfold f_X9_ahead
          rw [a2, b2]
          simp only [Option.bind_some]
          rw [if_neg (by decide), if_neg (by decide), if_pos e]
      · obtain ⟨S', x1, x2, x3, x4⟩ := x_ways h ho hq
        have m1 := m_ways h ho hq
        have hx : f_X8_ahead (nI one) (nI other) S = if nI (dgr (prO ah one other) T) = 0 then some ((2, 0), S') else some ((0, nI (dgr (prO ah one other) T)), f_X4_line (nI one) (nI other) S') := by
          unfold f_X8_ahead
          rw [a1, b1, if_neg (by decide), if_neg (by decide), if_neg e, x1]
          simp only [Option.bind_some]
        have hm : f_X9_ahead (nI one) (nI other) M = if nI (dgr (prO ah one other) T) = 0 then f_X9_ahead_41 (nI one) (nI other) 2 M else f_X9_ahead_41 (nI one) (nI other) 0 M := by
          unfold f_X9_ahead
          rw [a2, b2]
          simp only [Option.bind_some]
          rw [if_neg (by decide), if_neg (by decide), if_neg e, m1]
          simp only [Option.bind_some]
        by_cases c : nI (dgr (prO ah one other) T) = 0
        · rw [if_pos c] at hx hm
          refine TI.ex (code := 2) (r := 0) (S := S') (M := M) (by decide) ?_ ?_ ⟨RelO.m0 ⟨T, ah, x4⟩ 2, x2, Mg.mset (by decide)⟩
          · unfold f_L_ahead
            rw [hx]
            rfl
          · rw [hm]
            unfold f_X9_ahead_41
            rw [isWr]
            rfl
        · rw [if_neg c] at hx hm
          obtain ⟨l1, l2, l3⟩ := x_line x4 ho hq
          obtain ⟨M', hM⟩ : ∃ M', M' = mgrid (mset M 0 0) one (upd ((mset M 0 0).2.2.2 one) other 1) := ⟨_, rfl⟩
          have gM : grdQ M' T (prO ah one other) := by
            refine ⟨?_, fun j hj x hx => ?_⟩
            · rw [hM]
              exact (show (mset M 0 0).1 15 = M.1 15 from ms_n (by decide)).trans h.2.2.2.2.1
            · rw [hM, mg_eq]
              show (if j = one ∧ x = other then (1 : Int32) else M.2.2.2 j x) = q_b (ah j x || (decide (j = one) && decide (x = other)))
              rw [h.2.2.2.2.2 j hj x hx]
              by_cases d : j = one ∧ x = other
              · rw [if_pos d, decide_eq_true d.1, decide_eq_true d.2, Bool.and_self, Bool.or_true]
                rfl
              · rw [if_neg d]
                have : (decide (j = one) && decide (x = other)) = false := by
                  by_cases d1 : j = one
                  · rw [decide_eq_false (fun e => d ⟨d1, e⟩), Bool.and_false]
                  · rw [decide_eq_false d1, Bool.false_and]
                rw [this, Bool.or_false]
          have RN : ROs (f_X4_line (nI one) (nI other) S') M' T (prO ah one other) := ⟨h.1, hT, prO_lt h ho, l1, gM⟩
          refine TI.ok (r := nI (dgr (prO ah one other) T)) (S := f_X4_line (nI one) (nI other) S') (M := M') ?_ ?_ ?_ ⟨⟨T, _, RN⟩, x2.trans (l2.mono (by decide)), ?_⟩
          · unfold f_L_ahead
            rw [hx]
            rfl
          · rw [hm]
            unfold f_X9_ahead_41
            rw [isWr]
            simp only [Option.bind_some]
            rw [if_pos (by decide), if_pos (q_in_nI (by omega) (by decide)), if_pos ⟨(q_in_nI (i := one) (n := 5) (by omega) (by decide)).2, q_in_nI (by omega) (by decide)⟩, narb, nI_clamp (by omega), nI_clamp (by omega), ← hM]
            obtain ⟨-, -, m2, -⟩ := RO.cnt RN
            rw [m2]
            rfl
          · rw [hM]
            show (mset M 0 0).1 0 = 0
            exact ms_s
          · rw [hM]
            exact ⟨fun s hs => ms_n (fun e => hs (by simp [e])), rfl, rfl⟩
end OD
