/-! machines: least states -/
def trn : Nat → Nat
  | 0 => 0
  | q + 1 => trn q + q
theorem trn_succ (q : Nat) : trn (q + 1) = trn q + q := rfl
theorem trn_mono {p q : Nat} (h : p ≤ q) : trn p ≤ trn q := by
  induction h with
  | refl => exact Nat.le_refl _
  | step _ ih => rw [trn_succ]; omega
theorem qb_and1 (b : Bool) : q_b b &&& 1 = q_b b := by cases b <;> decide
theorem qb_and0 (b : Bool) : q_b b &&& 0 = q_b false := by cases b <;> decide
section BB
variable {S : CS} {M : MS} {n : Nat} {ac : Nat → Bool} {mv : Nat → Nat → Nat} {T : Nat → Bool}
theorem x_first (h : RSs S M n ac mv) {q : Nat} (hq : q < n) : f_X3_isFirstOfKind S (nI q) (nI (pm T n)) = some (fk T (eqk ac mv n) q q) := by
  have h5 := h.1
  have key := pu_for0 (W := fun m i => fk T (eqk ac mv n) q i = true → f_X3_isFirstOfKind_2 S m (nI q) (nI (pm T n)) (nI i) = some (fk T (eqk ac mv n) q q)) (e := q) (n := 1000) (by omega) (fun m he => ?_) (fun m i hi ih he => ?_)
  · exact key rfl
  · show f_X3_isFirstOfKind_2b _ _ _ _ _ = _
    unfold f_X3_isFirstOfKind_2b
    rw [if_pos (nI_le (Nat.le_refl q) (by omega)), he]
  · obtain ⟨r, r1, r2⟩ := x_apart h (a := i) (b := q) (by omega) hq
    have hno := (apRes_no (by omega) r2).2
    show f_X3_isFirstOfKind_2b _ _ _ _ _ = _
    unfold f_X3_isFirstOfKind_2b f_X3_isFirstOfKind_26
    rw [if_neg (nI_ge hi (by omega)), hasBit_pm (by omega) (by omega), decide_eq_true (show i < n by omega), Bool.true_and, r1]
    simp only [Option.bind_some]
    rw [nI_1]
    cases e : T i
    · rw [if_pos (by decide)]
      exact ih (by rw [fk_succ, he, e]; rfl)
    · rw [if_neg (by decide)]
      cases e2 : eqk ac mv n i q
      · rw [if_pos (hno.mpr e2)]
        exact ih (by rw [fk_succ, he, e, e2]; rfl)
      · rw [if_neg (fun c => by rw [hno.mp c] at e2; exact absurd e2 (by decide))]
        have hz : fk T (eqk ac mv n) q (i + 1) = false := by rw [fk_succ, he, e, e2]; rfl
        have := fk_no hz (q - (i + 1))
        rw [show i + 1 + (q - (i + 1)) = q by omega] at this
        rw [this]
def kd (ac : Nat → Bool) (mv : Nat → Nat → Nat) (n : Nat) (T : Nat → Bool) (q : Nat) : Bool := T q && fk T (eqk ac mv n) q q
theorem x_kinds (h : RSs S M n ac mv) : f_X3_reachedKinds_9 S 1000 (nI (pm T n)) (nI (fb_ct (kd ac mv n T) 0)) (nI 0) = some (nI (fb_ct (kd ac mv n T) n)) := by
  have h5 := h.1
  refine pu_for0 (W := fun m i => f_X3_reachedKinds_9 S m (nI (pm T n)) (nI (fb_ct (kd ac mv n T) i)) (nI i) = some (nI (fb_ct (kd ac mv n T) n))) (e := n) (n := 1000) (by omega) (fun m => ?_) (fun m i hi ih => ?_)
  · show f_X3_reachedKinds_9b _ _ _ _ _ = _
    unfold f_X3_reachedKinds_9b
    rw [h.2.2.1, if_pos (nI_le (Nat.le_refl n) (by omega))]
  · show f_X3_reachedKinds_9b _ _ _ _ _ = _
    unfold f_X3_reachedKinds_9b f_X3_reachedKinds_37
    rw [fb_ct_succ] at ih
    unfold kd at ih ⊢
    rw [h.2.2.1, if_neg (nI_ge hi (by omega)), hasBit_pm (by omega) (by omega), decide_eq_true hi, Bool.true_and, x_first h hi]
    simp only [Option.bind_some]
    rw [nI_1, nI_1]
    cases e : T i
    · rw [e, Bool.false_and, if_neg (by decide), Nat.add_zero] at ih
      rw [if_pos (by decide)]
      exact ih
    · rw [e, Bool.true_and] at ih
      rw [if_neg (by decide)]
      cases e2 : fk T (eqk ac mv n) i i
      · rw [e2, if_neg (by decide), Nat.add_zero] at ih
        rw [if_pos (by decide)]
        exact ih
      · rw [e2, if_pos rfl] at ih
        rw [if_neg (by decide)]
        exact ih
theorem pm_q {i : Nat} (hn : n ≤ 5) (hi : i < n) : ((nI (pm T n) >>> (nI i &&& 31)) &&& (1 : Int32)) = q_b (T i) := by
  rw [nI_b1 (pm31 T (by omega)) (by omega)]
  have := pm_bit T i n
  rw [Nat.testBit_eq_decide_div_mod_eq, decide_eq_true hi, Bool.true_and] at this
  cases e : T i
  · rw [e] at this
    have := of_decide_eq_false this
    rw [show pm T n / 2 ^ i % 2 = 0 by omega]
    rfl
  · rw [e] at this
    rw [of_decide_eq_true this]
    rfl
theorem m_in (h : RSs S M n ac mv) {K : Nat} (hK : 162 * trn n ≤ K) {k37 : Nat → Nat → Int32 → Int32 → Int32 → MS → Option (Int32 × MS)} {v2 : Int32} {q : Nat} (hq : q < n) {kc ks : Nat} (hkc : kc ≤ 162 * trn q) (hks : ks ≤ 810 * trn q) : ∃ kc2 ks2, kc2 ≤ 162 * trn (q + 1) ∧ ks2 ≤ 810 * trn (q + 1) ∧ f_X9_leastStates_69 K k37 1000 kc ks (nI (pm T n)) v2 (nI q) (q_b (T q)) (nI 0) M = k37 kc2 ks2 (nI (pm T n)) (v2 + q_b (kd ac mv n T q)) (nI (q + 1)) M := by
  have h5 := h.1
  have htr : trn (q + 1) ≤ trn n := trn_mono (by omega)
  have key := pu_for0 (W := fun m i => ∀ kc ks, kc ≤ 162 * (trn q + i) → ks ≤ 810 * (trn q + i) → ∃ kc2 ks2, kc2 ≤ 162 * trn (q + 1) ∧ ks2 ≤ 810 * trn (q + 1) ∧ f_X9_leastStates_69 K k37 m kc ks (nI (pm T n)) v2 (nI q) (q_b (T q && fk T (eqk ac mv n) q i)) (nI i) M = k37 kc2 ks2 (nI (pm T n)) (v2 + q_b (kd ac mv n T q)) (nI (q + 1)) M) (e := q) (n := 1000) (by omega) (fun m kc ks a b => ?_) (fun m i hi ih kc ks a b => ?_)
  · have := key kc ks hkc hks
    rw [show fk T (eqk ac mv n) q 0 = true from rfl, Bool.and_true] at this
    exact this
  · refine ⟨kc, ks, by rw [trn_succ]; exact a, by rw [trn_succ]; exact b, ?_⟩
    show f_X9_leastStates_69b _ _ _ _ _ _ _ _ _ _ _ = _
    unfold f_X9_leastStates_69b f_X9_leastStates_122
    rw [if_pos (nI_le (Nat.le_refl q) (by omega)), nI_1]
    show _ = k37 kc ks _ (v2 + q_b (T q && fk T (eqk ac mv n) q q)) _ M
    cases T q && fk T (eqk ac mv n) q q
    · exact if_pos (by decide)
    · exact if_neg (by decide)
  · rw [trn_succ] at htr
    have skip : T i = false → f_X9_leastStates_69 K k37 (m + 1) kc ks (nI (pm T n)) v2 (nI q) (q_b (T q && fk T (eqk ac mv n) q i)) (nI i) M = f_X9_leastStates_69 K k37 m kc ks (nI (pm T n)) v2 (nI q) (q_b (T q && fk T (eqk ac mv n) q (i + 1))) (nI (i + 1)) M := by
      intro e
      show f_X9_leastStates_69b _ _ _ _ _ _ _ _ _ _ _ = _
      unfold f_X9_leastStates_69b f_X9_leastStates_97 f_X9_leastStates_102
      rw [if_neg (nI_ge hi (by omega)), pm_q h5 (by omega), e, if_pos (by decide), nI_1, qb_and1, fk_succ, e, Bool.false_and, Bool.not_false, Bool.and_true]
    obtain ⟨r, -, r1, r2⟩ := RS.ap h hq (show i < n by omega)
    have hno := (apRes_no (by omega) r2).1
    rw [eqk_comm] at hno
    have walk : T i = true → f_X9_leastStates_69 K k37 (m + 1) kc ks (nI (pm T n)) v2 (nI q) (q_b (T q && fk T (eqk ac mv n) q i)) (nI i) M = f_X9_leastStates_69 K k37 m (kc + 162) (ks + 810) (nI (pm T n)) v2 (nI q) (q_b (T q && fk T (eqk ac mv n) q (i + 1))) (nI (i + 1)) M := by
      intro e
      show f_X9_leastStates_69b _ _ _ _ _ _ _ _ _ _ _ = _
      unfold f_X9_leastStates_69b f_X9_leastStates_97 f_X9_leastStates_102
      rw [if_neg (nI_ge hi (by omega)), pm_q h5 (by omega), e, if_neg (by decide), r1]
      simp only [Option.bind_some]
      rw [if_pos ⟨by omega, by omega⟩, nI_1, qb_and1, qb_and0, fk_succ, e, Bool.true_and]
      cases e2 : eqk ac mv n i q
      · rw [if_neg (fun c => by rw [hno.mp c] at e2; exact absurd e2 (by decide)), Bool.not_false, Bool.and_true]
      · rw [if_pos (hno.mpr e2), Bool.not_true, Bool.and_false, Bool.and_false]
    cases e : T i
    · rw [skip e]
      exact ih kc ks (by omega) (by omega)
    · rw [walk e]
      exact ih (kc + 162) (ks + 810) (by omega) (by omega)
theorem m_kinds (h : RSs S M n ac mv) {K : Nat} (hK : 162 * trn n ≤ K) : f_X9_leastStates_37 K 1000 0 0 (nI (pm T n)) (nI (fb_ct (kd ac mv n T) 0)) (nI 0) M = some (nI (fb_ct (kd ac mv n T) n), M) := by
  have h5 := h.1
  have key := pu_for0 (W := fun m q => ∀ kc ks, kc ≤ 162 * trn q → ks ≤ 810 * trn q → f_X9_leastStates_37 K m kc ks (nI (pm T n)) (nI (fb_ct (kd ac mv n T) q)) (nI q) M = some (nI (fb_ct (kd ac mv n T) n), M)) (e := n) (n := 1000) (by omega) (fun m kc ks a b => ?_) (fun m q hq ih kc ks a b => ?_)
  · exact key 0 0 (by decide) (by decide)
  · show f_X9_leastStates_37b _ _ _ _ _ _ _ _ = _
    unfold f_X9_leastStates_37b
    rw [h.2.2.2.2.1, if_pos (nI_le (Nat.le_refl n) (by omega))]
  · obtain ⟨kc2, ks2, a2, b2, e⟩ := m_in (T := T) h hK (k37 := f_X9_leastStates_37 K m) (v2 := nI (fb_ct (kd ac mv n T) q)) hq a b
    have := ih kc2 ks2 a2 b2
    have hv : nI (fb_ct (kd ac mv n T) q) + q_b (kd ac mv n T q) = nI (fb_ct (kd ac mv n T) (q + 1)) := by
      rw [fb_ct_succ]
      cases kd ac mv n T q
      · exact nI_add _ 0
      · exact nI_add _ 1
    rw [hv, this] at e
    show f_X9_leastStates_37b _ _ _ _ _ _ _ _ = _
    unfold f_X9_leastStates_37b f_X9_leastStates_64
    rw [h.2.2.2.2.1, if_neg (nI_ge hq (by omega)), pm_q h5 hq]
    rw [← e]
    cases T q
    · exact if_neg (by decide)
    · exact if_pos (by decide)
theorem lst_trn (h : M.2.1 2 ≤ 5) : 162 * trn (M.2.1 2) ≤ lstK M := by
  unfold lstK
  by_cases c : M.2.1 2 = 5
  · rw [if_pos c, c]
    decide
  · rw [if_neg c]
    have := trn_mono (show M.2.1 2 ≤ 4 by omega)
    have e : trn 4 = 6 := rfl
    omega
theorem T_leastStates (h : RelS S M) (fo : Nat → Int64) : TI (f_L_leastStates S fo) fo (f_X9_leastStates (lstK M) M) (fun S' M' => S' = S ∧ Mr [0] [] M M') := by
  obtain ⟨n, ac, mv, hS⟩ := h
  obtain ⟨h1, h2, h3, h4, h5, h6⟩ := id hS
  by_cases hn : n = 0
  · refine TI.ex (code := 1) (r := 0) (S := S) (M := M) (by decide) ?_ ?_ ⟨rfl, Mr.mset (by decide)⟩
    · unfold f_L_leastStates f_X8_leastStates
      rw [h3, if_pos (by rw [hn]; rfl)]
      rfl
    · unfold f_X9_leastStates f_X9_leastStates_0 f_X9_leastStates_18
      rw [h5, decide_eq_true hn, if_neg (by decide), isWr]
      rfl
  · obtain ⟨T, t1, t2⟩ := x_rch hS (by omega)
    obtain ⟨U, u1, u2⟩ := m_rch (S := S) (M := mset M 0 0) (n := n) (ac := ac) (mv := mv) hS (by omega)
    have e : pm U n = pm T n := pm_cong (fun k hk => rea_one u1 t1 k hk)
    have hk := m_kinds (T := T) (S := S) (M := mset M 0 0) (n := n) (ac := ac) (mv := mv) (K := lstK M) hS (by have := lst_trn (M := M) (by omega); rw [h5] at this; exact this)
    refine TI.ok (r := nI (fb_ct (kd ac mv n T) n)) (S := S) (M := mset M 0 0) ?_ ?_ ms_s ⟨rfl, Mr.mset (by decide)⟩
    · unfold f_L_leastStates f_X8_leastStates f_X3_reachedKinds
      rw [h3, if_neg (fun e => hn ((nI_0iff (by omega)).mp e)), t2]
      simp only [Option.bind_some]
      have := x_kinds (T := T) hS
      rw [show (0 : Int32) = nI 0 from rfl]
      erw [this]
      rfl
    · unfold f_X9_leastStates f_X9_leastStates_0 f_X9_leastStates_18
      rw [h5, decide_eq_false hn, if_pos (by decide), isWr]
      simp only [Option.bind_some]
      rw [if_pos (by decide), u2]
      simp only [Option.bind_some]
      rw [e]
      exact hk
end BB
