/-! machines: the states reached and their kinds -/
theorem pm_set {g : Nat → Bool} {n a : Nat} (ha : a < n) : pm g n ||| 2 ^ a = pm (fun k => g k || decide (k = a)) n := by
  apply Nat.eq_of_testBit_eq
  intro i
  rw [Nat.testBit_or, pm_bit, pm_bit, Nat.testBit_two_pow]
  by_cases c : i = a
  · subst c
    simp [ha]
  · rw [decide_eq_false c, decide_eq_false (fun e : a = i => c e.symm), Bool.or_false, Bool.or_false]
theorem pm_one {n : Nat} (hn : 0 < n) : pm (fun k => decide (k = 0)) n = 1 := by
  have := pm_set (g := fun _ => false) hn
  rw [pm_0] at this
  rw [show pm (fun k => decide (k = 0)) n = pm (fun k => false || decide (k = 0)) n from pm_cong (fun k _ => (Bool.false_or _).symm), ← this]
  rfl
/-- from the states of g some letters on: g2 -/
def hull (mv : Nat → Nat → Nat) (n : Nat) (g g2 : Nat → Bool) : Prop := (∀ k, k < n → g k = true → g2 k = true) ∧ ∀ U : Nat → Bool, cls mv n U → (∀ k, k < n → g k = true → U k = true) → ∀ k, k < n → g2 k = true → U k = true
theorem hull_refl {mv : Nat → Nat → Nat} {n : Nat} (g : Nat → Bool) : hull mv n g g := ⟨fun _ _ h => h, fun _ _ h => h⟩
theorem hull_step {mv : Nat → Nat → Nat} {n : Nat} {g g2 : Nat → Bool} (h : hull mv n g g2) {q c : Nat} (hq : q < n) (hg : g2 q = true) (hc : c < 2) : hull mv n g (fun k => g2 k || decide (k = mv q c)) :=
  ⟨fun k hk e => by show (g2 k || _) = true; rw [h.1 k hk e]; rfl, fun U hU hs k hk e => by
    have e' : (g2 k || decide (k = mv q c)) = true := e
    rw [Bool.or_eq_true, decide_eq_true_iff] at e'
    rcases e' with e1 | rfl
    · exact h.2 U hU hs k hk e1
    · exact hU q hq (h.2 U hU hs q hq hg) c hc⟩
section BA
variable {S : CS} {M : MS} {n : Nat} {ac : Nat → Bool} {mv : Nat → Nat → Nat}
def rqQ (mv : Nat → Nat → Nat) (n i : Nat) (g g2 : Nat → Bool) : Prop := hull mv n g g2 ∧ ∀ q, q < i → q < n → g q = true → ∀ c, c < 2 → g2 (mv q c) = true
theorem x_rch_in (h : RSs S M n ac mv) {k4 : Int32 → Int32 → Option Int32} {v2 : Int32} (g0 : Nat → Bool) : ∃ g2, rqQ mv n n g0 g2 ∧ f_X3_reached_14 S k4 1000 (nI (pm g0 n)) v2 (nI 0) = k4 (nI (pm g2 n)) (v2 + 1) := by
  obtain ⟨h1, h2, h3, h4, h5, h6⟩ := h
  refine pu_forS (W := fun m i (g : Nat → Bool) => ∃ g2, rqQ mv n n g0 g2 ∧ f_X3_reached_14 S k4 m (nI (pm g n)) v2 (nI i) = k4 (nI (pm g2 n)) (v2 + 1)) (I := fun i g => rqQ mv n i g0 g) n (fun m g hI => ?_) (fun m i g hi hI ih => ?_) n 1000 0 g0 (Nat.zero_add n) (by omega) ⟨hull_refl g0, fun q hq => absurd hq (Nat.not_lt_zero q)⟩
  · refine ⟨g, hI, ?_⟩
    show f_X3_reached_14b S k4 (f_X3_reached_14 S k4 m) (nI (pm g n)) v2 (nI n) = _
    unfold f_X3_reached_14b
    rw [h3, if_pos (nI_le (Nat.le_refl n) (by omega))]
  · have m0 := h2 i hi 0 (by decide)
    have m1 := h2 i hi 1 (by decide)
    have e0 : (2 : Int32) * nI i = nI (2 * i) := pk_mul 2 i
    have go : f_X3_reached_14 S k4 (m + 1) (nI (pm g n)) v2 (nI i) = if q_b (g i) = 0 then f_X3_reached_14 S k4 m (nI (pm g n)) v2 (nI (i + 1)) else f_X3_reached_14 S k4 m (nI (pm (fun k => (g k || decide (k = mv i 0)) || decide (k = mv i 1)) n)) v2 (nI (i + 1)) := by
      show f_X3_reached_14b S k4 (f_X3_reached_14 S k4 m) (nI (pm g n)) v2 (nI i) = _
      unfold f_X3_reached_14b f_X3_reached_60
      rw [h3, if_neg (nI_ge hi (by omega)), hasBit_pm (by omega) (by omega), decide_eq_true hi, Bool.true_and, e0, nI_1, nI_1, q_at_nI (by omega) (by decide), q_at_nI (by omega) (by decide), show S.1 16 (2 * i) = nI (mv i 0) from ((h6 i hi).2 0 (by decide)).2, ((h6 i hi).2 1 (by decide)).2, nI_one _ (by omega), nI_one _ (by omega), nI_or, nI_or, ← Nat.or_assoc, pm_set m0, pm_set m1]
    rw [go]
    cases e : g i
    · rw [if_pos (by decide)]
      refine ih g ⟨hI.1, fun q hq hqn hg c hc => ?_⟩
      rcases Nat.lt_or_ge q i with d | d
      · exact hI.2 q d hqn hg c hc
      · have : q = i := by omega
        subst this
        rw [hI.1.1 q hqn hg] at e
        exact absurd e (by decide)
    · rw [if_neg (by decide)]
      refine ih _ ⟨hull_step (hull_step hI.1 hi e (c := 0) (by decide)) hi (by show (g i || _) = true; rw [e]; rfl) (c := 1) (by decide), fun q hq hqn hg c hc => ?_⟩
      show ((g (mv q c) || decide (mv q c = mv i 0)) || decide (mv q c = mv i 1)) = true
      rcases Nat.lt_or_ge q i with d | d
      · rw [hI.2 q d hqn hg c hc]; rfl
      · have : q = i := by omega
        subst this
        match c, hc with
        | 0, _ => rw [decide_eq_true rfl, Bool.or_true]; rfl
        | 1, _ => rw [decide_eq_true (rfl : mv q 1 = mv q 1), Bool.or_true]
theorem x_rch (h : RSs S M n ac mv) (h0 : 0 < n) : ∃ T, rea mv n T ∧ f_X3_reached S = some (nI (pm T n)) := by
  have h5 := h.1
  have key := pu_forS (W := fun m s (g : Nat → Bool) => ∃ T, rea mv n T ∧ f_X3_reached_4 S m (nI (pm g n)) (nI s) = some (nI (pm T n))) (I := fun s g => g 0 = true ∧ (∀ U : Nat → Bool, U 0 = true → cls mv n U → ∀ k, k < n → g k = true → U k = true) ∧ (cls mv n g ∨ s ≤ fb_ct g n)) n (fun m g hI => ?_) (fun m s g hs hI ih => ?_) (n - 1) 1000 1 (fun k => decide (k = 0)) (by omega) (by omega) ⟨rfl, fun U hU _ k _ e => by rw [of_decide_eq_true e]; exact hU, Or.inr (fb_ct_pos.mpr ⟨0, h0, rfl⟩)⟩
  · obtain ⟨T, t1, t2⟩ := key
    refine ⟨T, t1, ?_⟩
    rw [pm_one h0] at t2
    exact t2
  · refine ⟨g, ⟨hI.1, ?_, hI.2.1⟩, ?_⟩
    · rcases hI.2.2 with c | c
      · exact c
      · have := fb_ct_le g n
        have ha := fb_ct_all.mp (show fb_ct g n = n by omega)
        exact fun q hq _ c hc => ha _ (h.2.1 q hq c hc)
    · show f_X3_reached_4b S (f_X3_reached_4 S m) (nI (pm g n)) (nI n) = _
      unfold f_X3_reached_4b
      rw [h.2.2.1, if_pos (nI_le (Nat.le_refl n) (by omega))]
  · obtain ⟨g2, q1, q2⟩ := x_rch_in h (k4 := f_X3_reached_4 S m) (v2 := nI s) g
    have go : f_X3_reached_4 S (m + 1) (nI (pm g n)) (nI s) = f_X3_reached_4 S m (nI (pm g2 n)) (nI (s + 1)) := by
      show f_X3_reached_4b S (f_X3_reached_4 S m) (nI (pm g n)) (nI s) = _
      unfold f_X3_reached_4b
      rw [h.2.2.1, if_neg (nI_ge hs (by omega))]
      rw [nI_1] at q2
      exact q2
    rw [go]
    refine ih g2 ⟨q1.1.1 0 h0 hI.1, fun U hU hc k hk e => q1.1.2 U hc (hI.2.1 U hU hc) k hk e, ?_⟩
    by_cases hc : cls mv n g
    · refine Or.inl (fun q hq e c hc2 => ?_)
      exact q1.1.1 _ (h.2.1 q hq c hc2) (hc q hq (q1.1.2 g hc (fun _ _ e => e) q hq e) c hc2)
    · right
      have hs2 : s ≤ fb_ct g n := hI.2.2.resolve_left hc
      have : ∃ q c, q < n ∧ c < 2 ∧ g q = true ∧ g (mv q c) = false := by
        refine Classical.byContradiction (fun hn => hc (fun q hq e c hc2 => ?_))
        cases e2 : g (mv q c)
        · exact absurd ⟨q, c, hq, hc2, e, e2⟩ hn
        · rfl
      obtain ⟨q, c, a1, a2, a3, a4⟩ := this
      have := ct_strict q1.1.1 (h.2.1 q a1 c a2) a4 (q1.2 q a1 a1 a3 c a2)
      omega
/-! the reference goes deep first -/
def dfQ (mv : Nat → Nat → Nat) (n v : Nat) (g R : Nat → Bool) : Prop := (∀ k, k < n → g k = true → R k = true) ∧ R v = true ∧ (∀ q, q < n → R q = true → g q = false → ∀ c, c < 2 → R (mv q c) = true) ∧ ∀ U : Nat → Bool, cls mv n U → (∀ k, k < n → g k = true → U k = true) → U v = true → ∀ k, k < n → R k = true → U k = true
def dfA (M : MS) (mv : Nat → Nat → Nat) (n f : Nat) : Prop := ∀ v g, v < n → g v = false → n ≤ f + fb_ct g n → ∃ R, dfQ mv n v g R ∧ f_X9_reached M f (nI v) (nI (pm g n)) = some (nI (pm R n))
def sucQ (mv : Nat → Nat → Nat) (n v c : Nat) (g R : Nat → Bool) : Prop := (∀ k, k < n → g k = true → R k = true) ∧ R (mv v c) = true ∧ (∀ q, q < n → R q = true → g q = false → ∀ c, c < 2 → R (mv q c) = true) ∧ ∀ U : Nat → Bool, cls mv n U → (∀ k, k < n → g k = true → U k = true) → U v = true → ∀ k, k < n → R k = true → U k = true
theorem m_suc (h : RSs S M n ac mv) {f : Nat} (hf : dfA M mv n f) {v c m : Nat} (hv : v < n) (hc : c < 2) {g : Nat → Bool} (hg : n ≤ f + fb_ct g n) : ∃ R, sucQ mv n v c g R ∧ f_X9_reached_9 M (f_X9_reached M f) (m + 1) (nI v) (nI (pm g n)) (nI (1 + c)) = f_X9_reached_9 M (f_X9_reached M f) m (nI v) (nI (pm R n)) (nI (2 + c)) := by
  obtain ⟨h1, h2, h3, h4, h5, h6⟩ := h
  have hw := h2 v hv c hc
  have er : M.2.2.1 2 (nI v).toNatClampNeg (nI (1 + c)).toNatClampNeg = nI (mv v c) := by
    rw [nI_clamp (by omega), nI_clamp (by omega)]
    exact ((h6 v hv).2 c hc).1
  have hb : pm g n / 2 ^ mv v c % 2 = if g (mv v c) then 1 else 0 := by
    have := pm_bit g (mv v c) n
    rw [Nat.testBit_eq_decide_div_mod_eq, decide_eq_true hw, Bool.true_and] at this
    cases e : g (mv v c)
    · rw [e] at this
      have := of_decide_eq_false this
      rw [if_neg (by decide)]
      omega
    · rw [e] at this
      rw [if_pos rfl]
      exact of_decide_eq_true this
  have go : f_X9_reached_9 M (f_X9_reached M f) (m + 1) (nI v) (nI (pm g n)) (nI (1 + c)) = if g (mv v c) then f_X9_reached_9 M (f_X9_reached M f) m (nI v) (nI (pm g n)) (nI (2 + c)) else (f_X9_reached M f (nI (mv v c)) (nI (pm g n))).bind fun u5 => f_X9_reached_9 M (f_X9_reached M f) m (nI v) u5 (nI (2 + c)) := by
    show f_X9_reached_9b M (f_X9_reached M f) (f_X9_reached_9 M (f_X9_reached M f) m) (nI v) (nI (pm g n)) (nI (1 + c)) = _
    unfold f_X9_reached_9b f_X9_reached_54
    rw [er, if_neg (show ¬ (2 : Int32) < nI (1 + c) from nI_nlt (a := 2) (b := 1 + c) (by omega) (by decide)), h5, if_pos (q_in_nI hv (by omega)), if_pos ⟨(q_in_nI (i := v) (n := n) hv (by omega)).2, q_in_nI (by omega) (by decide)⟩, nI_b1 (pm31 g (by omega)) (by omega), hb, nI_1, show 1 + c + 1 = 2 + c by omega]
    cases g (mv v c)
    · rw [if_neg (by decide), if_neg (by decide)]
    · rw [if_pos (by decide), if_pos rfl]
  rw [go]
  cases e : g (mv v c)
  · obtain ⟨R, r1, r2⟩ := hf (mv v c) g hw e hg
    refine ⟨R, ⟨r1.1, r1.2.1, r1.2.2.1, fun U hU hs hUv k hk eR => r1.2.2.2 U hU hs (hU v hv hUv c hc) k hk eR⟩, ?_⟩
    rw [if_neg (by decide), r2]
    rfl
  · refine ⟨g, ⟨fun _ _ e => e, e, fun q _ a b => ?_, fun U _ hs _ k hk eR => hs k hk eR⟩, ?_⟩
    · rw [a] at b; exact absurd b (by decide)
    · rw [if_pos rfl]
theorem m_df (h : RSs S M n ac mv) : ∀ f, dfA M mv n f
  | 0 => fun v g hv hg hn => by
    have := fb_ct_le g n
    have ha := fb_ct_all.mp (show fb_ct g n = n by omega) v hv
    rw [hg] at ha
    exact absurd ha (by decide)
  | f + 1 => fun v g hv hg hn => by
    have h5 := h.1
    have ih := m_df h f
    have hc1 : fb_ct (fun k => g k || decide (k = v)) n = fb_ct g n + 1 := by
      have a := fb_ct_upd g true hv
      rw [hg, if_neg (by decide), if_pos rfl, Nat.add_zero] at a
      rw [← a]
      refine fb_ct_cong (fun k _ => ?_)
      by_cases c : k = v
      · rw [if_pos c, decide_eq_true c, Bool.or_true]
      · rw [if_neg c, decide_eq_false c, Bool.or_false]
    obtain ⟨g1, hg1⟩ : ∃ g1 : Nat → Bool, g1 = fun k => g k || decide (k = v) := ⟨_, rfl⟩
    rw [← hg1] at hc1
    have gv : g1 v = true := by rw [hg1]; show (g v || decide (v = v)) = true; rw [decide_eq_true rfl, Bool.or_true]
    have gs : ∀ k, g k = true → g1 k = true := fun k e => by rw [hg1]; show (g k || _) = true; rw [e]; rfl
    have gb : ∀ k, g1 k = true → g k = true ∨ k = v := fun k e => by
      rw [hg1] at e
      have e' : (g k || decide (k = v)) = true := e
      rw [Bool.or_eq_true, decide_eq_true_iff] at e'
      exact e'
    obtain ⟨R1, a1, a2⟩ := m_suc h ih (c := 0) (m := 999) hv (by decide) (g := g1) (by omega)
    have hm := fb_ct_sub (p := g1) (q := R1) a1.1
    obtain ⟨R2, b1, b2⟩ := m_suc h ih (c := 1) (m := 998) hv (by decide) (g := R1) (by omega)
    refine ⟨R2, ⟨fun k hk e => b1.1 k hk (a1.1 k hk (gs k e)), b1.1 v hv (a1.1 v hv gv), fun q hq e eg c hc => ?_, fun U hU hs hUv k hk e => ?_⟩, ?_⟩
    · cases e1 : R1 q
      · exact b1.2.2.1 q hq e e1 c hc
      · have hw := h.2.1 q hq c hc
        cases e0 : g1 q
        · exact b1.1 _ hw (a1.2.2.1 q hq e1 e0 c hc)
        · rcases gb q e0 with d | d
          · rw [d] at eg; exact absurd eg (by decide)
          · subst d
            match c, hc with
            | 0, _ => exact b1.1 _ (h.2.1 q hq 0 (by decide)) a1.2.1
            | 1, _ => exact b1.2.1
    · have hU1 : ∀ k, k < n → g1 k = true → U k = true := fun k hk e => by
        rcases gb k e with d | d
        · exact hs k hk d
        · rw [d]; exact hUv
      exact b1.2.2.2 U hU (fun k hk e => a1.2.2.2 U hU hU1 hUv k hk e) hUv k hk e
    · show f_X9_reached_9 M (f_X9_reached M f) 1000 (nI v) (nI (pm g n) ||| ((1 : Int32) <<< (nI v &&& 31))) 1 = _
      rw [nI_one v (by omega), nI_or, pm_set hv, ← hg1]
      refine a2.trans (b2.trans ?_)
      show f_X9_reached_9b M (f_X9_reached M f) (f_X9_reached_9 M (f_X9_reached M f) 997) (nI v) (nI (pm R2 n)) (nI (2 + 1)) = _
      unfold f_X9_reached_9b
      rw [if_pos (show (2 : Int32) < nI (2 + 1) by decide)]
theorem m_rch (h : RSs S M n ac mv) (h0 : 0 < n) : ∃ T, rea mv n T ∧ f_X9_reached M 10 0 0 = some (nI (pm T n)) := by
  have h5 := h.1
  obtain ⟨R, r1, r2⟩ := m_df h 10 0 (fun _ => false) h0 rfl (by omega)
  refine ⟨R, ⟨r1.2.1, fun q hq e c hc => r1.2.2.1 q hq e rfl c hc, fun U hU hc k hk e => r1.2.2.2 U hc (fun _ _ e => absurd e Bool.false_ne_true) hU k hk e⟩, ?_⟩
  rw [pm_0] at r2
  exact r2
end BA
