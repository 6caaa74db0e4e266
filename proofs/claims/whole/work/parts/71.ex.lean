/-! experts: a round, weights, regret -/
theorem shr0 {x : Int32} {k : Nat} (hk : k < 31) : (x >>> (nI k &&& 31)) = 0 ↔ ∃ m, m < 2 ^ k ∧ x = nI m := by
  constructor
  · intro h
    obtain ⟨m, -, e⟩ := wb_of32 x
    refine ⟨m % 2 ^ 32, ?_, ?_⟩
    · apply Nat.lt_pow_two_of_testBit
      intro i hi
      rw [Nat.testBit_mod_two_pow]
      by_cases h32 : i < 32
      · have h1 := b_sshr k (by omega) x (i := i - k) (by omega)
        rw [h, b_0, if_pos (by omega), show k + (i - k) = i by omega, e, bt_nI _ h32] at h1
        rw [← h1, Bool.and_false]
      · rw [decide_eq_false h32, Bool.false_and]
    · rw [e]
      apply b_ext
      intro i hi
      rw [bt_nI _ hi, bt_nI _ hi, Nat.testBit_mod_two_pow, decide_eq_true hi, Bool.true_and]
  · rintro ⟨m, hm, rfl⟩
    apply b_ext
    intro i hi
    have hz : ∀ j, k ≤ j → m.testBit j = false := fun j hj => Nat.testBit_lt_two_pow (Nat.lt_of_lt_of_le hm (Nat.pow_le_pow_right (by decide) hj))
    rw [b_sshr k (by omega) _ hi, b_0]
    split
    · rw [bt_nI _ (by omega)]; exact hz _ (by omega)
    · rw [bt_nI _ (by omega)]; exact hz _ (by omega)
def wi (m : Nat) (w : Nat → Nat) (k : Nat) : Nat := if m.testBit k then w k else 0
def wo (m : Nat) (w : Nat → Nat) (k : Nat) : Nat := if m.testBit k then 0 else w k
theorem i_as (x y z : Int32) : x - y + z = x + z - y := by
  rw [Int32.sub_eq_add_neg, Int32.sub_eq_add_neg, Int32.add_assoc, Int32.add_assoc, Int32.add_comm (-y) z]
theorem i_sn (x y z : Int32) : x - y + -z = x - (y + z) := by
  rw [Int32.sub_eq_add_neg, Int32.sub_eq_add_neg, Int32.neg_add, Int32.add_assoc, Int32.sub_eq_add_neg]
theorem x_lead {S : CS} {E : Nat} {w : Nat → Nat} (hE : E ≤ 6) (h2 : S.1 4 2 = nI E) (hw : ∀ k, k < E → S.1 14 k = nI (w k)) {m : Nat} (hm : m < 2 ^ 31) : f_X2_lead S (nI m) = some (nI (fb_sm (wi m w) E) - nI (fb_sm (wo m w) E)) := by
  have e0 : nI (fb_sm (wi m w) 0) - nI (fb_sm (wo m w) 0) = 0 := (show nI 0 - nI 0 = 0 by decide)
  suffices key : f_X2_lead_4 S 1000 (nI m) (nI (fb_sm (wi m w) 0) - nI (fb_sm (wo m w) 0)) (nI 0) = some (nI (fb_sm (wi m w) E) - nI (fb_sm (wo m w) E)) by
    rw [e0] at key
    exact key
  refine pu_for0 (W := fun n i => f_X2_lead_4 S n (nI m) (nI (fb_sm (wi m w) i) - nI (fb_sm (wo m w) i)) (nI i) = some (nI (fb_sm (wi m w) E) - nI (fb_sm (wo m w) E))) (e := E) (n := 1000) (by omega) (fun n => ?_) (fun n i hi ih => ?_)
  · show f_X2_lead_4b S _ _ _ _ = _
    unfold f_X2_lead_4b
    rw [h2, if_pos (nI_le (Nat.le_refl E) (by omega))]
  · show f_X2_lead_4b S _ _ _ _ = _
    unfold f_X2_lead_4b f_X2_lead_35 f_X2_weightOf
    rw [h2, if_neg (nI_ge hi (by omega)), hasBit_nI hm (by omega), q_at_nI (by omega) (by decide), hw i hi, nI_1]
    rw [fb_sm_succ, fb_sm_succ] at ih
    unfold wi wo at ih ⊢
    cases hb : m.testBit i
    · rw [hb] at ih
      rw [if_pos (by decide), i_sn, nI_add]
      exact ih
    · rw [hb] at ih
      rw [if_neg (by decide), i_as, nI_add]
      exact ih
def w2 (m : Nat) (b : Bool) (w : Nat → Nat) (k : Nat) : Nat := if m.testBit k = b then w k else max 1 (w k / 2)
def r2 (m : Nat) (b : Bool) (r : Nat → Int32) (k : Nat) : Int32 := if m.testBit k = b then r k else r k + 1
theorem half {a : Nat} (h : a ≤ 1024) : q_max 1 (nI a / 2) = nI (max 1 (a / 2)) := by
  rw [show (2 : Int32) = nI 2 from rfl, pk_div (by omega) (by decide) (by decide), show (1 : Int32) = nI 1 from rfl]
  unfold q_max
  by_cases c : 1 < a / 2
  · rw [if_pos (nI_lt c (by omega)), Nat.max_eq_right (by omega)]
  · rw [if_neg (nI_nlt (by omega) (by decide)), Nat.max_eq_left (by omega)]
theorem x_hear {S : CS} {E : Nat} {w : Nat → Nat} (hE : E ≤ 6) (h2 : S.1 4 2 = nI E) (hw : ∀ k, k < E → S.1 14 k = nI (w k)) (hl : ∀ k, k < E → w k ≤ 1024) {m : Nat} (hm : m < 2 ^ 31) (b c : Bool) : ∃ S' : CS, f_X2_hear_32 1000 (nI m) (q_b b) (q_b c) 0 S = some (c, S') ∧ Fr [14, 15] S S' ∧ ∀ k, k < E → S'.1 14 k = nI (w2 m b w k) ∧ S'.1 15 k = r2 m b (S.1 15) k := by
  have h := pu_forS (W := fun n i s => ∃ S' : CS, f_X2_hear_32 n (nI m) (q_b b) (q_b c) (nI i) s = some (c, S') ∧ Fr [14, 15] S S' ∧ ∀ k, k < E → S'.1 14 k = nI (w2 m b w k) ∧ S'.1 15 k = r2 m b (S.1 15) k)
    (I := fun i s => Fr [14, 15] S s ∧ ∀ k, k < E → s.1 14 k = (if k < i then nI (w2 m b w k) else nI (w k)) ∧ s.1 15 k = (if k < i then r2 m b (S.1 15) k else S.1 15 k)) E (fun n s hi => ?_) (fun n i s hi hI ih => ?_) E 1000 0 S (Nat.zero_add E) (by omega) ⟨Fr.refl S, fun k hk => ⟨by rw [if_neg (Nat.not_lt_zero k)]; exact hw k hk, by rw [if_neg (Nat.not_lt_zero k)]⟩⟩
  · exact h
  · refine ⟨s, ?_, hi.1, fun k hk => ?_⟩
    · show f_X2_hear_32b _ _ _ _ _ _ = _
      unfold f_X2_hear_32b
      rw [hi.1.1 4 (by decide), h2, if_pos (nI_le (Nat.le_refl E) (by omega))]
      cases c
      · rfl
      · rfl
    · have := hi.2 k hk
      rw [if_pos hk, if_pos hk] at this
      exact this
  · obtain ⟨h1, h3⟩ := hI
    obtain ⟨h5, h6⟩ := h3 i hi
    rw [if_neg (Nat.lt_irrefl i)] at h5 h6
    have stay : ∀ k, k < E → k ≠ i → s.1 14 k = (if k < i + 1 then nI (w2 m b w k) else nI (w k)) ∧ s.1 15 k = (if k < i + 1 then r2 m b (S.1 15) k else S.1 15 k) := by
      intro k hk he
      have := h3 k hk
      by_cases c : k < i
      · rw [if_pos c, if_pos c] at this
        rw [if_pos (by omega), if_pos (by omega)]
        exact this
      · rw [if_neg c, if_neg c] at this
        rw [if_neg (by omega), if_neg (by omega)]
        exact this
    by_cases hb : m.testBit i = b
    · obtain ⟨S', e1, e2⟩ := ih s ⟨h1, fun k hk => by
        by_cases e : k = i
        · subst e
          rw [if_pos (by omega), if_pos (by omega)]
          unfold w2 r2
          rw [if_pos hb, if_pos hb]
          exact ⟨h5, h6⟩
        · exact stay k hk e⟩
      refine ⟨S', ?_, e2⟩
      show f_X2_hear_32b _ _ _ _ _ _ = _
      unfold f_X2_hear_32b f_X2_hear_92
      rw [h1.1 4 (by decide), h2, if_neg (nI_ge hi (by omega)), hasBit_nI hm (by omega), hb, if_pos rfl, nI_1]
      exact e1
    · obtain ⟨S', e1, e2⟩ := ih (cfun (cfun s 14 (upd (s.1 14) i (nI (max 1 (w i / 2))))) 15 (upd (s.1 15) i (S.1 15 i + 1))) ⟨h1.trans ((Fr.cfun (by decide)).trans (Fr.cfun (by decide))), fun k hk => by
        rw [cf_n (by decide : (14 : Nat) ≠ 15), cf_s, cf_s]
        by_cases e : k = i
        · subst e
          rw [if_pos (by omega), if_pos (by omega), pk_us, pk_us]
          unfold w2 r2
          rw [if_neg hb, if_neg hb]
          exact ⟨rfl, rfl⟩
        · rw [pk_un e, pk_un e]
          exact stay k hk e⟩
      refine ⟨S', ?_, e2⟩
      show f_X2_hear_32b _ _ _ _ _ _ = _
      unfold f_X2_hear_32b f_X2_hear_92 f_X2_weightOf
      rw [h1.1 4 (by decide), h2, if_neg (nI_ge hi (by omega)), hasBit_nI hm (by omega), if_neg (fun e => hb (qb_e.mp e)), q_at_nI (by omega) (by decide), h5, half (hl i hi), cf_n (by decide : (15 : Nat) ≠ 14), q_pu_nI (by omega) (by decide), q_pu_nI (by omega) (by decide), q_at_nI (by omega) (by decide), h6, nI_1]
      exact e1
theorem m_round1 {M : MS} {E : Nat} {w : Nat → Nat} (hE : E ≤ 6) (h2 : M.2.1 1 = E) (hw : ∀ k, k < E → M.2.2.1 1 k 0 = nI (w k)) {m : Nat} (hm : m < 2 ^ 31) (b : Int32) : f_X9_round_62 1000 (nI m) b 0 0 0 M = f_X9_round_151 1000 (nI m) b (nI (fb_sm (wi m w) E)) (nI (fb_sm (wo m w) E)) 0 M := by
  refine pu_for0 (W := fun n i => f_X9_round_62 n (nI m) b (nI (fb_sm (wi m w) i)) (nI (fb_sm (wo m w) i)) (nI i) M = f_X9_round_151 1000 (nI m) b (nI (fb_sm (wi m w) E)) (nI (fb_sm (wo m w) E)) 0 M) (e := E) (n := 1000) (by omega) (fun n => ?_) (fun n i hi ih => ?_)
  · show f_X9_round_62b _ _ _ _ _ _ _ = _
    unfold f_X9_round_62b
    rw [h2, if_pos (nI_le (Nat.le_refl E) (by omega))]
  · show f_X9_round_62b _ _ _ _ _ _ _ = _
    unfold f_X9_round_62b f_X9_round_106 f_X9_round_139
    rw [h2, if_neg (nI_ge hi (by omega)), hasP hm (by omega)]
    rw [fb_sm_succ, fb_sm_succ] at ih
    unfold wi wo at ih ⊢
    cases hb : m.testBit i
    · rw [hb] at ih
      rw [if_pos (by decide), if_pos (by decide), if_pos (q_in_nI hi (by omega)), nI_clamp (by omega), if_pos hi, hw i hi, Int32.add_zero, nI_add, nI_1]
      exact ih
    · rw [hb] at ih
      rw [if_neg (by decide), if_pos (q_in_nI hi (by omega)), if_pos (q_in_nI hi (by omega)).2, if_neg (by decide), nI_clamp (by omega), hw i hi, Int32.add_zero, nI_add, nI_1]
      exact ih
theorem m_round2 {M : MS} {E : Nat} {w : Nat → Nat} (hE : E ≤ 6) (h2 : M.2.1 1 = E) (hw : ∀ k, k < E → M.2.2.1 1 k 0 = nI (w k)) (hl : ∀ k, k < E → w k ≤ 1024) {m : Nat} (hm : m < 2 ^ 31) (b : Bool) (x y : Int32) : ∃ M' : MS, f_X9_round_151 1000 (nI m) (q_b b) x y 0 M = some (decide (¬ x < y), M') ∧ Mr [10] [1] M M' ∧ M'.1 10 = (if decide (¬ x < y) = b then M.1 10 else M.1 10 + 1) ∧ M'.2.1 1 = E ∧ ∀ k, k < E → M'.2.2.1 1 k 0 = nI (w2 m b w k) ∧ M'.2.2.1 1 k 1 = r2 m b (fun k => M.2.2.1 1 k 1) k := by
  have h := pu_forS (W := fun n i s => ∃ M' : MS, f_X9_round_151 n (nI m) (q_b b) x y (nI i) s = some (decide (¬ x < y), M') ∧ Mr [10] [1] M M' ∧ M'.1 10 = (if decide (¬ x < y) = b then M.1 10 else M.1 10 + 1) ∧ M'.2.1 1 = E ∧ ∀ k, k < E → M'.2.2.1 1 k 0 = nI (w2 m b w k) ∧ M'.2.2.1 1 k 1 = r2 m b (fun k => M.2.2.1 1 k 1) k)
    (I := fun i s => Mr [] [1] M s ∧ s.2.1 1 = E ∧ ∀ k, k < E → s.2.2.1 1 k 0 = (if k < i then nI (w2 m b w k) else nI (w k)) ∧ s.2.2.1 1 k 1 = (if k < i then r2 m b (fun k => M.2.2.1 1 k 1) k else M.2.2.1 1 k 1)) E (fun n s hi => ?_) (fun n i s hi hI ih => ?_) E 1000 0 M (Nat.zero_add E) (by omega) ⟨Mr.refl M, h2, fun k hk => ⟨by rw [if_neg (Nat.not_lt_zero k)]; exact hw k hk, by rw [if_neg (Nat.not_lt_zero k)]⟩⟩
  · exact h
  · obtain ⟨h1, h3, h4⟩ := hi
    have h10 : s.1 10 = M.1 10 := h1.1 10 (by decide) (by decide)
    refine ⟨mset s 10 (if decide (¬ x < y) = b then M.1 10 else M.1 10 + 1), ?_, Mr.trans (⟨fun s hs hj => h1.1 s hs (by simp), h1.2.1, h1.2.2⟩) (Mr.mset (by decide)), ms_s, h3, fun k hk => ?_⟩
    · show f_X9_round_151b _ _ _ _ _ _ _ = _
      unfold f_X9_round_151b f_X9_round_233 f_X9_round_251
      rw [h3, if_pos (nI_le (Nat.le_refl E) (by omega)), h10]
      by_cases c : x < y
      · rw [if_pos c, decide_eq_false (fun e => e c)]
        cases b
        · rw [if_pos (by decide), if_pos rfl, if_pos rfl, Int32.add_zero]
        · rw [if_neg (by decide), if_pos rfl, if_neg (by decide)]
      · rw [if_neg c, decide_eq_true c]
        cases b
        · rw [if_neg (by decide), if_neg (by decide), if_pos rfl, if_neg (by decide)]
        · rw [if_pos (by decide), if_neg (by decide), if_pos rfl, if_pos rfl, Int32.add_zero]
    · have := h4 k hk
      rw [if_pos hk, if_pos hk] at this
      exact this
  · obtain ⟨h1, h2', h3⟩ := hI
    obtain ⟨h5, h6⟩ := h3 i hi
    rw [if_neg (Nat.lt_irrefl i)] at h5 h6
    have stay : ∀ k, k < E → k ≠ i → s.2.2.1 1 k 0 = (if k < i + 1 then nI (w2 m b w k) else nI (w k)) ∧ s.2.2.1 1 k 1 = (if k < i + 1 then r2 m b (fun k => M.2.2.1 1 k 1) k else M.2.2.1 1 k 1) := by
      intro k hk he
      have := h3 k hk
      by_cases c : k < i
      · rw [if_pos c, if_pos c] at this
        rw [if_pos (by omega), if_pos (by omega)]
        exact this
      · rw [if_neg c, if_neg c] at this
        rw [if_neg (by omega), if_neg (by omega)]
        exact this
    by_cases hb : m.testBit i = b
    · obtain ⟨M', e1, e2⟩ := ih s ⟨h1, h2', fun k hk => by
        by_cases e : k = i
        · subst e
          rw [if_pos (by omega), if_pos (by omega)]
          unfold w2 r2
          rw [if_pos hb, if_pos hb]
          exact ⟨h5, h6⟩
        · exact stay k hk e⟩
      refine ⟨M', ?_, e2⟩
      show f_X9_round_151b _ _ _ _ _ _ _ = _
      unfold f_X9_round_151b f_X9_round_216
      rw [h2', if_neg (nI_ge hi (by omega)), if_pos (q_in_nI hi (by omega)), hasP hm (by omega), hb, if_pos rfl, nI_1]
      exact e1
    · obtain ⟨M', e1, e2⟩ := ih (mrow (mrow s 1 i 0 (nI (max 1 (w i / 2)))) 1 i 1 (M.2.2.1 1 i 1 + 1)) ⟨h1.trans ((Mr.mrow (by decide)).trans (Mr.mrow (by decide))), h2', fun k hk => by
        by_cases e : k = i
        · subst e
          rw [if_pos (by omega), if_pos (by omega), mw_rs, mw_rs, pk_un (by decide), pk_us, pk_us]
          unfold w2 r2
          rw [if_neg hb, if_neg hb]
          exact ⟨rfl, rfl⟩
        · rw [mw_rn e, mw_rn e]
          exact stay k hk e⟩
      refine ⟨M', ?_, e2⟩
      show f_X9_round_151b _ _ _ _ _ _ _ = _
      unfold f_X9_round_151b f_X9_round_216
      rw [h2', if_neg (nI_ge hi (by omega)), if_pos (q_in_nI hi (by omega)), hasP hm (by omega), if_neg (fun e => hb (qb_e.mp e)), nI_clamp (by omega), if_pos hi, if_pos hi, h5, half (hl i hi)]
      rw [show (mrow s 1 i 0 (nI (max 1 (w i / 2)))).2.1 1 = E from h2', if_pos hi, if_pos hi, mw_rs, pk_un (by decide), h6, nI_1]
      exact e1
theorem sm_bound {w : Nat → Nat} {E : Nat} (hE : E ≤ 6) (hl : ∀ k, k < E → w k ≤ 1024) : fb_sm w E ≤ 6144 := by
  have h := fb_sm_bound (f := w) (c := 1024) (n := E) hl
  have : E * 1024 ≤ 6 * 1024 := Nat.mul_le_mul_right _ hE
  omega
theorem T_round {S : CS} {M : MS} (h : RelX S M) (a : Int32) (b : Bool) (fo : Nat → Int64) : TB (f_L_round S a (q_b b) fo) fo (f_X9_round a (q_b b) M) (fun S' M' => RelX S' M' ∧ Fr [4, 14, 15] S S' ∧ Mr [0, 10] [1] M M') := by
  obtain ⟨E, w, h1, h2, h3, h4, h5⟩ := h
  have hR : RelX S (mset M 0 1) := ⟨E, w, h1, h2, h3, h4, h5⟩
  have hR2 : RelX S (mset M 0 2) := ⟨E, w, h1, h2, h3, h4, h5⟩
  by_cases c1 : (a >>> (nI E &&& 31)) = 0
  · obtain ⟨m, hm, rfl⟩ := (shr0 (by omega)).mp c1
    have hm6 : m < 64 := Nat.lt_of_lt_of_le hm (Nat.pow_le_pow_right (by decide) h1)
    have g1 : ¬ nI m < 0 := nI_pos (by omega)
    have g2 : ¬ (64 : Int32) ≤ nI m := nI_ge (b := 64) hm6 (by decide)
    by_cases c2 : E = 0
    · subst c2
      refine TB.ex (code := 2) (r := false) (S := S) (M := M) (by decide) ?_ ?_ ⟨hR2, Fr.refl S, Mr.mset (by decide)⟩
      · unfold f_L_round f_X8_round
        rw [h2, if_pos c1, if_pos (show nI 0 = 0 from rfl)]
        rfl
      · unfold f_X9_round
        rw [if_neg g1, if_neg g2, h3, if_pos c1, decide_eq_true rfl, if_neg (by decide)]
        unfold f_X9_round_46
        rw [isWr]
        rfl
    · have hw : ∀ k, k < E → S.1 14 k = nI (w k) := fun k hk => (h5 k hk).1
      have hl : ∀ k, k < E → w k ≤ 1024 := fun k hk => (h5 k hk).2.2.2.1
      have bi := sm_bound (w := wi m w) h1 (fun k hk => by unfold wi; have := hl k hk; split <;> omega)
      have bo := sm_bound (w := wo m w) h1 (fun k hk => by unfold wo; have := hl k hk; split <;> omega)
      generalize hI : fb_sm (wi m w) E = I at *
      generalize hO : fb_sm (wo m w) E = O at *
      obtain ⟨cc, hcc⟩ : ∃ cc : Bool, cc = decide (¬ nI I < nI O) := ⟨_, rfl⟩
      have hcI : cc = decide (¬ I < O) := by
        rw [hcc]
        apply decide_eq_decide.mpr
        rw [nI_ltI (by omega) (by omega)]
      obtain ⟨S1, hS1⟩ : ∃ S1 : CS, S1 = (if cc = b then S else cset S 4 3 (S.1 4 3 + 1)) := ⟨_, rfl⟩
      have e42 : S1.1 4 2 = nI E := by rw [hS1]; split; exact h2; rw [cs_k (by decide)]; exact h2
      have e14 : S1.1 14 = S.1 14 := by rw [hS1]; split; rfl; exact cs_n (by decide)
      have e15 : S1.1 15 = S.1 15 := by rw [hS1]; split; rfl; exact cs_n (by decide)
      have f1 : Fr [4, 14, 15] S S1 := by rw [hS1]; split; exact Fr.refl S; exact Fr.cset (by decide)
      obtain ⟨S', s1, s2, s3⟩ := x_hear (S := S1) h1 e42 (by rw [e14]; exact hw) hl (m := m) (by omega) b cc
      obtain ⟨M', m1, m2, m3, m4, m5⟩ := m_round2 (M := mset M 0 0) h1 h3 (fun k hk => (h5 k hk).2.1) hl (m := m) (by omega) b (nI I) (nI O)
      refine TB.ok (r := cc) (S := S') (M := M') ?_ ?_ ?_ ⟨⟨E, w2 m b w, h1, ?_, m4, ?_, fun k hk => ?_⟩, f1.trans (s2.mono (by decide)), (Mr.mset (by decide)).trans ⟨fun s hs hj => m2.1 s hs (fun e => hj (by simp at e; simp [e])), m2.2.1, m2.2.2⟩⟩
      · unfold f_L_round f_X8_round
        rw [h2, if_pos c1, if_neg (fun e => c2 ((nI_0iff (by omega)).mp e))]
        unfold f_X2_hear
        rw [x_lead h1 h2 hw (by omega), hI, hO]
        simp only [Option.bind_some]
        have e13 : (if nI I - nI O < 0 then f_X2_hear_13 (nI m) (q_b b) 0 S else f_X2_hear_13 (nI m) (q_b b) 1 S) = some (cc, S') := by
          have hs := pk_sub_toInt (a := I) (b := O) (by omega) (by omega)
          have hlt : nI I - nI O < 0 ↔ I < O := by
            rw [fa_lt, hs]
            show (I : Int) - O < 0 ↔ _
            omega
          unfold f_X2_hear_13 f_X2_hear_29
          by_cases c : I < O
          · rw [if_pos (hlt.mpr c)]
            have : cc = false := by rw [hcI]; simp [c]
            subst this
            rw [show (0 : Int32) = q_b false from rfl] at *
            rw [← s1, hS1]
            cases b
            · rw [if_pos rfl, if_pos rfl]
            · rw [if_neg (by decide), if_neg (by decide)]
          · rw [if_neg (fun e => c (hlt.mp e))]
            have : cc = true := by rw [hcI]; simp; omega
            subst this
            rw [← s1, hS1]
            cases b
            · rw [if_neg (by decide), if_neg (by decide)]; rfl
            · rw [if_pos (by decide), if_pos rfl]; rfl
        rw [e13]
        simp only [Option.bind_some, if_true]
        rw [qbz]
      · unfold f_X9_round
        rw [if_neg g1, if_neg g2, h3, if_pos c1, decide_eq_false c2, if_pos (by decide)]
        unfold f_X9_round_46
        rw [isWr]
        simp only [Option.bind_some]
        rw [if_pos (by decide), m_round1 (M := mset M 0 0) h1 h3 (fun k hk => (h5 k hk).2.1) (by omega), hI, hO, m1, hcc]
      · rw [m2.1 0 (by decide) (by decide), ms_s]
      · rw [s2.1 4 (by decide)]; exact e42
      · rw [s2.1 4 (by decide), m3, hS1, ← hcc, show (mset M 0 0).1 10 = M.1 10 from ms_n (by decide), ← h4]
        by_cases e : cc = b
        · rw [if_pos e, if_pos e]
        · rw [if_neg e, if_neg e, cs_s]
      · have g := h5 k hk
        refine ⟨(s3 k hk).1, (m5 k hk).1, ?_, ?_, ?_⟩
        · unfold w2; have := g.2.2.1; split <;> omega
        · unfold w2; have := g.2.2.2.1; split <;> omega
        · rw [(s3 k hk).2, (m5 k hk).2, e15]
          unfold r2
          rw [g.2.2.2.2]
          rfl
  · refine TB.ex (code := 1) (r := false) (S := S) (M := M) (by decide) ?_ ?_ ⟨hR, Fr.refl S, Mr.mset (by decide)⟩
    · unfold f_L_round f_X8_round
      rw [h2, if_neg c1]
      rfl
    · have e25 : f_X9_round_25 a (q_b b) M = some (false, mset M 0 1) := by
        unfold f_X9_round_25 f_X9_round_46
        rw [isWr]
        rfl
      unfold f_X9_round
      rw [h3, if_neg c1, e25]
      split
      · rfl
      · split <;> rfl
theorem T_weight {S : CS} {M : MS} (h : RelX S M) (a : Int32) (fo : Nat → Int64) : TI (f_L_weight S a fo) fo (f_X9_weight a M) (fun S' M' => S' = S ∧ Mr [0] [] M M') := by
  obtain ⟨E, w, h1, h2, h3, h4, h5⟩ := h
  have bad : (a < 0 ∨ nI E ≤ a) → TI (f_L_weight S a fo) fo (f_X9_weight a M) (fun S' M' => S' = S ∧ Mr [0] [] M M') := by
    intro hn
    refine TI.ex (code := 1) (r := 0) (S := S) (M := M) (by decide) ?_ ?_ ⟨rfl, Mr.mset (by decide)⟩
    · unfold f_L_weight f_X8_weight f_X8_weight_15
      rw [h2]
      by_cases c : a < 0
      · rw [if_pos c]; rfl
      · rw [if_neg c, if_neg (i32_lt.mpr (hn.resolve_left c))]; rfl
    · unfold f_X9_weight f_X9_isOf_1
      rw [h3]
      have e : f_X9_weight_17 a 1 M = some (0, mset M 0 1) := by
        unfold f_X9_weight_17
        rw [isWr]
        rfl
      by_cases c : a < 0
      · rw [if_pos c]
        simp only [Option.bind_some]
        rw [if_pos (by decide), e]
      · rw [if_neg c, if_pos (hn.resolve_left c)]
        simp only [Option.bind_some]
        rw [if_pos (by decide), e]
  by_cases c1 : a < 0
  · exact bad (Or.inl c1)
  · by_cases c2 : nI E ≤ a
    · exact bad (Or.inr c2)
    · obtain ⟨k, hk, rfl⟩ := btw (by omega) c1 c2
      refine TI.ok (r := nI (w k)) (S := S) (M := mset M 0 0) ?_ ?_ ms_s ⟨rfl, Mr.mset (by decide)⟩
      · unfold f_L_weight f_X8_weight f_X2_weightOf
        rw [if_neg c1, h2, if_pos (i32_le.mp c2), q_at_nI (by omega) (by decide), (h5 k hk).1]
        rfl
      · unfold f_X9_weight f_X9_isOf_1
        rw [h3, if_neg c1, if_neg c2]
        simp only [Option.bind_some]
        rw [if_neg (by decide)]
        unfold f_X9_weight_17
        rw [isWr]
        simp only [Option.bind_some]
        rw [if_pos (by decide), show (mset M 0 0).2.1 1 = E from h3, if_pos (q_in_nI hk (by omega)), nI_clamp (by omega), if_pos hk]
        rw [show (mset M 0 0).2.2.1 1 k 0 = nI (w k) from (h5 k hk).2.1]
def mnI (f : Nat → Int32) : Nat → Int32
  | 0 => 2147483647
  | n + 1 => q_min (mnI f n) (f n)
theorem q_min_top (x : Int32) : q_min 2147483647 x = x := by
  unfold q_min
  by_cases c : x < 2147483647
  · rw [if_pos c]
  · rw [if_neg c]
    have h1 := i32_lt.mp c
    rw [fa_le] at h1
    have h2 := (fb_rng x).2
    apply (fa_eq _ _).mpr
    have h3 : (2147483647 : Int32).toInt = 2147483647 := by decide
    rw [h3] at h1 ⊢
    omega
theorem T_regret {S : CS} {M : MS} (h : RelX S M) (fo : Nat → Int64) : TI (f_L_regret S fo) fo (f_X9_regret M) (fun S' M' => S' = S ∧ Mr [0] [] M M') := by
  obtain ⟨E, w, h1, h2, h3, h4, h5⟩ := h
  have hm : f_X9_regret M = (if E = 0 then f_X9_regret_61 (mnI (S.1 15) E) 1 M else f_X9_regret_61 (mnI (S.1 15) E) 0 M) := by
    refine pu_for0 (W := fun n i => f_X9_regret_13 n (mnI (S.1 15) i) (nI i) (M.1 21) M = (if E = 0 then f_X9_regret_61 (mnI (S.1 15) E) 1 M else f_X9_regret_61 (mnI (S.1 15) E) 0 M)) (e := E) (n := 1000) (by omega) (fun n => ?_) (fun n i hi ih => ?_)
    · show f_X9_regret_13b _ _ _ _ _ = _
      unfold f_X9_regret_13b
      rw [h3, if_pos it_end]
      by_cases c : E = 0
      · rw [if_pos c, decide_eq_true c, if_neg (by decide)]
      · rw [if_neg c, decide_eq_false c, if_pos (by decide)]
    · show f_X9_regret_13b _ _ _ _ _ = _
      unfold f_X9_regret_13b
      rw [h3, if_neg (it_go hi (by omega)), if_pos (it_in hi (by omega) rfl), nI_clamp (by omega), if_pos hi, ← (h5 i hi).2.2.2.2, nI_1]
      exact ih
  by_cases c : E = 0
  · subst c
    refine TI.ex (code := 1) (r := 0) (S := S) (M := M) (by decide) ?_ ?_ ⟨rfl, Mr.mset (by decide)⟩
    · unfold f_L_regret f_X8_regret
      rw [h2, if_pos (show nI 0 = 0 from rfl)]
      rfl
    · rw [hm, if_pos rfl]
      unfold f_X9_regret_61
      rw [isWr]
      rfl
  · have hl : f_X2_leastWrong S = some (mnI (S.1 15) E) := by
      have e1 : q_at 6 (S.1 15) 0 = mnI (S.1 15) 1 := by
        rw [show (0 : Int32) = nI 0 from rfl, q_at_nI (by decide) (by decide)]
        exact (q_min_top _).symm
      unfold f_X2_leastWrong
      rw [e1]
      refine pu_for (fun n i => 1 ≤ i → f_X2_leastWrong_11 S n (mnI (S.1 15) i) (nI i) = some (mnI (S.1 15) E)) E (fun n _ => ?_) (fun n i hi ih h1i => ?_) (E - 1) 1000 1 (by omega) (by omega) (Nat.le_refl 1)
      · show f_X2_leastWrong_11b _ _ _ _ = _
        unfold f_X2_leastWrong_11b
        rw [h2, if_pos (nI_le (Nat.le_refl E) (by omega))]
      · show f_X2_leastWrong_11b _ _ _ _ = _
        unfold f_X2_leastWrong_11b
        rw [h2, if_neg (nI_ge hi (by omega)), q_at_nI (by omega) (by decide), nI_1]
        exact ih (by omega)
    refine TI.ok (r := M.1 10 - mnI (S.1 15) E) (S := S) (M := mset M 0 0) ?_ ?_ ms_s ⟨rfl, Mr.mset (by decide)⟩
    · unfold f_L_regret f_X8_regret
      rw [h2, if_neg (fun e => c ((nI_0iff (by omega)).mp e)), hl, h4]
      rfl
    · rw [hm, if_neg c]
      unfold f_X9_regret_61
      rw [isWr]
      rfl
