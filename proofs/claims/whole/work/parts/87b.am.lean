/-! machines: words and runs of both sides -/
theorem and_1 (x : Int32) : x &&& 1 = 0 ∨ x &&& 1 = 1 := by
  obtain ⟨m, -, rfl⟩ := wb_of32 x
  rw [show (1 : Int32) = nI (2 ^ 1 - 1) from rfl, fa_mask]
  rcases Nat.mod_two_eq_zero_or_one m with h | h
  · rw [show m % 2 ^ 1 = 0 from h]; exact Or.inl rfl
  · rw [show m % 2 ^ 1 = 1 from h]; exact Or.inr rfl
theorem nI_b1 {a k : Nat} (ha : a < 2 ^ 31) (hk : k < 32) : ((nI a >>> (nI k &&& 31)) &&& (1 : Int32)) = nI (a / 2 ^ k % 2) := by
  have h := nI_bit ha hk
  have ht : a.testBit k = decide (a / 2 ^ k % 2 = 1) := Nat.testBit_eq_decide_div_mod_eq
  rcases Nat.mod_two_eq_zero_or_one (a / 2 ^ k) with e | e
  · rw [e] at ht ⊢
    exact h.mpr ht
  · rw [e] at ht ⊢
    rcases and_1 (nI a >>> (nI k &&& 31)) with c | c
    · have := h.mp c
      rw [ht] at this
      exact absurd this (by decide)
    · exact c
theorem isWd (a b : Int32) : (f_X8_isWord a b = false ∧ f_X9_isWord a b = false) ∨ ∃ l m, l ≤ 8 ∧ m < 2 ^ l ∧ a = nI l ∧ b = nI m ∧ f_X8_isWord a b = true ∧ f_X9_isWord a b = true := by
  have hB : f_X9_isBetween a.toInt64 0 8 = (decide (0 ≤ a) && decide (a ≤ 8)) := isB (lo := 0) (hi := 8)
  by_cases h0 : a < 0
  · refine Or.inl ⟨?_, ?_⟩
    · unfold f_X8_isWord
      rw [if_pos h0]
    · unfold f_X9_isWord
      rw [hB, decide_eq_false (i32_le.mpr h0), Bool.false_and, if_pos (by decide)]
  · by_cases h8 : (8 : Int32) < a
    · refine Or.inl ⟨?_, ?_⟩
      · unfold f_X8_isWord
        rw [if_neg h0, if_pos h8]
      · unfold f_X9_isWord
        rw [hB, decide_eq_false (i32_le.mpr h8), Bool.and_false, if_pos (by decide)]
    · obtain ⟨l, hl, rfl⟩ := nI_of2 (M := 8) (n := 8) (by decide) h0 (i32_lt.mp h8)
      have hC : f_X9_isBetween b.toInt64 0 ((((1 : Int32) <<< (nI l &&& 31)) - (1 : Int32)).toInt64) = (decide (0 ≤ b) && decide (b ≤ nI (2 ^ l - 1))) := by
        rw [nI_ones l (by omega)]
        exact isB (lo := 0) (hi := nI (2 ^ l - 1))
      have hp : 2 ^ l ≤ 2 ^ 8 := Nat.pow_le_pow_right (by decide) hl
      have e8 : f_X8_isWord (nI l) b = if (b >>> (nI l &&& 31)) = 0 then true else false := by
        unfold f_X8_isWord
        rw [if_neg h0, if_neg h8]
      have e9 : f_X9_isWord (nI l) b = if q_b (decide (0 ≤ b) && decide (b ≤ nI (2 ^ l - 1))) = 0 then false else true := by
        unfold f_X9_isWord
        rw [hB, decide_eq_true (i32_lt.mp h0), decide_eq_true (i32_lt.mp h8), if_neg (by decide), hC]
      rw [e8, e9]
      by_cases hw : (b >>> (nI l &&& 31)) = 0
      · obtain ⟨m, hm, rfl⟩ := (shr0 (k := l) (by omega)).mp hw
        refine Or.inr ⟨l, m, hl, hm, rfl, rfl, if_pos hw, ?_⟩
        rw [decide_eq_true (i32_lt.mp (nI_pos (by omega))), decide_eq_true (nI_le (by omega) (by omega)), if_neg (by decide)]
      · refine Or.inl ⟨if_neg hw, if_pos (qb_0.mpr ?_)⟩
        by_cases c1 : b < 0
        · rw [decide_eq_false (i32_le.mpr c1), Bool.false_and]
        · by_cases c2 : b ≤ nI (2 ^ l - 1)
          · exfalso
            apply hw
            obtain ⟨m2, hm2, e2⟩ := nI_of2 (M := nI (2 ^ l - 1)) (n := 2 ^ l - 1) (nI_toInt (by omega)) c1 c2
            exact (shr0 (k := l) (by omega)).mpr ⟨m2, by have := Nat.two_pow_pos l; omega, e2⟩
          · rw [decide_eq_false c2, Bool.and_false]
theorem nI_2q (q c : Nat) : (2 : Int32) * nI q + nI c = nI (2 * q + c) := by
  rw [show (2 : Int32) = nI 2 from rfl, pk_mul, nI_add]
section AV
variable {n : Nat} {ac : Nat → Bool} {mv : Nat → Nat → Nat}
theorem x_end {xn : Nat} {xf : Nat → Int32} (hx : 2 * n ≤ xn) (hx2 : xn < 2 ^ 31) (hc : clo mv n) (hf : ∀ q, q < n → ∀ c, c < 2 → xf (2 * q + c) = nI (mv q c)) {l m q : Nat} (hl : l < 30) (hm : m < 2 ^ 31) (hq : q < n) : f_X3_end xn xf (nI q) (nI l) (nI m) = some (nI (rn mv l m q)) := by
  have key := pu_for0 (W := fun k i => ∀ q, q < n → f_X3_end_6 xn xf k (nI l) (nI m) (nI q) (nI i) = some (nI (rn mv (l - i) (m / 2 ^ i) q))) (e := l) (n := 1000) (by omega) (fun k q hq => ?_) (fun k i hi ih q hq => ?_)
  · have h := key q hq
    rw [Nat.sub_zero, Nat.pow_zero, Nat.div_one] at h
    exact h
  · show f_X3_end_6b _ _ _ _ _ _ _ = _
    unfold f_X3_end_6b
    rw [if_pos (nI_le (Nat.le_refl l) (by omega)), Nat.sub_self]
    rfl
  · show f_X3_end_6b _ _ _ _ _ _ _ = _
    unfold f_X3_end_6b
    have hb : m / 2 ^ i % 2 < 2 := Nat.mod_lt _ (by decide)
    rw [if_neg (nI_ge hi (by omega)), nI_b1 hm (by omega), nI_1, nI_2q, q_at_nI (by omega) hx2, hf q hq _ hb, ih _ (hc q hq _ hb), show l - i = (l - (i + 1)) + 1 by omega, rn_succ, Nat.pow_succ, Nat.div_div_eq_div_mul]
end AV
def RSs (S : CS) (M : MS) (n : Nat) (ac : Nat → Bool) (mv : Nat → Nat → Nat) : Prop := n ≤ 5 ∧ clo mv n ∧ S.1 5 2 = nI n ∧ S.1 5 1 = nI (pm ac n) ∧ M.2.1 2 = n ∧ ∀ q, q < n → M.2.2.1 2 q 0 = q_b (ac q) ∧ ∀ c, c < 2 → M.2.2.1 2 q (1 + c) = nI (mv q c) ∧ S.1 16 (2 * q + c) = nI (mv q c)
def RelS (S : CS) (M : MS) : Prop := ∃ (n : Nat) (ac : Nat → Bool) (mv : Nat → Nat → Nat), RSs S M n ac mv
section AW
variable {S : CS} {M : MS} {n : Nat} {ac : Nat → Bool} {mv : Nat → Nat → Nat}
theorem RS.ends (h : RSs S M n ac mv) {l m q : Nat} (hl : l < 30) (hm : m < 2 ^ 31) (hq : q < n) : f_X3_end 10 (S.1 16) (nI q) (nI l) (nI m) = some (nI (rn mv l m q)) :=
  x_end (by have := h.1; omega) (by decide) h.2.1 (fun q hq c hc => ((h.2.2.2.2.2 q hq).2 c hc).2) hl hm hq
theorem RS.well (h : RSs S M n ac mv) {l m q : Nat} (hl : l < 30) (hm : m < 2 ^ 31) (hq : q < n) : f_X3_endsWell S (nI q) (nI l) (nI m) = some (ac (rn mv l m q)) := by
  have hr := rn_lt h.2.1 l m q hq
  have h5 := h.1
  unfold f_X3_endsWell
  rw [RS.ends h hl hm hq]
  simp only [Option.bind_some]
  rw [h.2.2.2.1, hasBit_pm (by omega) (by omega), decide_eq_true hr, Bool.true_and]
theorem RS.takes (h : RSs S M n ac mv) {l m : Nat} (hl : l < 30) (hm : m < 2 ^ 31) (h0 : 0 < n) : f_X9_takes M (nI l) (nI m) = some (ac (rn mv l m 0)) := by
  obtain ⟨h1, h2, h3, h4, h5, h6⟩ := h
  have key := pu_for0 (W := fun k i => ∀ q, q < n → f_X9_takes_5 M k (nI l) (nI m) (nI q) (nI i) = some (ac (rn mv (l - i) (m / 2 ^ i) q))) (e := l) (n := 1000) (by omega) (fun k q hq => ?_) (fun k i hi ih q hq => ?_)
  · have h := key 0 h0
    rw [Nat.sub_zero, Nat.pow_zero, Nat.div_one] at h
    exact h
  · show f_X9_takes_5b _ _ _ _ _ _ = _
    unfold f_X9_takes_5b
    rw [if_pos (nI_le (Nat.le_refl l) (by omega)), Nat.sub_self, h5, if_pos (q_in_nI hq (by omega)), if_pos (q_in_nI hq (by omega)).2, nI_clamp (by omega), (h6 q hq).1]
    show _ = some (ac q)
    cases ac q
    · exact if_neg (by decide)
    · exact if_pos (by decide)
  · show f_X9_takes_5b _ _ _ _ _ _ = _
    unfold f_X9_takes_5b
    have hb : m / 2 ^ i % 2 < 2 := Nat.mod_lt _ (by decide)
    have e1 : (1 : Int32) + ((nI m >>> (nI i &&& 31)) &&& (1 : Int32)) = nI (1 + m / 2 ^ i % 2) := by
      rw [nI_b1 hm (by omega)]
      exact nI_add 1 _
    have e2 : q_in ((1 : Int32) + ((nI m >>> (nI i &&& 31)) &&& (1 : Int32))) 3 := by
      rw [e1]
      exact q_in_nI (by omega) (by decide)
    rw [if_neg (nI_ge hi (by omega)), h5, if_pos (q_in_nI hq (by omega)), if_pos ⟨(q_in_nI hq (by omega)).2, e2⟩, e1, nI_clamp (by omega), nI_clamp (by omega), ((h6 q hq).2 _ hb).1, nI_1, ih _ (h2 q hq _ hb), show l - i = (l - (i + 1)) + 1 by omega, rn_succ, Nat.pow_succ, Nat.div_div_eq_div_mul]
end AW
