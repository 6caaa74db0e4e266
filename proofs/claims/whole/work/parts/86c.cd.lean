def isK (k : Nat) : Bool := Nat.blt (k % 10) 4 && (Nat.blt (k / 10 % 10) 4 && Nat.blt (k / 100) 4)
def rk (k : Nat) : Nat := fb_ct isK k
theorem code_0 : ∀ k, k < 334 → f_X9_isCode (nI k) = isK k ∧ f_X0_isCode (nI k) = isK k := by decide +kernel
def kix (k : Nat) : Nat := k / 100 * 16 + k / 10 % 10 * 4 + k % 10
def rchk : Nat → Nat → Nat → Bool
  | 0, _, _ => true
  | d + 1, k, n => if isK k then Nat.beq n (kix k) && rchk d (k + 1) (n + 1) else rchk d (k + 1) n
theorem rchk_ok : ∀ (d k : Nat), rchk d k (rk k) = true → ∀ j, k ≤ j → j < k + d → isK j = true → rk j = kix j
  | 0, _, _, j, h1, h2, _ => absurd h2 (by omega)
  | d + 1, k, h, j, h1, h2, hj => by
    have e : rk (k + 1) = rk k + (if isK k then 1 else 0) := fb_ct_succ _ _
    have h' : (if isK k then Nat.beq (rk k) (kix k) && rchk d (k + 1) (rk k + 1) else rchk d (k + 1) (rk k)) = true := h
    by_cases c : isK k = true
    · rw [if_pos c, Bool.and_eq_true] at h'
      by_cases ej : j = k
      · subst ej; exact Nat.eq_of_beq_eq_true h'.1
      · refine rchk_ok d (k + 1) ?_ j (by omega) (by omega) hj
        rw [e, if_pos c]
        exact h'.2
    · rw [if_neg c] at h'
      by_cases ej : j = k
      · subst ej; exact absurd hj c
      · refine rchk_ok d (k + 1) ?_ j (by omega) (by omega) hj
        rw [e, if_neg c]
        exact h'
theorem rchk_334 : rchk 334 0 0 = true := by decide +kernel
theorem code_1 (k : Nat) (hk : k < 334) (h : isK k = true) : rk k = kix k := rchk_ok 334 0 rchk_334 k (Nat.zero_le k) (by omega) h
theorem code_2 : ∀ k, k < 334 → isK k = true → kix k < 64 ∧ cd (kix k) = k := by decide +kernel
theorem code_a (k : Nat) (hk : k < 334) : f_X9_isCode (nI k) = isK k ∧ (isK k = true → rk k < 64 ∧ cd (rk k) = k) :=
  ⟨(code_0 k hk).1, fun h => by rw [code_1 k hk h]; exact code_2 k hk h⟩
theorem code_3 : ∀ x, x < 64 → isK (cd x) = true ∧ kix (cd x) = x ∧ cd x < 334 ∧ f_X0_packed (nI (cd x)) = nI x ∧ ((((100 : Int32) * (f_X0_digit (nI x) (2 : Int32))) + ((10 : Int32) * (f_X0_digit (nI x) (1 : Int32)))) + (f_X0_digit (nI x) (0 : Int32))) = nI (cd x) := by decide +kernel
theorem code_b (x : Nat) (hx : x < 64) : isK (cd x) = true ∧ rk (cd x) = x ∧ cd x < 334 ∧ f_X0_packed (nI (cd x)) = nI x ∧ ((((100 : Int32) * (f_X0_digit (nI x) (2 : Int32))) + ((10 : Int32) * (f_X0_digit (nI x) (1 : Int32)))) + (f_X0_digit (nI x) (0 : Int32))) = nI (cd x) := by
  obtain ⟨h1, h2, h3, h4, h5⟩ := code_3 x hx
  exact ⟨h1, by rw [code_1 _ h3 h1]; exact h2, h3, h4, h5⟩
theorem code_n : fb_ct isK 334 = 64 := by
  have e : fb_ct isK (333 + 1) = fb_ct isK 333 + (if isK 333 then 1 else 0) := fb_ct_succ _ _
  have h : fb_ct isK 333 = kix 333 := code_1 333 (by decide) (by decide)
  rw [h] at e
  exact e
