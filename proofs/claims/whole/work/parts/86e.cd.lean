def lf (gs : Nat → Nat) (hs : Nat → Int32) (n x : Nat) : Bool := decide (fb_ct (fun k => decide (hvF x (gs k) = hs k)) n = n)
theorem lf_succ (gs : Nat → Nat) (hs : Nat → Int32) (n x : Nat) : lf gs hs (n + 1) x = (lf gs hs n x && decide (hvF x (gs n) = hs n)) := by
  unfold lf
  rw [fb_ct_succ]
  have := fb_ct_le (fun k => decide (hvF x (gs k) = hs k)) n
  by_cases h : hvF x (gs n) = hs n
  · rw [decide_eq_true h, if_pos rfl, Bool.and_true]
    exact decide_eq_decide.mpr (by omega)
  · rw [decide_eq_false h, if_neg (by decide), Bool.and_false]
    exact decide_eq_false (by omega)
theorem lf_cong {gs gs' : Nat → Nat} {hs hs' : Nat → Int32} {n : Nat} (h : ∀ k, k < n → gs k = gs' k ∧ hs k = hs' k) (x : Nat) : lf gs hs n x = lf gs' hs' n x := by
  unfold lf
  rw [fb_ct_cong (q := fun k => decide (hvF x (gs' k) = hs' k)) (fun k hk => by rw [(h k hk).1, (h k hk).2])]
def RK (s7 : Nat → Int32) (sL : Int64) (m14 : Int32) (mn : Nat) (mr : Nat → Nat → Int32) (x0 : Nat) (gs : Nat → Nat) (hs : Nat → Int32) (n : Nat) : Prop :=
  x0 < 64 ∧ n ≤ 20 ∧ s7 0 = nI x0 ∧ s7 1 = nI n ∧ m14 = nI (cd x0) ∧ mn = n ∧ (∀ k, k < n → gs k < 64 ∧ mr k 0 = nI (cd (gs k)) ∧ mr k 1 = hs k ∧ hvF x0 (gs k) = hs k) ∧ sL = lN (pm (lf gs hs n) 64)
abbrev RKs (S : CS) (M : MS) (x0 : Nat) (gs : Nat → Nat) (hs : Nat → Int32) (n : Nat) : Prop := RK (S.1 7) S.2 (M.1 14) (M.2.1 4) (M.2.2.1 4) x0 gs hs n
def RelK (S : CS) (M : MS) : Prop := ∃ (x0 : Nat) (gs : Nat → Nat) (hs : Nat → Int32) (n : Nat), RKs S M x0 gs hs n
theorem lN_m1 : (-1 : Int64) = lN (pm (fun _ => true) 64) := by decide +kernel
/-- what the class keeps but for the places L and the codes left -/
def Fq (L : List Nat) (S S' : CS) : Prop := ∀ j, j ∉ L → S'.1 j = S.1 j
section PCD
variable {S : CS} {M : MS} {x0 n : Nat} {gs : Nat → Nat} {hs : Nat → Int32}
theorem RK.m0 (h : RKs S M x0 gs hs n) (v : Int32) : RKs S (mset M 0 v) x0 gs hs n := by
  show RK _ _ _ _ _ _ _ _ _
  rw [show (mset M 0 v).1 14 = M.1 14 from ms_n (by decide)]
  exact h
theorem RelK.m0 (h : RelK S M) (v : Int32) : RelK S (mset M 0 v) := by
  obtain ⟨x0, gs, hs, n, hK⟩ := h
  exact ⟨x0, gs, hs, n, hK.m0 v⟩
theorem RK.lf0 (h : RKs S M x0 gs hs n) : lf gs hs n x0 = true := by
  unfold lf
  exact decide_eq_true (fb_ct_all.mpr (fun k hk => decide_eq_true (h.2.2.2.2.2.2.1 k hk).2.2.2))
theorem RK.left (h : RKs S M x0 gs hs n) {x : Nat} (hx : x < 64) : f_X0_isLeft S (nI x) = lf gs hs n x := by
  unfold f_X0_isLeft
  have hb := sft (pm_lt (lf gs hs n) 64) hx
  rw [pm_bit, decide_eq_true hx, Bool.true_and] at hb
  rw [h.2.2.2.2.2.2.2]
  cases e : lf gs hs n x
  · rw [if_pos (lg0.mpr (hb.mpr e))]
  · rw [if_neg (fun f => by have := hb.mp (lg0.mp f); rw [e] at this; cases this)]
end PCD
