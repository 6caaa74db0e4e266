/-! concepts: what both sides hold of them -/
/-- P points, N concepts, c their sets, cf their conflicts, de which are dead for good -/
def RC (s2 s9 s10 s11 : Nat → Int32) (m2 : Int32) (mN : Nat) (mr : Nat → Nat → Int32) (P N : Nat) (c cf : Nat → Nat) (de : Nat → Bool) : Prop :=
  (1 ≤ P ∧ P ≤ 6 ∧ N ≤ 24) ∧ s2 2 = nI P ∧ s2 3 = nI N ∧ m2 = nI P ∧ mN = N ∧ (∀ k, k < N → c k < 2 ^ P) ∧ (∀ i j, i < N → j < N → c i = c j → i = j) ∧ (∀ k, k < N → s10 k = nI (c k)) ∧ (∀ k, k < N → mr k 0 = nI (c k)) ∧
  (∀ q, q < 6 → s11 q = nI (pm (fun k => (c k).testBit q) N)) ∧ (∀ k, k < 24 → s9 k = if k < N then (if de k then -1 else nI (cf k)) else 0) ∧ (∀ k, k < N → cf k < 100) ∧ (∀ k, k < N → mr k 1 = nI (cf k)) ∧ (∀ k, k < N → mr k 2 = if de k then 1 else 0)
abbrev RCs (S : CS) (M : MS) (P N : Nat) (c cf : Nat → Nat) (de : Nat → Bool) : Prop := RC (S.1 2) (S.1 9) (S.1 10) (S.1 11) (M.1 2) (M.2.1 0) (M.2.2.1 0) P N c cf de
def liv (B : Nat) (cf : Nat → Nat) (de : Nat → Bool) (k : Nat) : Bool := !de k && decide (cf k ≤ B)
def has (c : Nat → Nat) (q k : Nat) : Bool := (c k).testBit q
section PRC
variable {S : CS} {M : MS} {P N : Nat} {c cf : Nat → Nat} {de : Nat → Bool}
theorem RC.N31 (h : RCs S M P N c cf de) : N < 2 ^ 31 := Nat.lt_of_le_of_lt h.1.2.2 (by decide)
theorem RC.P31 (h : RCs S M P N c cf de) : P < 2 ^ 31 := Nat.lt_of_le_of_lt h.1.2.1 (by decide)
theorem RC.c64 (h : RCs S M P N c cf de) {k : Nat} (hk : k < N) : c k < 64 := Nat.lt_of_lt_of_le (h.2.2.2.2.2.1 k hk) (Nat.pow_le_pow_right (by decide) h.1.2.1)
theorem RC.every (h : RCs S M P N c cf de) : f_X1_everyone S = nI (pm (fun _ => true) N) := by
  unfold f_X1_everyone
  rw [h.2.2.1, nI_ones N (Nat.lt_of_le_of_lt h.1.2.2 (by decide)), pm_all]
theorem RC.hold (h : RCs S M P N c cf de) {q : Nat} (hq : q < P) : f_X1_holding S (nI q) = nI (pm (has c q) N) := by
  unfold f_X1_holding
  have := h.1.2.1
  rw [q_at_nI (by omega) (by decide), h.2.2.2.2.2.2.2.2.2.1 q (by omega)]
  rfl
theorem pm_andn (f g : Nat → Bool) (n : Nat) (hn : n ≤ 32) : nI (pm f n) &&& (nI (pm g n) ^^^ (-1 : Int32)) = nI (pm (fun k => f k && !g k) n) := by
  rw [nI_andn f g hn]
  congr 1
  exact pm_cong (fun k hk => by rw [decide_eq_true hk, Bool.true_and])
theorem RC.N32 (h : RCs S M P N c cf de) : N ≤ 32 := Nat.le_trans h.1.2.2 (by decide)
theorem lack_h (S : CS) (a : Int32) : f_X1_lacking S a = ((f_X1_everyone S) &&& ((f_X1_holding S a) ^^^ (-1 : Int32))) := rfl
theorem RC.lack (h : RCs S M P N c cf de) {q : Nat} (hq : q < P) : f_X1_lacking S (nI q) = nI (pm (fun k => !has c q k) N) := by
  rw [lack_h, h.every, h.hold hq, pm_andn _ _ _ h.N32]
  rfl
theorem RC.setAt (h : RCs S M P N c cf de) {k : Nat} (hk : k < N) : f_X1_setAt S (nI k) = nI (c k) := by
  unfold f_X1_setAt
  have := h.1.2.2
  rw [q_at_nI (by omega) (by decide), h.2.2.2.2.2.2.2.1 k hk]
theorem RC.confl (h : RCs S M P N c cf de) {k : Nat} (hk : k < N) : f_X5_conflictsOf S (nI k) = if de k then -1 else nI (cf k) := by
  unfold f_X5_conflictsOf
  have := h.1.2.2
  rw [q_at_nI (by omega) (by decide), h.2.2.2.2.2.2.2.2.2.2.1 k (by omega), if_pos hk]
theorem RC.cf100 (h : RCs S M P N c cf de) {k : Nat} (hk : k < N) : cf k < 100 := h.2.2.2.2.2.2.2.2.2.2.2.1 k hk
theorem RC.isLiv (h : RCs S M P N c cf de) {B k : Nat} (hB : B < 100) (eB : S.1 1 4 = nI B) (hk : k < N) : f_X5_isLiving S (nI k) = liv B cf de k := by
  unfold f_X5_isLiving liv
  have h1 := h.cf100 hk
  rw [h.confl hk, eB]
  by_cases hd : de k = true
  · rw [if_pos hd, if_pos rfl, hd]; rfl
  · rw [if_neg hd]
    have hm : ¬ nI (cf k) = -1 := by
      intro e
      have e2 := nI_pos (n := cf k) (by omega)
      rw [e] at e2
      exact e2 (by decide)
    rw [if_neg hm]
    have hd' : de k = false := by simpa using hd
    rw [hd']
    by_cases hc : cf k ≤ B
    · rw [if_neg (nI_nlt hc (by omega)), decide_eq_true hc]; rfl
    · rw [if_pos (nI_lt (by omega) (by omega)), decide_eq_false hc]; rfl
theorem RC.living (h : RCs S M P N c cf de) {B : Nat} (hB : B < 100) (eB : S.1 1 4 = nI B) : f_X5_living S = some (nI (pm (liv B cf de) N)) := by
  have hN := h.1.2.2
  refine pu_for0 (W := fun n i => f_X5_living_4 S n (nI (pm (liv B cf de) i)) (nI i) = some (nI (pm (liv B cf de) N))) (e := N) (n := 1000) (by omega) (fun n => ?_) (fun n i hi ih => ?_)
  · show f_X5_living_4b S (f_X5_living_4 S n) _ _ = _
    unfold f_X5_living_4b
    rw [h.2.2.1, if_pos (nI_le (Nat.le_refl _) h.N31)]
  · show f_X5_living_4b S (f_X5_living_4 S n) _ _ = _
    unfold f_X5_living_4b f_X5_living_29
    rw [h.2.2.1, if_neg (nI_ge hi h.N31), h.isLiv hB eB hi, nI_1]
    rw [pm_succ] at ih
    by_cases hl : liv B cf de i = true
    · rw [hl, if_neg (by decide), nI_one i (by omega), nI_or, Nat.or_two_pow_eq_add_of_lt (pm_lt _ i)]
      rw [if_pos hl] at ih
      exact ih
    · have hl' : liv B cf de i = false := by simpa using hl
      rw [hl', if_pos (by decide)]
      rw [if_neg hl, Nat.add_zero] at ih
      exact ih
/-! the reference -/
theorem RC.mst (h : RCs S M P N c cf de) {k : Nat} (hk : k < N) : M.2.2.1 0 k 0 = nI (c k) := h.2.2.2.2.2.2.2.2.1 k hk
theorem RC.mN (h : RCs S M P N c cf de) : M.2.1 0 = N := h.2.2.2.2.1
theorem RC.lives (h : RCs S M P N c cf de) {B k : Nat} (hB : B < 100) (eB : M.1 5 = nI B) (hk : k < N) : f_X9_lives M k = some (liv B cf de k) := by
  unfold f_X9_lives liv
  have h1 := h.cf100 hk
  rw [h.mN, if_pos hk, if_pos hk, h.2.2.2.2.2.2.2.2.2.2.2.2.2 k hk, h.2.2.2.2.2.2.2.2.2.2.2.2.1 k hk, eB]
  by_cases hd : de k = true
  · rw [if_pos hd, if_neg (by decide), hd]; rfl
  · have hd' : de k = false := by simpa using hd
    rw [if_neg hd, if_pos rfl, hd']
    by_cases hc : cf k ≤ B
    · rw [if_neg (nI_nlt hc (by omega)), decide_eq_true hc]; rfl
    · rw [if_pos (nI_lt (by omega) (by omega)), decide_eq_false hc]; rfl
theorem RC.mliving (h : RCs S M P N c cf de) {B : Nat} (hB : B < 100) (eB : M.1 5 = nI B) : f_X9_living M = some (nI (fb_ct (liv B cf de) N)) := by
  have hN := h.1.2.2
  refine pu_for0 (W := fun n i => f_X9_living_12 M n (nI (fb_ct (liv B cf de) i)) (nI i) (M.1 20) = some (nI (fb_ct (liv B cf de) N))) (e := N) (n := 1000) (by omega) (fun n => ?_) (fun n i hi ih => ?_)
  · show f_X9_living_12b M (f_X9_living_12 M n) _ _ _ = _
    unfold f_X9_living_12b
    rw [h.mN, if_pos it_end]
  · show f_X9_living_12b M (f_X9_living_12 M n) _ _ _ = _
    unfold f_X9_living_12b f_X9_living_45
    rw [h.mN, if_neg (it_go hi h.N31), if_pos (it_in hi h.N31 rfl), nI_clamp (by omega), h.lives hB eB hi]
    simp only [Option.bind_some]
    rw [fb_ct_succ] at ih
    by_cases hl : liv B cf de i = true
    · rw [hl, if_neg (by decide), nI_1, nI_1]
      rw [if_pos hl] at ih
      exact ih
    · have hl' : liv B cf de i = false := by simpa using hl
      rw [hl', if_pos (by decide), Int32.add_zero, nI_1]
      rw [if_neg hl, Nat.add_zero] at ih
      exact ih
theorem hasP {a q : Nat} (ha : a < 2 ^ 31) (hq : q < 32) : f_X9_hasPoint (nI a) (nI q) = a.testBit q := by
  unfold f_X9_hasPoint
  have h := nI_bit ha hq
  by_cases hb : a.testBit q = true
  · have h1 : ¬ (nI a >>> (nI q &&& 31)) &&& (1 : Int32) = 0 := fun e => by rw [h.mp e] at hb; cases hb
    have h2 : (nI a >>> (nI q &&& 31)) &&& (1 : Int32) = 0 ∨ (nI a >>> (nI q &&& 31)) &&& (1 : Int32) = 1 := by
      rcases wb_of32 (nI a >>> (nI q &&& 31)) with ⟨z, -, e⟩
      rw [e, show (1 : Int32) = nI 1 from rfl, nI_and, show (1 : Nat) = 2 ^ 1 - 1 from rfl, Nat.and_two_pow_sub_one_eq_mod]
      rcases Nat.mod_two_eq_zero_or_one z with e2 | e2
      · left; rw [show (2 : Nat) ^ 1 = 2 from rfl, e2]; rfl
      · right; rw [show (2 : Nat) ^ 1 = 2 from rfl, e2]
    rw [if_pos (h2.resolve_left h1), hb]
  · have hb' : a.testBit q = false := by simpa using hb
    rw [if_neg (fun e => by rw [h.mpr hb'] at e; exact absurd e (by decide)), hb']
theorem RC.mhas (h : RCs S M P N c cf de) {k q : Nat} (hk : k < N) (hq : q < 32) : f_X9_hasPoint (M.2.2.1 0 k 0) (nI q) = has c q k := by
  rw [h.mst hk, hasP (Nat.lt_of_lt_of_le (h.c64 hk) (by decide)) hq]
  rfl
theorem RC.mwith (h : RCs S M P N c cf de) {B q : Nat} (hB : B < 100) (eB : M.1 5 = nI B) (hq : q < 32) : f_X9_livingWith M (nI q) = some (nI (fb_ct (fun k => liv B cf de k && has c q k) N)) := by
  have hN := h.1.2.2
  refine pu_for0 (W := fun n i => f_X9_livingWith_12 M n (nI q) (nI (fb_ct (fun k => liv B cf de k && has c q k) i)) (nI i) (M.1 20) = some (nI (fb_ct (fun k => liv B cf de k && has c q k) N))) (e := N) (n := 1000) (by omega) (fun n => ?_) (fun n i hi ih => ?_)
  · show f_X9_livingWith_12b M (f_X9_livingWith_12 M n) _ _ _ _ = _
    unfold f_X9_livingWith_12b
    rw [h.mN, if_pos it_end]
  · show f_X9_livingWith_12b M (f_X9_livingWith_12 M n) _ _ _ _ = _
    unfold f_X9_livingWith_12b f_X9_livingWith_57 f_X9_livingWith_58
    rw [h.mN, if_neg (it_go hi h.N31), if_pos (it_in hi h.N31 rfl), nI_clamp (by omega), h.lives hB eB hi]
    simp only [Option.bind_some]
    rw [if_pos hi, h.mhas hi hq]
    rw [fb_ct_succ] at ih
    cases hl : liv B cf de i
    · rw [hl, Bool.false_and] at ih
      rw [if_pos (by decide), Int32.add_zero, nI_1]
      exact ih
    · rw [hl, Bool.true_and] at ih
      rw [if_neg (by decide)]
      cases hp : has c q i
      · rw [hp] at ih
        rw [if_pos (by decide), Int32.add_zero, nI_1]
        exact ih
      · rw [hp] at ih
        rw [if_neg (by decide), nI_1, nI_1]
        exact ih
end PRC
