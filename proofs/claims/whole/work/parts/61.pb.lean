/-! the pure part: loops, small numbers, masks of predicates -/
/-- a loop that counts up from i to e -/
theorem pu_for (W : Nat → Nat → Prop) (e : Nat) (hx : ∀ n, W (n + 1) e) (hs : ∀ n i, i < e → W n (i + 1) → W (n + 1) i) : ∀ (d n i : Nat), i + d = e → d < n → W n i
  | 0, n, i, h, hn => by
    match n, hn with
    | n + 1, _ =>
      have : i = e := by omega
      subst this
      exact hx n
  | d + 1, n, i, h, hn => by
    match n, hn with
    | n + 1, hn => exact hs n i (by omega) (pu_for W e hx hs d n (i + 1) (by omega) (by omega))
theorem pu_for0 (W : Nat → Nat → Prop) {e n : Nat} (h : e < n) (hx : ∀ n, W (n + 1) e) (hs : ∀ n i, i < e → W n (i + 1) → W (n + 1) i) : W n 0 := pu_for W e hx hs e n 0 (Nat.zero_add e) h
/-- the same, one step at a time from any state -/
theorem pu_forS {σ : Type} (W : Nat → Nat → σ → Prop) (I : Nat → σ → Prop) (e : Nat) (hx : ∀ n s, I e s → W (n + 1) e s) (hs : ∀ n i s, i < e → I i s → (∀ s', I (i + 1) s' → W n (i + 1) s') → W (n + 1) i s) : ∀ (d n i : Nat) (s : σ), i + d = e → d < n → I i s → W n i s
  | 0, n, i, s, h, hn, hi => by
    match n, hn with
    | n + 1, _ =>
      have : i = e := by omega
      subst this
      exact hx n s hi
  | d + 1, n, i, s, h, hn, hi => by
    match n, hn with
    | n + 1, hn => exact hs n i s (by omega) hi (fun s' hs' => pu_forS W I e hx hs d n (i + 1) s' (by omega) (by omega) hs')
theorem qb_0 {b : Bool} : q_b b = 0 ↔ b = false := by cases b <;> decide
theorem qb_1 {b : Bool} : q_b b = 1 ↔ b = true := by cases b <;> decide
theorem qb_e {a b : Bool} : q_b a = q_b b ↔ a = b := by cases a <;> cases b <;> decide
theorem q_at_nI {n i : Nat} {f : Nat → Int32} (h : i < n) (hn : n < 2 ^ 31) : q_at n f (nI i) = f i := by
  unfold q_at
  rw [if_neg (nI_pos (by omega)), if_neg (nI_ge h hn), nI_clamp (by omega)]
theorem q_pu_nI {n i : Nat} {f : Nat → Int32} {v : Int32} (h : i < n) (hn : n < 2 ^ 31) : q_pu n f (nI i) v = upd f i v := by
  unfold q_pu
  rw [if_neg (nI_pos (by omega)), if_neg (nI_ge h hn), nI_clamp (by omega)]
theorem it_go {i N : Nat} (h : i < N) (hN : N < 2 ^ 31) : ¬ q_b (!decide (nI i = nI N)) = 0 := by
  rw [decide_eq_false (fun e => by have := (nI_eq (by omega) hN).mp e; omega)]
  decide
theorem it_end {N : Nat} : q_b (!decide (nI N = nI N)) = 0 := by
  rw [decide_eq_true rfl]
  decide
theorem it_in {i N : Nat} {x y : Int32} (h : i < N) (hN : N < 2 ^ 31) (e : x = y) : q_in (nI i) N ∧ x = y := ⟨q_in_nI h hN, e⟩
theorem nI_lit (n : Nat) : (OfNat.ofNat n : Int32) = nI n := rfl
/-! masks -/
def pm (f : Nat → Bool) : Nat → Nat
  | 0 => 0
  | n + 1 => pm f n + (if f n then 2 ^ n else 0)
theorem pm_succ (f : Nat → Bool) (n : Nat) : pm f (n + 1) = pm f n + (if f n then 2 ^ n else 0) := rfl
theorem pm_lt (f : Nat → Bool) : ∀ n, pm f n < 2 ^ n
  | 0 => Nat.one_pos
  | n + 1 => by
    have h := pm_lt f n
    rw [pm_succ, Nat.pow_succ]
    split <;> omega
theorem pm_cong {f g : Nat → Bool} : ∀ {n : Nat}, (∀ k, k < n → f k = g k) → pm f n = pm g n
  | 0, _ => rfl
  | n + 1, h => by rw [pm_succ, pm_succ, pm_cong (fun k hk => h k (by omega)), h n (by omega)]
theorem pm_bit (f : Nat → Bool) (k : Nat) : ∀ n, (pm f n).testBit k = (decide (k < n) && f k)
  | 0 => by simp [pm]
  | n + 1 => by
    have ih := pm_bit f k n
    have hd : ∀ {b : Bool}, k ≠ n → (decide (k < n + 1) && b) = (decide (k < n) && b) := fun {b} h => by
      congr 1
      apply decide_eq_decide.mpr
      omega
    rw [pm_succ]
    by_cases hf : f n = true
    · rw [if_pos hf, ← Nat.or_two_pow_eq_add_of_lt (pm_lt f n), Nat.testBit_or, ih, Nat.testBit_two_pow]
      by_cases hk : k = n
      · subst hk
        simp [hf]
      · rw [hd hk, decide_eq_false (fun e : n = k => hk e.symm), Bool.or_false]
    · rw [if_neg hf, Nat.add_zero, ih]
      by_cases hk : k = n
      · subst hk
        simp [hf]
      · rw [hd hk]
theorem pm_of {m n : Nat} (h : m < 2 ^ n) : pm (fun k => m.testBit k) n = m := by
  apply Nat.eq_of_testBit_eq
  intro i
  rw [pm_bit]
  by_cases hi : i < n
  · rw [decide_eq_true hi, Bool.true_and]
  · rw [decide_eq_false hi, Bool.false_and, Nat.testBit_lt_two_pow (Nat.lt_of_lt_of_le h (Nat.pow_le_pow_right (by decide) (by omega)))]
theorem pm_and (f g : Nat → Bool) (n : Nat) : pm f n &&& pm g n = pm (fun k => f k && g k) n := by
  apply Nat.eq_of_testBit_eq
  intro i
  rw [Nat.testBit_and, pm_bit, pm_bit, pm_bit]
  cases decide (i < n) <;> simp
theorem pm_or (f g : Nat → Bool) (n : Nat) : pm f n ||| pm g n = pm (fun k => f k || g k) n := by
  apply Nat.eq_of_testBit_eq
  intro i
  rw [Nat.testBit_or, pm_bit, pm_bit, pm_bit]
  cases decide (i < n) <;> simp
theorem pm_inj {f g : Nat → Bool} {n : Nat} (h : pm f n = pm g n) {k : Nat} (hk : k < n) : f k = g k := by
  have h1 := pm_bit f k n
  have h2 := pm_bit g k n
  rw [h, h2, decide_eq_true hk, Bool.true_and, Bool.true_and] at h1
  exact h1.symm
theorem pm_0 (n : Nat) : pm (fun _ => false) n = 0 := by
  apply Nat.eq_of_testBit_eq
  intro i
  rw [pm_bit, Nat.zero_testBit, Bool.and_false]
theorem pm_zero {f : Nat → Bool} {n : Nat} : pm f n = 0 ↔ ∀ k, k < n → f k = false := by
  constructor
  · intro h k hk
    exact pm_inj (g := fun _ => false) (h.trans (pm_0 n).symm) hk
  · intro h
    rw [pm_cong (g := fun _ => false) h, pm_0]
theorem pm_all (n : Nat) : pm (fun _ => true) n = 2 ^ n - 1 := by
  apply Nat.eq_of_testBit_eq
  intro i
  rw [pm_bit, Nat.testBit_two_pow_sub_one, Bool.and_true]
theorem pm_ext {f : Nat → Bool} {m n : Nat} (h : m ≤ n) : pm (fun k => decide (k < m) && f k) n = pm f m := by
  apply Nat.eq_of_testBit_eq
  intro i
  rw [pm_bit, pm_bit]
  by_cases hi : i < m
  · rw [decide_eq_true hi, decide_eq_true (by omega : i < n)]
    simp
  · rw [decide_eq_false hi]
    simp
/-! masks as Int32 -/
theorem bt_nI (a : Nat) {i : Nat} (hi : i < 32) : bt (nI a) i = a.testBit i := by
  show (BitVec.ofNat 32 a).getLsbD i = _
  rw [BitVec.getLsbD_ofNat, decide_eq_true hi, Bool.true_and]
theorem nI_and (a b : Nat) : nI a &&& nI b = nI (a &&& b) := nx_and a b
theorem nI_or (a b : Nat) : nI a ||| nI b = nI (a ||| b) := fa_or a b
theorem nI_xor (a b : Nat) : nI a ^^^ nI b = nI (a ^^^ b) := nx_xor a b
theorem nI_one : ∀ k, k < 32 → (1 : Int32) <<< (nI k &&& 31) = nI (2 ^ k) := by decide +kernel
theorem nI_ones : ∀ k, k < 31 → ((1 : Int32) <<< (nI k &&& 31)) - 1 = nI (2 ^ k - 1) := by decide +kernel
/-- a without b -/
theorem nI_andn (f g : Nat → Bool) {n m : Nat} (hn : n ≤ 32) : nI (pm f n) &&& (nI (pm g m) ^^^ (-1 : Int32)) = nI (pm (fun k => f k && !(decide (k < m) && g k)) n) := by
  apply b_ext
  intro i hi
  rw [b_and, b_xor, b_m1 i hi, bt_nI _ hi, bt_nI _ hi, bt_nI _ hi, pm_bit, pm_bit, pm_bit]
  cases decide (i < n) <;> simp
/-- the bit k of a mask -/
theorem nI_bit {a k : Nat} (ha : a < 2 ^ 31) (hk : k < 32) : ((nI a >>> (nI k &&& 31)) &&& (1 : Int32)) = 0 ↔ a.testBit k = false := by
  have h1 : ∀ i, i < 32 → bt ((nI a >>> (nI k &&& 31)) &&& (1 : Int32)) i = (decide (i = 0) && a.testBit k) := by
    intro i hi
    rw [b_and, b_sshr k hk _ hi]
    have e1 : bt (1 : Int32) i = decide (i = 0) := by
      have : ∀ i, i < 32 → bt (1 : Int32) i = decide (i = 0) := by decide +kernel
      exact this i hi
    rw [e1]
    by_cases h0 : i = 0
    · subst h0
      rw [if_pos (by omega), bt_nI _ (by omega), Nat.add_zero]
      simp
    · rw [decide_eq_false h0, Bool.and_false, Bool.false_and]
  constructor
  · intro h
    have h2 := h1 0 (by decide)
    rw [h, b_0] at h2
    simpa using h2.symm
  · intro h
    apply b_ext
    intro i hi
    rw [h1 i hi, h, b_0, Bool.and_false]
theorem hasBit_nI {a k : Nat} (ha : a < 2 ^ 31) (hk : k < 32) : f_X8_hasBit (nI a) (nI k) = a.testBit k := by
  unfold f_X8_hasBit
  by_cases h : a.testBit k = true
  · rw [if_neg (fun e => by rw [(nI_bit ha hk).mp e] at h; cases h), h]
  · have h' : a.testBit k = false := by simpa using h
    rw [if_pos ((nI_bit ha hk).mpr h'), h']
theorem pw31 {n : Nat} (h : n ≤ 31) : 2 ^ n ≤ 2 ^ 31 := Nat.pow_le_pow_right (by decide) h
theorem pm31 (f : Nat → Bool) {n : Nat} (h : n ≤ 31) : pm f n < 2 ^ 31 := Nat.lt_of_lt_of_le (pm_lt f n) (pw31 h)
theorem hasBit_pm {f : Nat → Bool} {n k : Nat} (hn : n ≤ 31) (hk : k < 32) : f_X8_hasBit (nI (pm f n)) (nI k) = (decide (k < n) && f k) := by
  rw [hasBit_nI (pm31 f hn) hk, pm_bit]
theorem nI_0iff {a : Nat} (h : a < 2 ^ 31) : nI a = 0 ↔ a = 0 := by
  rw [show (0 : Int32) = nI 0 from rfl, nI_eq h (by decide)]
