/-! orders: ways counted from both ends; nothing of the program -/
theorem sm_mul (f : Nat → Nat) (c : Nat) : ∀ n, fb_sm f n * c = fb_sm (fun k => f k * c) n
  | 0 => Nat.zero_mul c
  | n + 1 => by rw [fb_sm_succ, fb_sm_succ, Nat.add_mul, sm_mul f c n]
theorem sm_zero (n : Nat) : fb_sm (fun _ => 0) n = 0 := by rw [fb_sm_const, Nat.mul_zero]
theorem sm_swap (f : Nat → Nat → Nat) (m : Nat) : ∀ n, fb_sm (fun i => fb_sm (f i) m) n = fb_sm (fun j => fb_sm (fun i => f i j) n) m
  | 0 => (sm_zero m).symm
  | n + 1 => by
    rw [fb_sm_succ, sm_swap f m n, ← fb_sm_add]
    rfl
theorem sm_one (f : Nat → Nat) (a : Nat) : ∀ n, fb_sm (fun k => if k = a then f k else 0) n = if a < n then f a else 0
  | 0 => (if_neg (Nat.not_lt_zero a)).symm
  | n + 1 => by
    rw [fb_sm_succ, sm_one f a n]
    by_cases c : a < n
    · rw [if_pos c, if_neg (show ¬ n = a by omega), if_pos (show a < n + 1 by omega), Nat.add_zero]
    · by_cases d : n = a
      · subst d
        rw [if_neg c, if_pos rfl, if_pos (Nat.lt_succ_self n), Nat.zero_add]
      · rw [if_neg c, if_neg d, if_neg (show ¬ a < n + 1 by omega)]
/-- the sets with x, by the sets without -/
theorem sm_shift : ∀ (T : Nat) (F : Nat → Nat) (x : Nat), x < T → fb_sm (fun Q => if Q.testBit x then F Q else 0) (2 ^ T) = fb_sm (fun P => if P.testBit x then 0 else F (P + 2 ^ x)) (2 ^ T)
  | 0, _, x, hx => absurd hx (Nat.not_lt_zero x)
  | T + 1, F, x, hx => by
    rw [show 2 ^ (T + 1) = 2 ^ T + 2 ^ T by rw [Nat.pow_succ, Nat.mul_two], fb_sm_split, fb_sm_split]
    rcases Nat.lt_or_ge x T with c | c
    · have e := sm_shift T F x c
      have e2 := sm_shift T (fun k => F (2 ^ T + k)) x c
      rw [e]
      refine congrArg (fb_sm (fun P => if P.testBit x then 0 else F (P + 2 ^ x)) (2 ^ T) + ·) ?_
      rw [fb_sm_cong (g := fun Q => if Q.testBit x then F (2 ^ T + Q) else 0) (fun k _ => by rw [Nat.testBit_two_pow_add_gt c]), e2]
      exact fb_sm_cong (fun k _ => by rw [Nat.testBit_two_pow_add_gt c, Nat.add_assoc])
    · have : x = T := by omega
      subst this
      rw [fb_sm_cong (n := 2 ^ x) (f := fun Q => if Q.testBit x then F Q else 0) (g := fun _ => 0) (fun k hk => by rw [Nat.testBit_lt_two_pow hk]; rfl), sm_zero, Nat.zero_add, fb_sm_cong (n := 2 ^ x) (f := fun k => if (2 ^ x + k).testBit x then 0 else F (2 ^ x + k + 2 ^ x)) (g := fun _ => 0) (fun k hk => by rw [Nat.testBit_two_pow_add_eq, Nat.testBit_lt_two_pow hk]; rfl), sm_zero, Nat.add_zero]
      exact fb_sm_cong (fun k hk => by rw [Nat.testBit_two_pow_add_eq, Nat.testBit_lt_two_pow hk, Nat.add_comm]; rfl)
/-- ways of k steps from nothing to Q -/
def dnk (ok : Nat → Nat → Bool) (T : Nat) : Nat → Nat → Nat
  | 0, Q => if Q = 0 then 1 else 0
  | k + 1, Q => fb_sm (fun x => if Q.testBit x && ok x (Q - 2 ^ x) then dnk ok T k (Q - 2 ^ x) else 0) T
/-- ways of k steps from P to all -/
def upk (ok : Nat → Nat → Bool) (T : Nat) : Nat → Nat → Nat
  | 0, P => if P = 2 ^ T - 1 then 1 else 0
  | k + 1, P => fb_sm (fun x => if !P.testBit x && ok x P then upk ok T k (P + 2 ^ x) else 0) T
theorem dnk_succ (ok : Nat → Nat → Bool) (T k Q : Nat) : dnk ok T (k + 1) Q = fb_sm (fun x => if Q.testBit x && ok x (Q - 2 ^ x) then dnk ok T k (Q - 2 ^ x) else 0) T := rfl
theorem upk_succ (ok : Nat → Nat → Bool) (T k P : Nat) : upk ok T (k + 1) P = fb_sm (fun x => if !P.testBit x && ok x P then upk ok T k (P + 2 ^ x) else 0) T := rfl
theorem ways_step (ok : Nat → Nat → Bool) {T : Nat} (hT : T < 6) (k j : Nat) : fb_sm (fun Q => dnk ok T (k + 1) Q * upk ok T j Q) (2 ^ T) = fb_sm (fun P => dnk ok T k P * upk ok T (j + 1) P) (2 ^ T) := by
  have e1 : fb_sm (fun Q => dnk ok T (k + 1) Q * upk ok T j Q) (2 ^ T) = fb_sm (fun Q => fb_sm (fun x => if Q.testBit x then (if ok x (Q - 2 ^ x) then dnk ok T k (Q - 2 ^ x) * upk ok T j Q else 0) else 0) T) (2 ^ T) :=
    fb_sm_cong (fun Q _ => by
      rw [dnk_succ, sm_mul]
      refine fb_sm_cong (fun x _ => ?_)
      cases Q.testBit x
      · rw [Bool.false_and, if_neg (by decide), if_neg (by decide), Nat.zero_mul]
      · rw [Bool.true_and, if_pos rfl]
        cases ok x (Q - 2 ^ x)
        · rw [if_neg (by decide), if_neg (by decide), Nat.zero_mul]
        · rw [if_pos rfl, if_pos rfl])
  have e2 : fb_sm (fun P => dnk ok T k P * upk ok T (j + 1) P) (2 ^ T) = fb_sm (fun P => fb_sm (fun x => if P.testBit x then 0 else (if ok x P then dnk ok T k P * upk ok T j (P + 2 ^ x) else 0)) T) (2 ^ T) :=
    fb_sm_cong (fun P _ => by
      rw [upk_succ, Nat.mul_comm, sm_mul]
      refine fb_sm_cong (fun x _ => ?_)
      cases P.testBit x
      · rw [Bool.not_false, Bool.true_and, if_neg (by decide : ¬ (false = true))]
        cases ok x P
        · rw [if_neg (by decide), if_neg (by decide), Nat.zero_mul]
        · rw [if_pos rfl, if_pos rfl, Nat.mul_comm]
      · rw [Bool.not_true, Bool.false_and, if_neg (by decide), if_pos rfl, Nat.zero_mul])
  rw [e1, e2, sm_swap _ T (2 ^ T), sm_swap _ T (2 ^ T)]
  refine fb_sm_cong (fun x hx => ?_)
  have hs := sm_shift T (fun Q => if ok x (Q - 2 ^ x) then dnk ok T k (Q - 2 ^ x) * upk ok T j Q else 0) x hx
  refine hs.trans (fb_sm_cong (fun P _ => ?_))
  show (if P.testBit x then 0 else (if ok x (P + 2 ^ x - 2 ^ x) then dnk ok T k (P + 2 ^ x - 2 ^ x) * upk ok T j (P + 2 ^ x) else 0)) = _
  rw [Nat.add_sub_cancel]
theorem ways_all (ok : Nat → Nat → Bool) {T : Nat} (hT : T < 6) : ∀ k j, fb_sm (fun Q => dnk ok T k Q * upk ok T j Q) (2 ^ T) = fb_sm (fun Q => dnk ok T 0 Q * upk ok T (k + j) Q) (2 ^ T)
  | 0, j => by rw [Nat.zero_add]
  | k + 1, j => by rw [ways_step ok hT k j, ways_all ok hT k (j + 1), show k + (j + 1) = k + 1 + j by omega]
theorem ways_eq (ok : Nat → Nat → Bool) {T : Nat} (hT : T < 6) : dnk ok T T (2 ^ T - 1) = upk ok T T 0 := by
  have hp := Nat.two_pow_pos T
  have h := ways_all ok hT T 0
  rw [Nat.add_zero] at h
  have e1 : fb_sm (fun Q => dnk ok T T Q * upk ok T 0 Q) (2 ^ T) = dnk ok T T (2 ^ T - 1) := by
    have := sm_one (dnk ok T T) (2 ^ T - 1) (2 ^ T)
    rw [if_pos (by omega)] at this
    rw [← this]
    refine fb_sm_cong (fun Q _ => ?_)
    show dnk ok T T Q * (if Q = 2 ^ T - 1 then 1 else 0) = _
    by_cases c : Q = 2 ^ T - 1
    · rw [if_pos c, if_pos c, Nat.mul_one]
    · rw [if_neg c, if_neg c, Nat.mul_zero]
  have e2 : fb_sm (fun Q => dnk ok T 0 Q * upk ok T T Q) (2 ^ T) = upk ok T T 0 := by
    have := sm_one (upk ok T T) 0 (2 ^ T)
    rw [if_pos hp] at this
    rw [← this]
    refine fb_sm_cong (fun Q _ => ?_)
    show (if Q = 0 then 1 else 0) * upk ok T T Q = _
    by_cases c : Q = 0
    · rw [if_pos c, if_pos c, Nat.one_mul]
    · rw [if_neg c, if_neg c, Nat.zero_mul]
  rw [← e1, h, e2]
theorem dnk_le {ok ok2 : Nat → Nat → Bool} {T : Nat} (h : ∀ x P, ok x P = true → ok2 x P = true) : ∀ k Q, dnk ok T k Q ≤ dnk ok2 T k Q
  | 0, _ => Nat.le_refl _
  | k + 1, Q => by
    rw [dnk_succ, dnk_succ]
    refine fb_sm_le (fun x _ => ?_)
    cases Q.testBit x
    · rw [Bool.false_and, Bool.false_and, if_neg (by decide), if_neg (by decide)]
      exact Nat.le_refl _
    · rw [Bool.true_and, Bool.true_and]
      cases c : ok x (Q - 2 ^ x)
      · rw [if_neg (by decide)]
        exact Nat.zero_le _
      · rw [if_pos rfl, if_pos (h _ _ c)]
        exact dnk_le h k _
theorem dnk_max (ok : Nat → Nat → Bool) (T : Nat) : ∀ k Q, dnk ok T k Q ≤ T ^ k
  | 0, Q => by
    show (if Q = 0 then 1 else 0) ≤ 1
    split <;> omega
  | k + 1, Q => by
    rw [dnk_succ, Nat.pow_succ, Nat.mul_comm]
    refine fb_sm_bound (fun x _ => ?_)
    split
    · exact dnk_max ok T k _
    · exact Nat.zero_le _
theorem dnk_31 (ok : Nat → Nat → Bool) {T : Nat} (hT : T < 6) (Q : Nat) : dnk ok T T Q < 2 ^ 31 := by
  refine Nat.lt_of_le_of_lt (dnk_max ok T T Q) ?_
  match T, hT with
  | 0, _ => decide
  | 1, _ => decide
  | 2, _ => decide
  | 3, _ => decide
  | 4, _ => decide
  | 5, _ => decide
/-- how many are placed -/
def pc (Q : Nat) : Nat := fb_ct (fun k => Q.testBit k) 5
def pcA (Q x : Nat) : Bool := if Q.testBit x then decide (pc (Q - 2 ^ x) + 1 = pc Q) && decide (2 ^ x ≤ Q) else decide (pc (Q + 2 ^ x) = pc Q + 1)
theorem pcA_all : ∀ Q, Q < 32 → ∀ x, x < 5 → pcA Q x = true := by decide +kernel
theorem pc_dn {Q x : Nat} (hQ : Q < 32) (hx : x < 5) (h : Q.testBit x = true) : pc (Q - 2 ^ x) + 1 = pc Q ∧ 2 ^ x ≤ Q := by
  have := pcA_all Q hQ x hx
  unfold pcA at this
  rw [if_pos h, Bool.and_eq_true, decide_eq_true_iff, decide_eq_true_iff] at this
  exact this
theorem pc_up {Q x : Nat} (hQ : Q < 32) (hx : x < 5) (h : Q.testBit x = false) : pc (Q + 2 ^ x) = pc Q + 1 := by
  have := pcA_all Q hQ x hx
  unfold pcA at this
  rw [if_neg (by rw [h]; decide), decide_eq_true_iff] at this
  exact this
def pcB (T P : Nat) : Bool := if P = 2 ^ T - 1 then decide (pc P = T) else decide (pc P < T)
theorem pcB_all : ∀ T, T < 6 → ∀ P, P < 2 ^ T → pcB T P = true := by decide +kernel
theorem pc_full {T : Nat} (hT : T < 6) : pc (2 ^ T - 1) = T := by
  have := pcB_all T hT (2 ^ T - 1) (by have := Nat.two_pow_pos T; omega)
  unfold pcB at this
  rw [if_pos rfl, decide_eq_true_iff] at this
  exact this
theorem pc_less {T P : Nat} (hT : T < 6) (hP : P < 2 ^ T) (h : P ≠ 2 ^ T - 1) : pc P < T := by
  have := pcB_all T hT P hP
  unfold pcB at this
  rw [if_neg h, decide_eq_true_iff] at this
  exact this
def pcC (T P x : Nat) : Bool := P.testBit x || decide (P + 2 ^ x < 2 ^ T)
theorem pcC_all : ∀ T, T < 6 → ∀ P, P < 2 ^ T → ∀ x, x < T → pcC T P x = true := by decide +kernel
theorem pc_in {T P x : Nat} (hT : T < 6) (hP : P < 2 ^ T) (hx : x < T) (h : P.testBit x = false) : P + 2 ^ x < 2 ^ T := by
  have := pcC_all T hT P hP x hx
  unfold pcC at this
  rw [h, Bool.false_or, decide_eq_true_iff] at this
  exact this
theorem pc_pos {Q : Nat} (hQ : Q < 32) (h : Q ≠ 0) : 0 < pc Q := by
  have : ∀ Q, Q < 32 → Q = 0 ∨ 0 < pc Q := by decide +kernel
  exact (this Q hQ).resolve_left h
/-- all that must be ahead of x is placed -/
def okL (pre : Nat → Nat → Bool) (x P : Nat) : Nat → Bool
  | 0 => true
  | j + 1 => okL pre x P j && (!pre j x || P.testBit j)
theorem okL_succ (pre : Nat → Nat → Bool) (x P j : Nat) : okL pre x P (j + 1) = (okL pre x P j && (!pre j x || P.testBit j)) := rfl
theorem okL_iff {pre : Nat → Nat → Bool} {x P : Nat} : ∀ {n : Nat}, okL pre x P n = true ↔ ∀ j, j < n → pre j x = true → P.testBit j = true
  | 0 => ⟨fun _ j hj => absurd hj (Nat.not_lt_zero j), fun _ => rfl⟩
  | n + 1 => by
    rw [okL_succ, Bool.and_eq_true, okL_iff]
    constructor
    · rintro ⟨h1, h2⟩ j hj e
      rcases Nat.lt_or_ge j n with c | c
      · exact h1 j c e
      · have : j = n := by omega
        subst this
        rw [e] at h2
        exact h2
    · intro h
      refine ⟨fun j hj => h j (by omega), ?_⟩
      cases e : pre n x
      · rfl
      · rw [h n (by omega) e]
        rfl
