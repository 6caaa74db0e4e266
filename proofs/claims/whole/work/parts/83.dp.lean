/-! depth and mistakes: one value on groups -/
def gc (c : Nat → Nat) (q : Nat) (b : Bool) (l : Nat → Bool) (k : Nat) : Bool := l k && (if b then has c q k else !has c q k)
def ste (kd : Bool) (acc a b : Nat) : Nat := if kd then max acc (1 + min a b) else min acc (1 + max a b)
def tri (c : Nat → Nat) (N q : Nat) (l : Nat → Bool) : Bool := decide (fb_ct (gc c q true l) N = 0 ∨ fb_ct (gc c q false l) N = 0)
def fdW (f : (Nat → Bool) → Nat) (kd : Bool) (c : Nat → Nat) (N P : Nat) (l : Nat → Bool) : Nat → Nat
  | 0 => if kd then 0 else P
  | i + 1 => if tri c N i l then fdW f kd c N P l i else ste kd (fdW f kd c N P l i) (f (gc c i true l)) (f (gc c i false l))
theorem fdW_succ (f : (Nat → Bool) → Nat) (kd : Bool) (c : Nat → Nat) (N P : Nat) (l : Nat → Bool) (i : Nat) : fdW f kd c N P l (i + 1) = if tri c N i l then fdW f kd c N P l i else ste kd (fdW f kd c N P l i) (f (gc c i true l)) (f (gc c i false l)) := rfl
def Wn (kd : Bool) (c : Nat → Nat) (N P : Nat) : Nat → (Nat → Bool) → Nat
  | 0, _ => 0
  | n + 1, l => if 2 ≤ fb_ct l N then fdW (Wn kd c N P n) kd c N P l P else 0
theorem Wn_succ (kd : Bool) (c : Nat → Nat) (N P n : Nat) (l : Nat → Bool) : Wn kd c N P (n + 1) l = if 2 ≤ fb_ct l N then fdW (Wn kd c N P n) kd c N P l P else 0 := rfl
theorem ct_lt {p r : Nat → Bool} {j : Nat} : ∀ {n : Nat}, (∀ k, k < n → p k = true → r k = true) → j < n → p j = false → r j = true → fb_ct p n < fb_ct r n
  | 0, _, h, _, _ => absurd h (Nat.not_lt_zero _)
  | n + 1, h, hj, h1, h2 => by
    rw [fb_ct_succ, fb_ct_succ]
    by_cases e : j = n
    · subst e
      have := fb_ct_sub (n := j) (fun k hk => h k (by omega))
      rw [h1, h2, if_neg (by decide), if_pos rfl]
      omega
    · have := ct_lt (n := n) (fun k hk => h k (by omega)) (by omega) h1 h2
      have hn := h n (Nat.lt_succ_self n)
      cases hp : p n
      · rw [if_neg (by decide)]; split <;> omega
      · rw [hn hp, if_pos rfl]; omega
def het (c : Nat → Nat) (N P : Nat) (l : Nat → Bool) : Nat := fb_ct (fun q => !tri c N q l) P
theorem gc_sub {c : Nat → Nat} {q : Nat} {b : Bool} {l : Nat → Bool} {k : Nat} (h : gc c q b l k = true) : l k = true := by
  unfold gc at h
  rw [Bool.and_eq_true] at h
  exact h.1
theorem ctg_le {c : Nat → Nat} {q : Nat} {b : Bool} {l l' : Nat → Bool} {N : Nat} (h : ∀ k, k < N → l' k = true → l k = true) : fb_ct (gc c q b l') N ≤ fb_ct (gc c q b l) N := fb_ct_sub (fun k hk e => by
  unfold gc at e ⊢
  rw [Bool.and_eq_true] at e ⊢
  exact ⟨h k hk e.1, e.2⟩)
theorem gc_tf (c : Nat → Nat) (q : Nat) (b : Bool) (l : Nat → Bool) (N : Nat) : fb_ct (gc c q (!b) (gc c q b l)) N = 0 := fb_ct_zero.mpr (fun k _ => by
  unfold gc
  cases b <;> cases l k <;> cases has c q k <;> rfl)
theorem het_lt {c : Nat → Nat} {N P q : Nat} {l : Nat → Bool} (hq : q < P) (ht : tri c N q l = false) (b : Bool) : het c N P (gc c q b l) < het c N P l := by
  refine ct_lt (j := q) (fun k _ e => ?_) hq ?_ ?_
  · have s1 := ctg_le (c := c) (q := k) (b := true) (N := N) (l := l) (l' := gc c q b l) (fun _ _ => gc_sub)
    have s2 := ctg_le (c := c) (q := k) (b := false) (N := N) (l := l) (l' := gc c q b l) (fun _ _ => gc_sub)
    simp only [tri, Bool.not_eq_true', decide_eq_false_iff_not] at e ⊢
    omega
  · have := gc_tf c q b l N
    simp only [tri, Bool.not_eq_false', decide_eq_true_eq]
    cases b
    · exact Or.inl this
    · exact Or.inr this
  · rw [ht]; rfl
theorem fdW_cong {f g : (Nat → Bool) → Nat} {kd : Bool} {c : Nat → Nat} {N P : Nat} {l : Nat → Bool} : ∀ i, (∀ q b, q < i → tri c N q l = false → f (gc c q b l) = g (gc c q b l)) → fdW f kd c N P l i = fdW g kd c N P l i
  | 0, _ => rfl
  | i + 1, h => by
    rw [fdW_succ, fdW_succ, fdW_cong i (fun q b hq => h q b (by omega))]
    cases ht : tri c N i l
    · rw [h i true (Nat.lt_succ_self i) ht, h i false (Nat.lt_succ_self i) ht]
    · rfl
theorem Wn_fuel {kd : Bool} {c : Nat → Nat} {N P : Nat} : ∀ (n m : Nat) (l : Nat → Bool), het c N P l < n → het c N P l < m → Wn kd c N P n l = Wn kd c N P m l
  | 0, _, _, h, _ => absurd h (Nat.not_lt_zero _)
  | _, 0, _, _, h => absurd h (Nat.not_lt_zero _)
  | n + 1, m + 1, l, h1, h2 => by
    rw [Wn_succ, Wn_succ, fdW_cong P (fun q b hq ht => by
      have := het_lt hq ht b
      exact Wn_fuel n m _ (by omega) (by omega))]
def WW (kd : Bool) (c : Nat → Nat) (N P : Nat) (l : Nat → Bool) : Nat := Wn kd c N P 8 l
theorem het_le (c : Nat → Nat) (N P : Nat) (l : Nat → Bool) : het c N P l ≤ P := fb_ct_le _ _
theorem WW_eq {kd : Bool} {c : Nat → Nat} {N P : Nat} (hP : P ≤ 6) (l : Nat → Bool) : WW kd c N P l = if 2 ≤ fb_ct l N then fdW (WW kd c N P) kd c N P l P else 0 := by
  have h := het_le c N P
  show Wn kd c N P 8 l = _
  rw [Wn_succ, fdW_cong (g := WW kd c N P) P (fun q b _ _ => Wn_fuel 7 8 _ (by have := h (gc c q b l); omega) (by have := h (gc c q b l); omega))]
theorem fdW_le {f : (Nat → Bool) → Nat} {kd : Bool} {c : Nat → Nat} {N P B : Nat} {l : Nat → Bool} (hf : ∀ l, f l ≤ B) (hP : P ≤ B + 1) : ∀ i, fdW f kd c N P l i ≤ B + 1
  | 0 => by
    show (if kd then 0 else P) ≤ _
    split <;> omega
  | i + 1 => by
    rw [fdW_succ]
    have := fdW_le (kd := kd) (c := c) (N := N) (l := l) hf hP i
    have h1 := hf (gc c i true l)
    have h2 := hf (gc c i false l)
    split
    · assumption
    · unfold ste
      split
      · exact Nat.max_le.mpr ⟨by omega, by have := Nat.min_le_left (f (gc c i true l)) (f (gc c i false l)); omega⟩
      · exact Nat.le_trans (Nat.min_le_left _ _) this
theorem Wn_le {kd : Bool} {c : Nat → Nat} {N P : Nat} : ∀ n l, Wn kd c N P n l ≤ P + n
  | 0, _ => Nat.zero_le _
  | n + 1, l => by
    rw [Wn_succ]
    split
    · exact fdW_le (fun l => Wn_le n l) (by omega) P
    · exact Nat.zero_le _
theorem WW_le {kd : Bool} {c : Nat → Nat} {N P : Nat} (l : Nat → Bool) : WW kd c N P l ≤ P + 8 := Wn_le 8 l
/-! two to the mistakes is at most the group, two to the depth at least -/
theorem gc_sum (c : Nat → Nat) (q : Nat) (l : Nat → Bool) (N : Nat) : fb_ct (gc c q true l) N + fb_ct (gc c q false l) N = fb_ct l N := by
  have := ct_two l (has c q) N
  rw [← this]
  congr 1
theorem Wn_low {c : Nat → Nat} {N P : Nat} : ∀ n l, 0 < fb_ct l N → 2 ^ Wn true c N P n l ≤ fb_ct l N
  | 0, l, h => h
  | n + 1, l, h => by
    rw [Wn_succ]
    split
    · have key : ∀ i, 2 ^ fdW (Wn true c N P n) true c N P l i ≤ fb_ct l N := by
        intro i
        induction i with
        | zero => exact h
        | succ i ih =>
          rw [fdW_succ]
          cases ht : tri c N i l
          · rw [if_neg (by decide)]
            have ht' : ¬ (fb_ct (gc c i true l) N = 0 ∨ fb_ct (gc c i false l) N = 0) := by
              unfold tri at ht
              exact of_decide_eq_false ht
            have g1 := Wn_low (c := c) (N := N) (P := P) n (gc c i true l) (by omega)
            have g2 := Wn_low (c := c) (N := N) (P := P) n (gc c i false l) (by omega)
            have gs := gc_sum c i l N
            show 2 ^ max (fdW (Wn true c N P n) true c N P l i) (1 + min (Wn true c N P n (gc c i true l)) (Wn true c N P n (gc c i false l))) ≤ _
            rcases Nat.le_total (fdW (Wn true c N P n) true c N P l i) (1 + min (Wn true c N P n (gc c i true l)) (Wn true c N P n (gc c i false l))) with e | e
            · rw [Nat.max_eq_right e, Nat.pow_add]
              have m1 := Nat.pow_le_pow_right (n := 2) (by decide) (Nat.min_le_left (Wn true c N P n (gc c i true l)) (Wn true c N P n (gc c i false l)))
              have m2 := Nat.pow_le_pow_right (n := 2) (by decide) (Nat.min_le_right (Wn true c N P n (gc c i true l)) (Wn true c N P n (gc c i false l)))
              omega
            · rw [Nat.max_eq_left e]; exact ih
          · rw [if_pos rfl]; exact ih
      exact key P
    · exact h
theorem Wn_high {c : Nat → Nat} {N P : Nat} (hN : N ≤ 2 ^ P) : ∀ n l, het c N P l < n → fb_ct l N ≤ 2 ^ Wn false c N P n l
  | 0, _, h => absurd h (Nat.not_lt_zero _)
  | n + 1, l, h => by
    rw [Wn_succ]
    split
    · have key : ∀ i, i ≤ P → fb_ct l N ≤ 2 ^ fdW (Wn false c N P n) false c N P l i := by
        intro i
        induction i with
        | zero => intro _; exact Nat.le_trans (fb_ct_le l N) hN
        | succ i ih =>
          intro hi
          rw [fdW_succ]
          cases ht : tri c N i l
          · rw [if_neg (by decide)]
            have l1 := het_lt (c := c) (N := N) (P := P) (show i < P by omega) ht true
            have l2 := het_lt (c := c) (N := N) (P := P) (show i < P by omega) ht false
            have g1 := Wn_high (c := c) hN n (gc c i true l) (by omega)
            have g2 := Wn_high (c := c) hN n (gc c i false l) (by omega)
            have gs := gc_sum c i l N
            show _ ≤ 2 ^ min (fdW (Wn false c N P n) false c N P l i) (1 + max (Wn false c N P n (gc c i true l)) (Wn false c N P n (gc c i false l)))
            rcases Nat.le_total (fdW (Wn false c N P n) false c N P l i) (1 + max (Wn false c N P n (gc c i true l)) (Wn false c N P n (gc c i false l))) with e | e
            · rw [Nat.min_eq_left e]; exact ih (by omega)
            · rw [Nat.min_eq_right e, Nat.pow_add]
              have m1 := Nat.pow_le_pow_right (n := 2) (by decide) (Nat.le_max_left (Wn false c N P n (gc c i true l)) (Wn false c N P n (gc c i false l)))
              have m2 := Nat.pow_le_pow_right (n := 2) (by decide) (Nat.le_max_right (Wn false c N P n (gc c i true l)) (Wn false c N P n (gc c i false l)))
              omega
          · rw [if_pos rfl]; exact ih (by omega)
      exact key P (Nat.le_refl P)
    · omega
theorem W_ord {c : Nat → Nat} {N P : Nat} (hP : P ≤ 6) (hN : N ≤ 2 ^ P) {l : Nat → Bool} (h : 0 < fb_ct l N) : WW true c N P l ≤ WW false c N P l := by
  have h1 := Wn_low (c := c) (P := P) 8 l h
  have h2 := Wn_high (c := c) hN 8 l (by have := het_le c N P l; omega)
  exact (Nat.pow_le_pow_iff_right (a := 2) (by decide)).mp (Nat.le_trans h1 h2)
/-! what is shattered forces mistakes -/
theorem fdW_ge {f : (Nat → Bool) → Nat} {c : Nat → Nat} {N P q : Nat} {l : Nat → Bool} (ht : tri c N q l = false) : ∀ i, q < i → 1 + min (f (gc c q true l)) (f (gc c q false l)) ≤ fdW f true c N P l i
  | 0, h => absurd h (Nat.not_lt_zero _)
  | i + 1, h => by
    rw [fdW_succ]
    by_cases e : q = i
    · subst e
      rw [ht, if_neg (by decide)]
      exact Nat.le_max_right _ _
    · have := fdW_ge (f := f) (P := P) ht i (by omega)
      split
      · exact this
      · exact Nat.le_trans this (Nat.le_max_left _ _)
theorem bits_drop : ∀ v, v < 64 → ∀ q, q < 6 → v.testBit q = true → bits (v ^^^ 2 ^ q) + 1 = bits v ∧ v ^^^ 2 ^ q < 64 := by decide +kernel
theorem W_sh {c : Nat → Nat} {N P : Nat} (hP : P ≤ 6) : ∀ (n v : Nat) (l : Nat → Bool), bits v = n → v < 2 ^ P → (∀ t, t &&& v = t → ∃ k, k < N ∧ l k = true ∧ c k &&& v = t) → n ≤ WW true c N P l
  | 0, _, _, _, _, _ => Nat.zero_le _
  | n + 1, v, l, hb, hv, hs => by
    have hv64 : v < 64 := Nat.lt_of_lt_of_le hv (Nat.pow_le_pow_right (n := 2) (by decide) hP)
    obtain ⟨q, hq32, hq⟩ := fb_ct_pos.mp (show 0 < fb_ct (fun k => v.testBit k) 32 by unfold bits at hb; omega)
    have hqP : q < P := by
      refine Nat.lt_of_not_le (fun e => ?_)
      rw [Nat.testBit_lt_two_pow (Nat.lt_of_lt_of_le hv (Nat.pow_le_pow_right (n := 2) (by decide) e))] at hq
      cases hq
    obtain ⟨b1, b2⟩ := bits_drop v hv64 q (by omega) hq
    have hvP : v ^^^ 2 ^ q < 2 ^ P := Nat.xor_lt_two_pow hv (Nat.pow_lt_pow_right (by decide) hqP)
    have tq : ∀ t, t &&& (v ^^^ 2 ^ q) = t → ∀ i, t.testBit i = true → v.testBit i = true ∧ i ≠ q := by
      intro t ht i hi
      rw [← ht, Nat.testBit_and, Nat.testBit_xor, Nat.testBit_two_pow, Bool.and_eq_true] at hi
      by_cases e : q = i
      · subst e
        rw [hq, decide_eq_true rfl] at hi
        exact absurd hi.2 (by decide)
      · rw [decide_eq_false e, Bool.xor_false] at hi
        exact ⟨hi.2, fun f => e f.symm⟩
    have s1 : ∀ t, t &&& (v ^^^ 2 ^ q) = t → ∃ k, k < N ∧ gc c q true l k = true ∧ c k &&& (v ^^^ 2 ^ q) = t := by
      intro t ht
      have hsub : (t ||| 2 ^ q) &&& v = t ||| 2 ^ q := by
        apply Nat.eq_of_testBit_eq
        intro i
        rw [Nat.testBit_and, Nat.testBit_or, Nat.testBit_two_pow]
        by_cases e : q = i
        · subst e; rw [hq, Bool.and_true]
        · rw [decide_eq_false e, Bool.or_false]
          cases hti : t.testBit i
          · rfl
          · rw [(tq t ht i hti).1]; rfl
      obtain ⟨k, k1, k2, k3⟩ := hs _ hsub
      have bi : ∀ i, ((c k).testBit i && v.testBit i) = (t.testBit i || decide (q = i)) := fun i => by
        rw [← Nat.testBit_and, k3, Nat.testBit_or, Nat.testBit_two_pow]
      refine ⟨k, k1, ?_, ?_⟩
      · have := bi q
        rw [decide_eq_true rfl, Bool.or_true, hq, Bool.and_true] at this
        unfold gc has
        rw [k2, this]
        rfl
      · apply Nat.eq_of_testBit_eq
        intro i
        rw [Nat.testBit_and, Nat.testBit_xor, Nat.testBit_two_pow]
        by_cases e : q = i
        · subst e
          rw [hq, decide_eq_true rfl]
          cases hti : t.testBit q
          · simp
          · exact absurd rfl (tq t ht q hti).2
        · have := bi i
          rw [decide_eq_false e, Bool.or_false] at this
          rw [decide_eq_false e, Bool.xor_false, this]
    have s0 : ∀ t, t &&& (v ^^^ 2 ^ q) = t → ∃ k, k < N ∧ gc c q false l k = true ∧ c k &&& (v ^^^ 2 ^ q) = t := by
      intro t ht
      have hsub : t &&& v = t := by
        apply Nat.eq_of_testBit_eq
        intro i
        rw [Nat.testBit_and]
        cases hti : t.testBit i
        · rfl
        · rw [(tq t ht i hti).1]; rfl
      obtain ⟨k, k1, k2, k3⟩ := hs _ hsub
      have bi : ∀ i, ((c k).testBit i && v.testBit i) = t.testBit i := fun i => by
        rw [← Nat.testBit_and, k3]
      have tq0 : t.testBit q = false := Bool.eq_false_iff.mpr (fun e => absurd rfl (tq t ht q e).2)
      refine ⟨k, k1, ?_, ?_⟩
      · have := bi q
        rw [tq0, hq, Bool.and_true] at this
        unfold gc has
        rw [k2, this]
        rfl
      · apply Nat.eq_of_testBit_eq
        intro i
        rw [Nat.testBit_and, Nat.testBit_xor, Nat.testBit_two_pow]
        by_cases e : q = i
        · subst e
          rw [hq, decide_eq_true rfl, tq0]
          simp
        · rw [decide_eq_false e, Bool.xor_false, bi i]
    have w1 := W_sh hP n _ _ (by omega) hvP s1
    have w0 := W_sh hP n _ _ (by omega) hvP s0
    obtain ⟨k1, k11, k12, _⟩ := s1 0 (Nat.zero_and _)
    obtain ⟨k0, k01, k02, _⟩ := s0 0 (Nat.zero_and _)
    have p1 : 0 < fb_ct (gc c q true l) N := fb_ct_pos.mpr ⟨k1, k11, k12⟩
    have p0 : 0 < fb_ct (gc c q false l) N := fb_ct_pos.mpr ⟨k0, k01, k02⟩
    have gs := gc_sum c q l N
    have ht : tri c N q l = false := by unfold tri; exact decide_eq_false (by omega)
    rw [WW_eq hP, if_pos (by omega)]
    have := fdW_ge (f := WW true c N P) (P := P) ht P hqP
    have := Nat.le_min.mpr ⟨w1, w0⟩
    omega
theorem sub_64 : ∀ v, v < 64 → fb_ct (fun t => decide (t &&& v = t)) 64 = 2 ^ bits v := by decide +kernel
theorem ct_eq {p r : Nat → Bool} {n : Nat} (h : ∀ k, k < n → p k = true → r k = true) (e : fb_ct p n = fb_ct r n) : ∀ k, k < n → r k = true → p k = true := by
  intro k hk hr
  cases hp : p k
  · have := ct_lt h hk hp hr
    omega
  · rfl
theorem sh_all {c : Nat → Nat} {N v : Nat} (hv : v < 64) (h : shB c N v = true) : ∀ t, t &&& v = t → ∃ k, k < N ∧ c k &&& v = t := by
  intro t ht
  have h1 : fb_ct (hasB (tr c v) N) 64 = 2 ^ bits v := by unfold shB at h; exact of_decide_eq_true h
  have t64 : t < 64 := by rw [← ht]; exact Nat.lt_of_le_of_lt Nat.and_le_right hv
  have := ct_eq (p := hasB (tr c v) N) (r := fun t => decide (t &&& v = t)) (n := 64) (fun k _ hk => by
    obtain ⟨j, _, j2⟩ := (hasB_iff _ _ _).mp hk
    rw [decide_eq_true_iff, ← j2]
    show (c j &&& v) &&& v = c j &&& v
    rw [Nat.and_assoc, Nat.and_self]) (h1.trans (sub_64 v hv).symm) t t64 (decide_eq_true ht)
  exact (hasB_iff _ _ _).mp this
theorem dm_W {c : Nat → Nat} {N P : Nat} (hP : P ≤ 6) : ∀ i, i ≤ 2 ^ P → dm c N i ≤ WW true c N P (fun _ => true) + 1
  | 0, _ => Nat.zero_le _
  | i + 1, h => by
    have ih := dm_W (c := c) (N := N) hP i (by omega)
    have h64 : 2 ^ P ≤ 64 := Nat.pow_le_pow_right (n := 2) (by decide) hP
    rw [dm_succ]
    cases hb : shB c N i
    · rw [if_neg (by decide)]; exact ih
    · rw [if_pos rfl]
      have := W_sh (c := c) (N := N) hP (bits i) i (fun _ => true) rfl (by omega) (fun t ht => by
        obtain ⟨k, k1, k2⟩ := sh_all (by omega) hb t ht
        exact ⟨k, k1, rfl, k2⟩)
      exact Nat.max_le.mpr ⟨ih, by omega⟩
