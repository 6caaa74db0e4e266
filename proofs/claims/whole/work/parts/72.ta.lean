/-! the teacher: what both sides hold; questions that change nothing -/
def RT (s1 : Nat → Int32) (m3 m4 m5 m6 m7 m8 : Int32) (N : Nat) (cf : Nat → Nat) (de : Nat → Bool) (A B B' H Z : Nat) : Prop :=
  s1 7 = m6 ∧ s1 6 = nI A ∧ m3 = nI A ∧ A ≤ 40 ∧ s1 2 = m7 ∧ s1 4 = nI B ∧ B ≤ 2 ∧ m5 = nI B' ∧ B' ≤ 2 ∧ (m7 ≠ 45 → B' = B) ∧ (m7 = 45 → A = 0) ∧ (A = 0 → ∀ k, k < N → cf k = 0 ∧ de k = false) ∧ (∀ k, k < N → cf k ≤ A) ∧ (m7 = 45 ∨ m7 = 104 ∨ m7 = 108 ∨ m7 = 97) ∧ (m7 ≠ 45 → 0 < N) ∧
  (m7 = 104 ∨ m7 = 108 → s1 3 = nI H ∧ m8 = nI H ∧ H < N ∧ de H = false) ∧ (m7 = 104 → B = 0 ∧ cf H = 0) ∧ (m7 = 108 → s1 5 = nI Z ∧ m4 = nI Z ∧ Z ≤ B ∧ cf H = Z)
abbrev RTs (S : CS) (M : MS) (N : Nat) (cf : Nat → Nat) (de : Nat → Bool) (A B B' H Z : Nat) : Prop := RT (S.1 1) (M.1 3) (M.1 4) (M.1 5) (M.1 6) (M.1 7) (M.1 8) N cf de A B B' H Z
def RelC (S : CS) (M : MS) : Prop := ∃ (P N : Nat) (c cf : Nat → Nat) (de : Nat → Bool) (A B B' H Z : Nat), RCs S M P N c cf de ∧ RTs S M N cf de A B B' H Z
theorem RelC.of {S S' : CS} {M M' : MS} (h : RelC S M) (h1 : S'.1 1 = S.1 1) (h2 : S'.1 2 = S.1 2) (h9 : S'.1 9 = S.1 9) (h10 : S'.1 10 = S.1 10) (h11 : S'.1 11 = S.1 11) (m : ∀ s, 2 ≤ s → s ≤ 8 → M'.1 s = M.1 s) (n : M'.2.1 0 = M.2.1 0) (r : M'.2.2.1 0 = M.2.2.1 0) : RelC S' M' := by
  obtain ⟨P, N, c, cf, de, A, B, B', H, Z, hC, hT⟩ := h
  refine ⟨P, N, c, cf, de, A, B, B', H, Z, ?_, ?_⟩
  · show RC _ _ _ _ _ _ _ _ _ _ _ _
    rw [h2, h9, h10, h11, m 2 (by decide) (by decide), n, r]
    exact hC
  · show RT _ _ _ _ _ _ _ _ _ _ _ _ _ _ _
    rw [h1, m 3 (by decide) (by decide), m 4 (by decide) (by decide), m 5 (by decide) (by decide), m 6 (by decide) (by decide), m 7 (by decide) (by decide), m 8 (by decide) (by decide)]
    exact hT
theorem RelC.m0 {S : CS} {M : MS} (h : RelC S M) (v : Int32) : RelC S (mset M 0 v) := h.of rfl rfl rfl rfl rfl (fun s h1 h2 => ms_n (by omega)) rfl rfl
section PTA
variable {S : CS} {M : MS} {P N A B B' H Z : Nat} {c cf : Nat → Nat} {de : Nat → Bool}
theorem RT.bB (t : RTs S M N cf de A B B' H Z) : S.1 1 4 = nI B ∧ B < 100 := ⟨t.2.2.2.2.2.1, Nat.lt_of_le_of_lt t.2.2.2.2.2.2.1 (by decide)⟩
theorem RT.bB2 (t : RTs S M N cf de A B B' H Z) : M.1 5 = nI B' ∧ B' < 100 := ⟨t.2.2.2.2.2.2.2.1, Nat.lt_of_le_of_lt t.2.2.2.2.2.2.2.2.1 (by decide)⟩
theorem RT.leq (t : RTs S M N cf de A B B' H Z) {k : Nat} (hk : k < N) : liv B' cf de k = liv B cf de k := by
  by_cases e : M.1 7 = 45
  · have hz := t.2.2.2.2.2.2.2.2.2.2.2.1 (t.2.2.2.2.2.2.2.2.2.2.1 e) k hk
    unfold liv
    rw [hz.1, hz.2, decide_eq_true (Nat.zero_le _), decide_eq_true (Nat.zero_le _)]
  · rw [t.2.2.2.2.2.2.2.2.2.1 e]
theorem RT.ctl (t : RTs S M N cf de A B B' H Z) : fb_ct (liv B' cf de) N = fb_ct (liv B cf de) N := fb_ct_cong (fun k hk => t.leq hk)
theorem RT.mliv (t : RTs S M N cf de A B B' H Z) (h : RCs S M P N c cf de) : f_X9_living M = some (nI (fb_ct (liv B cf de) N)) := by
  rw [h.mliving t.bB2.2 t.bB2.1, t.ctl]
theorem RT.mwith (t : RTs S M N cf de A B B' H Z) (h : RCs S M P N c cf de) {q : Nat} (hq : q < 32) : f_X9_livingWith M (nI q) = some (nI (fb_ct (fun k => liv B cf de k && has c q k) N)) := by
  rw [h.mwith t.bB2.2 t.bB2.1 hq]
  congr 2
  exact fb_ct_cong (fun k hk => by rw [t.leq hk])
theorem RT.cliv (t : RTs S M N cf de A B B' H Z) (h : RCs S M P N c cf de) : f_X5_living S = some (nI (pm (liv B cf de) N)) := h.living t.bB.2 t.bB.1
theorem ct_two (l g : Nat → Bool) : ∀ n, fb_ct (fun k => l k && g k) n + fb_ct (fun k => l k && !g k) n = fb_ct l n
  | 0 => rfl
  | n + 1 => by
    have h := ct_two l g n
    rw [fb_ct_succ, fb_ct_succ, fb_ct_succ]
    cases l n <;> cases g n <;> simp <;> omega
theorem RC.bcH (h : RCs S M P N c cf de) (l : Nat → Bool) {q : Nat} (hq : q < P) : f_J6_bitCount_0f7a4 (nI (pm l N) &&& f_X1_holding S (nI q)) = nI (fb_ct (fun k => l k && has c q k) N) := by
  rw [h.hold hq, nI_and, pm_and, bitCount_pm _ h.N32]
theorem RC.bcL (h : RCs S M P N c cf de) (l : Nat → Bool) {q : Nat} (hq : q < P) : f_J6_bitCount_0f7a4 (nI (pm l N) &&& f_X1_lacking S (nI q)) = nI (fb_ct (fun k => l k && !has c q k) N) := by
  rw [h.lack hq, nI_and, pm_and, bitCount_pm _ h.N32]
theorem ctN (h : RCs S M P N c cf de) (l : Nat → Bool) : fb_ct l N ≤ 24 := Nat.le_trans (fb_ct_le l N) h.1.2.2
theorem min_nI {a b : Nat} (ha : a < 2 ^ 31) (hb : b < 2 ^ 31) : q_min (nI a) (nI b) = nI (min a b) := by
  unfold q_min
  by_cases c : b < a
  · rw [if_pos (nI_lt c ha), Nat.min_eq_right (by omega)]
  · rw [if_neg (nI_nlt (by omega) hb), Nat.min_eq_left (by omega)]
theorem max_nI {a b : Nat} (ha : a < 2 ^ 31) (hb : b < 2 ^ 31) : q_max (nI a) (nI b) = nI (max a b) := by
  unfold q_max
  by_cases c : a < b
  · rw [if_pos (nI_lt c hb), Nat.max_eq_right (by omega)]
  · rw [if_neg (nI_nlt (by omega) ha), Nat.max_eq_left (by omega)]
theorem pred_toInt {m : Nat} (h : m < 2 ^ 30) : (nI m - 1).toInt = (m : Int) - 1 := pk_sub_toInt (b := 1) h (by decide)
theorem le_pred {x m : Nat} (hx : x < 2 ^ 30) (hm : m < 2 ^ 30) : nI x ≤ nI m - 1 ↔ x < m := by
  rw [fa_le, pred_toInt hm, nI_toInt (by omega)]
  omega
theorem max_pred {x m : Nat} (hx : x < 2 ^ 30) (hm : m < 2 ^ 30) : q_max (nI m - 1) (nI x) = nI (max m (x + 1)) - 1 := by
  unfold q_max
  have e : nI m - 1 < nI x ↔ m ≤ x := by
    rw [fa_lt, pred_toInt hm, nI_toInt (by omega)]
    omega
  by_cases c : m ≤ x
  · rw [if_pos (e.mpr c), Nat.max_eq_right (by omega), ← nI_1]
    rw [Int32.add_sub_cancel]
  · rw [if_neg (fun f => c (e.mp f)), Nat.max_eq_left (by omega)]
/-- the best of n by g: which, and one more than how much -/
def bs (g : Nat → Nat) : Nat → Nat × Nat
  | 0 => (0, 0)
  | n + 1 => if (bs g n).2 ≤ g n then (n, g n + 1) else bs g n
theorem bs_succ (g : Nat → Nat) (n : Nat) : bs g (n + 1) = if (bs g n).2 ≤ g n then (n, g n + 1) else bs g n := rfl
theorem bs_bound (g : Nat → Nat) (m : Nat) (hg : ∀ k, g k ≤ m) : ∀ n, (bs g n).2 ≤ m + 1
  | 0 => Nat.zero_le _
  | n + 1 => by
    unfold bs
    have := bs_bound g m hg n
    have := hg n
    split
    · show g n + 1 ≤ _; omega
    · assumption
theorem bs_lt (g : Nat → Nat) : ∀ n, (bs g n).1 ≤ n - 1
  | 0 => Nat.zero_le _
  | n + 1 => by
    unfold bs
    have := bs_lt g n
    split
    · show n ≤ _; omega
    · omega
def lessG (l : Nat → Bool) (c : Nat → Nat) (N q : Nat) : Nat := min (fb_ct (fun k => l k && has c q k) N) (fb_ct (fun k => l k && !has c q k) N)
theorem RC.less_le (h : RCs S M P N c cf de) (l : Nat → Bool) (q : Nat) : lessG l c N q ≤ 24 := Nat.le_trans (Nat.min_le_left _ _) (ctN h _)
theorem RC.best (h : RCs S M P N c cf de) (l : Nat → Bool) : f_X1_bestQuestion S (nI (pm l N)) = some (nI (bs (lessG l c N) P).1) := by
  have hP := h.1.2.1
  refine pu_for0 (W := fun n i => f_X1_bestQuestion_7 S n (nI (pm l N)) (nI (bs (lessG l c N) i).2 - 1) (nI (bs (lessG l c N) i).1) (nI i) = some (nI (bs (lessG l c N) P).1)) (e := P) (n := 1000) (by omega) (fun n => ?_) (fun n i hi ih => ?_)
  · show f_X1_bestQuestion_7b S _ _ _ _ _ = _
    unfold f_X1_bestQuestion_7b
    rw [h.2.1, if_pos (nI_le (Nat.le_refl P) h.P31)]
  · show f_X1_bestQuestion_7b S _ _ _ _ _ = _
    unfold f_X1_bestQuestion_7b f_X1_bestQuestion_55
    have c1 := ctN h (fun k => l k && has c i k)
    have c2 := ctN h (fun k => l k && !has c i k)
    have hb := bs_bound (lessG l c N) 24 (fun k => h.less_le l k) i
    have hl := h.less_le l i
    rw [h.2.1, if_neg (nI_ge hi h.P31), h.bcH l hi, h.bcL l hi, min_nI (by omega) (by omega)]
    show (if nI (lessG l c N i) ≤ _ then _ else _) = _
    rw [bs_succ] at ih
    by_cases e : (bs (lessG l c N) i).2 ≤ lessG l c N i
    · rw [if_pos e] at ih
      rw [if_neg (fun f => absurd ((le_pred (by omega) (by omega)).mp f) (by omega)), nI_1]
      rw [← nI_1 (lessG l c N i), Int32.add_sub_cancel] at ih
      exact ih
    · rw [if_neg e] at ih
      rw [if_pos ((le_pred (by omega) (by omega)).mpr (by omega)), nI_1]
      exact ih
theorem RT.mbest (t : RTs S M N cf de A B B' H Z) (h : RCs S M P N c cf de) : f_X9_bestPoint M = some (nI (bs (lessG (liv B cf de) c N) P).1) := by
  have hP := h.1.2.1
  refine pu_for0 (W := fun n i => f_X9_bestPoint_6 M n (nI (bs (lessG (liv B cf de) c N) i).1) (nI (bs (lessG (liv B cf de) c N) i).2 - 1) (nI i) = some (nI (bs (lessG (liv B cf de) c N) P).1)) (e := P) (n := 10) (by omega) (fun n => ?_) (fun n i hi ih => ?_)
  · show f_X9_bestPoint_6b M _ _ _ _ = _
    unfold f_X9_bestPoint_6b
    rw [h.2.2.2.1, if_pos (nI_le (Nat.le_refl P) h.P31)]
  · show f_X9_bestPoint_6b M _ _ _ _ = _
    unfold f_X9_bestPoint_6b f_X9_bestPoint_45
    have c1 := ctN h (fun k => liv B cf de k && has c i k)
    have c2 := ctN h (fun k => liv B cf de k && !has c i k)
    have c3 := ct_two (liv B cf de) (has c i) N
    have hb := bs_bound (lessG (liv B cf de) c N) 24 (fun k => h.less_le _ k) i
    have hl := h.less_le (liv B cf de) i
    rw [h.2.2.2.1, if_neg (nI_ge hi h.P31), t.mwith h (by omega), t.mliv h]
    simp only [Option.bind_some]
    rw [pk_sub (by omega), show fb_ct (liv B cf de) N - fb_ct (fun k => liv B cf de k && has c i k) N = fb_ct (fun k => liv B cf de k && !has c i k) N by omega, min_nI (by omega) (by omega)]
    show (if nI (lessG (liv B cf de) c N i) ≤ _ then _ else _) = _
    rw [show nI (min (fb_ct (fun k => liv B cf de k && has c i k) N) (fb_ct (fun k => liv B cf de k && !has c i k) N)) = nI (lessG (liv B cf de) c N i) from rfl, max_pred (by omega) (by omega), nI_1]
    rw [bs_succ] at ih
    by_cases e : (bs (lessG (liv B cf de) c N) i).2 ≤ lessG (liv B cf de) c N i
    · rw [if_pos e] at ih
      rw [if_neg (fun f => absurd ((le_pred (by omega) (by omega)).mp f) (by omega)), Nat.max_eq_right (by omega)]
      exact ih
    · rw [if_neg e] at ih
      rw [if_pos ((le_pred (by omega) (by omega)).mpr (by omega)), Nat.max_eq_left (by omega)]
      exact ih
theorem RC.m0 (h : RCs S M P N c cf de) (v : Int32) : RCs S (mset M 0 v) P N c cf de := by
  show RC _ _ _ _ _ _ _ _ _ _ _ _
  rw [show (mset M 0 v).1 2 = M.1 2 from ms_n (by decide)]
  exact h
theorem RT.m0 (t : RTs S M N cf de A B B' H Z) (v : Int32) : RTs S (mset M 0 v) N cf de A B B' H Z := by
  show RT _ _ _ _ _ _ _ _ _ _ _ _ _ _ _
  rw [show (mset M 0 v).1 3 = M.1 3 from ms_n (by decide), show (mset M 0 v).1 4 = M.1 4 from ms_n (by decide), show (mset M 0 v).1 5 = M.1 5 from ms_n (by decide), show (mset M 0 v).1 6 = M.1 6 from ms_n (by decide), show (mset M 0 v).1 7 = M.1 7 from ms_n (by decide), show (mset M 0 v).1 8 = M.1 8 from ms_n (by decide)]
  exact t
end PTA
