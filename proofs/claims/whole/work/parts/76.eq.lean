section PEQ
variable {S : CS} {M : MS} {P N A B B' H Z : Nat} {c cf : Nat → Nat} {de : Nat → Bool}
theorem A_learn : ∀ (d A : Nat) (S : CS) (M : MS) (cf : Nat → Nat) (Z A0 n m : Nat), A + d = 40 → A0 ≤ A → d < n → d < m → RCs S M P N c cf de → RTs S M N cf de A B B' H Z → M.1 7 ≠ 45 →
    ∃ (S' : CS) (M' : MS) (cf' : Nat → Nat) (A' Z' : Nat), f_X5_askOn_7 n (nI A0) (nI A) S = some (nI (A' - A0), S') ∧ f_X9_learn_25 m (nI (A - A0)) M = some (nI (A' - A0), M') ∧ Fr [1, 9] S S' ∧ Mr [3, 4, 6] [0] M M' ∧ RCs S' M' P N c cf' de ∧ RTs S' M' N cf' de A' B B' H Z' := by
  intro d
  induction d with
  | zero =>
    intro A S M cf Z A0 n m hd h0 hn hm hC hT hk
    have hA : A = 40 := by omega
    subst hA
    match n, hn, m, hm with
    | n + 1, _, m + 1, _ =>
      refine ⟨S, M, cf, 40, Z, ?_, ?_, Fr.refl S, Mr.refl M, hC, hT⟩
      · show f_X5_askOn_7b _ _ _ _ = _
        unfold f_X5_askOn_7b f_X5_askOn_46
        rw [if_pos (show (40 : Int32) ≤ nI 40 by decide), hT.2.1, pk_sub h0]
      · show f_X9_learn_25b _ _ _ = _
        unfold f_X9_learn_25b
        rw [hT.mliv hC]
        simp only [Option.bind_some]
        by_cases e : nI (fb_ct (liv B cf de) N) < (2 : Int32)
        · rw [if_pos e]
        · rw [if_neg e, hT.2.2.1, if_pos (show (40 : Int32) ≤ nI 40 by decide)]
  | succ d ih =>
    intro A S M cf Z A0 n m hd h0 hn hm hC hT hk
    have a1 := ctN hC (liv B cf de)
    match n, hn, m, hm with
    | n + 1, hn, m + 1, hm =>
      have n40 : ¬ (40 : Int32) ≤ nI A := nI_ge (b := 40) (by omega) (by decide)
      by_cases e : fb_ct (liv B cf de) N < 2
      · refine ⟨S, M, cf, A, Z, ?_, ?_, Fr.refl S, Mr.refl M, hC, hT⟩
        · show f_X5_askOn_7b _ _ _ _ = _
          unfold f_X5_askOn_7b f_X5_askOn_46
          rw [if_neg n40, hT.cliv hC]
          simp only [Option.bind_some]
          rw [bitCount_pm _ hC.N32, if_pos (show nI (fb_ct (liv B cf de) N) ≤ (1 : Int32) from nI_le (b := 1) (by omega) (by decide)), hT.2.1, pk_sub h0]
        · show f_X9_learn_25b _ _ _ = _
          unfold f_X9_learn_25b
          rw [hT.mliv hC]
          simp only [Option.bind_some]
          rw [if_pos (show nI (fb_ct (liv B cf de) N) < (2 : Int32) from nI_lt (b := 2) e (by decide))]
      · have hb := bs_lt (lessG (liv B cf de) c N) P
        have hP1 := hC.1.1
        obtain ⟨b, S1, M1, cf1, Z1, g1, g2, g3, g4, g5, g6⟩ := A_asks hC hT hk (show A < 40 by omega) (q := (bs (lessG (liv B cf de) c N) P).1) (by omega)
        obtain ⟨S', M', cf', A', Z', k1, k2, k3, k4, k5, k6⟩ := ih (A + 1) S1 M1 cf1 Z1 A0 n m (by omega) (by omega) (by omega) (by omega) g5 g6 (by rw [g4.1 7 (by decide) (by decide)]; exact hk)
        refine ⟨S', M', cf', A', Z', ?_, ?_, g3.trans k3, g4.trans k4, k5, k6⟩
        · show f_X5_askOn_7b _ _ _ _ = _
          unfold f_X5_askOn_7b
          rw [if_neg n40, hT.cliv hC]
          simp only [Option.bind_some]
          rw [bitCount_pm _ hC.N32, if_neg (show ¬ nI (fb_ct (liv B cf de) N) ≤ (1 : Int32) from nI_ge (b := fb_ct (liv B cf de) N) (a := 1) (by omega) (by omega)), hC.best]
          simp only [Option.bind_some]
          rw [g1]
          simp only [Option.bind_some]
          rw [nI_1]
          exact k1
        · show f_X9_learn_25b _ _ _ = _
          unfold f_X9_learn_25b
          rw [hT.mliv hC]
          simp only [Option.bind_some]
          rw [if_neg (show ¬ nI (fb_ct (liv B cf de) N) < (2 : Int32) from nI_nlt (a := fb_ct (liv B cf de) N) (b := 2) (by omega) (by omega)), hT.2.2.1, if_neg n40, hT.mbest hC]
          simp only [Option.bind_some]
          rw [g2]
          simp only [Option.bind_some]
          rw [nI_1, show A - A0 + 1 = A + 1 - A0 by omega]
          exact k2
theorem T_learn (h : RelC S M) (fo : Nat → Int64) : TI (f_L_learn S fo) fo (f_X9_learn M) (fun S' M' => RelC S' M' ∧ Fr [1, 9] S S' ∧ Mr [0, 3, 4, 6] [0] M M') := by
  have hR := h
  obtain ⟨P, N, c, cf, de, A, B, B', H, Z, hC, hT⟩ := h
  have t45 : S.1 1 2 = M.1 7 := hT.2.2.2.2.1
  by_cases c2 : M.1 7 = 45
  · refine TI.ex (code := 1) (r := 0) (S := S) (M := M) (by decide) ?_ ?_ ⟨hR.m0 1, Fr.refl S, Mr.mset (by decide)⟩
    · unfold f_L_learn f_X8_learn
      rw [if_pos (isThere.mpr (t45.trans c2))]
      rfl
    · unfold f_X9_learn f_X9_learn_15
      rw [if_pos c2, isWr]
      rfl
  · have h40 := hT.2.2.2.1
    obtain ⟨S', M', cf', A', Z', k1, k2, k3, k4, k5, k6⟩ := A_learn (40 - A) A S (mset M 0 0) cf Z A 1000 45 (by omega) (Nat.le_refl A) (by omega) (by omega) (hC : RCs S (mset M 0 0) P N c cf de) (show RTs S (mset M 0 0) N cf de A B B' H Z from hT) c2
    refine TI.ok (r := nI (A' - A)) (S := S') (M := M') ?_ ?_ ?_ ⟨⟨P, N, c, cf', de, A', B, B', H, Z', k5, k6⟩, k3, ?_⟩
    · unfold f_L_learn f_X8_learn f_X5_askOn
      rw [if_neg (fun e => c2 (t45.symm.trans (isThere.mp e))), hT.2.1, k1]
      rfl
    · unfold f_X9_learn f_X9_learn_15
      rw [if_neg c2, isWr]
      simp only [Option.bind_some]
      rw [if_pos (by decide)]
      rw [Nat.sub_self] at k2
      exact k2
    · rw [k4.1 0 (by decide) (by decide), ms_s]
    · exact Mr.trans (Mr.mset (by decide)) ⟨fun s hs hj => k4.1 s hs (fun e => hj (by simp at e; simp [e])), k4.2.1, k4.2.2⟩
/-! equality -/
theorem RC.agree (h : RCs S M P N c cf de) {x q : Nat} (hx : x < 2 ^ 31) (hq : q < P) : f_X1_agreeing S (nI x) (nI q) = nI (pm (fun k => has c q k == x.testBit q) N) := by
  unfold f_X1_agreeing
  have hP := h.1.2.1
  rw [hasBit_nI hx (by omega)]
  cases x.testBit q
  · rw [if_pos (by decide), h.lack hq]
    congr 2
    exact funext fun k => by cases has c q k <;> rfl
  · rw [if_neg (by decide), h.hold hq]
    congr 2
    exact funext fun k => by cases has c q k <;> rfl
theorem RC.number (h : RCs S M P N c cf de) {x : Nat} (hx : x < 2 ^ 31) : (∃ j, j < N ∧ c j = x ∧ f_X1_numberOf S (nI x) = some (nI j)) ∨ ((∀ j, j < N → c j ≠ x) ∧ f_X1_numberOf S (nI x) = some (-1)) := by
  have hN := h.1.2.2
  refine pu_for0 (W := fun n i => (∀ j, j < i → c j ≠ x) → (∃ j, j < N ∧ c j = x ∧ f_X1_numberOf_2 S n (nI x) (nI i) = some (nI j)) ∨ ((∀ j, j < N → c j ≠ x) ∧ f_X1_numberOf_2 S n (nI x) (nI i) = some (-1))) (e := N) (n := 1000) (by omega) (fun n hb => ?_) (fun n i hi ih hb => ?_) (fun j hj => absurd hj (Nat.not_lt_zero j))
  · refine Or.inr ⟨hb, ?_⟩
    show f_X1_numberOf_2b _ _ _ _ = _
    unfold f_X1_numberOf_2b
    rw [h.2.2.1, if_pos (nI_le (Nat.le_refl N) h.N31)]
  · have es : f_X1_setAt S (nI i) = nI x ↔ c i = x := by rw [h.setAt hi, nI_eq (Nat.lt_trans (h.c64 hi) (by decide)) hx]
    by_cases e : c i = x
    · refine Or.inl ⟨i, hi, e, ?_⟩
      show f_X1_numberOf_2b _ _ _ _ = _
      unfold f_X1_numberOf_2b
      rw [h.2.2.1, if_neg (nI_ge hi h.N31), if_pos (es.mpr e)]
    · have st : ∀ r, f_X1_numberOf_2 S n (nI x) (nI (i + 1)) = r → f_X1_numberOf_2 S (n + 1) (nI x) (nI i) = r := fun r hr => by
        show f_X1_numberOf_2b _ _ _ _ = _
        unfold f_X1_numberOf_2b
        rw [h.2.2.1, if_neg (nI_ge hi h.N31), if_neg (fun f => e (es.mp f)), nI_1]
        exact hr
      rcases ih (fun j hj => by
        by_cases e2 : j = i
        · subst e2; exact e
        · exact hb j (by omega)) with ⟨j, h1, h2, h3⟩ | ⟨h1, h2⟩
      · exact Or.inl ⟨j, h1, h2, st _ h3⟩
      · exact Or.inr ⟨h1, st _ h2⟩
theorem nI_m1 : (-1 : Int32) < 0 := by decide
theorem RC.others (h : RCs S M P N c cf de) {x : Nat} (hx : x < 2 ^ 31) : f_X5_others S (nI x) = some (nI (pm (fun k => decide (c k ≠ x)) N)) := by
  unfold f_X5_others
  have hN := h.1.2.2
  rcases h.number hx with ⟨j, h1, h2, h3⟩ | ⟨h1, h2⟩
  · rw [h3]
    simp only [Option.bind_some]
    rw [if_pos (nI_pos' (by omega)), h.every, nI_one j (by omega)]
    have e : (2 : Nat) ^ j = pm (fun k => decide (k = j)) (j + 1) := by
      rw [pm_succ, pm_cong (g := fun _ => false) (fun k hk => decide_eq_false (by omega)), pm_0, decide_eq_true rfl]
      simp
    rw [e, nI_andn _ _ (by omega)]
    congr 2
    refine pm_cong (fun k hk => ?_)
    by_cases e2 : k = j
    · subst e2
      simp [h2]
    · have : c k ≠ x := fun f => e2 (h.2.2.2.2.2.2.1 k j hk h1 (f.trans h2.symm))
      simp [e2, this]
  · rw [h2]
    simp only [Option.bind_some]
    rw [if_neg (by decide), h.every]
    congr 2
    exact pm_cong (fun k hk => by rw [decide_eq_true (h1 k hk)])
theorem x_bury {S : CS} {N : Nat} {g : Nat → Bool} {cf : Nat → Nat} {de : Nat → Bool} (hN : N ≤ 24) (h3 : S.1 2 3 = nI N) (h9 : ∀ k, k < 24 → S.1 9 k = if k < N then (if de k then -1 else nI (cf k)) else 0) : ∃ S' : CS, f_X5_bury (nI (pm g N)) S = some S' ∧ Fr [9] S S' ∧ ∀ k, k < 24 → S'.1 9 k = if k < N then (if (de k || g k) then -1 else nI (cf k)) else 0 := by
  have h := pu_forS (W := fun n i s => ∃ S' : CS, f_X5_bury_2 n (nI (pm g N)) (nI i) s = some S' ∧ Fr [9] S S' ∧ ∀ k, k < 24 → S'.1 9 k = if k < N then (if (de k || g k) then -1 else nI (cf k)) else 0)
    (I := fun i s => Fr [9] S s ∧ ∀ k, k < 24 → s.1 9 k = if k < N then (if (de k || (decide (k < i) && g k)) then -1 else nI (cf k)) else 0) N (fun n s hi => ?_) (fun n i s hi hI ih => ?_) N 1000 0 S (Nat.zero_add N) (by omega) ⟨Fr.refl S, fun k hk => by rw [decide_eq_false (Nat.not_lt_zero k), Bool.false_and, Bool.or_false]; exact h9 k hk⟩
  · exact h
  · refine ⟨s, ?_, hi.1, fun k hk => ?_⟩
    · show f_X5_bury_2b _ _ _ _ = _
      unfold f_X5_bury_2b
      rw [hi.1.1 2 (by decide), h3, if_pos (nI_le (Nat.le_refl N) (by omega))]
    · rw [hi.2 k hk]
      by_cases e : k < N
      · rw [if_pos e, if_pos e, decide_eq_true e, Bool.true_and]
      · rw [if_neg e, if_neg e]
  · obtain ⟨h1, h2⟩ := hI
    by_cases hg : g i = true
    · obtain ⟨S', e1, e2⟩ := ih (cfun s 9 (upd (s.1 9) i (-1))) ⟨h1.trans (Fr.cfun (by decide)), fun k hk => by
        rw [cf_s]
        by_cases e2 : k = i
        · subst e2
          rw [pk_us, if_pos hi, decide_eq_true (Nat.lt_succ_self k), hg, Bool.true_and, Bool.or_true, if_pos rfl]
        · rw [pk_un e2, h2 k hk]
          have : decide (k < i + 1) = decide (k < i) := decide_eq_decide.mpr (by omega)
          rw [this]⟩
      refine ⟨S', ?_, e2⟩
      show f_X5_bury_2b _ _ _ _ = _
      unfold f_X5_bury_2b f_X5_bury_30
      rw [h1.1 2 (by decide), h3, if_neg (nI_ge hi (by omega)), hasBit_pm (by omega) (by omega), decide_eq_true hi, Bool.true_and, hg, if_neg (by decide), q_pu_nI (by omega) (by decide), nI_1]
      exact e1
    · have hg' : g i = false := by simpa using hg
      obtain ⟨S', e1, e2⟩ := ih s ⟨h1, fun k hk => by
        rw [h2 k hk]
        by_cases e2 : k = i
        · subst e2
          rw [hg', Bool.and_false, Bool.and_false]
        · have : decide (k < i + 1) = decide (k < i) := decide_eq_decide.mpr (by omega)
          rw [this]⟩
      refine ⟨S', ?_, e2⟩
      show f_X5_bury_2b _ _ _ _ = _
      unfold f_X5_bury_2b f_X5_bury_30
      rw [h1.1 2 (by decide), h3, if_neg (nI_ge hi (by omega)), hasBit_pm (by omega) (by omega), decide_eq_true hi, Bool.true_and, hg', if_pos (by decide), nI_1]
      exact e1
/-- the counter: the first point where most differ -/
def bt2 (g : Nat → Nat) : Nat → Int32 × Nat
  | 0 => (-1, 0)
  | n + 1 => if (bt2 g n).2 < g n then (nI n, g n) else bt2 g n
theorem bt2_succ (g : Nat → Nat) (n : Nat) : bt2 g (n + 1) = if (bt2 g n).2 < g n then (nI n, g n) else bt2 g n := rfl
theorem bt2_le (g : Nat → Nat) (m : Nat) (hg : ∀ k, g k ≤ m) : ∀ n, (bt2 g n).2 ≤ m
  | 0 => Nat.zero_le _
  | n + 1 => by
    unfold bt2
    have := bt2_le g m hg n
    have := hg n
    split
    · show g n ≤ _; omega
    · assumption
theorem bt2_rng (g : Nat → Nat) : ∀ n, (bt2 g n).1 = -1 ∨ ∃ q, q < n ∧ (bt2 g n).1 = nI q
  | 0 => Or.inl rfl
  | n + 1 => by
    unfold bt2
    split
    · exact Or.inr ⟨n, Nat.lt_succ_self n, rfl⟩
    · rcases bt2_rng g n with h | ⟨q, h1, h2⟩
      · exact Or.inl h
      · exact Or.inr ⟨q, by omega, h2⟩
def difG (l : Nat → Bool) (c : Nat → Nat) (N x q : Nat) : Nat := fb_ct (fun k => l k && (has c q k != x.testBit q)) N
theorem RT.counter (t : RTs S M N cf de A B B' H Z) (h : RCs S M P N c cf de) {x : Nat} (hx : x < 2 ^ 31) : f_X5_keepingCounter S (nI x) = some (bt2 (difG (liv B cf de) c N x) P).1 := by
  have hP := h.1.2.1
  unfold f_X5_keepingCounter
  rw [t.cliv h]
  simp only [Option.bind_some]
  refine pu_for0 (W := fun n i => f_X5_keepingCounter_13 S n (nI x) (nI (pm (liv B cf de) N)) (nI (bt2 (difG (liv B cf de) c N x) i).2) (bt2 (difG (liv B cf de) c N x) i).1 (nI i) = some (bt2 (difG (liv B cf de) c N x) P).1) (e := P) (n := 1000) (by omega) (fun n => ?_) (fun n i hi ih => ?_)
  · show f_X5_keepingCounter_13b S _ _ _ _ _ _ = _
    unfold f_X5_keepingCounter_13b
    rw [h.2.1, if_pos (nI_le (Nat.le_refl P) h.P31)]
  · show f_X5_keepingCounter_13b S _ _ _ _ _ _ = _
    unfold f_X5_keepingCounter_13b f_X5_keepingCounter_57
    have hb := bt2_le (difG (liv B cf de) c N x) 24 (fun k => ctN h _) i
    have hd : difG (liv B cf de) c N x i ≤ 24 := ctN h _
    have eb : f_J6_bitCount_0f7a4 (nI (pm (liv B cf de) N) &&& ((f_X1_agreeing S (nI x) (nI i)) ^^^ (-1 : Int32))) = nI (difG (liv B cf de) c N x i) := by
      rw [h.agree hx hi, pm_andn _ _ _ h.N32, bitCount_pm _ h.N32]
      rfl
    rw [h.2.1, if_neg (nI_ge hi h.P31), eb]
    rw [bt2_succ] at ih
    by_cases e : (bt2 (difG (liv B cf de) c N x) i).2 < difG (liv B cf de) c N x i
    · rw [if_pos e] at ih
      rw [if_neg (nI_ge e (by omega)), nI_1]
      exact ih
    · rw [if_neg e] at ih
      rw [if_pos (nI_le (by omega) (by omega)), nI_1]
      exact ih
theorem RT.mcounter (t : RTs S M N cf de A B B' H Z) (h : RCs S M P N c cf de) {x : Nat} (hx : x < 2 ^ 31) : f_X9_counter M (nI x) = some (bt2 (difG (liv B cf de) c N x) P).1 := by
  have hP := h.1.2.1
  refine pu_for0 (W := fun n i => f_X9_counter_7 M n (nI x) (bt2 (difG (liv B cf de) c N x) i).1 (nI (bt2 (difG (liv B cf de) c N x) i).2) (nI i) = some (bt2 (difG (liv B cf de) c N x) P).1) (e := P) (n := 10) (by omega) (fun n => ?_) (fun n i hi ih => ?_)
  · show f_X9_counter_7b M _ _ _ _ _ = _
    unfold f_X9_counter_7b
    rw [h.2.2.2.1, if_pos (nI_le (Nat.le_refl P) h.P31)]
  · have hb := bt2_le (difG (liv B cf de) c N x) 24 (fun k => ctN h _) i
    have hd : difG (liv B cf de) c N x i ≤ 24 := ctN h _
    have e45 : f_X9_counter_45 M (f_X9_counter_7 M n) (nI x) (bt2 (difG (liv B cf de) c N x) i).1 (nI (bt2 (difG (liv B cf de) c N x) i).2) (nI i) (nI (difG (liv B cf de) c N x i)) = some (bt2 (difG (liv B cf de) c N x) P).1 := by
      unfold f_X9_counter_45 f_X9_counter_59
      rw [bt2_succ] at ih
      by_cases e : (bt2 (difG (liv B cf de) c N x) i).2 < difG (liv B cf de) c N x i
      · rw [if_pos e] at ih
        rw [if_neg (nI_ge e (by omega)), max_nI (by omega) (by omega), Nat.max_eq_right (by omega), nI_1]
        exact ih
      · rw [if_neg e] at ih
        rw [if_pos (nI_le (by omega) (by omega)), max_nI (by omega) (by omega), Nat.max_eq_left (by omega), nI_1]
        exact ih
    show f_X9_counter_7b M _ _ _ _ _ = _
    unfold f_X9_counter_7b
    have c2 := ctN h (fun k => liv B cf de k && has c i k)
    have c3 := ct_two (liv B cf de) (has c i) N
    rw [h.2.2.2.1, if_neg (nI_ge hi h.P31), hasP hx (by omega)]
    by_cases hb : x.testBit i = true
    · have ed : difG (liv B cf de) c N x i = fb_ct (liv B cf de) N - fb_ct (fun k => liv B cf de k && has c i k) N := by
        have : difG (liv B cf de) c N x i = fb_ct (fun k => liv B cf de k && !has c i k) N := by
          unfold difG
          rw [hb]
          exact fb_ct_cong (fun k _ => by cases has c i k <;> rfl)
        omega
      rw [hb, if_neg (by decide), t.mliv h, t.mwith h (by omega)]
      simp only [Option.bind_some]
      rw [pk_sub (by omega), ← ed]
      exact e45
    · have hb' : x.testBit i = false := by simpa using hb
      have ed : difG (liv B cf de) c N x i = fb_ct (fun k => liv B cf de k && has c i k) N := by
        unfold difG
        rw [hb']
        exact fb_ct_cong (fun k _ => by cases has c i k <;> rfl)
      rw [hb', if_pos (by decide), t.mwith h (by omega)]
      simp only [Option.bind_some]
      rw [← ed]
      exact e45
theorem low64 : ∀ y, y < 64 → f_X8_lowestBit (nI y) = some (if nI y = 0 then -1 else f_J6_numberOfTrailingZeros_0f7a4 (nI y)) ∧ ((y = 0) ∨ ∃ q, q < 6 ∧ f_J6_numberOfTrailingZeros_0f7a4 (nI y) = nI q ∧ y.testBit q = true) := by decide +kernel
end PEQ
