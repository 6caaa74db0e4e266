section PER
variable {S : CS} {M : MS} {P N A B B' H Z : Nat} {c cf : Nat → Nat} {de : Nat → Bool}
/-- the reference's dying: point v (or -1: all but x) -/
theorem m_dies {M1 : MS} {de g : Nat → Bool} {x : Nat} {v : Int32} (hN : N ≤ 24) (hn : M1.2.1 0 = N) (h0 : ∀ k, k < N → M1.2.2.1 0 k 0 = nI (c k)) (hc : ∀ k, k < N → c k < 64) (hx : x < 2 ^ 31) (h1 : ∀ k, k < N → M1.2.2.1 0 k 1 = nI (cf k)) (h2 : ∀ k, k < N → M1.2.2.1 0 k 2 = if de k then 1 else 0)
    (hv : (v = -1 ∧ ∀ k, k < N → g k = decide (c k ≠ x)) ∨ (∃ q, q < 32 ∧ v = nI q ∧ ∀ k, k < N → g k = (has c q k == x.testBit q))) :
    ∃ M' : MS, f_X9_equal_123 1000 (nI x) v 0 (M1.1 20) M1 = some (v, M') ∧ Mr [3] [0] M1 M' ∧ M'.1 3 = M1.1 3 + 1 ∧ M'.2.1 0 = N ∧ ∀ k, k < N → M'.2.2.1 0 k 0 = nI (c k) ∧ M'.2.2.1 0 k 1 = nI (cf k) ∧ M'.2.2.1 0 k 2 = if (de k || g k) then 1 else 0 := by
  have h := pu_forS (W := fun n i s => ∃ M' : MS, f_X9_equal_123 n (nI x) v (nI i) (M1.1 20) s = some (v, M') ∧ Mr [3] [0] M1 M' ∧ M'.1 3 = M1.1 3 + 1 ∧ M'.2.1 0 = N ∧ ∀ k, k < N → M'.2.2.1 0 k 0 = nI (c k) ∧ M'.2.2.1 0 k 1 = nI (cf k) ∧ M'.2.2.1 0 k 2 = if (de k || g k) then 1 else 0)
    (I := fun i s => s.1 = M1.1 ∧ s.2.1 = M1.2.1 ∧ s.2.2.2 = M1.2.2.2 ∧ (∀ j, j ∉ [0] → s.2.2.1 j = M1.2.2.1 j) ∧ ∀ k, k < N → s.2.2.1 0 k 0 = nI (c k) ∧ s.2.2.1 0 k 1 = nI (cf k) ∧ s.2.2.1 0 k 2 = if (de k || (decide (k < i) && g k)) then 1 else 0) N (fun n s hi => ?_) (fun n i s hi hI ih => ?_) N 1000 0 M1 (Nat.zero_add N) (by omega) ⟨rfl, rfl, rfl, fun _ _ => rfl, fun k hk => ⟨h0 k hk, h1 k hk, by rw [decide_eq_false (Nat.not_lt_zero k), Bool.false_and, Bool.or_false]; exact h2 k hk⟩⟩
  · exact h
  · obtain ⟨i1, i2, i3, i4, i5⟩ := hi
    refine ⟨mset s 3 (s.1 3 + 1), ?_, ⟨fun j _ hj => by rw [ms_n (fun e => hj (by simp [e])), i1], fun j hj => ⟨by show s.2.1 j = _; rw [i2], i4 j hj⟩, i3⟩, by rw [ms_s, i1], by show s.2.1 0 = N; rw [i2, hn], fun k hk => ?_⟩
    · show f_X9_equal_123b _ _ _ _ _ _ = _
      unfold f_X9_equal_123b
      rw [show s.2.1 0 = N by rw [i2, hn], if_pos it_end]
    · have := i5 k hk
      rw [decide_eq_true hk, Bool.true_and] at this
      exact this
  · obtain ⟨i1, i2, i3, i4, i5⟩ := hI
    obtain ⟨r0, r1, r2⟩ := i5 i hi
    rw [decide_eq_false (Nat.lt_irrefl i), Bool.false_and, Bool.or_false] at r2
    have en : s.2.1 0 = N := by rw [i2, hn]
    obtain ⟨M', e1, e2⟩ := ih (mrow s 0 i 2 (if (de i || g i) then 1 else 0)) ⟨i1, i2, i3, fun j hj => by rw [← i4 j hj]; exact nup_n (fun e => hj (by simp [e])), fun k hk => by
      by_cases e : k = i
      · subst e
        rw [mw_rs, pk_un (by decide), pk_un (by decide), pk_us, decide_eq_true (Nat.lt_succ_self k), Bool.true_and]
        exact ⟨r0, r1, rfl⟩
      · rw [mw_rn e]
        have := i5 k hk
        rw [show decide (k < i + 1) = decide (k < i) from decide_eq_decide.mpr (by omega)]
        exact this⟩
    have go : ∀ b : Bool, b = g i → f_X9_equal_187 (f_X9_equal_123 n) (nI x) v i (q_b b) (nI (i + 1)) (M1.1 20) s = some (v, M') := by
      intro b hb
      unfold f_X9_equal_187 f_X9_equal_205
      rw [en]
      cases b
      · rw [if_pos (by decide), if_pos hi, if_pos ⟨hi, by decide, by decide⟩, r2, show (2 : Int32).toNatClampNeg = 2 from rfl]
        rw [← hb, Bool.or_false] at e1
        exact e1
      · rw [if_neg (by decide), if_pos ⟨hi, by decide, by decide⟩, show (2 : Int32).toNatClampNeg = 2 from rfl]
        rw [← hb, Bool.or_true] at e1
        exact e1
    refine ⟨M', ?_, e2⟩
    show f_X9_equal_123b _ _ _ _ _ _ = _
    unfold f_X9_equal_123b
    rw [en, if_neg (it_go hi (by omega)), if_pos (it_in hi (by omega) (by rw [i1])), nI_clamp (by omega), nI_1]
    rcases hv with ⟨rfl, hg⟩ | ⟨q, hq, rfl, hg⟩
    · have es : s.2.2.1 0 i 0 = nI x ↔ c i = x := by rw [r0, nI_eq (Nat.lt_trans (hc i hi) (by decide)) hx]
      rw [if_pos rfl, if_pos hi]
      by_cases e : c i = x
      · rw [if_pos (es.mpr e)]
        exact go false (by rw [hg i hi]; simp [e])
      · rw [if_neg (fun f => e (es.mp f))]
        exact go true (by rw [hg i hi]; simp [e])
    · have nm : ¬ nI q = -1 := by
        intro e
        have e2 := nI_pos (n := q) (by omega)
        rw [e] at e2
        exact e2 (by decide)
      rw [if_neg nm, if_pos hi, r0, hasP (Nat.lt_trans (hc i hi) (by decide)) hq, hasP hx hq]
      by_cases e : (c i).testBit q = x.testBit q
      · rw [if_pos (by rw [e])]
        exact go true (by rw [hg i hi]; unfold has; rw [e]; simp)
      · rw [if_neg (fun f => e (qb_e.mp f))]
        exact go false (by rw [hg i hi]; unfold has; simpa using e)
theorem x_cmp56 {t0 v : Int32} {S1 : CS} (h : f_X5_bury t0 S = some S1) : f_X5_compare_56 v t0 S = some (v, cset S1 1 6 (S1.1 1 6 + 1)) := by
  unfold f_X5_compare_56
  rw [h]
  rfl
theorem A_equal (hC : RCs S M P N c cf de) (hT : RTs S M N cf de A B B' H Z) (hk : M.1 7 ≠ 45) (hA : A < 40) {x : Nat} (hx : x < 2 ^ P) : ∃ (v : Int32) (S' : CS) (M' : MS) (de' : Nat → Bool),
    f_X5_compare (nI x) S = some (v, S') ∧ (∀ M2 : MS, M2 = M → (if M2.1 7 = 97 then f_X9_equal_81 (nI x) 0 M2 else (if q_in (M2.1 8) (M2.2.1 0) then (if (M2.1 8).toNatClampNeg < M2.2.1 0 then f_X9_equal_81 (nI x) (nI x ^^^ (M2.2.2.1 0 ((M2.1 8).toNatClampNeg) 0)) M2 else none) else none)) = some (v, M')) ∧ Fr [1, 9] S S' ∧ Mr [3] [0] M M' ∧ RCs S' M' P N c cf de' ∧ RTs S' M' N cf de' (A + 1) B B' H Z := by
  have hP := hC.1.2.1
  have hN := hC.1.2.2
  have hx64 : x < 64 := Nat.lt_of_lt_of_le hx (Nat.pow_le_pow_right (n := 2) (by decide) hP)
  have hx31 : x < 2 ^ 31 := by omega
  obtain ⟨t1, t2, t3, t4, t5, t6, t7, t8, t9, t10, t11, t12, t13, t14, t15, t16, t17, t18⟩ := id hT
  obtain ⟨d0, d1, d2, d3, d4, d5, d6, d7, d8, d9, d10, d11, d12, d13⟩ := id hC
  -- the counter, and who dies
  have core : ∃ (v : Int32) (g : Nat → Bool), ((v = -1 ∧ ∀ k, k < N → g k = decide (c k ≠ x)) ∨ (∃ q, q < P ∧ v = nI q ∧ ∀ k, k < N → g k = (has c q k == x.testBit q))) ∧
      f_X5_compare (nI x) S = (if 0 ≤ v then f_X5_compare_56 v (f_X1_agreeing S (nI x) v) S else ((f_X5_others S (nI x)).bind fun u7 => f_X5_compare_56 v u7 S)) ∧
      (if M.1 7 = 97 then f_X9_equal_81 (nI x) 0 M else (if q_in (M.1 8) (M.2.1 0) then (if (M.1 8).toNatClampNeg < M.2.1 0 then f_X9_equal_81 (nI x) (nI x ^^^ (M.2.2.1 0 ((M.1 8).toNatClampNeg) 0)) M else none) else none)) = f_X9_equal_111 (nI x) v M ∧ (M.1 7 = 104 ∨ M.1 7 = 108 → g H = false) := by
    by_cases k97 : M.1 7 = 97
    · have hr := bt2_rng (difG (liv B cf de) c N x) P
      obtain ⟨g, hg⟩ : ∃ g : Nat → Bool, (((bt2 (difG (liv B cf de) c N x) P).1 = -1 ∧ ∀ k, k < N → g k = decide (c k ≠ x)) ∨ (∃ q, q < P ∧ (bt2 (difG (liv B cf de) c N x) P).1 = nI q ∧ ∀ k, k < N → g k = (has c q k == x.testBit q))) := by
        rcases hr with e | ⟨q, h1, h2⟩
        · exact ⟨fun k => decide (c k ≠ x), Or.inl ⟨e, fun _ _ => rfl⟩⟩
        · exact ⟨fun k => has c q k == x.testBit q, Or.inr ⟨q, h1, h2, fun _ _ => rfl⟩⟩
      refine ⟨_, g, hg, ?_, ?_, fun e => by rw [k97] at e; rcases e with e | e <;> exact absurd e (by decide)⟩
      · unfold f_X5_compare f_X5_compare_33
        rw [t5, if_pos k97, hT.counter hC hx31]
        rfl
      · rw [if_pos k97]
        unfold f_X9_equal_81
        rw [if_pos k97, hT.mcounter hC hx31]
        rfl
    · have hkl : M.1 7 = 104 ∨ M.1 7 = 108 := by
        rcases t14 with e | e | e | e
        · exact absurd e hk
        · exact Or.inl e
        · exact Or.inr e
        · exact absurd e k97
      obtain ⟨g1, g2, g3, g4⟩ := t16 hkl
      have hy : x ^^^ c H < 2 ^ P := Nat.xor_lt_two_pow hx (d5 H g3)
      have hy64 : x ^^^ c H < 64 := Nat.lt_of_lt_of_le hy (Nat.pow_le_pow_right (n := 2) (by decide) hP)
      obtain ⟨l1, l2⟩ := low64 (x ^^^ c H) hy64
      have cx : f_X5_compare (nI x) S = ((f_X8_lowestBit (nI (x ^^^ c H))).bind fun u2 => f_X5_compare_33 (nI x) u2 S) := by
        unfold f_X5_compare
        rw [t5, if_neg k97, g1, hC.setAt g3, nI_xor]
      have mx : (if M.1 7 = 97 then f_X9_equal_81 (nI x) 0 M else (if q_in (M.1 8) (M.2.1 0) then (if (M.1 8).toNatClampNeg < M.2.1 0 then f_X9_equal_81 (nI x) (nI x ^^^ (M.2.2.1 0 ((M.1 8).toNatClampNeg) 0)) M else none) else none)) = (if nI (x ^^^ c H) = 0 then f_X9_equal_111 (nI x) (-1) M else f_X9_equal_111 (nI x) (f_J6_numberOfTrailingZeros_0f7a4 (nI (x ^^^ c H))) M) := by
        rw [if_neg k97, g2, d4, if_pos (q_in_nI g3 (by omega)), nI_clamp (by omega), if_pos g3, d8 H g3, nI_xor]
        unfold f_X9_equal_81
        rw [if_neg k97]
      have z0 : nI (x ^^^ c H) = 0 ↔ x ^^^ c H = 0 := nI_0iff (by omega)
      rcases l2 with l2 | ⟨q, q1, q2, q3⟩
      · refine ⟨-1, fun k => decide (c k ≠ x), Or.inl ⟨rfl, fun _ _ => rfl⟩, ?_, ?_, fun _ => ?_⟩
        · rw [cx, l1, if_pos (z0.mpr l2)]
          rfl
        · rw [mx, if_pos (z0.mpr l2)]
        · have : c H = x := by
            apply Nat.eq_of_testBit_eq
            intro i
            have h1 : (x ^^^ c H).testBit i = false := by rw [l2, Nat.zero_testBit]
            rw [Nat.testBit_xor] at h1
            revert h1
            cases x.testBit i <;> cases (c H).testBit i <;> simp
          show decide (c H ≠ x) = false
          simp [this]
      · have n0 : ¬ x ^^^ c H = 0 := fun e => by rw [e, Nat.zero_testBit] at q3; cases q3
        have hqP : q < P := by
          refine Nat.lt_of_not_le (fun e => ?_)
          rw [Nat.testBit_lt_two_pow (Nat.lt_of_lt_of_le hy (Nat.pow_le_pow_right (n := 2) (by decide) e))] at q3
          cases q3
        refine ⟨nI q, fun k => has c q k == x.testBit q, Or.inr ⟨q, hqP, rfl, fun _ _ => rfl⟩, ?_, ?_, fun _ => ?_⟩
        · rw [cx, l1, if_neg (fun e => n0 (z0.mp e)), q2]
          rfl
        · rw [mx, if_neg (fun e => n0 (z0.mp e)), q2]
        · rw [Nat.testBit_xor] at q3
          show ((c H).testBit q == x.testBit q) = false
          revert q3
          cases x.testBit q <;> cases (c H).testBit q <;> simp
  obtain ⟨v, g, hv, cx, mx, hgH⟩ := core
  obtain ⟨S1, b1, b2, b3⟩ := x_bury (S := S) (g := g) hN d2 d10
  have cx2 : f_X5_compare (nI x) S = some (v, cset S1 1 6 (S1.1 1 6 + 1)) := by
    rw [cx]
    rcases hv with ⟨rfl, hg⟩ | ⟨q, hq, rfl, hg⟩
    · rw [if_neg (by decide), hC.others hx31]
      simp only [Option.bind_some]
      rw [pm_cong (f := fun k => decide (c k ≠ x)) (g := g) (fun k hk => (hg k hk).symm)]
      exact x_cmp56 b1
    · rw [if_pos (nI_pos' (by omega)), hC.agree hx31 hq, pm_cong (f := fun k => has c q k == x.testBit q) (g := g) (fun k hk => (hg k hk).symm)]
      exact x_cmp56 b1
  obtain ⟨M', m1, m2, m3, m4, m5⟩ := m_dies (M1 := M) (g := g) (v := v) (x := x) hN d4 d8 (fun k hk => hC.c64 hk) hx31 d12 d13 (by
    rcases hv with h | ⟨q, hq, h⟩
    · exact Or.inl h
    · exact Or.inr ⟨q, by omega, h⟩)
  have fS : Fr [1, 9] S (cset S1 1 6 (S1.1 1 6 + 1)) := (b2.mono (by decide)).trans (Fr.cset (by decide))
  have s1 : ∀ j, j ≠ 6 → (cset S1 1 6 (S1.1 1 6 + 1)).1 1 j = S.1 1 j := fun j h6 => by rw [cs_k h6, b2.1 1 (by decide)]
  have M7 : M'.1 7 = M.1 7 := m2.1 7 (by decide) (by decide)
  refine ⟨v, cset S1 1 6 (S1.1 1 6 + 1), M', fun k => de k || g k, cx2, ?_, fS, m2, ?_, ?_⟩
  · rintro M2 rfl
    rw [mx]
    unfold f_X9_equal_111
    exact m1
  · refine ⟨d0, ?_, ?_, ?_, m4, d5, d6, ?_, fun k hk => (m5 k hk).1, ?_, ?_, d11, fun k hk => (m5 k hk).2.1, fun k hk => (m5 k hk).2.2⟩
    · rw [fS.1 2 (by decide)]; exact d1
    · rw [fS.1 2 (by decide)]; exact d2
    · rw [m2.1 2 (by decide) (by decide)]; exact d3
    · rw [fS.1 10 (by decide)]; exact d7
    · rw [fS.1 11 (by decide)]; exact d9
    · rw [cs_n (by decide : (9 : Nat) ≠ 1)]; exact b3
  · refine ⟨?_, ?_, ?_, by omega, ?_, ?_, t7, ?_, t9, ?_, ?_, ?_, fun k hk => by have := t13 k hk; omega, ?_, ?_, ?_, ?_, ?_⟩
    · rw [s1 7 (by decide), m2.1 6 (by decide) (by decide)]; exact t1
    · rw [cs_s, b2.1 1 (by decide), t2, nI_1]
    · rw [m3, t3, nI_1]
    · rw [s1 2 (by decide), M7]; exact t5
    · rw [s1 4 (by decide)]; exact t6
    · rw [m2.1 5 (by decide) (by decide)]; exact t8
    · rw [M7]; exact t10
    · rw [M7]; exact fun e => absurd e hk
    · exact fun e => absurd e (by omega)
    · rw [M7]; exact t14
    · rw [M7]; exact t15
    · rw [M7, s1 3 (by decide), m2.1 8 (by decide) (by decide)]
      intro e
      obtain ⟨g1, g2, g3, g4⟩ := t16 e
      exact ⟨g1, g2, g3, by show (de H || g H) = false; rw [g4, hgH e]; rfl⟩
    · rw [M7]; exact t17
    · rw [M7, s1 5 (by decide), m2.1 4 (by decide) (by decide)]; exact t18
theorem T_equal (h : RelC S M) (a : Int32) (fo : Nat → Int64) : TI (f_L_equal S a fo) fo (f_X9_equal a M) (fun S' M' => RelC S' M' ∧ Fr [1, 9] S S' ∧ Mr [0, 3] [0] M M') := by
  have hR := h
  obtain ⟨P, N, c, cf, de, A, B, B', H, Z, hC, hT⟩ := h
  have hs := isSetC hC.1.2.1 hC.2.1 a
  obtain ⟨bm, hm1, hm2⟩ := isSetM hC.1.2.1 hC.2.2.2.1 a
  have t45 : S.1 1 2 = M.1 7 := hT.2.2.2.2.1
  have e40 : ∀ v : Int32, ¬ v ≤ 0 → f_X9_equal_40 a v M = some (0, mset M 0 v) := fun v hv => by
    unfold f_X9_equal_40
    rw [isWr, decide_eq_false hv]
    rfl
  by_cases c1 : ∃ m, m < 2 ^ P ∧ a = nI m
  · have c1' : ¬ ¬ ∃ m, m < 2 ^ P ∧ a = nI m := fun e => e c1
    by_cases c2 : M.1 7 = 45
    · refine TI.ex (code := 2) (r := 0) (S := S) (M := M) (by decide) ?_ ?_ ⟨hR.m0 2, Fr.refl S, Mr.mset (by decide)⟩
      · unfold f_L_equal f_X8_equal
        rw [if_neg (fun e => c1' (hs.mp e)), if_pos (isThere.mpr (t45.trans c2))]
        rfl
      · unfold f_X9_equal
        rw [hm1]
        simp only [Option.bind_some]
        rw [if_neg (fun e => c1' (hm2.mp e)), if_pos c2, e40 2 (by decide)]
    · have a40 : S.1 1 6 < 40 ↔ A < 40 := by rw [hT.2.1]; exact nI_ltI (b := 40) (by have := hT.2.2.2.1; omega) (by decide)
      have m40 : M.1 3 = 40 ↔ A = 40 := by rw [hT.2.2.1]; exact nI_eq (b := 40) (by have := hT.2.2.2.1; omega) (by decide)
      by_cases c3 : A < 40
      · obtain ⟨x, hx, rfl⟩ := c1
        obtain ⟨v, S', M', de', g1, g2, g3, g4, g5, g6⟩ := A_equal (M := mset M 0 0) (hC : RCs S (mset M 0 0) P N c cf de) (show RTs S (mset M 0 0) N cf de A B B' H Z from hT) c2 c3 hx
        refine TI.ok (r := v) (S := S') (M := M') ?_ ?_ ?_ ⟨⟨P, N, c, cf, de', A + 1, B, B', H, Z, g5, g6⟩, g3, ?_⟩
        · unfold f_L_equal f_X8_equal
          rw [if_neg (fun e => c1' (hs.mp e)), if_neg (fun e => c2 (t45.symm.trans (isThere.mp e))), if_pos (a40.mpr c3), g1]
          rfl
        · unfold f_X9_equal
          rw [hm1]
          simp only [Option.bind_some]
          rw [if_neg (fun e => c1' (hm2.mp e)), if_neg c2, if_neg (fun e => by have := m40.mp e; omega)]
          unfold f_X9_equal_40
          rw [isWr]
          simp only [Option.bind_some]
          rw [if_pos (by decide)]
          exact g2 _ rfl
        · rw [g4.1 0 (by decide) (by decide), ms_s]
        · exact Mr.trans (Mr.mset (by decide)) ⟨fun s hs hj => g4.1 s hs (fun e => hj (by simp at e; simp [e])), g4.2.1, g4.2.2⟩
      · refine TI.ex (code := 3) (r := 0) (S := S) (M := M) (by decide) ?_ ?_ ⟨hR.m0 3, Fr.refl S, Mr.mset (by decide)⟩
        · unfold f_L_equal f_X8_equal
          rw [if_neg (fun e => c1' (hs.mp e)), if_neg (fun e => c2 (t45.symm.trans (isThere.mp e))), if_neg (fun e => c3 (a40.mp e))]
          rfl
        · unfold f_X9_equal
          rw [hm1]
          simp only [Option.bind_some]
          rw [if_neg (fun e => c1' (hm2.mp e)), if_neg c2, if_pos (m40.mpr (by have := hT.2.2.2.1; omega)), e40 3 (by decide)]
  · refine TI.ex (code := 1) (r := 0) (S := S) (M := M) (by decide) ?_ ?_ ⟨hR.m0 1, Fr.refl S, Mr.mset (by decide)⟩
    · unfold f_L_equal f_X8_equal
      rw [if_pos (hs.mpr c1)]
      rfl
    · unfold f_X9_equal
      rw [hm1]
      simp only [Option.bind_some]
      rw [if_pos (hm2.mpr c1), e40 1 (by decide)]
end PER
