theorem mc_k {M : MS} {i s : Nat} (h : s < 20) : (mclr M i).1 s = M.1 s := (Mr.mclr (L := []) (K := [i]) (M := M) (i := i) (List.mem_singleton.mpr rfl)).1 s h (by simp)
section PPO
variable {S : CS} {M : MS} {P N A B B' H Z : Nat} {c cf : Nat → Nat} {de : Nat → Bool}
theorem x_come {a1 a2 a3 : Int32} (hch : q_ch a1) : ∃ S' : CS, f_X5_come a1 a2 a3 S = some S' ∧ Fr [1, 9] S S' ∧ S'.1 1 2 = a1 ∧ S'.1 1 3 = a2 ∧ S'.1 1 4 = (if a1 = 108 then a3 else 0) ∧ S'.1 1 5 = 0 ∧ S'.1 1 6 = 0 ∧ S'.1 1 7 = S.1 1 7 ∧ ∀ k, k < 24 → S'.1 9 k = 0 := by
  have loop : ∀ s0 : CS, ∃ S' : CS, f_X5_come_38 1000 0 s0 = some S' ∧ Fr [9] s0 S' ∧ ∀ k, k < 24 → S'.1 9 k = 0 := by
    intro s0
    have h := pu_forS (W := fun n i s => ∃ S' : CS, f_X5_come_38 n (nI i) s = some S' ∧ Fr [9] s0 S' ∧ ∀ k, k < 24 → S'.1 9 k = 0) (I := fun i s => Fr [9] s0 s ∧ ∀ k, k < i → s.1 9 k = 0) 24 (fun n s hi => ?_) (fun n i s hi hI ih => ?_) 24 1000 0 s0 (Nat.zero_add 24) (by omega) ⟨Fr.refl s0, fun k hk => absurd hk (Nat.not_lt_zero k)⟩
    · exact h
    · refine ⟨s, ?_, hi⟩
      show f_X5_come_38b _ _ _ = _
      unfold f_X5_come_38b
      rw [if_pos (show (24 : Int32) ≤ nI 24 from nI_le (a := 24) (Nat.le_refl 24) (by decide))]
    · obtain ⟨S', e1, e2⟩ := ih (cfun s 9 (upd (s.1 9) i 0)) ⟨hI.1.trans (Fr.cfun (by decide)), fun k hk => by
        rw [cf_s]
        by_cases e : k = i
        · subst e; exact pk_us
        · rw [pk_un e]; exact hI.2 k (by omega)⟩
      refine ⟨S', ?_, e2⟩
      show f_X5_come_38b _ _ _ = _
      unfold f_X5_come_38b
      rw [if_neg (show ¬ (24 : Int32) ≤ nI i from nI_ge (b := 24) hi (by decide)), q_pu_nI hi (by decide), nI_1]
      exact e1
  have fin : ∀ t0 : Int32, ∃ S' : CS, f_X5_come_22 t0 (cset (cset S 1 2 a1) 1 3 a2) = some S' ∧ Fr [1, 9] S S' ∧ S'.1 1 2 = a1 ∧ S'.1 1 3 = a2 ∧ S'.1 1 4 = t0 ∧ S'.1 1 5 = 0 ∧ S'.1 1 6 = 0 ∧ S'.1 1 7 = S.1 1 7 ∧ ∀ k, k < 24 → S'.1 9 k = 0 := by
    intro t0
    obtain ⟨S', e1, e2, e3⟩ := loop (cset (cset (cset (cset (cset S 1 2 a1) 1 3 a2) 1 4 t0) 1 5 0) 1 6 0)
    have g : ∀ j, S'.1 1 j = (cset (cset (cset (cset (cset S 1 2 a1) 1 3 a2) 1 4 t0) 1 5 0) 1 6 0).1 1 j := fun j => by rw [e2.1 1 (by decide)]
    refine ⟨S', e1, ((Fr.cset (by decide)).trans ((Fr.cset (by decide)).trans ((Fr.cset (by decide)).trans ((Fr.cset (by decide)).trans (Fr.cset (by decide)))))).trans (e2.mono (by decide)), ?_, ?_, ?_, ?_, ?_, ?_, e3⟩
    · rw [g, cs_k (by decide), cs_k (by decide), cs_k (by decide), cs_k (by decide), cs_s]
    · rw [g, cs_k (by decide), cs_k (by decide), cs_k (by decide), cs_s]
    · rw [g, cs_k (by decide), cs_k (by decide), cs_s]
    · rw [g, cs_k (by decide), cs_s]
    · rw [g, cs_s]
    · rw [g, cs_k (by decide), cs_k (by decide), cs_k (by decide), cs_k (by decide), cs_k (by decide)]
  unfold f_X5_come
  rw [if_pos hch]
  by_cases e : a1 = 108
  · rw [if_pos e, if_pos e]; exact fin a3
  · rw [if_neg e, if_neg e]; exact fin 0
theorem x_anew {p : Int32} : ∃ S' : CS, f_X1_startAnew p S = some S' ∧ Fr [2, 11] S S' ∧ S'.1 2 2 = p ∧ S'.1 2 3 = 0 ∧ ∀ k, k < 6 → S'.1 11 k = 0 := by
  have loop : ∀ s0 : CS, ∃ S' : CS, f_X1_startAnew_12 1000 0 s0 = some S' ∧ Fr [11] s0 S' ∧ ∀ k, k < 6 → S'.1 11 k = 0 := by
    intro s0
    have h := pu_forS (W := fun n i s => ∃ S' : CS, f_X1_startAnew_12 n (nI i) s = some S' ∧ Fr [11] s0 S' ∧ ∀ k, k < 6 → S'.1 11 k = 0) (I := fun i s => Fr [11] s0 s ∧ ∀ k, k < i → s.1 11 k = 0) 6 (fun n s hi => ?_) (fun n i s hi hI ih => ?_) 6 1000 0 s0 (Nat.zero_add 6) (by omega) ⟨Fr.refl s0, fun k hk => absurd hk (Nat.not_lt_zero k)⟩
    · exact h
    · refine ⟨s, ?_, hi⟩
      show f_X1_startAnew_12b _ _ _ = _
      unfold f_X1_startAnew_12b
      rw [if_pos (show (6 : Int32) ≤ nI 6 from nI_le (a := 6) (Nat.le_refl 6) (by decide))]
    · obtain ⟨S', e1, e2⟩ := ih (cfun s 11 (upd (s.1 11) i 0)) ⟨hI.1.trans (Fr.cfun (by decide)), fun k hk => by
        rw [cf_s]
        by_cases e : k = i
        · subst e; exact pk_us
        · rw [pk_un e]; exact hI.2 k (by omega)⟩
      refine ⟨S', ?_, e2⟩
      show f_X1_startAnew_12b _ _ _ = _
      unfold f_X1_startAnew_12b
      rw [if_neg (show ¬ (6 : Int32) ≤ nI i from nI_ge (b := 6) hi (by decide)), q_pu_nI hi (by decide), nI_1]
      exact e1
  obtain ⟨S', e1, e2, e3⟩ := loop (cset (cset S 2 2 p) 2 3 0)
  refine ⟨S', e1, ((Fr.cset (by decide)).trans (Fr.cset (by decide))).trans (e2.mono (by decide)), ?_, ?_, e3⟩
  · rw [e2.1 2 (by decide), cs_k (by decide), cs_s]
  · rw [e2.1 2 (by decide), cs_s]
theorem rng16 {a lo hi : Int32} {m n : Nat} (hlo : lo = nI m) (hhi : hi = nI n) (hm : m < 2 ^ 30) (hn : n < 2 ^ 30) (h1 : ¬ a < lo) (h2 : a ≤ hi) : ∃ k, m ≤ k ∧ k ≤ n ∧ a = nI k := by
  subst hlo; subst hhi
  have h0 : ¬ a < 0 := fun e => h1 (Int32.lt_of_lt_of_le e (nI_pos' (by omega)))
  obtain ⟨j, hj, rfl⟩ := nI_of h0
  exact ⟨j, (nI_leI (by omega) hj).mp (i32_lt.mp h1), (nI_leI hj (by omega)).mp h2, rfl⟩
theorem T_points (h : RelC S M) (a : Int32) (fo : Nat → Int64) : TI (f_L_points S a fo) fo (f_X9_points a M) (fun S' M' => RelC S' M' ∧ Fr [1, 2, 9, 11] S S' ∧ Mr [0, 2, 3, 7] [0] M M') := by
  have hR := h
  obtain ⟨P, N, c, cf, de, A, B, B', H, Z, hC, hT⟩ := h
  have hB : f_X9_isBetween a.toInt64 1 6 = (decide (1 ≤ a) && decide (a ≤ 6)) := isB (lo := 1) (hi := 6)
  have bad : ¬ (1 ≤ a ∧ a ≤ 6) → TI (f_L_points S a fo) fo (f_X9_points a M) (fun S' M' => RelC S' M' ∧ Fr [1, 2, 9, 11] S S' ∧ Mr [0, 2, 3, 7] [0] M M') := by
    intro hn
    refine TI.ex (code := 1) (r := 0) (S := S) (M := M) (by decide) ?_ ?_ ⟨hR.m0 1, Fr.refl S, Mr.mset (by decide)⟩
    · unfold f_L_points f_X8_points f_X8_points_11
      by_cases c1 : a < 1
      · rw [if_pos c1]; rfl
      · rw [if_neg c1, if_neg (fun e => hn ⟨i32_lt.mp c1, e⟩)]; rfl
    · unfold f_X9_points
      rw [hB, if_pos (qb_0.mpr (by rcases Decidable.not_and_iff_or_not.mp hn with c | c <;> simp [c]))]
      unfold f_X9_points_18
      rw [isWr]
      rfl
  by_cases c1 : 1 ≤ a
  · by_cases c2 : a ≤ 6
    · obtain ⟨p, hp1, hp6, rfl⟩ := rng16 (lo := 1) (hi := 6) (m := 1) (n := 6) rfl rfl (by decide) (by decide) (i32_lt.mpr c1) c2
      obtain ⟨S1, s1, s2, s3, s4, s5⟩ := x_anew (S := S) (p := nI p)
      obtain ⟨S', r1, r2, r3, r4, r5, r6, r7, r8, r9⟩ := x_come (S := S1) (a1 := 45) (a2 := 0) (a3 := 0) (by decide)
      obtain ⟨t1, t2, t3, t4, t5, t6, t7, t8, t9, t10, t11, t12, t13, t14, t15, t16, t17, t18⟩ := id hT
      obtain ⟨M', hM⟩ : ∃ M', M' = mset (mset (mclr (mset (mset M 0 0) 2 (nI p)) 0) 7 45) 3 0 := ⟨_, rfl⟩
      have mM : Mr [0, 2, 3, 7] [0] M M' := by rw [hM]; exact (Mr.mset (by decide)).trans ((Mr.mset (by decide)).trans ((Mr.mclr (by decide)).trans ((Mr.mset (by decide)).trans (Mr.mset (by decide)))))
      have m2 : M'.1 2 = nI p := by
        rw [hM, ms_n (by decide), ms_n (by decide)]
        rw [mc_k (by decide), ms_s]
      have m0 : M'.1 0 = 0 := by
        rw [hM, ms_n (by decide), ms_n (by decide)]
        rw [mc_k (by decide), ms_n (by decide), ms_s]
      have m7 : M'.1 7 = 45 := by rw [hM, ms_n (by decide), ms_s]
      have m3 : M'.1 3 = 0 := by rw [hM, ms_s]
      have fS : Fr [1, 2, 9, 11] S S' := (s2.mono (by decide)).trans (r2.mono (by decide))
      refine TI.ok (r := nI N) (S := S') (M := M') ?_ ?_ m0 ⟨⟨p, 0, c, fun _ => 0, fun _ => false, 0, 0, B', 0, 0, ?_, ?_⟩, fS, mM⟩
      · unfold f_L_points f_X8_points
        rw [if_neg (i32_lt.mpr c1), if_pos c2, s1]
        simp only [Option.bind_some]
        unfold f_X5_leave
        rw [r1]
        simp only [Option.bind_some, if_true]
        rw [hC.2.2.1]
      · unfold f_X9_points
        rw [hB, decide_eq_true c1, decide_eq_true c2, if_neg (by decide)]
        unfold f_X9_points_18
        rw [isWr]
        simp only [Option.bind_some]
        rw [if_pos (by decide), if_pos (by decide), show (mset M 0 0).2.1 0 = N from hC.mN, hM]
      · refine ⟨⟨hp1, hp6, by decide⟩, ?_, ?_, m2, ?_, fun k hk => absurd hk (Nat.not_lt_zero k), fun i j hi => absurd hi (Nat.not_lt_zero i), fun k hk => absurd hk (Nat.not_lt_zero k), fun k hk => absurd hk (Nat.not_lt_zero k), fun q hq => ?_, fun k hk => ?_, fun k hk => absurd hk (Nat.not_lt_zero k), fun k hk => absurd hk (Nat.not_lt_zero k), fun k hk => absurd hk (Nat.not_lt_zero k)⟩
        · rw [r2.1 2 (by decide)]; exact s3
        · rw [r2.1 2 (by decide)]; exact s4
        · rw [hM]; exact mc_n
        · rw [r2.1 11 (by decide)]; exact s5 q hq
        · rw [if_neg (Nat.not_lt_zero k)]; exact r9 k hk
      · refine ⟨?_, r7, m3, by decide, ?_, ?_, by decide, ?_, t9, fun e => absurd m7 e, fun _ => rfl, fun _ k hk => absurd hk (Nat.not_lt_zero k), fun k hk => absurd hk (Nat.not_lt_zero k), Or.inl m7, fun e => absurd m7 e, ?_, ?_, ?_⟩
        · rw [r8, s2.1 1 (by decide), t1, mM.1 6 (by decide) (by decide)]
        · rw [r3, m7]
        · rw [r5]; rfl
        · rw [mM.1 5 (by decide) (by decide)]; exact t8
        · rw [m7]; intro e; rcases e with e | e <;> exact absurd e (by decide)
        · rw [m7]; intro e; exact absurd e (by decide)
        · rw [m7]; intro e; exact absurd e (by decide)
    · exact bad (fun e => c2 e.2)
  · exact bad (fun e => c1 e.1)
theorem T_seed (h : RelC S M) (a : Int32) (fo : Nat → Int64) : TI (f_L_seed S a fo) fo (f_X9_seed a M) (fun S' M' => RelC S' M' ∧ Fr [1] S S' ∧ Mr [0, 6] [] M M') := by
  have hR := h
  obtain ⟨P, N, c, cf, de, A, B, B', H, Z, hC, hT⟩ := h
  have hB : f_X9_isBetween a.toInt64 1 2147483646 = (decide (1 ≤ a) && decide (a ≤ 2147483646)) := isB (lo := 1) (hi := 2147483646)
  by_cases c0 : 1 ≤ a ∧ a ≤ 2147483646
  · refine TI.ok (r := M.1 6) (S := cset S 1 7 a) (M := mset (mset M 0 0) 6 a) ?_ ?_ (by rw [ms_n (by decide), ms_s]) ⟨⟨P, N, c, cf, de, A, B, B', H, Z, hC, ?_⟩, Fr.cset (by decide), (Mr.mset (by decide)).trans (Mr.mset (by decide))⟩
    · unfold f_L_seed f_X8_seed
      rw [if_neg (i32_lt.mpr c0.1), if_pos c0.2, hT.1]
      rfl
    · unfold f_X9_seed
      rw [hB, decide_eq_true c0.1, decide_eq_true c0.2, if_neg (by decide)]
      unfold f_X9_seed_18
      rw [isWr]
      rfl
    · obtain ⟨t1, t⟩ := hT
      exact ⟨by rw [cs_s, ms_s], t⟩
  · refine TI.ex (code := 1) (r := 0) (S := S) (M := M) (by decide) ?_ ?_ ⟨hR.m0 1, Fr.refl S, Mr.mset (by decide)⟩
    · unfold f_L_seed f_X8_seed f_X8_seed_11
      by_cases c1 : a < 1
      · rw [if_pos c1]; rfl
      · rw [if_neg c1, if_neg (fun e => c0 ⟨i32_lt.mp c1, e⟩)]; rfl
    · unfold f_X9_seed
      rw [hB, if_pos (qb_0.mpr (by rcases Decidable.not_and_iff_or_not.mp c0 with c | c <;> simp [c]))]
      unfold f_X9_seed_18
      rw [isWr]
      rfl
end PPO
