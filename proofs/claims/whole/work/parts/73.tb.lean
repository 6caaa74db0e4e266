section PTB
variable {S : CS} {M : MS}
theorem isNoC (a : Int32) (M : MS) : f_X9_isNoConcept a M = if a < 0 ∨ nI (M.2.1 0) ≤ a then some (true, mset M 0 1) else some (false, mset M 0 0) := by
  unfold f_X9_isNoConcept f_X9_isOf_0 f_X9_isNoConcept_17
  by_cases c : a < 0
  · rw [if_pos c, if_pos (Or.inl c)]
    simp only [Option.bind_some]
    rw [if_pos (by decide), isWr]
    rfl
  · by_cases c2 : nI (M.2.1 0) ≤ a
    · rw [if_neg c, if_pos c2, if_pos (Or.inr c2)]
      simp only [Option.bind_some]
      rw [if_pos (by decide), isWr]
      rfl
    · rw [if_neg c, if_neg c2, if_neg (fun e => e.elim c c2)]
      simp only [Option.bind_some]
      rw [if_neg (by decide), isWr]
      rfl
theorem isNum {S : CS} {N : Nat} (h : S.1 2 3 = nI N) (a : Int32) : q_b (f_X1_isNumber S a) = 0 ↔ (a < 0 ∨ nI N ≤ a) := by
  unfold f_X1_isNumber
  rw [h]
  by_cases c : a < 0
  · rw [if_pos c]; exact ⟨fun _ => Or.inl c, fun _ => by decide⟩
  · by_cases c2 : nI N ≤ a
    · rw [if_neg c, if_pos c2]; exact ⟨fun _ => Or.inr c2, fun _ => by decide⟩
    · rw [if_neg c, if_neg c2]; exact ⟨fun e => absurd e (by decide), fun e => (e.elim c c2).elim⟩
theorem T_setOf (h : RelC S M) (a : Int32) (fo : Nat → Int64) : TI (f_L_setOf S a fo) fo (f_X9_setOf a M) (fun S' M' => S' = S ∧ Mr [0] [] M M') := by
  obtain ⟨P, N, c, cf, de, A, B, B', H, Z, hC, hT⟩ := h
  by_cases c1 : a < 0 ∨ nI N ≤ a
  · refine TI.ex (code := 1) (r := 0) (S := S) (M := M) (by decide) ?_ ?_ ⟨rfl, Mr.mset (by decide)⟩
    · unfold f_L_setOf f_X8_setOf
      rw [if_pos ((isNum hC.2.2.1 a).mpr c1)]
      rfl
    · unfold f_X9_setOf
      rw [isNoC, hC.mN, if_pos c1]
      rfl
  · obtain ⟨k, hk, rfl⟩ := btw hC.N31 (fun e => c1 (Or.inl e)) (fun e => c1 (Or.inr e))
    refine TI.ok (r := nI (c k)) (S := S) (M := mset M 0 0) ?_ ?_ ms_s ⟨rfl, Mr.mset (by decide)⟩
    · unfold f_L_setOf f_X8_setOf
      rw [if_neg (fun e => c1 ((isNum hC.2.2.1 _).mp e)), hC.setAt hk]
      rfl
    · unfold f_X9_setOf
      rw [isNoC, hC.mN, if_neg c1]
      simp only [Option.bind_some]
      rw [if_pos (by decide), show (mset M 0 0).2.1 0 = N from hC.mN, if_pos (q_in_nI hk hC.N31), nI_clamp (Nat.lt_trans hk hC.N31), if_pos hk, show (mset M 0 0).2.2.1 0 k 0 = nI (c k) from hC.mst hk]
theorem T_conflicts (h : RelC S M) (a : Int32) (fo : Nat → Int64) : TI (f_L_conflicts S a fo) fo (f_X9_conflicts a M) (fun S' M' => S' = S ∧ Mr [0] [] M M') := by
  obtain ⟨P, N, c, cf, de, A, B, B', H, Z, hC, hT⟩ := h
  by_cases c1 : a < 0 ∨ nI N ≤ a
  · refine TI.ex (code := 1) (r := 0) (S := S) (M := M) (by decide) ?_ ?_ ⟨rfl, Mr.mset (by decide)⟩
    · unfold f_L_conflicts f_X8_conflicts
      rw [if_pos ((isNum hC.2.2.1 a).mpr c1)]
      rfl
    · unfold f_X9_conflicts
      rw [isNoC, hC.mN, if_pos c1]
      rfl
  · obtain ⟨k, hk, rfl⟩ := btw hC.N31 (fun e => c1 (Or.inl e)) (fun e => c1 (Or.inr e))
    refine TI.ok (r := if de k then -1 else nI (cf k)) (S := S) (M := mset M 0 0) ?_ ?_ ms_s ⟨rfl, Mr.mset (by decide)⟩
    · unfold f_L_conflicts f_X8_conflicts
      rw [if_neg (fun e => c1 ((isNum hC.2.2.1 _).mp e)), hC.confl hk]
      rfl
    · unfold f_X9_conflicts
      rw [isNoC, hC.mN, if_neg c1]
      simp only [Option.bind_some]
      have hcl : (nI k).toNatClampNeg = k := nI_clamp (Nat.lt_trans hk hC.N31)
      have b1 : (mset M 0 0).2.2.1 0 (nI k).toNatClampNeg 1 = nI (cf k) := by rw [hcl]; exact hC.2.2.2.2.2.2.2.2.2.2.2.2.1 k hk
      have b2 : (mset M 0 0).2.2.1 0 (nI k).toNatClampNeg 2 = if de k then 1 else 0 := by rw [hcl]; exact hC.2.2.2.2.2.2.2.2.2.2.2.2.2 k hk
      rw [if_pos (by decide), show (mset M 0 0).2.1 0 = N from hC.mN, if_pos (q_in_nI hk hC.N31), if_pos (q_in_nI hk hC.N31).2, b1, b2]
      cases de k
      · rw [if_neg (by decide), if_pos (q_in_nI hk hC.N31), if_pos (q_in_nI hk hC.N31).2]; rfl
      · rw [if_pos (by decide)]; rfl
theorem T_isAlive (h : RelC S M) (a : Int32) (fo : Nat → Int64) : TB (f_L_isAlive S a fo) fo (f_X9_isAlive a M) (fun S' M' => S' = S ∧ Mr [0] [] M M') := by
  obtain ⟨P, N, c, cf, de, A, B, B', H, Z, hC, hT⟩ := h
  by_cases c1 : a < 0 ∨ nI N ≤ a
  · refine TB.ex (code := 1) (r := false) (S := S) (M := M) (by decide) ?_ ?_ ⟨rfl, Mr.mset (by decide)⟩
    · unfold f_L_isAlive f_X8_isAlive
      rw [if_pos ((isNum hC.2.2.1 a).mpr c1)]
      rfl
    · unfold f_X9_isAlive
      rw [isNoC, hC.mN, if_pos c1]
      rfl
  · obtain ⟨k, hk, rfl⟩ := btw hC.N31 (fun e => c1 (Or.inl e)) (fun e => c1 (Or.inr e))
    refine TB.ok (r := liv B cf de k) (S := S) (M := mset M 0 0) ?_ ?_ ms_s ⟨rfl, Mr.mset (by decide)⟩
    · unfold f_L_isAlive f_X8_isAlive
      rw [if_neg (fun e => c1 ((isNum hC.2.2.1 _).mp e)), hC.isLiv hT.bB.2 hT.bB.1 hk]
      show some (0, vp_updL fo 0 (if q_b (liv B cf de k) = 0 then (0 : Int64) else 1), S) = _
      rw [qbz]
    · unfold f_X9_isAlive
      rw [isNoC, hC.mN, if_neg c1]
      simp only [Option.bind_some]
      rw [if_pos (by decide), show (mset M 0 0).2.1 0 = N from hC.mN, if_pos (q_in_nI hk hC.N31), nI_clamp (Nat.lt_trans hk hC.N31)]
      rw [show f_X9_lives (mset M 0 0) k = f_X9_lives M k from rfl, hC.lives hT.bB2.2 hT.bB2.1 hk, hT.leq hk]
      simp only [Option.bind_some]
      cases liv B cf de k
      · rw [if_pos (by decide)]
      · rw [if_neg (by decide)]
theorem D_alive (h : RelC S M) : ∃ v : Int32, f_X8_alive S = some v ∧ f_X9_alive M = some (v, mset M 0 0) := by
  obtain ⟨P, N, c, cf, de, A, B, B', H, Z, hC, hT⟩ := h
  refine ⟨nI (fb_ct (liv B cf de) N), ?_, ?_⟩
  · unfold f_X8_alive
    rw [hT.cliv hC]
    simp only [Option.bind_some]
    rw [bitCount_pm _ hC.N32]
  · unfold f_X9_alive
    rw [(hT.m0 0).mliv (hC.m0 0)]
    rfl
theorem D_answers (h : RelC S M) : ∃ v : Int32, f_X8_answers S = v ∧ f_X9_answers M = some (v, mset M 0 0) := by
  obtain ⟨P, N, c, cf, de, A, B, B', H, Z, hC, hT⟩ := h
  refine ⟨nI A, hT.2.1, ?_⟩
  unfold f_X9_answers
  rw [show (mset M 0 0).1 3 = M.1 3 from ms_n (by decide), hT.2.2.1]
theorem isPt {P : Nat} (hP : P ≤ 6) (h : S.1 2 2 = nI P) (a : Int32) : (q_b (f_X1_isPoint S a) = 0 ↔ (a < 0 ∨ nI P ≤ a)) ∧ (q_b (f_X9_isBetween a.toInt64 (0 : Int64) ((nI P - 1).toInt64)) = 0 ↔ (a < 0 ∨ nI P ≤ a)) := by
  constructor
  · unfold f_X1_isPoint
    rw [h]
    by_cases c : a < 0
    · rw [if_pos c]; exact ⟨fun _ => Or.inl c, fun _ => by decide⟩
    · by_cases c2 : nI P ≤ a
      · rw [if_neg c, if_pos c2]; exact ⟨fun _ => Or.inr c2, fun _ => by decide⟩
      · rw [if_neg c, if_neg c2]; exact ⟨fun e => absurd e (by decide), fun e => (e.elim c c2).elim⟩
  · rw [show (0 : Int64) = (0 : Int32).toInt64 from rfl, isB, qb_0, Bool.and_eq_false_iff, decide_eq_false_iff_not, decide_eq_false_iff_not, i32_le]
    refine or_congr Iff.rfl ?_
    rw [i32_le, fa_lt, fa_le, pred_toInt (by omega), nI_toInt (by omega)]
    omega
theorem T_sure (h : RelC S M) (a : Int32) (fo : Nat → Int64) : TI (f_L_sure S a fo) fo (f_X9_sure a M) (fun S' M' => S' = S ∧ Mr [0] [] M M') := by
  obtain ⟨P, N, c, cf, de, A, B, B', H, Z, hC, hT⟩ := h
  have hp := isPt hC.1.2.1 hC.2.1 a
  by_cases c1 : a < 0 ∨ nI P ≤ a
  · refine TI.ex (code := 1) (r := 0) (S := S) (M := M) (by decide) ?_ ?_ ⟨rfl, Mr.mset (by decide)⟩
    · unfold f_L_sure f_X8_sure
      rw [if_pos (hp.1.mpr c1)]
      rfl
    · unfold f_X9_sure f_X9_sure_22
      rw [hC.2.2.2.1, if_pos (hp.2.mpr c1), isWr]
      rfl
  · obtain ⟨q, hq, rfl⟩ := btw hC.P31 (fun e => c1 (Or.inl e)) (fun e => c1 (Or.inr e))
    have hN := hC.1.2.2
    have a1 := ctN hC (liv B cf de)
    have a2 := ctN hC (fun k => liv B cf de k && has c q k)
    obtain ⟨r, hr⟩ : ∃ r : Int32, r = (if fb_ct (liv B cf de) N = 0 then 63 else if fb_ct (fun k => liv B cf de k && has c q k) N = fb_ct (liv B cf de) N then 43 else if fb_ct (fun k => liv B cf de k && has c q k) N = 0 then 45 else 63) := ⟨_, rfl⟩
    refine TI.ok (r := r) (S := S) (M := mset M 0 0) ?_ ?_ ms_s ⟨rfl, Mr.mset (by decide)⟩
    · unfold f_L_sure f_X8_sure
      rw [if_neg (fun e => c1 (hp.1.mp e)), hT.cliv hC]
      simp only [Option.bind_some]
      have e : f_X1_agreementOn S (nI q) (nI (pm (liv B cf de) N)) = r := by
        unfold f_X1_agreementOn f_X1_agreementOn_24
        rw [hC.hold hq, nI_and, pm_and, hr]
        have z1 : nI (pm (liv B cf de) N) = 0 ↔ fb_ct (liv B cf de) N = 0 := by
          rw [nI_0iff (pm31 _ (by omega)), pm_zero, fb_ct_zero]
        have z2 : nI (pm (fun k => liv B cf de k && has c q k) N) = 0 ↔ fb_ct (fun k => liv B cf de k && has c q k) N = 0 := by
          rw [nI_0iff (pm31 _ (by omega)), pm_zero, fb_ct_zero]
        have ct := ct_two (liv B cf de) (has c q) N
        have z3 : nI (pm (fun k => liv B cf de k && has c q k) N) = nI (pm (liv B cf de) N) ↔ fb_ct (fun k => liv B cf de k && has c q k) N = fb_ct (liv B cf de) N := by
          rw [nI_eq (pm31 _ (by omega)) (pm31 _ (by omega))]
          constructor
          · intro e
            exact fb_ct_cong (fun k hk => pm_inj e hk)
          · intro e
            have e0 : fb_ct (fun k => liv B cf de k && !has c q k) N = 0 := by omega
            refine pm_cong (fun k hk => ?_)
            have := fb_ct_zero.mp e0 k hk
            revert this
            cases liv B cf de k <;> cases has c q k <;> simp
        by_cases d1 : fb_ct (liv B cf de) N = 0
        · rw [if_pos (z1.mpr d1), if_pos d1]
        · rw [if_neg (fun e => d1 (z1.mp e)), if_neg d1]
          by_cases d2 : fb_ct (fun k => liv B cf de k && has c q k) N = 0
          · have d3 : ¬ fb_ct (fun k => liv B cf de k && has c q k) N = fb_ct (liv B cf de) N := by omega
            rw [if_pos (z2.mpr d2), if_neg d3, if_pos d2, if_neg (fun e => d3 (z3.mp e))]
          · rw [if_neg (fun e => d2 (z2.mp e)), if_neg d2]
            by_cases d3 : fb_ct (fun k => liv B cf de k && has c q k) N = fb_ct (liv B cf de) N
            · rw [if_pos (z3.mpr d3), if_pos d3, if_pos (z3.mpr d3)]
            · rw [if_neg (fun e => d3 (z3.mp e)), if_neg d3]
      rw [e]
      have hch : q_ch r := by
        rw [hr]
        split
        · decide
        · split
          · decide
          · split <;> decide
      rw [if_pos hch]
      rfl
    · unfold f_X9_sure f_X9_sure_22
      rw [hC.2.2.2.1, if_neg (fun e => c1 (hp.2.mp e)), isWr]
      simp only [Option.bind_some]
      rw [if_pos (by decide), (hT.m0 0).mwith (hC.m0 0) (by have := hC.1.2.1; omega), (hT.m0 0).mliv (hC.m0 0)]
      simp only [Option.bind_some]
      rw [hr]
      have n0 : ∀ {x : Nat}, x ≤ 24 → (nI x = 0 ↔ x = 0) := fun hx => nI_0iff (by omega)
      have n1 : ∀ {x y : Nat}, x ≤ 24 → y ≤ 24 → (nI x = nI y ↔ x = y) := fun hx hy => nI_eq (by omega) (by omega)
      by_cases d1 : fb_ct (liv B cf de) N = 0
      · rw [if_pos ((n0 a1).mpr d1), if_pos d1]
      · rw [if_neg (fun e => d1 ((n0 a1).mp e)), if_neg d1]
        by_cases d3 : fb_ct (fun k => liv B cf de k && has c q k) N = fb_ct (liv B cf de) N
        · rw [if_pos ((n1 a2 a1).mpr d3), if_pos d3]
        · rw [if_neg (fun e => d3 ((n1 a2 a1).mp e)), if_neg d3]
          by_cases d2 : fb_ct (fun k => liv B cf de k && has c q k) N = 0
          · rw [if_pos ((n0 a2).mpr d2), if_pos d2]
          · rw [if_neg (fun e => d2 ((n0 a2).mp e)), if_neg d2]
theorem T_best (h : RelC S M) (fo : Nat → Int64) : TI (f_L_best S fo) fo (f_X9_best M) (fun S' M' => S' = S ∧ Mr [0] [] M M') := by
  obtain ⟨P, N, c, cf, de, A, B, B', H, Z, hC, hT⟩ := h
  have a1 := ctN hC (liv B cf de)
  have e2 : (2 : Int32) ≤ nI (fb_ct (liv B cf de) N) ↔ 2 ≤ fb_ct (liv B cf de) N := nI_leI (a := 2) (by decide) (by omega)
  by_cases d : 2 ≤ fb_ct (liv B cf de) N
  · refine TI.ok (r := nI (bs (lessG (liv B cf de) c N) P).1) (S := S) (M := mset M 0 0) ?_ ?_ ms_s ⟨rfl, Mr.mset (by decide)⟩
    · unfold f_L_best f_X8_best
      rw [hT.cliv hC]
      simp only [Option.bind_some]
      rw [bitCount_pm _ hC.N32, if_pos (e2.mpr d), hC.best]
      rfl
    · unfold f_X9_best f_X9_best_14
      rw [hT.mliv hC]
      simp only [Option.bind_some]
      rw [if_pos (e2.mpr d), isWr]
      simp only [Option.bind_some]
      rw [if_pos (by decide), (hT.m0 0).mbest (hC.m0 0)]
      rfl
  · refine TI.ex (code := 1) (r := 0) (S := S) (M := M) (by decide) ?_ ?_ ⟨rfl, Mr.mset (by decide)⟩
    · unfold f_L_best f_X8_best
      rw [hT.cliv hC]
      simp only [Option.bind_some]
      rw [bitCount_pm _ hC.N32, if_neg (fun e => d (e2.mp e))]
      rfl
    · unfold f_X9_best f_X9_best_14
      rw [hT.mliv hC]
      simp only [Option.bind_some]
      rw [if_neg (fun e => d (e2.mp e)), isWr]
      rfl
end PTB
