/-! experts -/
def RX (s4 s14 s15 : Nat → Int32) (m10 : Int32) (mE : Nat) (mr : Nat → Nat → Int32) (E : Nat) (w : Nat → Nat) : Prop := E ≤ 6 ∧ s4 2 = nI E ∧ mE = E ∧ s4 3 = m10 ∧ ∀ k, k < E → s14 k = nI (w k) ∧ mr k 0 = nI (w k) ∧ 1 ≤ w k ∧ w k ≤ 1024 ∧ s15 k = mr k 1
def RelX (S : CS) (M : MS) : Prop := ∃ (E : Nat) (w : Nat → Nat), RX (S.1 4) (S.1 14) (S.1 15) (M.1 10) (M.2.1 1) (M.2.2.1 1) E w
theorem x_start {S : CS} {e : Nat} (he : e ≤ 6) : ∃ S' : CS, f_X2_startAnew (nI e) S = some S' ∧ Fr [4, 14, 15] S S' ∧ S'.1 4 2 = nI e ∧ S'.1 4 3 = 0 ∧ ∀ k, k < e → S'.1 14 k = 1024 ∧ S'.1 15 k = 0 := by
  have h := pu_forS (W := fun n i s => ∃ S' : CS, f_X2_startAnew_12 n (nI e) (nI i) s = some S' ∧ Fr [4, 14, 15] S S' ∧ S'.1 4 2 = nI e ∧ S'.1 4 3 = 0 ∧ ∀ k, k < e → S'.1 14 k = 1024 ∧ S'.1 15 k = 0)
    (I := fun i s => Fr [4, 14, 15] S s ∧ s.1 4 2 = nI e ∧ s.1 4 3 = 0 ∧ ∀ k, k < i → s.1 14 k = 1024 ∧ s.1 15 k = 0) e (fun n s hi => ?_) (fun n i s hi hI ih => ?_) e 1000 0 (cset (cset S 4 2 (nI e)) 4 3 0) (Nat.zero_add e) (by omega) ⟨(Fr.cset (by decide)).trans (Fr.cset (by decide)), by rw [cs_k (by decide), cs_s], cs_s, fun k hk => absurd hk (Nat.not_lt_zero k)⟩
  · exact h
  · refine ⟨s, ?_, hi⟩
    show f_X2_startAnew_12b _ _ _ _ = _
    unfold f_X2_startAnew_12b
    rw [if_pos (nI_le (Nat.le_refl e) (by omega))]
  · obtain ⟨h1, h2, h3, h4⟩ := hI
    have hs := ih (cfun (cfun s 14 (q_pu 6 (s.1 14) (nI i) 1024)) 15 (q_pu 6 ((cfun s 14 (q_pu 6 (s.1 14) (nI i) 1024)).1 15) (nI i) 0)) ⟨h1.trans ((Fr.cfun (by decide)).trans (Fr.cfun (by decide))), by rw [cf_n (by decide), cf_n (by decide)]; exact h2, by rw [cf_n (by decide), cf_n (by decide)]; exact h3, fun k hk => ?_⟩
    · obtain ⟨S', e1, e2⟩ := hs
      refine ⟨S', ?_, e2⟩
      show f_X2_startAnew_12b _ _ _ _ = _
      unfold f_X2_startAnew_12b
      rw [if_neg (nI_ge hi (by omega)), nI_1]
      exact e1
    · rw [cf_n (by decide : (14 : Nat) ≠ 15), cf_s, cf_s, cf_n (by decide : (15 : Nat) ≠ 14), q_pu_nI (by omega) (by decide), q_pu_nI (by omega) (by decide)]
      by_cases e : k = i
      · subst e
        exact ⟨pk_us, pk_us⟩
      · rw [pk_un e, pk_un e]
        exact h4 k (by omega)
theorem m_experts {M : MS} {e : Nat} (he : e ≤ 6) (r : Int32) (h0 : M.2.1 1 = 0) : ∃ M' : MS, f_X9_experts_52 10 (nI e) r 0 M = some (r, M') ∧ Mr [] [1] M M' ∧ M'.2.1 1 = e ∧ ∀ k, k < e → M'.2.2.1 1 k 0 = 1024 ∧ M'.2.2.1 1 k 1 = 0 := by
  have h := pu_forS (W := fun n i s => ∃ M' : MS, f_X9_experts_52 n (nI e) r (nI i) s = some (r, M') ∧ Mr [] [1] M M' ∧ M'.2.1 1 = e ∧ ∀ k, k < e → M'.2.2.1 1 k 0 = 1024 ∧ M'.2.2.1 1 k 1 = 0)
    (I := fun i s => Mr [] [1] M s ∧ s.2.1 1 = i ∧ ∀ k, k < i → s.2.2.1 1 k 0 = 1024 ∧ s.2.2.1 1 k 1 = 0) e (fun n s hi => ?_) (fun n i s hi hI ih => ?_) e 10 0 M (Nat.zero_add e) (by omega) ⟨Mr.refl M, h0, fun k hk => absurd hk (Nat.not_lt_zero k)⟩
  · exact h
  · refine ⟨s, ?_, hi⟩
    show f_X9_experts_52b _ _ _ _ _ = _
    unfold f_X9_experts_52b
    rw [if_pos (nI_le (Nat.le_refl e) (by omega))]
  · obtain ⟨h1, h2, h3⟩ := hI
    obtain ⟨M', e1, e2⟩ := ih (madd s 1 (upd (upd (fun _ => 0) 0 1024) 1 0)) ⟨h1.trans (Mr.madd (by decide)), by rw [ma_n, h2], fun k hk => by
      rw [ma_r, h2]
      by_cases e : k = i
      · subst e
        rw [ru_s]
        exact ⟨by rw [pk_un (by decide), pk_us], pk_us⟩
      · rw [ru_n e]
        exact h3 k (by omega)⟩
    refine ⟨M', ?_, e2⟩
    show f_X9_experts_52b _ _ _ _ _ = _
    unfold f_X9_experts_52b
    rw [if_neg (nI_ge hi (by omega)), if_pos (by omega), nI_1]
    exact e1
theorem T_experts {S : CS} {M : MS} (h : RelX S M) (a : Int32) (fo : Nat → Int64) : TI (f_L_experts S a fo) fo (f_X9_experts a M) (fun S' M' => RelX S' M' ∧ Fr [4, 14, 15] S S' ∧ Mr [0, 10] [1] M M') := by
  obtain ⟨E, w, h1, h2, h3, h4, h5⟩ := h
  have hB : f_X9_isBetween a.toInt64 1 6 = (decide (1 ≤ a) && decide (a ≤ 6)) := isB (lo := 1) (hi := 6)
  have bad : ¬ (1 ≤ a ∧ a ≤ 6) → TI (f_L_experts S a fo) fo (f_X9_experts a M) (fun S' M' => RelX S' M' ∧ Fr [4, 14, 15] S S' ∧ Mr [0, 10] [1] M M') := by
    intro hn
    refine TI.ex (code := 1) (r := 0) (S := S) (M := M) (by decide) ?_ ?_ ⟨⟨E, w, h1, h2, h3, h4, h5⟩, Fr.refl S, Mr.mset (by decide)⟩
    · unfold f_L_experts f_X8_experts f_X8_experts_11
      by_cases c1 : a < 1
      · rw [if_pos c1]; rfl
      · rw [if_neg c1, if_neg (fun e => hn ⟨i32_lt.mp c1, e⟩)]; rfl
    · unfold f_X9_experts
      rw [hB, if_pos (qb_0.mpr (by rcases Decidable.not_and_iff_or_not.mp hn with c | c <;> simp [c]))]
      unfold f_X9_experts_18
      rw [isWr]
      rfl
  by_cases c1 : 1 ≤ a
  · by_cases c2 : a ≤ 6
    · obtain ⟨e, he, rfl⟩ : ∃ e, e ≤ 6 ∧ a = nI e := nI_of2 (M := 6) (n := 6) (by decide) (fun e => absurd c1 (i32_le.mpr (by exact Int32.lt_of_lt_of_le e (by decide)))) c2
      obtain ⟨S', s1, s2, s3, s4, s5⟩ := x_start (S := S) he
      obtain ⟨M', m1, m2, m3, m4⟩ := m_experts (M := mset (mclr (mset M 0 0) 1) 10 0) he (nI E) (by show (mclr (mset M 0 0) 1).2.1 1 = 0; exact mc_n)
      refine TI.ok (r := nI E) (S := S') (M := M') ?_ ?_ ?_ ⟨⟨e, fun _ => 1024, he, s3, m3, ?_, fun k hk => ⟨(s5 k hk).1, (m4 k hk).1, (show (1 : Nat) ≤ 1024 by decide), (show (1024 : Nat) ≤ 1024 by decide), by rw [(s5 k hk).2, (m4 k hk).2]⟩⟩, s2, ?_⟩
      · unfold f_L_experts f_X8_experts
        rw [if_neg (i32_lt.mpr c1), if_pos c2, s1]
        simp only [Option.bind_some, if_true]
        rw [h2]
      · unfold f_X9_experts
        rw [hB, decide_eq_true c1, decide_eq_true c2, if_neg (by decide)]
        unfold f_X9_experts_18
        rw [isWr]
        simp only [Option.bind_some]
        rw [if_pos (by decide), show (mset M 0 0).2.1 1 = E from h3]
        exact m1
      · rw [m2.1 0 (by decide) (by decide), ms_n (by decide)]
        exact ((Mr.mclr (L := []) (K := [1]) (M := mset M 0 0) (i := 1) (by decide)).1 0 (by decide) (by decide)).trans ms_s
      · rw [s4, m2.1 10 (by decide) (by decide), ms_s]
      · refine Mr.trans ((Mr.mset (by decide)).trans ((Mr.mclr (by decide)).trans (Mr.mset (by decide)))) ⟨fun s hs hj => m2.1 s hs (by simp), fun j hj => m2.2.1 j hj, m2.2.2⟩
    · exact bad (fun e => c2 e.2)
  · exact bad (fun e => c1 e.1)
