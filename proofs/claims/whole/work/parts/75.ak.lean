section PAK
variable {S : CS} {M : MS} {P N A B B' H Z : Nat} {c cf : Nat → Nat} {de : Nat → Bool}
theorem m_asks {M1 : MS} {de : Nat → Bool} {q : Nat} (hN : N ≤ 24) (hq : q < 32) (hn : M1.2.1 0 = N) (h0 : ∀ k, k < N → M1.2.2.1 0 k 0 = nI (c k)) (hc : ∀ k, k < N → c k < 64) (h1 : ∀ k, k < N → M1.2.2.1 0 k 1 = nI (cf k)) (h2 : ∀ k, k < N → M1.2.2.1 0 k 2 = if de k then 1 else 0) (b : Bool) :
    ∃ M' : MS, f_X9_asks_16 1000 (nI q) (q_b b) 0 (M1.1 20) M1 = some (b, M') ∧ Mr [3] [0] M1 M' ∧ M'.1 3 = M1.1 3 + 1 ∧ M'.2.1 0 = N ∧ ∀ k, k < N → M'.2.2.1 0 k 0 = nI (c k) ∧ M'.2.2.1 0 k 1 = nI (cf2 (fun k => has c q k != b) cf k) ∧ M'.2.2.1 0 k 2 = if de k then 1 else 0 := by
  have h := pu_forS (W := fun n i s => ∃ M' : MS, f_X9_asks_16 n (nI q) (q_b b) (nI i) (M1.1 20) s = some (b, M') ∧ Mr [3] [0] M1 M' ∧ M'.1 3 = M1.1 3 + 1 ∧ M'.2.1 0 = N ∧ ∀ k, k < N → M'.2.2.1 0 k 0 = nI (c k) ∧ M'.2.2.1 0 k 1 = nI (cf2 (fun k => has c q k != b) cf k) ∧ M'.2.2.1 0 k 2 = if de k then 1 else 0)
    (I := fun i s => s.1 = M1.1 ∧ s.2.1 = M1.2.1 ∧ s.2.2.2 = M1.2.2.2 ∧ (∀ j, j ∉ [0] → s.2.2.1 j = M1.2.2.1 j) ∧ ∀ k, k < N → s.2.2.1 0 k 0 = nI (c k) ∧ s.2.2.1 0 k 1 = nI (if k < i then cf2 (fun k => has c q k != b) cf k else cf k) ∧ s.2.2.1 0 k 2 = if de k then 1 else 0) N (fun n s hi => ?_) (fun n i s hi hI ih => ?_) N 1000 0 M1 (Nat.zero_add N) (by omega) ⟨rfl, rfl, rfl, fun _ _ => rfl, fun k hk => ⟨h0 k hk, by rw [if_neg (Nat.not_lt_zero k)]; exact h1 k hk, h2 k hk⟩⟩
  · exact h
  · obtain ⟨i1, i2, i3, i4, i5⟩ := hi
    refine ⟨mset s 3 (s.1 3 + 1), ?_, ⟨fun j _ hj => by rw [ms_n (fun e => hj (by simp [e])), i1], fun j hj => ⟨by show s.2.1 j = _; rw [i2], i4 j hj⟩, i3⟩, by rw [ms_s, i1], by show s.2.1 0 = N; rw [i2, hn], fun k hk => ?_⟩
    · show f_X9_asks_16b _ _ _ _ _ _ = _
      unfold f_X9_asks_16b
      rw [show s.2.1 0 = N by rw [i2, hn], if_pos it_end]
      cases b
      · rfl
      · rfl
    · have := i5 k hk
      rw [if_pos hk] at this
      exact this
  · obtain ⟨i1, i2, i3, i4, i5⟩ := hI
    obtain ⟨r0, r1, r2⟩ := i5 i hi
    rw [if_neg (Nat.lt_irrefl i)] at r1
    have en : s.2.1 0 = N := by rw [i2, hn]
    have hp : f_X9_hasPoint (s.2.2.1 0 i 0) (nI q) = has c q i := by
      rw [r0, hasP (Nat.lt_trans (hc i hi) (by decide)) hq]
      rfl
    obtain ⟨M', e1, e2⟩ := ih (mrow s 0 i 1 (nI (cf2 (fun k => has c q k != b) cf i))) ⟨i1, i2, i3, fun j hj => by rw [← i4 j hj]; exact nup_n (fun e => hj (by simp [e])), fun k hk => by
      by_cases e : k = i
      · subst e
        rw [mw_rs, pk_un (by decide), pk_us, pk_un (by decide), if_pos (by omega)]
        exact ⟨r0, rfl, r2⟩
      · rw [mw_rn e]
        have := i5 k hk
        by_cases e3 : k < i
        · rw [if_pos e3] at this
          rw [if_pos (by omega)]
          exact this
        · rw [if_neg e3] at this
          rw [if_neg (by omega)]
          exact this⟩
    refine ⟨M', ?_, e2⟩
    show f_X9_asks_16b _ _ _ _ _ _ = _
    unfold f_X9_asks_16b f_X9_asks_58
    rw [en, if_neg (it_go hi (by omega)), if_pos (it_in hi (by omega) (by rw [i1])), nI_clamp (by omega), if_pos hi, if_pos hi, hp, r1, nI_1]
    by_cases e : has c q i = b
    · rw [if_pos (by rw [e]), if_pos ⟨hi, by decide, by decide⟩, show (1 : Int32).toNatClampNeg = 1 from rfl, Int32.add_zero]
      rw [show cf2 (fun k => has c q k != b) cf i = cf i from if_neg (show ¬ (has c q i != b) = true by rw [e]; cases b <;> decide)] at e1
      exact e1
    · rw [if_neg (fun f => e (qb_e.mp f)), if_pos ⟨hi, by decide, by decide⟩, show (1 : Int32).toNatClampNeg = 1 from rfl, nI_1]
      rw [show cf2 (fun k => has c q k != b) cf i = cf i + 1 from if_pos (show (has c q i != b) = true by revert e; cases has c q i <;> cases b <;> simp)] at e1
      exact e1
theorem A_asks (hC : RCs S M P N c cf de) (hT : RTs S M N cf de A B B' H Z) (hk : M.1 7 ≠ 45) (hA : A < 40) {q : Nat} (hq : q < P) : ∃ (b : Bool) (S' : CS) (M' : MS) (cf' : Nat → Nat) (Z' : Nat),
    f_X5_answer (nI q) S = some (b, S') ∧ f_X9_asks (nI q) M = some (b, M') ∧ Fr [1, 9] S S' ∧ Mr [3, 4, 6] [0] M M' ∧ RCs S' M' P N c cf' de ∧ RTs S' M' N cf' de (A + 1) B B' H Z' := by
  have hP := hC.1.2.1
  have hN := hC.1.2.2
  obtain ⟨b, S1, M1, Z1, a1, a2, a3, a4, a5, a6, a7, a8⟩ := A_ans hC hT hk hq
  obtain ⟨t1, t2, t3, t4, t5, t6, t7, t8, t9, t10, t11, t12, t13, t14, t15, t16, t17, t18⟩ := id hT
  obtain ⟨d0, d1, d2, d3, d4, d5, d6, d7, d8, d9, d10, d11, d12, d13⟩ := id hC
  obtain ⟨u, n1, n2, n3⟩ := x_note (S := S1) (N := N) (g := fun k => has c q k != b) (cf := cf) (de := de) hN (by rw [a3.1 2 (by decide)]; exact d2) (by rw [a3.1 9 (by decide)]; exact d10) (fun k hk => by have := d11 k hk; omega)
  obtain ⟨M', m1, m2, m3, m4, m5⟩ := m_asks (M1 := M1) (c := c) (cf := cf) (de := de) (q := q) hN (by omega) (by rw [(a4.2.1 0 (by decide)).1]; exact d4) (fun k hk => by rw [(a4.2.1 0 (by decide)).2]; exact d8 k hk) (fun k hk => hC.c64 hk) (fun k hk => by rw [(a4.2.1 0 (by decide)).2]; exact d12 k hk) (fun k hk => by rw [(a4.2.1 0 (by decide)).2]; exact d13 k hk) b
  have u1 : ∀ j, u.1 1 j = S1.1 1 j := fun j => by rw [n2.1 1 (by decide)]
  have fS : Fr [1, 9] S (cset u 1 6 (u.1 1 6 + 1)) := (a3.mono (by decide)).trans ((n2.mono (by decide)).trans (Fr.cset (by decide)))
  have s1 : ∀ j, j ≠ 5 → j ≠ 6 → j ≠ 7 → (cset u 1 6 (u.1 1 6 + 1)).1 1 j = S.1 1 j := fun j h5 h6 h7 => by rw [cs_k h6, u1, a5 j h5 h7]
  have mM : Mr [3, 4, 6] [0] M M' := Mr.trans ⟨fun s hs hj => a4.1 s hs (fun e => hj (by simp at e; simp [e])), fun j hj => a4.2.1 j (by simp), a4.2.2⟩ ⟨fun s hs hj => m2.1 s hs (fun e => hj (by simp at e; simp [e])), m2.2.1, m2.2.2⟩
  have cg : ∀ k, k < N → cf2 (fun k => has c q k != b) cf k ≤ A + 1 := fun k hk => by
    have := t13 k hk
    unfold cf2
    split <;> omega
  have M7 : M'.1 7 = M.1 7 := mM.1 7 (by decide) (by decide)
  refine ⟨b, cset u 1 6 (u.1 1 6 + 1), M', cf2 (fun k => has c q k != b) cf, Z1, ?_, ?_, fS, mM, ?_, ?_⟩
  · rw [a1, n1]
    rfl
  · unfold f_X9_asks
    rw [a2]
    exact m1
  · refine ⟨d0, ?_, ?_, ?_, m4, d5, d6, ?_, fun k hk => (m5 k hk).1, ?_, ?_, fun k hk => by have := cg k hk; omega, fun k hk => (m5 k hk).2.1, fun k hk => (m5 k hk).2.2⟩
    · rw [fS.1 2 (by decide)]; exact d1
    · rw [fS.1 2 (by decide)]; exact d2
    · rw [mM.1 2 (by decide) (by decide)]; exact d3
    · rw [fS.1 10 (by decide)]; exact d7
    · rw [fS.1 11 (by decide)]; exact d9
    · rw [cs_n (by decide : (9 : Nat) ≠ 1)]; exact n3
  · refine ⟨?_, ?_, ?_, by omega, ?_, ?_, t7, ?_, t9, ?_, ?_, ?_, cg, ?_, ?_, ?_, ?_, ?_⟩
    · rw [cs_k (by decide), u1, a6, m2.1 6 (by decide) (by decide)]
    · rw [cs_s, u1, a5 6 (by decide) (by decide), t2, nI_1]
    · rw [m3, a4.1 3 (by decide) (by decide), t3, nI_1]
    · rw [s1 2 (by decide) (by decide) (by decide), M7]; exact t5
    · rw [s1 4 (by decide) (by decide) (by decide)]; exact t6
    · rw [mM.1 5 (by decide) (by decide)]; exact t8
    · rw [M7]; exact t10
    · rw [M7]; exact fun e => absurd e hk
    · exact fun e => absurd e (by omega)
    · rw [M7]; exact t14
    · rw [M7]; exact t15
    · rw [M7, s1 3 (by decide) (by decide) (by decide), mM.1 8 (by decide) (by decide)]; exact t16
    · rw [M7]
      intro e
      refine ⟨(t17 e).1, ?_⟩
      unfold cf2
      exact (if_neg (show ¬ (has c q H != b) = true by rw [a7 e]; cases has c q H <;> decide)).trans (t17 e).2
    · rw [M7]
      intro e
      obtain ⟨z1, z2, z3, z4⟩ := a8 e
      refine ⟨by rw [cs_k (by decide), u1]; exact z1, by rw [m2.1 4 (by decide) (by decide)]; exact z2, z3, ?_⟩
      rw [z4]
      unfold cf2
      have := (t18 e).2.2.2
      split <;> omega
theorem isSetC {P : Nat} (hP : P ≤ 6) (h : S.1 2 2 = nI P) (a : Int32) : q_b (f_X1_isSet S a) = 0 ↔ ¬ ∃ m, m < 2 ^ P ∧ a = nI m := by
  unfold f_X1_isSet
  rw [h]
  by_cases c : (a >>> (nI P &&& 31)) = 0
  · rw [if_pos c]
    exact ⟨fun e => absurd e (by decide), fun e => absurd ((shr0 (by omega)).mp c) e⟩
  · rw [if_neg c]
    exact ⟨fun _ e => c ((shr0 (by omega)).mpr e), fun _ => by decide⟩
theorem isSetM {P : Nat} (hP : P ≤ 6) (h : M.1 2 = nI P) (a : Int32) : ∃ b, f_X9_isSet M a = some b ∧ (q_b b = 0 ↔ ¬ ∃ m, m < 2 ^ P ∧ a = nI m) := by
  unfold f_X9_isSet
  refine ⟨_, rfl, ?_⟩
  have hp : 2 ^ P ≤ 64 := Nat.pow_le_pow_right (n := 2) (by decide) hP
  have hp1 := Nat.two_pow_pos P
  rw [h, nI_ones P (by omega), show (0 : Int64) = (0 : Int32).toInt64 from rfl, isB, qb_0, Bool.and_eq_false_iff, decide_eq_false_iff_not, decide_eq_false_iff_not]
  constructor
  · rintro h ⟨m, hm, rfl⟩
    rcases h with h | h
    · exact h (nI_pos' (by omega))
    · exact h (nI_le (by omega) (by omega))
  · intro h
    by_cases c : (0 : Int32) ≤ a
    · right
      intro c2
      obtain ⟨j, hj, e⟩ := nI_of (i32_lt.mpr c)
      subst e
      exact h ⟨j, by have := (nI_leI hj (by omega)).mp c2; omega, rfl⟩
    · exact Or.inl c
theorem isThere : q_b (f_X5_isThere S) = 0 ↔ S.1 1 2 = 45 := by
  unfold f_X5_isThere
  by_cases c : S.1 1 2 = 45
  · rw [if_pos c]; exact ⟨fun _ => c, fun _ => by decide⟩
  · rw [if_neg c]; exact ⟨fun e => absurd e (by decide), fun e => absurd e c⟩
theorem T_ask (h : RelC S M) (a : Int32) (fo : Nat → Int64) : TB (f_L_ask S a fo) fo (f_X9_ask a M) (fun S' M' => RelC S' M' ∧ Fr [1, 9] S S' ∧ Mr [0, 3, 4, 6] [0] M M') := by
  have hR := h
  obtain ⟨P, N, c, cf, de, A, B, B', H, Z, hC, hT⟩ := h
  have hp := isPt hC.1.2.1 hC.2.1 a
  have t45 : S.1 1 2 = M.1 7 := hT.2.2.2.2.1
  have e48 : ∀ v : Int32, ¬ v ≤ 0 → f_X9_ask_48 a v M = some (false, mset M 0 v) := fun v hv => by
    unfold f_X9_ask_48
    rw [isWr, decide_eq_false hv]
    rfl
  by_cases c1 : a < 0 ∨ nI P ≤ a
  · refine TB.ex (code := 1) (r := false) (S := S) (M := M) (by decide) ?_ ?_ ⟨hR.m0 1, Fr.refl S, Mr.mset (by decide)⟩
    · unfold f_L_ask f_X8_ask
      rw [if_pos (hp.1.mpr c1)]
      rfl
    · unfold f_X9_ask
      rw [hC.2.2.2.1, if_pos (hp.2.mpr c1), e48 1 (by decide)]
  · by_cases c2 : M.1 7 = 45
    · refine TB.ex (code := 2) (r := false) (S := S) (M := M) (by decide) ?_ ?_ ⟨hR.m0 2, Fr.refl S, Mr.mset (by decide)⟩
      · unfold f_L_ask f_X8_ask
        rw [if_neg (fun e => c1 (hp.1.mp e)), if_pos (isThere.mpr (t45.trans c2))]
        rfl
      · unfold f_X9_ask
        rw [hC.2.2.2.1, if_neg (fun e => c1 (hp.2.mp e)), if_pos c2, e48 2 (by decide)]
    · have a40 : S.1 1 6 < 40 ↔ A < 40 := by rw [hT.2.1]; exact nI_ltI (b := 40) (by have := hT.2.2.2.1; omega) (by decide)
      have m40 : M.1 3 = 40 ↔ A = 40 := by rw [hT.2.2.1]; exact nI_eq (b := 40) (by have := hT.2.2.2.1; omega) (by decide)
      by_cases c3 : A < 40
      · obtain ⟨q, hq, rfl⟩ := btw hC.P31 (fun e => c1 (Or.inl e)) (fun e => c1 (Or.inr e))
        obtain ⟨b, S', M', cf', Z', g1, g2, g3, g4, g5, g6⟩ := A_asks (M := mset M 0 0) (hC : RCs S (mset M 0 0) P N c cf de) (show RTs S (mset M 0 0) N cf de A B B' H Z from hT) c2 c3 hq
        refine TB.ok (r := b) (S := S') (M := M') ?_ ?_ ?_ ⟨⟨P, N, c, cf', de, A + 1, B, B', H, Z', g5, g6⟩, g3, ?_⟩
        · unfold f_L_ask f_X8_ask
          rw [if_neg (fun e => c1 (hp.1.mp e)), if_neg (fun e => c2 (t45.symm.trans (isThere.mp e))), if_pos (a40.mpr c3), g1]
          simp only [Option.bind_some, if_true]
          rw [qbz]
        · unfold f_X9_ask f_X9_ask_48
          rw [hC.2.2.2.1, if_neg (fun e => c1 (hp.2.mp e)), if_neg c2, if_neg (fun e => by have := m40.mp e; omega), isWr]
          simp only [Option.bind_some]
          rw [if_pos (by decide), g2]
          simp only [Option.bind_some]
          cases b
          · rw [if_pos (by decide)]
          · rw [if_neg (by decide)]
        · rw [g4.1 0 (by decide) (by decide), ms_s]
        · exact Mr.trans (Mr.mset (by decide)) ⟨fun s hs hj => g4.1 s hs (fun e => hj (by simp at e; simp [e])), g4.2.1, g4.2.2⟩
      · refine TB.ex (code := 3) (r := false) (S := S) (M := M) (by decide) ?_ ?_ ⟨hR.m0 3, Fr.refl S, Mr.mset (by decide)⟩
        · unfold f_L_ask f_X8_ask
          rw [if_neg (fun e => c1 (hp.1.mp e)), if_neg (fun e => c2 (t45.symm.trans (isThere.mp e))), if_neg (fun e => c3 (a40.mp e))]
          rfl
        · unfold f_X9_ask
          rw [hC.2.2.2.1, if_neg (fun e => c1 (hp.2.mp e)), if_neg c2, if_pos (m40.mpr (by have := hT.2.2.2.1; omega)), e48 3 (by decide)]
end PAK
