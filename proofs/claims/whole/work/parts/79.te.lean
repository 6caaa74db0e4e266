section PTE
variable {S : CS} {M : MS} {P N A B B' H Z : Nat} {c cf : Nat → Nat} {de : Nat → Bool}
theorem m_anew {M1 : MS} {v : Bool} (hN : N ≤ 24) (hn : M1.2.1 0 = N) : ∃ M' : MS, f_X9_teach_161 1000 (q_b v) 0 (M1.1 20) M1 = some (v, M') ∧ Mr [] [0] M1 M' ∧ M'.2.1 0 = N ∧ ∀ k, k < N → M'.2.2.1 0 k 0 = M1.2.2.1 0 k 0 ∧ M'.2.2.1 0 k 1 = 0 ∧ M'.2.2.1 0 k 2 = 0 := by
  have h := pu_forS (W := fun n i s => ∃ M' : MS, f_X9_teach_161 n (q_b v) (nI i) (M1.1 20) s = some (v, M') ∧ Mr [] [0] M1 M' ∧ M'.2.1 0 = N ∧ ∀ k, k < N → M'.2.2.1 0 k 0 = M1.2.2.1 0 k 0 ∧ M'.2.2.1 0 k 1 = 0 ∧ M'.2.2.1 0 k 2 = 0)
    (I := fun i s => s.1 = M1.1 ∧ s.2.1 = M1.2.1 ∧ s.2.2.2 = M1.2.2.2 ∧ (∀ j, j ∉ [0] → s.2.2.1 j = M1.2.2.1 j) ∧ ∀ k, k < N → s.2.2.1 0 k 0 = M1.2.2.1 0 k 0 ∧ (k < i → s.2.2.1 0 k 1 = 0 ∧ s.2.2.1 0 k 2 = 0)) N (fun n s hi => ?_) (fun n i s hi hI ih => ?_) N 1000 0 M1 (Nat.zero_add N) (by omega) ⟨rfl, rfl, rfl, fun _ _ => rfl, fun k hk => ⟨rfl, fun e => absurd e (Nat.not_lt_zero k)⟩⟩
  · exact h
  · obtain ⟨i1, i2, i3, i4, i5⟩ := hi
    refine ⟨s, ?_, ⟨fun j _ _ => by rw [i1], fun j hj => ⟨by rw [i2], i4 j hj⟩, i3⟩, by rw [i2, hn], fun k hk => ⟨(i5 k hk).1, (i5 k hk).2 hk⟩⟩
    show f_X9_teach_161b _ _ _ _ _ = _
    unfold f_X9_teach_161b
    rw [show s.2.1 0 = N by rw [i2, hn], if_pos it_end]
    cases v <;> rfl
  · obtain ⟨i1, i2, i3, i4, i5⟩ := hI
    have en : s.2.1 0 = N := by rw [i2, hn]
    obtain ⟨M', e1, e2⟩ := ih (mrow (mrow s 0 i 1 0) 0 i 2 0) ⟨i1, i2, i3, fun j hj => by rw [← i4 j hj]; exact (nup_n (fun e => hj (by simp [e]))).trans (nup_n (fun e => hj (by simp [e]))), fun k hk => by
      by_cases e : k = i
      · subst e
        rw [mw_rs, mw_rs, pk_un (by decide), pk_un (by decide), pk_un (by decide), pk_us, pk_us]
        exact ⟨(i5 k hk).1, fun _ => ⟨rfl, rfl⟩⟩
      · rw [mw_rn e, mw_rn e]
        exact ⟨(i5 k hk).1, fun e3 => (i5 k hk).2 (by omega)⟩⟩
    refine ⟨M', ?_, e2⟩
    show f_X9_teach_161b _ _ _ _ _ = _
    unfold f_X9_teach_161b
    rw [en, if_neg (it_go hi (by omega)), if_pos (it_in hi (by omega) (by rw [i1])), nI_clamp (by omega), if_pos hi]
    rw [show (mrow s 0 i 1 0).2.1 0 = N from en, if_pos hi, nI_1]
    exact e1
def tcode (a1 a2 a3 : Int32) (N : Nat) : Int32 := if ¬ (a1 = 104 ∨ a1 = 108 ∨ a1 = 97) then 1 else if a1 = 108 ∧ ¬ (0 ≤ a3 ∧ a3 ≤ 2) then 1 else if a1 ≠ 97 ∧ (a2 < 0 ∨ nI N ≤ a2) then 2 else if N = 0 then 3 else 0
theorem m_tcode (a1 a2 a3 : Int32) (M : MS) : f_X9_teach a1 a2 a3 M = f_X9_teach_91 a1 a2 a3 (tcode a1 a2 a3 (M.2.1 0)) M := by
  have hB : f_X9_isBetween a3.toInt64 0 2 = (decide (0 ≤ a3) && decide (a3 ≤ 2)) := isB (lo := 0) (hi := 2)
  have e74 : f_X9_teach_74 a1 a2 a3 M = f_X9_teach_91 a1 a2 a3 (if M.2.1 0 = 0 then 3 else 0) M := by
    unfold f_X9_teach_74
    by_cases c : M.2.1 0 = 0
    · rw [decide_eq_true c, if_neg (by decide), if_pos c]
    · rw [decide_eq_false c, if_pos (by decide), if_neg c]
  have e53 : f_X9_teach_53 a1 a2 a3 M = f_X9_teach_91 a1 a2 a3 (if a1 ≠ 97 ∧ (a2 < 0 ∨ nI (M.2.1 0) ≤ a2) then 2 else if M.2.1 0 = 0 then 3 else 0) M := by
    unfold f_X9_teach_53
    by_cases c : a1 = 97
    · rw [if_pos c, if_neg (fun e => e.1 c), e74]
    · rw [if_neg c]
      unfold f_X9_isOf_0
      by_cases c1 : a2 < 0
      · rw [if_pos c1, if_pos ⟨c, Or.inl c1⟩]
        rfl
      · by_cases c2 : nI (M.2.1 0) ≤ a2
        · rw [if_neg c1, if_pos c2, if_pos ⟨c, Or.inr c2⟩]
          rfl
        · rw [if_neg c1, if_neg c2, if_neg (fun e => e.2.elim c1 c2)]
          simp only [Option.bind_some]
          rw [if_neg (by decide), e74]
  have e18 : (a1 = 104 ∨ a1 = 108 ∨ a1 = 97) → f_X9_teach_18 a1 a2 a3 M = f_X9_teach_91 a1 a2 a3 (tcode a1 a2 a3 (M.2.1 0)) M := by
    intro hk
    unfold f_X9_teach_18 f_X9_teach_23 tcode f_X9_teach_49
    rw [if_neg (by decide), if_neg (show ¬ ¬ (a1 = 104 ∨ a1 = 108 ∨ a1 = 97) from fun e => e hk), hB]
    by_cases c : a1 = 108
    · rw [if_pos c]
      by_cases c2 : 0 ≤ a3 ∧ a3 ≤ 2
      · rw [decide_eq_true c2.1, decide_eq_true c2.2, if_neg (by decide), if_neg (fun e => e.2 c2), e53]
      · rw [if_pos (qb_0.mpr (by rcases Decidable.not_and_iff_or_not.mp c2 with c | c <;> simp [c])), if_pos ⟨c, c2⟩]
    · rw [if_neg c, if_neg (fun e => c e.1), e53]
  unfold f_X9_teach
  by_cases c1 : a1 = 104
  · rw [if_pos c1]; exact e18 (Or.inl c1)
  · by_cases c2 : a1 = 108
    · rw [if_neg c1, if_pos c2]; exact e18 (Or.inr (Or.inl c2))
    · by_cases c3 : a1 = 97
      · rw [if_neg c1, if_neg c2, if_pos c3]; exact e18 (Or.inr (Or.inr c3))
      · rw [if_neg c1, if_neg c2, if_neg c3]
        unfold f_X9_teach_23 f_X9_teach_49 tcode
        rw [if_pos rfl, if_pos (fun e => e.elim c1 (fun e => e.elim c2 c3))]
theorem x_tcode {S : CS} (a1 a2 a3 : Int32) {N : Nat} (hN : N ≤ 24) (h3 : S.1 2 3 = nI N) (fo : Nat → Int64) : f_L_teach S a1 a2 a3 fo = (if tcode a1 a2 a3 N = 0 then ((f_X5_come a1 a2 a3 S).bind fun u5 => some (0, vp_updL fo 0 (if f_X5_isThere S then 1 else 0), u5)) else some (tcode a1 a2 a3 N, fo, S)) := by
  have z0 : S.1 2 3 = 0 ↔ N = 0 := by rw [h3]; exact nI_0iff (by omega)
  have e69 : f_X8_teach_69 a1 a2 a3 S = (if N = 0 then some ((2, false), S) else ((f_X5_come a1 a2 a3 S).bind fun u5 => some ((0, f_X5_isThere S), u5))) := by
    unfold f_X8_teach_69
    by_cases c : N = 0
    · rw [if_pos (z0.mpr c), if_pos c]
    · rw [if_neg (fun e => c (z0.mp e)), if_neg c]
  have e42 : f_X8_teach_42 a1 a2 a3 S = (if a1 ≠ 97 ∧ (a2 < 0 ∨ nI N ≤ a2) then some ((4, false), S) else if N = 0 then some ((2, false), S) else ((f_X5_come a1 a2 a3 S).bind fun u5 => some ((0, f_X5_isThere S), u5))) := by
    unfold f_X8_teach_42
    by_cases c : a1 = 97
    · rw [if_pos c, if_neg (fun e => e.1 c), e69]
    · rw [if_neg c]
      by_cases c2 : a2 < 0 ∨ nI N ≤ a2
      · rw [if_pos ((isNum h3 a2).mpr c2), if_pos ⟨c, c2⟩]
      · rw [if_neg (fun e => c2 ((isNum h3 a2).mp e)), if_neg (fun e => c2 e.2), e69]
  have ek : q_b (f_X5_isKind a1) = 0 ↔ ¬ (a1 = 104 ∨ a1 = 108 ∨ a1 = 97) := by
    unfold f_X5_isKind f_X5_isKind_18
    by_cases c1 : a1 = 104
    · rw [if_pos c1]; exact ⟨fun e => absurd e (by decide), fun e => absurd (Or.inl c1) e⟩
    · by_cases c2 : a1 = 108
      · rw [if_neg c1, if_pos c2]; exact ⟨fun e => absurd e (by decide), fun e => absurd (Or.inr (Or.inl c2)) e⟩
      · by_cases c3 : a1 = 97
        · rw [if_neg c1, if_neg c2, if_pos c3]; exact ⟨fun e => absurd e (by decide), fun e => absurd (Or.inr (Or.inr c3)) e⟩
        · rw [if_neg c1, if_neg c2, if_neg c3]; exact ⟨fun _ e => e.elim c1 (fun e => e.elim c2 c3), fun _ => by decide⟩
  have fin : f_X8_teach_42 a1 a2 a3 S = (if a1 ≠ 97 ∧ (a2 < 0 ∨ nI N ≤ a2) then some ((4, false), S) else if N = 0 then some ((2, false), S) else ((f_X5_come a1 a2 a3 S).bind fun u5 => some ((0, f_X5_isThere S), u5))) → (f_X8_teach_42 a1 a2 a3 S).bind (fun u => (if u.1.1 = 0 then some ((0 : Int32), vp_updL fo 0 (if q_b u.1.2 = 0 then (0 : Int64) else 1), u.2) else (if u.1.1 = 1 then some ((1 : Int32), fo, u.2) else (if u.1.1 = 4 then some ((2 : Int32), fo, u.2) else (if u.1.1 = 2 then some ((3 : Int32), fo, u.2) else none))))) = (if (if a1 ≠ 97 ∧ (a2 < 0 ∨ nI N ≤ a2) then (2 : Int32) else if N = 0 then 3 else 0) = 0 then ((f_X5_come a1 a2 a3 S).bind fun u5 => some (0, vp_updL fo 0 (if f_X5_isThere S then 1 else 0), u5)) else some ((if a1 ≠ 97 ∧ (a2 < 0 ∨ nI N ≤ a2) then (2 : Int32) else if N = 0 then 3 else 0), fo, S)) := by
    intro e
    rw [e]
    by_cases c : a1 ≠ 97 ∧ (a2 < 0 ∨ nI N ≤ a2)
    · rw [if_pos c, if_pos c, if_neg (by decide)]
      rfl
    · rw [if_neg c, if_neg c]
      by_cases c2 : N = 0
      · rw [if_pos c2, if_pos c2, if_neg (by decide)]
        rfl
      · rw [if_neg c2, if_neg c2, if_pos rfl]
        cases f_X5_come a1 a2 a3 S with
        | none => rfl
        | some u => 
          simp only [Option.bind_some, if_true]
          rw [qbz]
  unfold f_L_teach f_X8_teach tcode
  by_cases hk : a1 = 104 ∨ a1 = 108 ∨ a1 = 97
  · rw [if_neg (fun e => ek.mp e hk), if_neg (show ¬ ¬ (a1 = 104 ∨ a1 = 108 ∨ a1 = 97) from fun e => e hk)]
    by_cases c : a1 = 108
    · rw [if_pos c]
      by_cases c2 : 0 ≤ a3 ∧ a3 ≤ 2
      · rw [if_neg (i32_lt.mpr c2.1), if_pos c2.2, if_neg (show ¬ (a1 = 108 ∧ ¬ (0 ≤ a3 ∧ a3 ≤ 2)) from fun e => e.2 c2)]
        exact fin e42
      · rw [if_pos (show a1 = 108 ∧ ¬ (0 ≤ a3 ∧ a3 ≤ 2) from ⟨c, c2⟩), if_neg (show ¬ (1 : Int32) = 0 by decide)]
        unfold f_X8_teach_32
        by_cases c3 : a3 < 0
        · rw [if_pos c3]; rfl
        · rw [if_neg c3, if_neg (fun e => c2 ⟨i32_lt.mp c3, e⟩)]; rfl
    · rw [if_neg c, if_neg (show ¬ (a1 = 108 ∧ ¬ (0 ≤ a3 ∧ a3 ≤ 2)) from fun e => c e.1)]
      exact fin e42
  · rw [if_pos (ek.mpr hk), if_pos hk, if_neg (by decide)]
    rfl
theorem T_teach (h : RelC S M) (a1 a2 a3 : Int32) (fo : Nat → Int64) : TB (f_L_teach S a1 a2 a3 fo) fo (f_X9_teach a1 a2 a3 M) (fun S' M' => RelC S' M' ∧ Fr [1, 9] S S' ∧ Mr [0, 3, 4, 5, 7, 8] [0] M M') := by
  have hR := h
  obtain ⟨P, N, c, cf, de, A, B, B', H, Z, hC, hT⟩ := h
  have hN := hC.1.2.2
  have xt := x_tcode a1 a2 a3 hN hC.2.2.1 fo
  have mt := m_tcode a1 a2 a3 M
  rw [hC.mN] at mt
  by_cases c0 : tcode a1 a2 a3 N = 0
  · have hk : a1 = 104 ∨ a1 = 108 ∨ a1 = 97 := by
      refine Decidable.byContradiction (fun e => ?_)
      unfold tcode at c0
      rw [if_pos e] at c0
      exact absurd c0 (by decide)
    have hb : a1 = 108 → 0 ≤ a3 ∧ a3 ≤ 2 := by
      intro e
      refine Decidable.byContradiction (fun f => ?_)
      unfold tcode at c0
      rw [if_neg (show ¬ ¬ (a1 = 104 ∨ a1 = 108 ∨ a1 = 97) from fun e => e hk), if_pos ⟨e, f⟩] at c0
      exact absurd c0 (by decide)
    have hi : a1 ≠ 97 → ¬ (a2 < 0 ∨ nI N ≤ a2) := by
      intro e f
      unfold tcode at c0
      rw [if_neg (show ¬ ¬ (a1 = 104 ∨ a1 = 108 ∨ a1 = 97) from fun e => e hk), if_neg (fun g => g.2 (hb g.1)), if_pos ⟨e, f⟩] at c0
      exact absurd c0 (by decide)
    have h0 : N ≠ 0 := by
      intro e
      unfold tcode at c0
      rw [if_neg (show ¬ ¬ (a1 = 104 ∨ a1 = 108 ∨ a1 = 97) from fun e => e hk), if_neg (fun g => g.2 (hb g.1)), if_neg (fun g => hi g.1 g.2), if_pos e] at c0
      exact absurd c0 (by decide)
    have hch : q_ch a1 := by rcases hk with e | e | e <;> subst e <;> decide
    have n45 : a1 ≠ 45 := by rcases hk with e | e | e <;> subst e <;> decide
    obtain ⟨S', r1, r2, r3, r4, r5, r6, r7, r8, r9⟩ := x_come (S := S) (a1 := a1) (a2 := a2) (a3 := a3) hch
    obtain ⟨t1, t2, t3, t4, t5, t6, t7, t8, t9, t10, t11, t12, t13, t14, t15, t16, t17, t18⟩ := id hT
    obtain ⟨d0, d1, d2, d3, d4, d5, d6, d7, d8, d9, d10, d11, d12, d13⟩ := id hC
    obtain ⟨bud, hbud, hb2⟩ : ∃ bud : Nat, (if a1 = 108 then a3 else 0) = nI bud ∧ bud ≤ 2 := by
      by_cases e : a1 = 108
      · rw [if_pos e]
        obtain ⟨k, _, h2, h3⟩ := rng16 (lo := 0) (hi := 2) (m := 0) (n := 2) rfl rfl (by decide) (by decide) (i32_lt.mpr (hb e).1) (hb e).2
        exact ⟨k, h3, h2⟩
      · rw [if_neg e]; exact ⟨0, rfl, by decide⟩
    obtain ⟨M1, hM1⟩ : ∃ M1, M1 = mset (mset (mset (mset (mset (mset M 0 0) 7 a1) 8 a2) 5 (nI bud)) 3 0) 4 0 := ⟨_, rfl⟩
    have mM1 : Mr [0, 3, 4, 5, 7, 8] [0] M M1 := by
      rw [hM1]
      exact (Mr.mset (by decide)).trans ((Mr.mset (by decide)).trans ((Mr.mset (by decide)).trans ((Mr.mset (by decide)).trans ((Mr.mset (by decide)).trans (Mr.mset (by decide))))))
    obtain ⟨M', m1, m2, m3, m4⟩ := m_anew (M1 := M1) (v := f_X5_isThere S) hN (by rw [hM1]; exact d4)
    have g : ∀ s, s < 20 → M'.1 s = M1.1 s := fun s hs => m2.1 s hs (by simp)
    have v7 : M'.1 7 = a1 := by rw [g 7 (by decide), hM1, ms_n (by decide), ms_n (by decide), ms_n (by decide), ms_n (by decide), ms_s]
    have v8 : M'.1 8 = a2 := by rw [g 8 (by decide), hM1, ms_n (by decide), ms_n (by decide), ms_n (by decide), ms_s]
    have v5 : M'.1 5 = nI bud := by rw [g 5 (by decide), hM1, ms_n (by decide), ms_n (by decide), ms_s]
    have v3 : M'.1 3 = 0 := by rw [g 3 (by decide), hM1, ms_n (by decide), ms_s]
    have v4 : M'.1 4 = 0 := by rw [g 4 (by decide), hM1, ms_s]
    have v0 : M'.1 0 = 0 := by rw [g 0 (by decide), hM1, ms_n (by decide), ms_n (by decide), ms_n (by decide), ms_n (by decide), ms_n (by decide), ms_s]
    have mM : Mr [0, 3, 4, 5, 7, 8] [0] M M' := mM1.trans ⟨fun s hs _ => g s hs, m2.2.1, m2.2.2⟩
    have hH : ∃ h : Nat, a1 = 104 ∨ a1 = 108 → a2 = nI h ∧ h < N := by
      by_cases e : a1 = 97
      · exact ⟨0, fun f => by subst e; rcases f with f | f <;> exact absurd f (by decide)⟩
      · obtain ⟨k, hk, hk2⟩ := btw hC.N31 (fun f => hi e (Or.inl f)) (fun f => hi e (Or.inr f))
        exact ⟨k, fun _ => ⟨hk2, hk⟩⟩
    obtain ⟨h, hh⟩ := hH
    refine TB.ok (r := f_X5_isThere S) (S := S') (M := M') ?_ ?_ v0 ⟨⟨P, N, c, fun _ => 0, fun _ => false, 0, bud, bud, h, 0, ?_, ?_⟩, r2, mM⟩
    · rw [xt, if_pos c0, r1]
      rfl
    · rw [mt, c0]
      unfold f_X9_teach_91
      rw [isWr]
      simp only [Option.bind_some]
      rw [if_pos (by decide), show (mset M 0 0).1 7 = M.1 7 from ms_n (by decide), ← t5]
      have go : f_X9_teach_113 a1 a2 a3 (q_b (f_X5_isThere S)) (mset M 0 0) = some (f_X5_isThere S, M') := by
        unfold f_X9_teach_113 f_X9_teach_137
        rw [if_pos hch]
        have e : (if a1 = 108 then f_X9_teach_161 1000 (q_b (f_X5_isThere S)) 0 ((mset (mset (mset (mset (mset (mset M 0 0) 7 a1) 8 a2) 5 a3) 3 0) 4 0).1 20) (mset (mset (mset (mset (mset (mset M 0 0) 7 a1) 8 a2) 5 a3) 3 0) 4 0) else f_X9_teach_161 1000 (q_b (f_X5_isThere S)) 0 ((mset (mset (mset (mset (mset (mset M 0 0) 7 a1) 8 a2) 5 0) 3 0) 4 0).1 20) (mset (mset (mset (mset (mset (mset M 0 0) 7 a1) 8 a2) 5 0) 3 0) 4 0)) = f_X9_teach_161 1000 (q_b (f_X5_isThere S)) 0 (M1.1 20) M1 := by
          rw [hM1, ← hbud]
          by_cases e : a1 = 108
          · rw [if_pos e, if_pos e]
          · rw [if_neg e, if_neg e]
        exact e.trans m1
      by_cases e : S.1 1 2 = 45
      · rw [if_pos e]
        have : f_X5_isThere S = false := by unfold f_X5_isThere; rw [if_pos e]
        rw [this] at go ⊢
        exact go
      · rw [if_neg e]
        have : f_X5_isThere S = true := by unfold f_X5_isThere; rw [if_neg e]
        rw [this] at go ⊢
        exact go
    · refine ⟨d0, ?_, ?_, ?_, m3, d5, d6, ?_, fun k hk => ?_, ?_, fun k hk => ?_, fun k hk => (show (0 : Nat) < 100 by decide), fun k hk => (m4 k hk).2.1, fun k hk => (m4 k hk).2.2⟩
      · rw [r2.1 2 (by decide)]; exact d1
      · rw [r2.1 2 (by decide)]; exact d2
      · rw [mM.1 2 (by decide) (by decide)]; exact d3
      · rw [r2.1 10 (by decide)]; exact d7
      · rw [(m4 k hk).1, hM1]; exact d8 k hk
      · rw [r2.1 11 (by decide)]; exact d9
      · rw [r9 k hk]
        by_cases e : k < N
        · rw [if_pos e]; rfl
        · rw [if_neg e]
    · refine ⟨?_, r7, v3, by decide, ?_, ?_, hb2, v5, hb2, fun _ => rfl, ?_, fun _ k hk => ⟨rfl, rfl⟩, fun k hk => Nat.le_refl 0, ?_, fun _ => Nat.pos_of_ne_zero h0, ?_, ?_, ?_⟩
      · rw [r8, t1, mM.1 6 (by decide) (by decide)]
      · rw [r3, v7]
      · rw [r5]; exact hbud
      · rw [v7]; exact fun e => absurd e n45
      · rw [v7]; exact Or.inr (hk.elim Or.inl (fun e => Or.inr e))
      · rw [v7, v8, r4]
        intro e
        exact ⟨(hh e).1, (hh e).1, (hh e).2, rfl⟩
      · rw [v7]
        intro e
        rw [e, if_neg (by decide)] at hbud
        exact ⟨((nI_eq (by omega) (by decide)).mp (hbud.symm.trans (show (0 : Int32) = nI 0 from rfl))), rfl⟩
      · rw [v7]
        intro e
        exact ⟨r6, v4, Nat.zero_le _, rfl⟩
  · refine TB.ex (code := tcode a1 a2 a3 N) (r := false) (S := S) (M := M) c0 ?_ ?_ ⟨hR.m0 _, Fr.refl S, Mr.mset (by decide)⟩
    · rw [xt, if_neg c0]
    · rw [mt]
      unfold f_X9_teach_91
      have e : ¬ tcode a1 a2 a3 N ≤ 0 := by
        revert c0
        unfold tcode
        split
        · intro _; decide
        · split
          · intro _; decide
          · split
            · intro _; decide
            · split
              · intro _; decide
              · intro f; exact absurd rfl f
      rw [isWr, decide_eq_false e]
      rfl
theorem low_pm {f : Nat → Bool} {n j : Nat} (hn : n ≤ 31) (hj : j < n) (h1 : f j = true) (h2 : ∀ i, i < j → f i = false) : f_X8_lowestBit (nI (pm f n)) = some (nI j) := by
  refine pu_for (fun m i => f_X8_lowestBit_2 m (nI (pm f n)) (nI i) = some (nI j)) j (fun m => ?_) (fun m i hi ih => ?_) j 1000 0 (Nat.zero_add j) (by omega)
  · show f_X8_lowestBit_2b _ _ _ = _
    unfold f_X8_lowestBit_2b
    rw [if_neg (show ¬ (32 : Int32) ≤ nI j from nI_ge (b := 32) (by omega) (by decide)), hasBit_pm hn (by omega), decide_eq_true hj, Bool.true_and, h1, if_neg (by decide)]
  · show f_X8_lowestBit_2b _ _ _ = _
    unfold f_X8_lowestBit_2b
    rw [if_neg (show ¬ (32 : Int32) ≤ nI i from nI_ge (b := 32) (by omega) (by decide)), hasBit_pm hn (by omega), decide_eq_true (by omega : i < n), Bool.true_and, h2 i hi, if_pos (by decide), nI_1]
    exact ih
theorem T_found (h : RelC S M) (fo : Nat → Int64) : TI (f_L_found S fo) fo (f_X9_found M) (fun S' M' => S' = S ∧ Mr [0] [] M M') := by
  obtain ⟨P, N, c, cf, de, A, B, B', H, Z, hC, hT⟩ := h
  have hN := hC.1.2.2
  have a1 := ctN hC (liv B cf de)
  have e1 : nI (fb_ct (liv B cf de) N) = (1 : Int32) ↔ fb_ct (liv B cf de) N = 1 := nI_eq (b := 1) (by omega) (by decide)
  by_cases d : fb_ct (liv B cf de) N = 1
  · obtain ⟨j, j1, j2, j3⟩ := fb_ct_kth (p := liv B cf de) (k := 0) (n := N) (by omega)
    have lo : ∀ i, i < j → liv B cf de i = false := fb_ct_zero.mp j3
    have hi : ∀ i, j < i → i < N → liv B cf de i = false := by
      intro i h1 h2
      refine Bool.eq_false_iff.mpr (fun e => ?_)
      have m1 := fb_ct_mono (liv B cf de) (m := j + 1) (n := i) (by omega)
      have m2 := fb_ct_mono (liv B cf de) (m := i + 1) (n := N) (by omega)
      rw [fb_ct_succ] at m1 m2
      rw [if_pos j2] at m1
      rw [if_pos e] at m2
      omega
    refine TI.ok (r := nI j) (S := S) (M := mset M 0 0) ?_ ?_ ms_s ⟨rfl, Mr.mset (by decide)⟩
    · unfold f_L_found f_X8_found
      rw [hT.cliv hC]
      simp only [Option.bind_some]
      rw [bitCount_pm _ hC.N32, if_pos (e1.mpr d), low_pm (by omega) j1 j2 lo]
      rfl
    · unfold f_X9_found f_X9_found_14
      rw [hT.mliv hC]
      simp only [Option.bind_some]
      rw [if_pos (e1.mpr d), isWr]
      simp only [Option.bind_some]
      rw [if_pos (by decide)]
      have h := pu_for0 (W := fun n i => f_X9_found_26 n (if j < i then nI j else -1) (nI i) (mset M 0 0) = some (nI j, mset M 0 0)) (e := N) (n := 1000) (by omega) (fun n => ?_) (fun n i hii ih => ?_)
      · rw [if_neg (Nat.not_lt_zero j)] at h
        exact h
      · show f_X9_found_26b _ _ _ _ = _
        unfold f_X9_found_26b
        rw [show (mset M 0 0).2.1 0 = N from hC.mN, if_pos (nI_le (Nat.le_refl N) hC.N31), if_pos j1]
      · show f_X9_found_26b _ _ _ _ = _
        unfold f_X9_found_26b f_X9_found_64
        rw [show (mset M 0 0).2.1 0 = N from hC.mN, if_neg (nI_ge hii hC.N31), if_pos (q_in_nI hii hC.N31), nI_clamp (by omega), show f_X9_lives (mset M 0 0) i = f_X9_lives M i from rfl, hC.lives hT.bB2.2 hT.bB2.1 hii, hT.leq hii]
        simp only [Option.bind_some]
        rw [nI_1]
        rcases Nat.lt_trichotomy i j with e | e | e
        · rw [lo i e, if_pos (by decide), if_neg (by omega)]
          rw [if_neg (by omega)] at ih
          exact ih
        · subst e
          rw [j2, if_neg (by decide)]
          rw [if_pos (by omega)] at ih
          exact ih
        · rw [hi i e hii, if_pos (by decide), if_pos e]
          rw [if_pos (by omega)] at ih
          exact ih
  · refine TI.ex (code := 1) (r := 0) (S := S) (M := M) (by decide) ?_ ?_ ⟨rfl, Mr.mset (by decide)⟩
    · unfold f_L_found f_X8_found
      rw [hT.cliv hC]
      simp only [Option.bind_some]
      rw [bitCount_pm _ hC.N32, if_neg (fun e => d (e1.mp e))]
      rfl
    · unfold f_X9_found f_X9_found_14
      rw [hT.mliv hC]
      simp only [Option.bind_some]
      rw [if_neg (fun e => d (e1.mp e)), isWr]
      rfl
end PTE
