/-! an answer -/
section PAS
variable {S : CS} {M : MS} {P N A B B' H Z : Nat} {c cf : Nat → Nat} {de : Nat → Bool}
def zx (z : Int32) : Int32 := ((z.toInt64 * (48271 : Int64)) - (z.toInt64 * (48271 : Int64)) / (2147483647 : Int64) * (2147483647 : Int64)).toInt32
theorem x_draw (S : CS) : f_X5_drawsLie S = (if S.1 1 2 = 108 then (if S.1 1 5 < S.1 1 4 then (if zx (S.1 1 7) - zx (S.1 1 7) / (3 : Int32) * (3 : Int32) = 0 then (true, cset (cset S 1 7 (zx (S.1 1 7))) 1 5 (S.1 1 5 + 1)) else (false, cset S 1 7 (zx (S.1 1 7)))) else (false, S)) else (false, S)) := by
  unfold f_X5_drawsLie zx
  rw [cs_s, cs_k (by decide : (5 : Nat) ≠ 7)]
theorem x_41 (hC : RCs S M P N c cf de) {S1 : CS} (e2 : S1.1 2 = S.1 2) (e11 : S1.1 11 = S.1 11) {q : Nat} (hq : q < P) (b : Bool) : f_X5_answer_41 (nI q) (q_b b) S1 = ((f_X5_noteAgainst (nI (pm (fun k => has c q k != b) N)) S1).bind fun u => some (b, cset u 1 6 (u.1 1 6 + 1))) := by
  have eh : f_X1_holding S1 (nI q) = nI (pm (has c q) N) := by
    unfold f_X1_holding
    rw [e11]
    exact hC.hold hq
  have el : f_X1_lacking S1 (nI q) = nI (pm (fun k => !has c q k) N) := by
    rw [lack_h]
    unfold f_X1_everyone
    rw [eh, e2]
    have := hC.lack hq
    rw [lack_h] at this
    unfold f_X1_everyone at this
    rw [hC.hold hq] at this
    exact this
  unfold f_X5_answer_41 f_X5_answer_66
  cases b
  · rw [if_pos (by decide), eh, show (fun k => has c q k != false) = has c q from funext fun k => by cases has c q k <;> rfl]
    congr 1
  · rw [if_neg (by decide), el, show (fun k => has c q k != true) = fun k => !has c q k from funext fun k => by cases has c q k <;> rfl]
    congr 1
theorem A_ans (hC : RCs S M P N c cf de) (hT : RTs S M N cf de A B B' H Z) (hk : M.1 7 ≠ 45) {q : Nat} (hq : q < P) : ∃ (b : Bool) (S1 : CS) (M1 : MS) (Z1 : Nat),
    f_X5_answer (nI q) S = ((f_X5_noteAgainst (nI (pm (fun k => has c q k != b) N)) S1).bind fun u => some (b, cset u 1 6 (u.1 1 6 + 1))) ∧ f_X9_answer (nI q) M = some (b, M1) ∧ Fr [1] S S1 ∧ Mr [4, 6] [] M M1 ∧ (∀ j, j ≠ 5 → j ≠ 7 → S1.1 1 j = S.1 1 j) ∧ S1.1 1 7 = M1.1 6 ∧
    (M.1 7 = 104 → b = has c q H) ∧ (M.1 7 = 108 → S1.1 1 5 = nI Z1 ∧ M1.1 4 = nI Z1 ∧ Z1 ≤ B ∧ Z1 = Z + (if has c q H != b then 1 else 0)) := by
  have hP := hC.1.2.1
  have hN := hC.1.2.2
  obtain ⟨t1, t2, t3, t4, t5, t6, t7, t8, t9, t10, t11, t12, t13, t14, t15, t16, t17, t18⟩ := id hT
  by_cases k97 : M.1 7 = 97
  · -- keeps alive
    obtain ⟨b, hb⟩ : ∃ b : Bool, b = decide (¬ 2 * fb_ct (fun k => liv B cf de k && has c q k) N < fb_ct (liv B cf de) N) := ⟨_, rfl⟩
    have a1 := ctN hC (liv B cf de)
    have a2 := ctN hC (fun k => liv B cf de k && has c q k)
    have a3 := ctN hC (fun k => liv B cf de k && !has c q k)
    have ct := ct_two (liv B cf de) (has c q) N
    refine ⟨b, S, M, Z, ?_, ?_, Fr.refl S, Mr.refl M, fun _ _ _ => rfl, t1, fun e => by rw [k97] at e; exact absurd e (by decide), fun e => by rw [k97] at e; exact absurd e (by decide)⟩
    · unfold f_X5_answer
      rw [t5, if_pos k97, hT.cliv hC]
      simp only [Option.bind_some]
      have : f_X1_isMostlyIn S (nI q) (nI (pm (liv B cf de) N)) = b := by
        unfold f_X1_isMostlyIn
        rw [hC.bcH _ hq, hC.bcL _ hq, hb]
        by_cases e : fb_ct (fun k => liv B cf de k && has c q k) N < fb_ct (fun k => liv B cf de k && !has c q k) N
        · rw [if_pos (nI_lt e (by omega)), decide_eq_false (by omega)]
        · rw [if_neg (nI_nlt (by omega) (by omega)), decide_eq_true (by omega)]
      rw [this]
      exact x_41 hC rfl rfl hq b
    · unfold f_X9_answer
      rw [if_pos k97, hT.mwith hC (by omega), hT.mliv hC]
      simp only [Option.bind_some]
      rw [show (2 : Int32) = nI 2 from rfl, pk_mul]
      by_cases e : 2 * fb_ct (fun k => liv B cf de k && has c q k) N < fb_ct (liv B cf de) N
      · rw [if_pos (nI_lt e (by omega)), hb, decide_eq_false (by omega)]
      · rw [if_neg (nI_nlt (by omega) (by omega)), hb, decide_eq_true (by omega)]
  · have hkl : M.1 7 = 104 ∨ M.1 7 = 108 := by
      rcases t14 with e | e | e | e
      · exact absurd e hk
      · exact Or.inl e
      · exact Or.inr e
      · exact absurd e k97
    obtain ⟨g1, g2, g3, g4⟩ := t16 hkl
    have eB : B' = B := t10 hk
    have hh : f_X5_hasHidden S (nI q) = has c q H := by
      unfold f_X5_hasHidden
      rw [g1, hC.setAt g3, hasBit_nI (Nat.lt_trans (hC.c64 g3) (by decide)) (by omega)]
      rfl
    have hm : f_X9_hasPoint (M.2.2.1 0 H 0) (nI q) = has c q H := hC.mhas g3 (by omega)
    have xa : f_X5_answer (nI q) S = f_X5_answer_41 (nI q) (q_b (has c q H != (f_X5_drawsLie S).1)) (f_X5_drawsLie S).2 := by
      unfold f_X5_answer
      rw [t5, if_neg k97, hh]
      by_cases e : q_b (has c q H) = q_b ((f_X5_drawsLie S).1)
      · rw [if_pos e, qb_e.mp e]
        cases (f_X5_drawsLie S).1 <;> rfl
      · rw [if_neg e]
        have e' : ¬ has c q H = (f_X5_drawsLie S).1 := fun f => e (by rw [f])
        cases h1 : has c q H <;> cases h2 : (f_X5_drawsLie S).1 <;> rw [h1, h2] at e' <;> first | exact absurd rfl e' | rfl
    have ma : f_X9_answer (nI q) M = (if M.1 7 = 104 then some (has c q H, M) else (if M.1 4 = M.1 5 then some (has c q H, M) else (if zx (M.1 6) - zx (M.1 6) / (3 : Int32) * (3 : Int32) = 0 then some (!has c q H, mset (mset M 6 (zx (M.1 6))) 4 (M.1 4 + 1)) else some (has c q H, mset M 6 (zx (M.1 6)))))) := by
      unfold f_X9_answer
      rw [if_neg k97, g2, hC.mN, if_pos (q_in_nI g3 hC.N31), nI_clamp (by omega), if_pos g3, hm, ms_s, ms_n (by decide : (4 : Nat) ≠ 6)]
      unfold zx
      congr 2
      congr 1
      cases has c q H
      · rw [if_pos (by decide)]; rfl
      · rw [if_neg (by decide)]; rfl
    rcases hkl with e104 | e108
    · refine ⟨has c q H, S, M, Z, ?_, ?_, Fr.refl S, Mr.refl M, fun _ _ _ => rfl, t1, fun _ => rfl, fun e => by rw [e104] at e; exact absurd e (by decide)⟩
      · have d : f_X5_drawsLie S = (false, S) := by rw [x_draw, t5, e104, if_neg (by decide)]
        rw [xa, d]
        have := x_41 hC rfl rfl hq (has c q H) (S1 := S)
        rw [← this]
        congr 2
        cases has c q H <;> rfl
      · rw [ma, if_pos e104]
    · obtain ⟨z1, z2, z3, z4⟩ := t18 e108
      have n104 : ¬ M.1 7 = 104 := by rw [e108]; decide
      have zb : M.1 4 = M.1 5 ↔ Z = B := by rw [z2, t8, eB, nI_eq (by omega) (by omega)]
      have zl : S.1 1 5 < S.1 1 4 ↔ Z < B := by rw [z1, t6, nI_ltI (by omega) (by omega)]
      by_cases ez : Z = B
      · refine ⟨has c q H, S, M, Z, ?_, ?_, Fr.refl S, Mr.refl M, fun _ _ _ => rfl, t1, fun _ => rfl, fun _ => ⟨z1, z2, z3, by rw [show (has c q H != has c q H) = false by cases has c q H <;> rfl]; rfl⟩⟩
        · have d : f_X5_drawsLie S = (false, S) := by rw [x_draw, t5, e108, if_pos rfl, if_neg (fun e => by have := zl.mp e; omega)]
          rw [xa, d]
          have := x_41 hC rfl rfl hq (has c q H) (S1 := S)
          rw [← this]
          congr 2
          cases has c q H <;> rfl
        · rw [ma, if_neg n104, if_pos (zb.mpr ez)]
      · by_cases e3 : zx (M.1 6) - zx (M.1 6) / (3 : Int32) * (3 : Int32) = 0
        · have d : f_X5_drawsLie S = (true, cset (cset S 1 7 (zx (M.1 6))) 1 5 (S.1 1 5 + 1)) := by
            rw [x_draw, t5, e108, if_pos rfl, if_pos (zl.mpr (by omega)), t1, if_pos e3]
          refine ⟨!has c q H, cset (cset S 1 7 (zx (M.1 6))) 1 5 (S.1 1 5 + 1), mset (mset M 6 (zx (M.1 6))) 4 (M.1 4 + 1), Z + 1, ?_, ?_, (Fr.cset (by decide)).trans (Fr.cset (by decide)), (Mr.mset (by decide)).trans (Mr.mset (by decide)), fun j h5 h7 => by rw [cs_k h5, cs_k h7], by rw [cs_k (by decide), cs_s, ms_n (by decide), ms_s], fun e => absurd e n104, fun _ => ⟨by rw [cs_s, z1, nI_1], by rw [ms_s, z2, nI_1], by omega, by rw [show (has c q H != !has c q H) = true by cases has c q H <;> rfl]; rfl⟩⟩
          · rw [xa, d]
            have := x_41 hC (S1 := cset (cset S 1 7 (zx (M.1 6))) 1 5 (S.1 1 5 + 1)) (by rw [cs_n (by decide), cs_n (by decide)]) (by rw [cs_n (by decide), cs_n (by decide)]) hq (!has c q H)
            rw [← this]
            congr 2
            cases has c q H <;> rfl
          · rw [ma, if_neg n104, if_neg (fun e => ez (zb.mp e)), if_pos e3]
        · have d : f_X5_drawsLie S = (false, cset S 1 7 (zx (M.1 6))) := by
            rw [x_draw, t5, e108, if_pos rfl, if_pos (zl.mpr (by omega)), t1, if_neg e3]
          refine ⟨has c q H, cset S 1 7 (zx (M.1 6)), mset M 6 (zx (M.1 6)), Z, ?_, ?_, Fr.cset (by decide), Mr.mset (by decide), fun j h5 h7 => cs_k h7, by rw [cs_s, ms_s], fun _ => rfl, fun _ => ⟨by rw [cs_k (by decide)]; exact z1, by rw [ms_n (by decide)]; exact z2, z3, by rw [show (has c q H != has c q H) = false by cases has c q H <;> rfl]; rfl⟩⟩
          · rw [xa, d]
            have := x_41 hC (S1 := cset S 1 7 (zx (M.1 6))) (cs_n (by decide)) (cs_n (by decide)) hq (has c q H)
            rw [← this]
            congr 2
            cases has c q H <;> rfl
          · rw [ma, if_neg n104, if_neg (fun e => ez (zb.mp e)), if_neg e3]
/-- conflicts more -/
def cf2 (g : Nat → Bool) (cf : Nat → Nat) (k : Nat) : Nat := if g k then cf k + 1 else cf k
theorem cf_step {g : Nat → Bool} {cf : Nat → Nat} {i k : Nat} (h : k ≠ i ∨ g i = false) : (if k < i then cf2 g cf k else cf k) = (if k < i + 1 then cf2 g cf k else cf k) := by
  by_cases e : k = i
  · subst e
    rw [if_neg (Nat.lt_irrefl k), if_pos (Nat.lt_succ_self k)]
    unfold cf2
    rw [if_neg (by rw [h.resolve_left (fun f => f rfl)]; decide)]
  · by_cases e3 : k < i
    · rw [if_pos e3, if_pos (show k < i + 1 by omega)]
    · rw [if_neg e3, if_neg (show ¬ k < i + 1 by omega)]
theorem x_note {S : CS} {N : Nat} {g : Nat → Bool} {cf : Nat → Nat} {de : Nat → Bool} (hN : N ≤ 24) (h3 : S.1 2 3 = nI N) (h9 : ∀ k, k < 24 → S.1 9 k = if k < N then (if de k then -1 else nI (cf k)) else 0) (hc : ∀ k, k < N → cf k < 1000) : ∃ S' : CS, f_X5_noteAgainst (nI (pm g N)) S = some S' ∧ Fr [9] S S' ∧ ∀ k, k < 24 → S'.1 9 k = if k < N then (if de k then -1 else nI (cf2 g cf k)) else 0 := by
  have h := pu_forS (W := fun n i s => ∃ S' : CS, f_X5_noteAgainst_2 n (nI (pm g N)) (nI i) s = some S' ∧ Fr [9] S S' ∧ ∀ k, k < 24 → S'.1 9 k = if k < N then (if de k then -1 else nI (cf2 g cf k)) else 0)
    (I := fun i s => Fr [9] S s ∧ ∀ k, k < 24 → s.1 9 k = if k < N then (if de k then -1 else nI (if k < i then cf2 g cf k else cf k)) else 0) N (fun n s hi => ?_) (fun n i s hi hI ih => ?_) N 1000 0 S (Nat.zero_add N) (by omega) ⟨Fr.refl S, fun k hk => by rw [if_neg (Nat.not_lt_zero k)]; exact h9 k hk⟩
  · exact h
  · refine ⟨s, ?_, hi.1, fun k hk => ?_⟩
    · show f_X5_noteAgainst_2b _ _ _ _ = _
      unfold f_X5_noteAgainst_2b
      rw [hi.1.1 2 (by decide), h3, if_pos (nI_le (Nat.le_refl N) (by omega))]
    · rw [hi.2 k hk]
      by_cases e : k < N
      · rw [if_pos e, if_pos e, if_pos e]
      · rw [if_neg e, if_neg e]
  · obtain ⟨h1, h2⟩ := hI
    have hco : f_X5_conflictsOf s (nI i) = if de i then -1 else nI (cf i) := by
      unfold f_X5_conflictsOf
      rw [q_at_nI (by omega) (by decide), h2 i (by omega), if_pos hi, if_neg (Nat.lt_irrefl i)]
    have keep : (g i = false ∨ de i = true) → ∀ k, k < 24 → s.1 9 k = if k < N then (if de k then -1 else nI (if k < i + 1 then cf2 g cf k else cf k)) else 0 := by
      intro hg k hk
      rw [h2 k hk]
      by_cases e : k < N
      · rw [if_pos e, if_pos e]
        by_cases hd : de k = true
        · rw [if_pos hd, if_pos hd]
        · rw [if_neg hd, if_neg hd, cf_step]
          by_cases e2 : k = i
          · subst e2
            exact Or.inr (hg.resolve_right hd)
          · exact Or.inl e2
      · rw [if_neg e, if_neg e]
    by_cases hg : g i = true
    · by_cases hd : de i = true
      · obtain ⟨S', e1, e2⟩ := ih s ⟨h1, keep (Or.inr hd)⟩
        refine ⟨S', ?_, e2⟩
        show f_X5_noteAgainst_2b _ _ _ _ = _
        unfold f_X5_noteAgainst_2b f_X5_noteAgainst_43
        rw [h1.1 2 (by decide), h3, if_neg (nI_ge hi (by omega)), hasBit_pm (by omega) (by omega), decide_eq_true hi, Bool.true_and, hg, if_neg (by decide), hco, if_pos hd, if_pos rfl, nI_1]
        exact e1
      · have hd' : de i = false := by simpa using hd
        have hm : ¬ nI (cf i) = -1 := by
          intro e
          have e2 := nI_pos (n := cf i) (by have := hc i hi; omega)
          rw [e] at e2
          exact e2 (by decide)
        obtain ⟨S', e1, e2⟩ := ih (cfun s 9 (upd (s.1 9) i (nI (cf i + 1)))) ⟨h1.trans (Fr.cfun (by decide)), fun k hk => by
          rw [cf_s]
          by_cases e2 : k = i
          · subst e2
            rw [pk_us, if_pos hi, hd', if_neg (by decide), if_pos (by omega)]
            unfold cf2
            rw [hg]; rfl
          · rw [pk_un e2, h2 k hk]
            by_cases e : k < N
            · rw [if_pos e, if_pos e]
              rw [cf_step (Or.inl e2)]
            · rw [if_neg e, if_neg e]⟩
        refine ⟨S', ?_, e2⟩
        show f_X5_noteAgainst_2b _ _ _ _ = _
        unfold f_X5_noteAgainst_2b f_X5_noteAgainst_43
        rw [h1.1 2 (by decide), h3, if_neg (nI_ge hi (by omega)), hasBit_pm (by omega) (by omega), decide_eq_true hi, Bool.true_and, hg, if_neg (by decide), hco, hd', if_neg (by decide : ¬ (false = true)), if_neg hm, q_pu_nI (by omega) (by decide), nI_1, nI_1]
        exact e1
    · have hg' : g i = false := by simpa using hg
      obtain ⟨S', e1, e2⟩ := ih s ⟨h1, keep (Or.inl hg')⟩
      refine ⟨S', ?_, e2⟩
      show f_X5_noteAgainst_2b _ _ _ _ = _
      unfold f_X5_noteAgainst_2b f_X5_noteAgainst_43
      rw [h1.1 2 (by decide), h3, if_neg (nI_ge hi (by omega)), hasBit_pm (by omega) (by omega), decide_eq_true hi, Bool.true_and, hg', if_pos (by decide), nI_1]
      exact e1
end PAS
