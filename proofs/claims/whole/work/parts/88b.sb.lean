/-! samples: both sides -/
def hwI (ln bt : Nat → Nat) (a b : Int32) : Nat → Bool
  | 0 => false
  | k + 1 => hwI ln bt a b k || (decide (nI (ln k) = a) && decide (nI (bt k) = b))
theorem hwI_succ (ln bt : Nat → Nat) (a b : Int32) (k : Nat) : hwI ln bt a b (k + 1) = (hwI ln bt a b k || (decide (nI (ln k) = a) && decide (nI (bt k) = b))) := rfl
theorem hwI_yes {ln bt : Nat → Nat} {a b : Int32} {i : Nat} (h : hwI ln bt a b i = true) : ∀ d, hwI ln bt a b (i + d) = true
  | 0 => h
  | d + 1 => by rw [← Nat.add_assoc, hwI_succ, hwI_yes h d, Bool.true_or]
theorem qb_or1 (b : Bool) : q_b b ||| 1 = q_b true := by cases b <;> decide
theorem qb_or0 (b : Bool) : q_b b ||| 0 = q_b b := by cases b <;> decide
def RWw (S : CS) (M : MS) (W : Nat) (ln bt : Nat → Nat) (inn : Nat → Bool) : Prop := W ≤ 12 ∧ S.1 6 5 = nI W ∧ S.1 6 4 = nI (pm inn W) ∧ M.2.1 3 = W ∧ ∀ k, k < W → ln k ≤ 8 ∧ bt k < 2 ^ ln k ∧ S.1 17 k = nI (ln k) ∧ S.1 18 k = nI (bt k) ∧ M.2.2.1 3 k 0 = nI (ln k) ∧ M.2.2.1 3 k 1 = nI (bt k) ∧ M.2.2.1 3 k 2 = q_b (inn k)
def RWt (S : CS) (ft : Nat → Nat → Bool) (s v : Nat) : Prop := 1 ≤ s ∧ s ≤ 4 ∧ S.1 6 3 = nI s ∧ (s ≤ 3 → v < s ^ (2 * s) ∧ ∀ j, j < 6 → S.1 19 j = nI (v / s ^ j % s)) ∧ ∀ s2 v2, 1 ≤ s2 → s2 ≤ 3 → v2 < s2 ^ (2 * s2) → (s2 < s ∨ s2 = s ∧ v2 < v) → ft s2 v2 = false
def RelW (S : CS) (M : MS) : Prop := ∃ (W : Nat) (ln bt : Nat → Nat) (inn : Nat → Bool) (s v : Nat), RWw S M W ln bt inn ∧ RWt S (fitS inn ln bt W) s v
section SB
variable {S : CS} {M : MS} {W s v : Nat} {ln bt : Nat → Nat} {inn : Nat → Bool}
theorem RW.fr {S' : CS} {M' : MS} (h : RWw S M W ln bt inn) (e5 : S'.1 6 5 = S.1 6 5) (e4 : S'.1 6 4 = S.1 6 4) (e17 : S'.1 17 = S.1 17) (e18 : S'.1 18 = S.1 18) (m1 : M'.2.1 3 = M.2.1 3) (m2 : M'.2.2.1 3 = M.2.2.1 3) : RWw S' M' W ln bt inn := by
  obtain ⟨h1, h2, h3, h4, h5⟩ := h
  refine ⟨h1, e5.trans h2, e4.trans h3, m1.trans h4, fun k hk => ?_⟩
  rw [e17, e18, m2]
  exact h5 k hk
theorem RelW.fr {S' : CS} {M' : MS} (h : RelW S M) (e6 : S'.1 6 = S.1 6) (e17 : S'.1 17 = S.1 17) (e18 : S'.1 18 = S.1 18) (e19 : S'.1 19 = S.1 19) (m1 : M'.2.1 3 = M.2.1 3) (m2 : M'.2.2.1 3 = M.2.2.1 3) : RelW S' M' := by
  obtain ⟨W, ln, bt, inn, s, v, h1, h2⟩ := h
  refine ⟨W, ln, bt, inn, s, v, RW.fr h1 (by rw [e6]) (by rw [e6]) e17 e18 m1 m2, ?_⟩
  unfold RWt at h2 ⊢
  rw [e6, e19]
  exact h2
theorem RelW.m0 (h : RelW S M) (a : Int32) : RelW S (mset M 0 a) := h.fr rfl rfl rfl rfl rfl rfl
theorem b31 {l m : Nat} (hl : l ≤ 8) (hm : m < 2 ^ l) : m < 2 ^ 31 := Nat.lt_of_lt_of_le hm (Nat.pow_le_pow_right (by decide) (by omega))
theorem RW.has (h : RWw S M W ln bt inn) (a b : Int32) : f_X7_has S a b = some (hwI ln bt a b W) := by
  obtain ⟨h1, h2, h3, h4, h5⟩ := h
  have key := pu_for0 (W := fun m i => hwI ln bt a b i = false → f_X7_has_2 S m a b (nI i) = some (hwI ln bt a b W)) (e := W) (n := 1000) (by omega) (fun m he => ?_) (fun m i hi ih he => ?_)
  · exact key rfl
  · show f_X7_has_2b _ _ _ _ _ = _
    unfold f_X7_has_2b
    rw [h2, if_pos (nI_le (Nat.le_refl W) (by omega)), he]
  · obtain ⟨k1, k2, k3, k4, k5, k6, k7⟩ := h5 i hi
    show f_X7_has_2b _ _ _ _ _ = _
    unfold f_X7_has_2b f_X7_has_36
    rw [h2, if_neg (nI_ge hi (by omega)), q_at_nI (by omega) (by decide), q_at_nI (by omega) (by decide), k3, k4, nI_1]
    rw [hwI_succ, he, Bool.false_or] at ih
    by_cases c1 : nI (ln i) = a
    · rw [if_pos c1]
      by_cases c2 : nI (bt i) = b
      · rw [if_pos c2]
        have : hwI ln bt a b (i + 1) = true := by rw [hwI_succ, decide_eq_true c1, decide_eq_true c2, Bool.and_self, Bool.or_true]
        have h2 := hwI_yes this (W - (i + 1))
        rw [show i + 1 + (W - (i + 1)) = W by omega] at h2
        rw [h2]
      · rw [if_neg c2]
        exact ih (by rw [decide_eq_false c2, Bool.and_false])
    · rw [if_neg c1]
      exact ih (by rw [decide_eq_false c1, Bool.false_and])
def smF (a1 a2 a3 : Int32) (b : Bool) (W : Nat) (M : MS) : Option (Int32 × MS) := if q_b (f_X9_isWord a1 a2) = 0 then f_X9_sample_106 a1 a2 a3 1 M else (if q_b b = 0 then (if nI W = 12 then f_X9_sample_106 a1 a2 a3 3 M else f_X9_sample_106 a1 a2 a3 0 M) else f_X9_sample_106 a1 a2 a3 2 M)
theorem RW.msam (h : RWw S M W ln bt inn) (a1 a2 a3 : Int32) : f_X9_sample a1 a2 a3 M = smF a1 a2 a3 (hwI ln bt a1 a2 W) W M := by
  obtain ⟨h1, h2, h3, h4, h5⟩ := h
  have key := pu_for0 (W := fun m i => f_X9_sample_14 m a1 a2 a3 (q_b (hwI ln bt a1 a2 i)) (nI i) (M.1 23) M = smF a1 a2 a3 (hwI ln bt a1 a2 W) W M) (e := W) (n := 1000) (by omega) (fun m => ?_) (fun m i hi ih => ?_)
  · exact key
  · show f_X9_sample_14b _ _ _ _ _ _ _ _ = _
    unfold f_X9_sample_14b
    rw [h4, if_pos it_end]
    rfl
  · obtain ⟨k1, k2, k3, k4, k5, k6, k7⟩ := h5 i hi
    have e1 : M.2.2.1 3 (nI i).toNatClampNeg 0 = nI (ln i) := by rw [nI_clamp (by omega)]; exact k5
    have e2 : M.2.2.1 3 (nI i).toNatClampNeg 1 = nI (bt i) := by rw [nI_clamp (by omega)]; exact k6
    have hc := (q_in_nI (i := i) (n := W) hi (by omega)).2
    rw [hwI_succ] at ih
    show f_X9_sample_14b _ _ _ _ _ _ _ _ = _
    unfold f_X9_sample_14b f_X9_sample_58 f_X9_sample_59
    rw [h4, if_neg (it_go hi (by omega)), if_pos (it_in hi (by omega) rfl), if_pos hc, if_pos hc, e1, e2, nI_1, qb_or1, qb_or0]
    by_cases c1 : nI (ln i) = a1
    · rw [decide_eq_true c1, Bool.true_and] at ih
      rw [if_pos c1]
      by_cases c2 : nI (bt i) = a2
      · rw [decide_eq_true c2, Bool.or_true] at ih
        rw [if_pos c2]
        exact ih
      · rw [decide_eq_false c2, Bool.or_false] at ih
        rw [if_neg c2]
        exact ih
    · rw [decide_eq_false c1, Bool.false_and, Bool.or_false] at ih
      rw [if_neg c1]
      exact ih
theorem add43 (X : CS) {n : Nat} (h : X.1 6 5 = nI n) : f_X7_add_43 X = (nI (n + 1), cset X 6 5 (nI (n + 1))) := by
  unfold f_X7_add_43
  rw [h, nI_1, cs_s]
theorem x_wadd (h : RWw S M W ln bt inn) (hW : W < 12) (a1 a2 a3 : Int32) : ∃ S' : CS, f_X7_add a1 a2 a3 S = (nI (W + 1), S') ∧ Fr [6, 17, 18] S S' ∧ S'.1 6 5 = nI (W + 1) ∧ S'.1 6 4 = nI (pm (nup inn W (!decide (a3 = 0))) (W + 1)) ∧ S'.1 6 3 = S.1 6 3 ∧ S'.1 17 = upd (S.1 17) W a1 ∧ S'.1 18 = upd (S.1 18) W a2 := by
  obtain ⟨h1, h2, h3, h4, h5⟩ := h
  obtain ⟨G, hG⟩ : ∃ G : CS, cfun (cfun S 17 (q_pu 12 (S.1 17) (S.1 6 5) a1)) 18 (q_pu 12 ((cfun S 17 (q_pu 12 (S.1 17) (S.1 6 5) a1)).1 18) ((cfun S 17 (q_pu 12 (S.1 17) (S.1 6 5) a1)).1 6 5) a2) = G := ⟨_, rfl⟩
  have g17 : G.1 17 = upd (S.1 17) W a1 := by rw [← hG, cf_n (by decide), cf_s, h2, q_pu_nI (by omega) (by decide)]
  have g18 : G.1 18 = upd (S.1 18) W a2 := by rw [← hG, cf_s, cf_n (by decide), cf_n (by decide), h2, q_pu_nI (by omega) (by decide)]
  have gF : Fr [6, 17, 18] S G := by rw [← hG]; exact (Fr.cfun (by decide)).trans (Fr.cfun (by decide))
  have g6 : G.1 6 = S.1 6 := by rw [← hG, cf_n (by decide), cf_n (by decide)]
  have hpm : pm (nup inn W (!decide (a3 = 0))) W = pm inn W := pm_cong (fun k hk => nup_n (by omega))
  unfold f_X7_add
  rw [hG]
  by_cases c : a3 = 0
  · rw [if_pos c, add43 G (by rw [g6, h2])]
    refine ⟨_, rfl, gF.trans (Fr.cset (by decide)), cs_s, ?_, ?_, ?_, ?_⟩
    · rw [cs_k (by decide), g6, h3, pm_succ, hpm, nup_s, decide_eq_true c, if_neg (by decide), Nat.add_zero]
    · rw [cs_k (by decide), g6]
    · rw [cs_n (by decide), g17]
    · rw [cs_n (by decide), g18]
  · rw [if_neg c, add43 (cset G 6 4 (G.1 6 4 ||| ((1 : Int32) <<< (G.1 6 5 &&& 31)))) (by rw [cs_k (by decide), g6, h2])]
    refine ⟨_, rfl, gF.trans ((Fr.cset (by decide)).trans (Fr.cset (by decide))), cs_s, ?_, ?_, ?_, ?_⟩
    · rw [cs_k (by decide), cs_s, g6, h3, h2, nI_one W (by omega), nI_or, Nat.or_two_pow_eq_add_of_lt (pm_lt inn W), pm_succ, hpm, nup_s, decide_eq_false c, if_pos (by decide)]
    · rw [cs_k (by decide), cs_k (by decide), g6]
    · rw [cs_n (by decide), cs_n (by decide), g17]
    · rw [cs_n (by decide), cs_n (by decide), g18]
theorem T_sample (h : RelW S M) (a b c : Int32) (fo : Nat → Int64) : TI (f_L_sample S a b c fo) fo (f_X9_sample a b c M) (fun S' M' => RelW S' M' ∧ Fr [6, 17, 18] S S' ∧ Mr [0] [3] M M') := by
  have hR := h
  obtain ⟨W, ln, bt, inn, s, v, hw, ht⟩ := h
  obtain ⟨h1, h2, h3, h4, h5⟩ := id hw
  have bad : ∀ k : Int32, ¬ k = 0 → (k ≤ 0 → False) → f_L_sample S a b c fo = some (k, fo, S) → f_X9_sample a b c M = f_X9_sample_106 a b c k M → TI (f_L_sample S a b c fo) fo (f_X9_sample a b c M) (fun S' M' => RelW S' M' ∧ Fr [6, 17, 18] S S' ∧ Mr [0] [3] M M') := by
    intro k hk hk2 e1 e2
    refine TI.ex (code := k) (r := 0) (S := S) (M := M) hk e1 ?_ ⟨hR.m0 k, Fr.refl S, Mr.mset (by decide)⟩
    rw [e2]
    unfold f_X9_sample_106
    rw [isWr]
    simp only [Option.bind_some]
    rw [decide_eq_false (fun e => hk2 e), if_neg (by decide)]
  have hm := RW.msam hw a b c
  unfold smF at hm
  rcases isWd a b with ⟨w1, w2⟩ | ⟨l, m, hl, hm2, ea, eb, w1, w2⟩
  · refine bad 1 (by decide) (by decide) ?_ ?_
    · unfold f_L_sample f_X8_sample
      rw [w1, if_pos (by decide)]
      rfl
    · rw [hm, w2, if_pos (by decide)]
  · rw [w2, if_neg (by decide)] at hm
    cases hh : hwI ln bt a b W
    · rw [hh, if_pos (by decide)] at hm
      by_cases hW : W = 12
      · rw [if_pos (by rw [hW]; rfl)] at hm
        refine bad 3 (by decide) (by decide) ?_ hm
        unfold f_L_sample f_X8_sample
        rw [w1, if_neg (by decide), RW.has hw, hh]
        simp only [Option.bind_some]
        rw [if_pos (by decide), h2, if_neg (show ¬ nI W < (12 : Int32) from nI_nlt (b := 12) (by omega) (by omega))]
        rfl
      · rw [if_neg (show ¬ nI W = (12 : Int32) from fun e => hW ((nI_eq (b := 12) (by omega) (by decide)).mp e))] at hm
        obtain ⟨S', x1, x2, x3, x4, x5, x6, x7⟩ := x_wadd hw (by omega) a b c
        have e19 : S'.1 19 = S.1 19 := x2.1 19 (by decide)
        have key : ∀ w : Int32, w = q_b (!decide (c = 0)) → TI (f_L_sample S a b c fo) fo (f_X9_sample_140 w 2 (upd (upd (fun _ => 0) 0 a) 1 b) (mset M 0 0)) (fun S' M' => RelW S' M' ∧ Fr [6, 17, 18] S S' ∧ Mr [0] [3] M M') := by
          intro w hwv
          obtain ⟨M', hM⟩ : ∃ M', M' = madd (mset M 0 0) 3 (upd (upd (upd (fun _ => 0) 0 a) 1 b) (2 : Int32).toNatClampNeg w) := ⟨_, rfl⟩
          have mN : M'.2.1 3 = W + 1 := by rw [hM, ma_n]; exact congrArg (· + 1) h4
          have mr : M'.2.2.1 3 = rupd (M.2.2.1 3) W (upd (upd (upd (fun _ => 0) 0 a) 1 b) 2 w) := by
            rw [hM, ma_r, show (mset M 0 0).2.1 3 = W from h4]
            rfl
          refine TI.ok (r := nI (W + 1)) (S := S') (M := M') ?_ ?_ ?_ ⟨⟨W + 1, nup ln W l, nup bt W m, nup inn W (!decide (c = 0)), s, v, ⟨by omega, x3, x4, mN, fun k hk => ?_⟩, ?_⟩, x2, by rw [hM]; exact (Mr.mset (by decide)).trans (Mr.madd (by decide))⟩
          · unfold f_L_sample f_X8_sample
            rw [w1, if_neg (by decide), RW.has hw, hh]
            simp only [Option.bind_some]
            rw [if_pos (by decide), h2, if_pos (show nI W < (12 : Int32) from nI_lt (b := 12) (by omega) (by decide)), x1]
            rfl
          · unfold f_X9_sample_140
            rw [if_pos (by decide), if_pos (by rw [show (mset M 0 0).2.1 3 = W from h4]; omega), ← hM, mN]
          · have := (Mr.madd (L := []) (K := [3]) (M := mset M 0 0) (i := 3) (f := upd (upd (upd (fun _ => 0) 0 a) 1 b) (2 : Int32).toNatClampNeg w) (by decide)).1 0 (by decide) (by decide)
            rw [hM, this, ms_s]
          · rw [mr, x6, x7]
            by_cases e : k = W
            · subst e
              rw [ru_s, nup_s, nup_s, nup_s, pk_us, pk_us, pk_us]
              exact ⟨hl, hm2, ea, eb, by rw [pk_un (by decide), pk_un (by decide), pk_us]; exact ea, by rw [pk_un (by decide), pk_us]; exact eb, hwv⟩
            · rw [ru_n e, nup_n e, nup_n e, nup_n e, pk_un e, pk_un e]
              exact h5 k (by omega)
          · obtain ⟨t1, t2, t3, t4, t5⟩ := ht
            refine ⟨t1, t2, x5.trans t3, by rw [e19]; exact t4, fun s2 v2 a1 a2 a3 a4 => ?_⟩
            have := t5 s2 v2 a1 a2 a3 a4
            have hc : fitS (nup inn W (!decide (c = 0))) (nup ln W l) (nup bt W m) W s2 v2 = false := by
              rw [← this]
              exact fit_cong (fun k hk => ⟨nup_n (by omega), by rw [nup_n (by omega), nup_n (by omega)]⟩)
            exact fit_no hc 1
        have hm3 : f_X9_sample a b c M = if c = 0 then f_X9_sample_140 0 2 (upd (upd (fun _ => 0) 0 a) 1 b) (mset M 0 0) else f_X9_sample_140 1 2 (upd (upd (fun _ => 0) 0 a) 1 b) (mset M 0 0) := by
          rw [hm]
          unfold f_X9_sample_106
          rw [isWr]
          simp only [Option.bind_some]
          rw [if_pos (by decide)]
        rw [hm3]
        by_cases e : c = 0
        · rw [if_pos e]
          exact key 0 (by rw [decide_eq_true e]; rfl)
        · rw [if_neg e]
          exact key 1 (by rw [decide_eq_false e]; rfl)
    · rw [hh, if_neg (by decide)] at hm
      refine bad 2 (by decide) (by decide) ?_ hm
      unfold f_L_sample f_X8_sample
      rw [w1, if_neg (by decide), RW.has hw, hh]
      simp only [Option.bind_some]
      rw [if_neg (by decide)]
      rfl
end SB
