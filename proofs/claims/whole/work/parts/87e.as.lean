section AZ
variable {S : CS} {M : MS} {n : Nat} {ac : Nat → Bool} {mv : Nat → Nat → Nat}
theorem RelS.fr {S' : CS} {M' : MS} (h : RelS S M) (e5 : S'.1 5 = S.1 5) (e16 : S'.1 16 = S.1 16) (m1 : M'.2.1 2 = M.2.1 2) (m2 : M'.2.2.1 2 = M.2.2.1 2) : RelS S' M' := by
  obtain ⟨n, ac, mv, h1, h2, h3, h4, h5, h6⟩ := h
  refine ⟨n, ac, mv, h1, h2, by rw [e5]; exact h3, by rw [e5]; exact h4, by rw [m1]; exact h5, fun q hq => ?_⟩
  rw [m2, e16]
  exact h6 q hq
theorem RelS.m0 (h : RelS S M) (v : Int32) : RelS S (mset M 0 v) := h.fr rfl rfl rfl rfl
theorem RS.isSt (h : RSs S M n ac mv) (a : Int32) : (f_X3_isState S a = false ∧ f_X9_isOf_2 M a = some false) ∨ ∃ q, q < n ∧ a = nI q ∧ f_X3_isState S a = true ∧ f_X9_isOf_2 M a = some true := by
  have hn := h.1
  unfold f_X3_isState f_X9_isOf_2
  rw [h.2.2.1, h.2.2.2.2.1]
  by_cases c1 : a < 0
  · rw [if_pos c1, if_pos c1]
    exact Or.inl ⟨rfl, rfl⟩
  · by_cases c2 : nI n ≤ a
    · rw [if_neg c1, if_neg c1, if_pos c2, if_pos c2]
      exact Or.inl ⟨rfl, rfl⟩
    · obtain ⟨q, hq, rfl⟩ := btw (by omega) c1 c2
      rw [if_neg c1, if_neg c1, if_neg c2, if_neg c2]
      exact Or.inr ⟨q, hq, rfl, rfl, rfl⟩
theorem x_sadd (h : RSs S M n ac mv) (hn : n < 5) (a : Int32) : ∃ S' : CS, f_X3_add a S = (nI n, S') ∧ Fr [5, 16] S S' ∧ S'.1 5 2 = nI (n + 1) ∧ S'.1 5 1 = nI (pm (nup ac n (!decide (a = 0))) (n + 1)) ∧ S'.1 16 = upd (upd (S.1 16) (2 * n) (nI n)) (2 * n + 1) (nI n) := by
  obtain ⟨h1, h2, h3, h4, h5, h6⟩ := h
  have e1 : (2 : Int32) * nI n = nI (2 * n) := pk_mul 2 n
  have e2 : nI (2 * n) + 1 = nI (2 * n + 1) := nI_1 _
  obtain ⟨G, hG⟩ : ∃ G : CS, cfun (cfun S 16 (q_pu 10 (S.1 16) ((2 : Int32) * (S.1 5 2)) (S.1 5 2))) 16 (q_pu 10 ((cfun S 16 (q_pu 10 (S.1 16) ((2 : Int32) * (S.1 5 2)) (S.1 5 2))).1 16) (((2 : Int32) * (S.1 5 2)) + (1 : Int32)) (S.1 5 2)) = G := ⟨_, rfl⟩
  have g16 : G.1 16 = upd (upd (S.1 16) (2 * n) (nI n)) (2 * n + 1) (nI n) := by
    rw [← hG, cf_s, cf_s, h3, e1, e2, q_pu_nI (by omega) (by decide), q_pu_nI (by omega) (by decide)]
  have gF : Fr [5, 16] S G := by rw [← hG]; exact (Fr.cfun (by decide)).trans (Fr.cfun (by decide))
  have g5 : G.1 5 = S.1 5 := by rw [← hG, cf_n (by decide), cf_n (by decide)]
  have hpm : pm (nup ac n (!decide (a = 0))) n = pm ac n := pm_cong (fun k hk => nup_n (by omega))
  unfold f_X3_add
  rw [hG]
  unfold f_X3_add_45
  rw [h3]
  by_cases c : a = 0
  · rw [if_pos c]
    refine ⟨_, rfl, gF.trans (Fr.cset (by decide)), ?_, ?_, ?_⟩
    · rw [cs_s, g5, h3, nI_1]
    · rw [cs_k (by decide), g5, h4, pm_succ, hpm, nup_s, decide_eq_true c, if_neg (by decide), Nat.add_zero]
    · rw [cs_n (by decide), g16]
  · rw [if_neg c]
    refine ⟨_, rfl, gF.trans ((Fr.cset (by decide)).trans (Fr.cset (by decide))), ?_, ?_, ?_⟩
    · rw [cs_s, cs_k (by decide), g5, h3, nI_1]
    · rw [cs_k (by decide), cs_s, g5, h4, nI_one n (by omega), nI_or, Nat.or_two_pow_eq_add_of_lt (pm_lt ac n), pm_succ, hpm, nup_s, decide_eq_false c, if_pos (by decide)]
    · rw [cs_n (by decide), cs_n (by decide), g16]
theorem T_state (h : RelS S M) (a : Int32) (fo : Nat → Int64) : TI (f_L_state S a fo) fo (f_X9_state a M) (fun S' M' => RelS S' M' ∧ Fr [5, 16] S S' ∧ Mr [0] [2] M M' ∧ M.2.1 2 ≤ M'.2.1 2 ∧ M'.2.1 2 ≤ M.2.1 2 + 1) := by
  have hR := h
  obtain ⟨n, ac, mv, hS⟩ := h
  obtain ⟨h1, h2, h3, h4, h5, h6⟩ := id hS
  by_cases hn : n = 5
  · refine TI.ex (code := 1) (r := 0) (S := S) (M := M) (by decide) ?_ ?_ ⟨hR.m0 1, Fr.refl S, Mr.mset (by decide), Nat.le_refl _, Nat.le_succ _⟩
    · unfold f_L_state f_X8_state
      rw [h3, if_neg (show ¬ nI n < (5 : Int32) from nI_nlt (b := 5) (by omega) (by omega))]
      rfl
    · unfold f_X9_state f_X9_state_19
      rw [h5, if_pos (show nI n = (5 : Int32) by rw [hn]; rfl), isWr]
      rfl
  · obtain ⟨S', x1, x2, x3, x4, x5⟩ := x_sadd hS (by omega) a
    have key : ∀ v : Int32, v = q_b (!decide (a = 0)) → TI (f_L_state S a fo) fo (f_X9_state_45 v 0 (fun _ => 0) (mset M 0 0)) (fun S' M' => RelS S' M' ∧ Fr [5, 16] S S' ∧ Mr [0] [2] M M' ∧ M.2.1 2 ≤ M'.2.1 2 ∧ M'.2.1 2 ≤ M.2.1 2 + 1) := by
      intro v hv
      obtain ⟨M', hM⟩ : ∃ M', M' = madd (mset M 0 0) 2 (upd (upd (upd (fun _ => 0) (0 : Int32).toNatClampNeg v) 1 (nI ((mset M 0 0).2.1 2))) 2 (nI ((mset M 0 0).2.1 2))) := ⟨_, rfl⟩
      have mN : M'.2.1 2 = n + 1 := by rw [hM, ma_n]; exact congrArg (· + 1) h5
      have mr : M'.2.2.1 2 = rupd (M.2.2.1 2) n (upd (upd (upd (fun _ => 0) 0 v) 1 (nI n)) 2 (nI n)) := by
        rw [hM, ma_r, show (mset M 0 0).2.1 2 = n from h5]
        rfl
      refine TI.ok (r := nI n) (S := S') (M := M') ?_ ?_ ?_ ⟨⟨n + 1, nup ac n (!decide (a = 0)), nup mv n (fun _ => n), by omega, fun q hq c hc => ?_, x3, x4, mN, fun q hq => ?_⟩, x2, by rw [hM]; exact (Mr.mset (by decide)).trans (Mr.madd (by decide)), by omega, by omega⟩
      · unfold f_L_state f_X8_state
        rw [h3, if_pos (show nI n < (5 : Int32) from nI_lt (b := 5) (by omega) (by decide)), x1]
        rfl
      · unfold f_X9_state_45
        rw [if_pos (by decide), if_pos (by rw [show (mset M 0 0).2.1 2 = n from h5]; omega), ← hM, mN, ← nI_1]
        refine congrArg some (Prod.ext ?_ rfl)
        show nI n + 1 - 1 = nI n
        rw [nI_1, show (1 : Int32) = nI 1 from rfl, nI_sub (by omega), Nat.add_sub_cancel]
      · have := (Mr.madd (L := []) (K := [2]) (M := mset M 0 0) (i := 2) (f := upd (upd (upd (fun _ => 0) (0 : Int32).toNatClampNeg v) 1 (nI ((mset M 0 0).2.1 2))) 2 (nI ((mset M 0 0).2.1 2))) (by decide)).1 0 (by decide) (by decide)
        rw [hM, this, ms_s]
      · by_cases e : q = n
        · subst e
          rw [nup_s]
          omega
        · rw [nup_n e]
          have := h2 q (by omega) c hc
          omega
      · rw [mr, x5]
        by_cases e : q = n
        · subst e
          rw [ru_s, nup_s, nup_s]
          refine ⟨by rw [pk_un (by decide), pk_un (by decide), pk_us, hv], fun c hc => ?_⟩
          match c, hc with
          | 0, _ => exact ⟨by rw [pk_un (by decide)]; exact pk_us, by show upd (upd (S.1 16) (2 * q) (nI q)) (2 * q + 1) (nI q) (2 * q) = nI q; rw [pk_un (by omega), pk_us]⟩
          | 1, _ => exact ⟨pk_us, pk_us⟩
        · rw [ru_n e, nup_n e, nup_n e]
          refine ⟨(h6 q (by omega)).1, fun c hc => ?_⟩
          rw [pk_un (by omega), pk_un (by omega)]
          exact (h6 q (by omega)).2 c hc
    have e5 : ¬ nI n = (5 : Int32) := fun e => hn ((nI_eq (b := 5) (by omega) (by decide)).mp e)
    have hm : f_X9_state a M = if a = 0 then f_X9_state_45 0 0 (fun _ => 0) (mset M 0 0) else f_X9_state_45 1 0 (fun _ => 0) (mset M 0 0) := by
      unfold f_X9_state f_X9_state_19
      rw [h5, if_neg e5, isWr]
      simp only [Option.bind_some]
      rw [if_pos (by decide)]
    rw [hm]
    by_cases c : a = 0
    · rw [if_pos c]
      exact key 0 (by rw [decide_eq_true c]; rfl)
    · rw [if_neg c]
      exact key 1 (by rw [decide_eq_false c]; rfl)
theorem go_ok (hS : RSs S M n ac mv) {q t l : Nat} (hq : q < n) (ht : t < n) (hl : l < 2) {v2 lt : Int32} (hv : (v2 - (97 : Int32)) + 1 = nI (1 + l)) (hlt : lt = nI l) : ∃ (S' : CS) (M' : MS), f_X8_go_72 (nI t) lt (nI q) S = ((0, nI (mv q l)), S') ∧ f_X9_go_43 (nI q) v2 (nI t) M = some (nI (mv q l), M') ∧ M'.1 0 = 0 ∧ RelS S' M' ∧ Fr [5, 16] S S' ∧ Mr [0] [2] M M' ∧ M'.2.1 2 = M.2.1 2 := by
  obtain ⟨h1, h2, h3, h4, h5, h6⟩ := id hS
  subst hlt
  have e1 : (2 : Int32) * nI q + nI l = nI (2 * q + l) := nI_2q q l
  have hqi : q_in ((v2 - (97 : Int32)) + 1) 3 := by rw [hv]; exact q_in_nI (by omega) (by decide)
  refine ⟨cfun S 16 (upd (S.1 16) (2 * q + l) (nI t)), mrow (mset M 0 0) 2 q (1 + l) (nI t), ?_, ?_, (show (mset M 0 0).1 0 = 0 from ms_s), ⟨n, ac, fun p c => if p = q ∧ c = l then t else mv p c, h1, fun p hp c hc => ?_, ?_, ?_, h5, fun p hp => ?_⟩, Fr.cfun (by decide), (Mr.mset (by decide)).trans (Mr.mrow (by decide)), rfl⟩
  · unfold f_X8_go_72 f_X3_lead
    rw [e1, q_at_nI (by omega) (by decide), q_pu_nI (by omega) (by decide), ((h6 q hq).2 l hl).2]
  · unfold f_X9_go_43 f_X9_go_44
    rw [isWr]
    simp only [Option.bind_some]
    have hN : (mset M 0 0).2.1 2 = n := h5
    rw [if_pos (by decide), hN, if_pos (q_in_nI hq (by omega)), if_pos ⟨(q_in_nI (i := q) (n := n) hq (by omega)).2, hqi⟩, if_pos (q_in_nI hq (by omega)), if_pos ⟨(q_in_nI (i := q) (n := n) hq (by omega)).2, hqi⟩, hv, nI_clamp (by omega), nI_clamp (by omega), show (mset M 0 0).2.2.1 2 q (1 + l) = nI (mv q l) from ((h6 q hq).2 l hl).1]
  · show (if p = q ∧ c = l then t else mv p c) < n
    split
    · exact ht
    · exact h2 p hp c hc
  · rw [cf_n (by decide)]; exact h3
  · rw [cf_n (by decide)]; exact h4
  · by_cases e : p = q
    · subst e
      rw [mw_rs, cf_s]
      refine ⟨by rw [pk_un (by omega)]; exact (h6 p hp).1, fun c hc => ?_⟩
      show _ = nI (if p = p ∧ c = l then t else mv p c) ∧ _ = nI (if p = p ∧ c = l then t else mv p c)
      by_cases ec : c = l
      · subst ec
        rw [if_pos ⟨rfl, rfl⟩, pk_us, pk_us]
        exact ⟨rfl, rfl⟩
      · rw [if_neg (fun x => ec x.2), pk_un (by omega), pk_un (by omega)]
        exact (h6 p hp).2 c hc
    · rw [mw_rn e, cf_s]
      refine ⟨(h6 p hp).1, fun c hc => ?_⟩
      show _ = nI (if p = q ∧ c = l then t else mv p c) ∧ _ = nI (if p = q ∧ c = l then t else mv p c)
      rw [if_neg (fun x => e x.1), pk_un (by omega)]
      exact (h6 p hp).2 c hc
theorem T_go (h : RelS S M) (a b c : Int32) (fo : Nat → Int64) : TI (f_L_go S a b c fo) fo (f_X9_go a b c M) (fun S' M' => RelS S' M' ∧ Fr [5, 16] S S' ∧ Mr [0] [2] M M' ∧ M'.2.1 2 = M.2.1 2) := by
  have hR := h
  obtain ⟨n, ac, mv, hS⟩ := h
  have bad : f_X8_go a b c S = ((4, 0), S) → f_X9_go a b c M = f_X9_go_23 a b c M → TI (f_L_go S a b c fo) fo (f_X9_go a b c M) (fun S' M' => RelS S' M' ∧ Fr [5, 16] S S' ∧ Mr [0] [2] M M' ∧ M'.2.1 2 = M.2.1 2) := by
    intro e1 e2
    refine TI.ex (code := 1) (r := 0) (S := S) (M := M) (by decide) ?_ ?_ ⟨hR.m0 1, Fr.refl S, Mr.mset (by decide), rfl⟩
    · unfold f_L_go
      rw [e1]
      rfl
    · rw [e2]
      unfold f_X9_go_23 f_X9_go_44
      rw [isWr]
      rfl
  rcases RS.isSt hS a with ⟨a1, a2⟩ | ⟨q, hq, rfl, a1, a2⟩
  · refine bad ?_ ?_
    · unfold f_X8_go f_X8_go_22
      rw [a1, if_pos (by decide)]
    · unfold f_X9_go
      rw [a2]
      rfl
  · rcases RS.isSt hS c with ⟨c1, c2⟩ | ⟨t, ht, rfl, c1, c2⟩
    · refine bad ?_ ?_
      · unfold f_X8_go f_X8_go_22
        rw [a1, c1, if_neg (by decide), if_pos (by decide)]
      · unfold f_X9_go
        rw [a2, c2]
        rfl
    · have good : ∀ (l : Nat), l < 2 → (b - (97 : Int32)) + 1 = nI (1 + l) → f_X8_go (nI q) b (nI t) S = f_X8_go_72 (nI t) (nI l) (nI q) S → f_X9_go (nI q) b (nI t) M = f_X9_go_43 (nI q) b (nI t) M → TI (f_L_go S (nI q) b (nI t) fo) fo (f_X9_go (nI q) b (nI t) M) (fun S' M' => RelS S' M' ∧ Fr [5, 16] S S' ∧ Mr [0] [2] M M' ∧ M'.2.1 2 = M.2.1 2) := by
        intro l hl hv e1 e2
        obtain ⟨S', M', g1, g2, g3, g4⟩ := go_ok hS hq ht hl hv rfl
        refine TI.ok (r := nI (mv q l)) (S := S') (M := M') ?_ (e2.trans g2) g3 g4
        unfold f_L_go
        rw [e1, g1]
        rfl
      by_cases hb : b = 97
      · subst hb
        refine good 0 (by decide) (by decide) ?_ ?_
        · unfold f_X8_go f_X8_go_56
          rw [a1, c1, if_neg (by decide), if_neg (by decide), if_pos rfl, if_pos rfl]
          rfl
        · unfold f_X9_go
          rw [a2, c2]
          simp only [Option.bind_some]
          rw [if_neg (by decide), if_neg (by decide), if_pos trivial]
      · by_cases hb2 : b = 98
        · subst hb2
          refine good 1 (by decide) (by decide) ?_ ?_
          · unfold f_X8_go f_X8_go_56
            rw [a1, c1, if_neg (by decide), if_neg (by decide), if_neg (by decide), if_pos rfl, if_neg (by decide)]
            rfl
          · unfold f_X9_go
            rw [a2, c2]
            simp only [Option.bind_some]
            rw [if_neg (by decide), if_neg (by decide), if_neg (by decide), if_pos trivial]
        · refine TI.ex (code := 2) (r := 0) (S := S) (M := M) (by decide) ?_ ?_ ⟨hR.m0 2, Fr.refl S, Mr.mset (by decide), rfl⟩
          · unfold f_L_go f_X8_go
            rw [a1, c1, if_neg (by decide), if_neg (by decide), if_neg hb, if_neg hb2]
            rfl
          · unfold f_X9_go f_X9_go_44
            rw [a2, c2]
            simp only [Option.bind_some]
            rw [if_neg (by decide), if_neg (by decide), if_neg hb, if_neg hb2, isWr]
            rfl
theorem T_accepts (h : RelS S M) (a b : Int32) (fo : Nat → Int64) : TB (f_L_accepts S a b fo) fo (f_X9_accepts a b M) (fun S' M' => S' = S ∧ Mr [0] [] M M') := by
  obtain ⟨n, ac, mv, hS⟩ := h
  obtain ⟨h1, h2, h3, h4, h5, h6⟩ := id hS
  rcases isWd a b with ⟨w1, w2⟩ | ⟨l, m, hl, hm, rfl, rfl, w1, w2⟩
  · refine TB.ex (code := 1) (r := false) (S := S) (M := M) (by decide) ?_ ?_ ⟨rfl, Mr.mset (by decide)⟩
    · unfold f_L_accepts f_X8_accepts
      rw [w1, if_pos (by decide)]
      rfl
    · unfold f_X9_accepts f_X9_accepts_30
      rw [w2, if_pos (by decide), isWr]
      rfl
  · have hm31 : m < 2 ^ 31 := Nat.lt_of_lt_of_le hm (Nat.pow_le_pow_right (by decide) (by omega))
    by_cases hn : n = 0
    · refine TB.ex (code := 2) (r := false) (S := S) (M := M) (by decide) ?_ ?_ ⟨rfl, Mr.mset (by decide)⟩
      · unfold f_L_accepts f_X8_accepts
        rw [w1, if_neg (by decide), h3, if_pos (by rw [hn]; rfl)]
        rfl
      · unfold f_X9_accepts f_X9_accepts_30
        rw [w2, if_neg (by decide), h5, decide_eq_true hn, if_neg (by decide), isWr]
        rfl
    · refine TB.ok (r := ac (rn mv l m 0)) (S := S) (M := mset M 0 0) ?_ ?_ ms_s ⟨rfl, Mr.mset (by decide)⟩
      · unfold f_L_accepts f_X8_accepts
        rw [w1, if_neg (by decide), h3, if_neg (fun e => hn ((nI_0iff (by omega)).mp e)), show (0 : Int32) = nI 0 from rfl, RS.well hS (by omega) hm31 (by omega)]
        simp only [Option.bind_some, if_true]
        rw [← qbz]
        rfl
      · have ht : f_X9_takes (mset M 0 0) (nI l) (nI m) = some (ac (rn mv l m 0)) := RS.takes (S := S) (n := n) (mv := mv) (M := mset M 0 0) hS (by omega) hm31 (by omega)
        unfold f_X9_accepts f_X9_accepts_30
        rw [w2, if_neg (by decide), h5, decide_eq_false hn, if_pos (by decide), isWr]
        simp only [Option.bind_some]
        rw [if_pos (by decide), ht]
        simp only [Option.bind_some]
        cases ac (rn mv l m 0)
        · exact if_pos (by decide)
        · exact if_neg (by decide)
theorem T_apart (h : RelS S M) (a b : Int32) (fo : Nat → Int64) : TI (f_L_apart S a b fo) fo (f_X9_apart a b M) (fun S' M' => S' = S ∧ Mr [0] [] M M') := by
  obtain ⟨n, ac, mv, hS⟩ := h
  have hn := hS.1
  have bad : f_X8_apart S a b = some (4, 0) → f_X9_apart a b M = f_X9_apart_23 a b M → TI (f_L_apart S a b fo) fo (f_X9_apart a b M) (fun S' M' => S' = S ∧ Mr [0] [] M M') := by
    intro e1 e2
    refine TI.ex (code := 1) (r := 0) (S := S) (M := M) (by decide) ?_ ?_ ⟨rfl, Mr.mset (by decide)⟩
    · unfold f_L_apart
      rw [e1]
      rfl
    · rw [e2]
      unfold f_X9_apart_23 f_X9_apart_42
      rw [isWr]
      rfl
  rcases RS.isSt hS a with ⟨a1, a2⟩ | ⟨p, hp, rfl, a1, a2⟩
  · refine bad ?_ ?_
    · unfold f_X8_apart f_X8_apart_22
      rw [a1, if_pos (by decide)]
    · unfold f_X9_apart
      rw [a2]
      rfl
  · rcases RS.isSt hS b with ⟨b1, b2⟩ | ⟨q, hq, rfl, b1, b2⟩
    · refine bad ?_ ?_
      · unfold f_X8_apart f_X8_apart_22
        rw [a1, b1, if_neg (by decide), if_pos (by decide)]
      · unfold f_X9_apart
        rw [a2, b2]
        rfl
    · obtain ⟨r, r1, r2, r3⟩ := RS.ap hS hp hq
      have r0 : f_X9_apartBy (mset M 0 0) (nI p) (nI q) = some r := by
        obtain ⟨r', s1, s2, s3⟩ := RS.ap (S := S) (M := mset M 0 0) hS hp hq
        rw [r1] at s1
        rw [s2]
        exact s1.symm
      have hno := apRes_no (by omega) r3
      by_cases c : r = -1
      · refine TI.ex (code := 2) (r := 0) (S := S) (M := M) (by decide) ?_ ?_ ⟨rfl, Mr.mset (by decide)⟩
        · unfold f_L_apart f_X8_apart
          rw [a1, b1, if_neg (by decide), if_neg (by decide), r1]
          simp only [Option.bind_some]
          rw [c]
          rfl
        · unfold f_X9_apart f_X9_apart_42
          rw [a2, b2]
          simp only [Option.bind_some]
          rw [if_neg (by decide), if_neg (by decide), r2]
          simp only [Option.bind_some]
          rw [if_pos c, isWr]
          rfl
      · have c0 : 0 ≤ r := hno.2.mpr (by
          cases e : eqk ac mv n p q
          · rfl
          · exact absurd (hno.1.mpr e) c)
        refine TI.ok (r := r) (S := S) (M := mset M 0 0) ?_ ?_ ms_s ⟨rfl, Mr.mset (by decide)⟩
        · unfold f_L_apart f_X8_apart
          rw [a1, b1, if_neg (by decide), if_neg (by decide), r1]
          simp only [Option.bind_some]
          rw [if_pos c0]
          rfl
        · unfold f_X9_apart f_X9_apart_42
          rw [a2, b2]
          simp only [Option.bind_some]
          rw [if_neg (by decide), if_neg (by decide), r2]
          simp only [Option.bind_some]
          rw [if_neg c, isWr]
          simp only [Option.bind_some]
          rw [if_pos (by decide), r0]
          rfl
end AZ
