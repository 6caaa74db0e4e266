section PCO
variable {S : CS} {M : MS} {P N A B B' H Z : Nat} {c cf : Nat → Nat} {de : Nat → Bool}
theorem pm_next {f : Nat → Bool} {n : Nat} (hn : n < 31) : nI (pm f n) ||| ((1 : Int32) <<< (nI n &&& 31)) = nI (pm f n + 2 ^ n) := by
  rw [nI_one n (by omega), nI_or, Nat.or_two_pow_eq_add_of_lt (pm_lt f n)]
theorem x_add {x : Nat} (hP : P ≤ 6) (hN : N < 24) (h2 : S.1 2 2 = nI P) (h3 : S.1 2 3 = nI N) (hx : x < 2 ^ P) (h11 : ∀ q, q < 6 → S.1 11 q = nI (pm (fun k => (c k).testBit q) N)) : ∃ S' : CS, f_X1_add (nI x) S = some (nI N, S') ∧ Fr [2, 10, 11] S S' ∧ S'.1 2 2 = nI P ∧ S'.1 2 3 = nI (N + 1) ∧ S'.1 10 = upd (S.1 10) N (nI x) ∧ ∀ q, q < 6 → S'.1 11 q = nI (pm (fun k => (nup c N x k).testBit q) (N + 1)) := by
  have hx31 : x < 2 ^ 31 := Nat.lt_of_lt_of_le hx (Nat.pow_le_pow_right (n := 2) (by decide) (by omega))
  have pc : ∀ q, pm (fun k => (nup c N x k).testBit q) N = pm (fun k => (c k).testBit q) N := fun q => pm_cong (fun k hk => by rw [nup_n (by omega)])
  have top : ∀ q, pm (fun k => (nup c N x k).testBit q) (N + 1) = pm (fun k => (c k).testBit q) N + (if x.testBit q then 2 ^ N else 0) := fun q => by rw [pm_succ, pc, nup_s]
  obtain ⟨s0, hs0⟩ : ∃ s0, s0 = cfun S 10 (upd (S.1 10) N (nI x)) := ⟨_, rfl⟩
  have h := pu_forS (W := fun n i s => ∃ S' : CS, f_X1_add_16 n (nI x) (nI N) (nI i) s = some (nI N, S') ∧ Fr [2, 11] s0 S' ∧ S'.1 2 2 = nI P ∧ S'.1 2 3 = nI (N + 1) ∧ ∀ q, q < 6 → S'.1 11 q = nI (pm (fun k => (nup c N x k).testBit q) (N + 1)))
    (I := fun i s => Fr [11] s0 s ∧ ∀ q, q < 6 → s.1 11 q = nI (if q < i then pm (fun k => (nup c N x k).testBit q) (N + 1) else pm (fun k => (c k).testBit q) N)) P (fun n s hi => ?_) (fun n i s hi hI ih => ?_) P 1000 0 s0 (Nat.zero_add P) (by omega) ⟨Fr.refl s0, fun q hq => by rw [if_neg (Nat.not_lt_zero q), hs0, cf_n (by decide)]; exact h11 q hq⟩
  · obtain ⟨S', e1, e2, e3, e4, e5⟩ := h
    refine ⟨S', ?_, ?_, e3, e4, ?_, e5⟩
    · unfold f_X1_add
      rw [h3, q_pu_nI (by omega) (by decide), ← hs0]
      exact e1
    · refine Fr.trans (S' := s0) (by rw [hs0]; exact Fr.cfun (by decide)) (e2.mono (by decide))
    · rw [e2.1 10 (by decide), hs0, cf_s]
  · obtain ⟨i1, i2⟩ := hi
    have e22 : s.1 2 = S.1 2 := by rw [i1.1 2 (by decide), hs0, cf_n (by decide)]
    refine ⟨cset s 2 3 (s.1 2 3 + 1), ?_, (i1.mono (by decide)).trans (Fr.cset (by decide)), by rw [cs_k (by decide), e22]; exact h2, by rw [cs_s, e22, h3, nI_1], fun q hq => ?_⟩
    · show f_X1_add_16b _ _ _ _ _ = _
      unfold f_X1_add_16b
      rw [e22, h2, if_pos (nI_le (Nat.le_refl P) (by omega))]
    · rw [cs_n (by decide), i2 q hq]
      by_cases e : q < P
      · rw [if_pos e]
      · rw [if_neg e, top, Nat.testBit_lt_two_pow (Nat.lt_of_lt_of_le hx (Nat.pow_le_pow_right (n := 2) (by decide) (by omega))), if_neg (by decide), Nat.add_zero]
  · obtain ⟨i1, i2⟩ := hI
    have e22 : s.1 2 = S.1 2 := by rw [i1.1 2 (by decide), hs0, cf_n (by decide)]
    have hi2 := i2 i (by omega)
    rw [if_neg (Nat.lt_irrefl i)] at hi2
    by_cases hb : x.testBit i = true
    · obtain ⟨S', e1, e2⟩ := ih (cfun s 11 (upd (s.1 11) i (nI (pm (fun k => (nup c N x k).testBit i) (N + 1))))) ⟨i1.trans (Fr.cfun (by decide)), fun q hq => by
        rw [cf_s]
        by_cases e : q = i
        · subst e
          rw [pk_us, if_pos (Nat.lt_succ_self q)]
        · rw [pk_un e, i2 q hq]
          by_cases e3 : q < i
          · rw [if_pos e3, if_pos (by omega)]
          · rw [if_neg e3, if_neg (by omega)]⟩
      refine ⟨S', ?_, e2⟩
      show f_X1_add_16b _ _ _ _ _ = _
      unfold f_X1_add_16b f_X1_add_52
      rw [e22, h2, if_neg (nI_ge hi (by omega)), hasBit_nI hx31 (by omega), hb, if_neg (by decide), q_at_nI (by omega) (by decide), hi2, pm_next (by omega), q_pu_nI (by omega) (by decide), nI_1]
      rw [top, if_pos hb] at e1
      exact e1
    · have hb' : x.testBit i = false := by simpa using hb
      obtain ⟨S', e1, e2⟩ := ih s ⟨i1, fun q hq => by
        rw [i2 q hq]
        by_cases e : q = i
        · subst e
          rw [if_neg (Nat.lt_irrefl q), if_pos (Nat.lt_succ_self q), top, hb', if_neg (by decide), Nat.add_zero]
        · by_cases e3 : q < i
          · rw [if_pos e3, if_pos (by omega)]
          · rw [if_neg e3, if_neg (by omega)]⟩
      refine ⟨S', ?_, e2⟩
      show f_X1_add_16b _ _ _ _ _ = _
      unfold f_X1_add_16b f_X1_add_52
      rw [e22, h2, if_neg (nI_ge hi (by omega)), hasBit_nI hx31 (by omega), hb', if_pos (by decide), nI_1]
      exact e1
/-- a concept more, on both sides -/
theorem RC.more (hC : RCs S M P N c cf de) (hT : RTs S M N cf de 0 B B' H Z) {x : Nat} (hN : N < 24) (hx : x < 2 ^ P) (hne : ∀ j, j < N → c j ≠ x) {S' : CS} {M' : MS} (f : Fr [2, 10, 11] S S') (s2 : S'.1 2 2 = nI P) (s3 : S'.1 2 3 = nI (N + 1)) (s10 : S'.1 10 = upd (S.1 10) N (nI x)) (s11 : ∀ q, q < 6 → S'.1 11 q = nI (pm (fun k => (nup c N x k).testBit q) (N + 1)))
    (m : ∀ s, 2 ≤ s → s ≤ 8 → M'.1 s = M.1 s) (mn : M'.2.1 0 = N + 1) (mr : M'.2.2.1 0 = rupd (M.2.2.1 0) N (upd (upd (upd (fun _ => 0) 0 (nI x)) 1 0) 2 0)) : RCs S' M' P (N + 1) (nup c N x) (fun _ => 0) (fun _ => false) ∧ RTs S' M' (N + 1) (fun _ => 0) (fun _ => false) 0 B B' H Z := by
  obtain ⟨d0, d1, d2, d3, d4, d5, d6, d7, d8, d9, d10, d11, d12, d13⟩ := id hC
  obtain ⟨t1, t2, t3, t4, t5, t6, t7, t8, t9, t10, t11, t12, t13, t14, t15, t16, t17, t18⟩ := id hT
  have hz := t12 rfl
  have s1 : S'.1 1 = S.1 1 := f.1 1 (by decide)
  constructor
  · refine ⟨⟨d0.1, d0.2.1, by omega⟩, s2, s3, by rw [m 2 (by decide) (by decide)]; exact d3, mn, fun k hk => ?_, fun i j hi hj e => ?_, fun k hk => ?_, fun k hk => ?_, s11, fun k hk => ?_, fun k hk => (show (0 : Nat) < 100 by decide), fun k hk => ?_, fun k hk => ?_⟩
    · by_cases e : k = N
      · subst e; rw [nup_s]; exact hx
      · rw [nup_n e]; exact d5 k (by omega)
    · by_cases e1 : i = N
      · by_cases e2 : j = N
        · omega
        · rw [e1, nup_s, nup_n e2] at e
          exact absurd e.symm (hne j (by omega))
      · by_cases e2 : j = N
        · rw [e2, nup_s, nup_n e1] at e
          exact absurd e (hne i (by omega))
        · rw [nup_n e1, nup_n e2] at e
          exact d6 i j (by omega) (by omega) e
    · rw [s10]
      by_cases e : k = N
      · subst e; rw [pk_us, nup_s]
      · rw [pk_un e, nup_n e]; exact d7 k (by omega)
    · rw [mr]
      by_cases e : k = N
      · subst e; rw [ru_s, nup_s, pk_un (by decide), pk_un (by decide), pk_us]
      · rw [ru_n e, nup_n e]; exact d8 k (by omega)
    · rw [f.1 9 (by decide), d10 k hk]
      by_cases e : k < N
      · rw [if_pos e, if_pos (show k < N + 1 by omega), (hz k e).1, (hz k e).2]
      · rw [if_neg e]
        split <;> rfl
    · rw [mr]
      by_cases e : k = N
      · subst e; rw [ru_s, pk_un (by decide), pk_us]; rfl
      · rw [ru_n e, d12 k (by omega), (hz k (by omega)).1]
    · rw [mr]
      by_cases e : k = N
      · subst e; rw [ru_s, pk_us]; rfl
      · rw [ru_n e, d13 k (by omega), (hz k (by omega)).2]
  · show RT _ _ _ _ _ _ _ _ _ _ _ _ _ _ _
    rw [s1, m 3 (by decide) (by decide), m 4 (by decide) (by decide), m 5 (by decide) (by decide), m 6 (by decide) (by decide), m 7 (by decide) (by decide), m 8 (by decide) (by decide)]
    refine ⟨t1, t2, t3, t4, t5, t6, t7, t8, t9, t10, t11, fun _ k hk => ⟨rfl, rfl⟩, fun k hk => Nat.le_refl 0, t14, fun _ => Nat.succ_pos N, fun e => ?_, fun e => ⟨(t17 e).1, rfl⟩, fun e => ?_⟩
    · obtain ⟨g1, g2, g3, g4⟩ := t16 e
      exact ⟨g1, g2, by omega, rfl⟩
    · obtain ⟨z1, z2, z3, z4⟩ := t18 e
      have hH := (t16 (Or.inr e)).2.2.1
      refine ⟨z1, z2, z3, ?_⟩
      rw [← z4, (hz H hH).1]
theorem m_has (hC : RCs S M P N c cf de) {x : Nat} (hx : x < 2 ^ 31) : ∃ b : Bool, f_X9_has M (nI x) = some b ∧ (b = true ↔ ∃ j, j < N ∧ c j = x) := by
  have hN := hC.1.2.2
  obtain ⟨b, hb⟩ : ∃ b : Bool, b = decide (0 < fb_ct (fun k => decide (c k = x)) N) := ⟨_, rfl⟩
  have hr : b = true ↔ ∃ j, j < N ∧ c j = x := by
    rw [hb, decide_eq_true_iff, fb_ct_pos]
    constructor
    · rintro ⟨k, h1, h2⟩; exact ⟨k, h1, by simpa using h2⟩
    · rintro ⟨k, h1, h2⟩; exact ⟨k, h1, by simpa using h2⟩
  refine ⟨b, ?_, hr⟩
  refine pu_for0 (W := fun n i => f_X9_has_12 M n (nI x) (q_b (decide (0 < fb_ct (fun k => decide (c k = x)) i))) (nI i) (M.1 20) = some b) (e := N) (n := 1000) (by omega) (fun n => ?_) (fun n i hi ih => ?_)
  · show f_X9_has_12b _ _ _ _ _ _ = _
    unfold f_X9_has_12b
    rw [hC.mN, if_pos it_end, ← hb]
    cases b <;> rfl
  · show f_X9_has_12b _ _ _ _ _ _ = _
    unfold f_X9_has_12b f_X9_has_46
    have es : M.2.2.1 0 i 0 = nI x ↔ c i = x := by rw [hC.mst hi, nI_eq (Nat.lt_trans (hC.c64 hi) (by decide)) hx]
    rw [hC.mN, if_neg (it_go hi hC.N31), if_pos (it_in hi hC.N31 rfl), nI_clamp (by omega), if_pos hi, nI_1]
    rw [fb_ct_succ] at ih
    by_cases e : c i = x
    · rw [if_pos (es.mpr e)]
      rw [decide_eq_true e, if_pos rfl, decide_eq_true (by omega)] at ih
      rw [show q_b (decide (0 < fb_ct (fun k => decide (c k = x)) i)) ||| (1 : Int32) = q_b true by cases decide (0 < fb_ct (fun k => decide (c k = x)) i) <;> decide]
      exact ih
    · rw [if_neg (fun f => e (es.mp f))]
      rw [decide_eq_false e, if_neg (by decide), Nat.add_zero] at ih
      rw [show q_b (decide (0 < fb_ct (fun k => decide (c k = x)) i)) ||| (0 : Int32) = q_b (decide (0 < fb_ct (fun k => decide (c k = x)) i)) by cases decide (0 < fb_ct (fun k => decide (c k = x)) i) <;> decide]
      exact ih
theorem T_concept (h : RelC S M) (a : Int32) (fo : Nat → Int64) : TI (f_L_concept S a fo) fo (f_X9_concept a M) (fun S' M' => RelC S' M' ∧ Fr [2, 10, 11] S S' ∧ Mr [0] [0] M M') := by
  have hR := h
  obtain ⟨P, N, c, cf, de, A, B, B', H, Z, hC, hT⟩ := h
  have hN := hC.1.2.2
  have hs := isSetC hC.1.2.1 hC.2.1 a
  obtain ⟨bm, hm1, hm2⟩ := isSetM hC.1.2.1 hC.2.2.2.1 a
  have e51 : ∀ v : Int32, ¬ v ≤ 0 → f_X9_concept_51 a v M = some (0, mset M 0 v) := fun v hv => by
    unfold f_X9_concept_51
    rw [isWr, decide_eq_false hv]
    rfl
  by_cases c1 : ∃ m, m < 2 ^ P ∧ a = nI m
  · have c1' : ¬ ¬ ∃ m, m < 2 ^ P ∧ a = nI m := fun e => e c1
    obtain ⟨x, hx, rfl⟩ := c1
    have hx31 : x < 2 ^ 31 := Nat.lt_of_lt_of_le hx (Nat.pow_le_pow_right (n := 2) (by decide) (by have := hC.1.2.1; omega))
    obtain ⟨bh, hh1, hh2⟩ := m_has hC hx31
    have gv : 0 < S.1 1 6 ↔ ¬ A = 0 := by
      rw [hT.2.1, show (0 : Int32) = nI 0 from rfl, nI_ltI (by decide) (by have := hT.2.2.2.1; omega)]
      omega
    have gm : M.1 3 ≤ 0 ↔ A = 0 := by
      rw [hT.2.2.1, show (0 : Int32) = nI 0 from rfl, nI_leI (by have := hT.2.2.2.1; omega) (by decide)]
      omega
    by_cases c2 : A = 0 ∧ ¬ ∃ j, j < N ∧ c j = x
    · have bf : bh = false := Bool.eq_false_iff.mpr (fun e => c2.2 (hh2.mp e))
      have nn : f_X1_numberOf S (nI x) = some (-1) := by
        rcases hC.number hx31 with ⟨j, h1, h2, h3⟩ | ⟨h1, h2⟩
        · exact absurd ⟨j, h1, h2⟩ c2.2
        · exact h2
      by_cases c3 : N < 24
      · obtain ⟨S', e1, e2, e3, e4, e5, e6⟩ := x_add (S := S) (P := P) (N := N) (c := c) (x := x) hC.1.2.1 c3 hC.2.1 hC.2.2.1 hx hC.2.2.2.2.2.2.2.2.2.1
        obtain ⟨M', hM⟩ : ∃ M', M' = madd (mset M 0 0) 0 (upd (upd (upd (fun _ => 0) 0 (nI x)) 1 0) 2 0) := ⟨_, rfl⟩
        have mM : Mr [0] [0] M M' := by rw [hM]; exact (Mr.mset (by decide)).trans (Mr.madd (by decide))
        obtain ⟨cA, cE⟩ := c2
        subst cA
        have new := hC.more hT c3 hx (fun j hj e => cE ⟨j, hj, e⟩) e2 e3 e4 e5 e6 (M' := M') (fun s h1 h2 => mM.1 s (by omega) (by simp; omega)) (by rw [hM, ma_n]; exact congrArg (· + 1) hC.mN) (by rw [hM, ma_r, show (mset M 0 0).2.1 0 = N from hC.mN]; rfl)
        refine TI.ok (r := nI N) (S := S') (M := M') ?_ ?_ ?_ ⟨⟨P, N + 1, nup c N x, fun _ => 0, fun _ => false, 0, B, B', H, Z, new.1, new.2⟩, e2, mM⟩
        · unfold f_L_concept f_X8_concept
          rw [if_neg (fun e => c1' (hs.mp e)), if_neg (fun e => gv.mp e rfl), nn]
          simp only [Option.bind_some]
          rw [if_pos (by decide), hC.2.2.1, if_pos (show nI N < (24 : Int32) from nI_lt (b := 24) c3 (by decide)), e1]
          rfl
        · unfold f_X9_concept
          rw [hm1]
          simp only [Option.bind_some]
          rw [if_neg (fun e => c1' (hm2.mp e)), hh1, bf]
          simp only [Option.bind_some]
          rw [if_pos (by decide), if_pos (gm.mpr rfl), hC.mN, if_neg (fun e => by have := (nI_eq (b := 24) hC.N31 (by decide)).mp e; omega)]
          unfold f_X9_concept_51
          rw [isWr]
          simp only [Option.bind_some]
          rw [if_pos (by decide), show (mset M 0 0).2.1 0 = N from hC.mN, if_pos (by omega), ← hM, show M'.2.1 0 = N + 1 by rw [hM, ma_n]; exact congrArg (· + 1) hC.mN, nI_pred]
        · rw [hM]
          exact ((Mr.madd (L := []) (K := [0]) (M := mset M 0 0) (i := 0) (by decide)).1 0 (by decide) (by decide)).trans ms_s
      · have h24 : N = 24 := by omega
        refine TI.ex (code := 3) (r := 0) (S := S) (M := M) (by decide) ?_ ?_ ⟨hR.m0 3, Fr.refl S, Mr.mset (by decide)⟩
        · unfold f_L_concept f_X8_concept
          rw [if_neg (fun e => c1' (hs.mp e)), if_neg (fun e => gv.mp e c2.1), nn]
          simp only [Option.bind_some]
          rw [if_pos (by decide), hC.2.2.1, if_neg (show ¬ nI N < (24 : Int32) from nI_nlt (b := 24) (by omega) (by omega))]
          rfl
        · unfold f_X9_concept
          rw [hm1]
          simp only [Option.bind_some]
          rw [if_neg (fun e => c1' (hm2.mp e)), hh1, bf]
          simp only [Option.bind_some]
          rw [if_pos (by decide), if_pos (gm.mpr c2.1), hC.mN, if_pos (by rw [h24]; rfl), e51 3 (by decide)]
    · refine TI.ex (code := 2) (r := 0) (S := S) (M := M) (by decide) ?_ ?_ ⟨hR.m0 2, Fr.refl S, Mr.mset (by decide)⟩
      · unfold f_L_concept f_X8_concept f_X8_concept_42
        rw [if_neg (fun e => c1' (hs.mp e))]
        by_cases e : A = 0
        · rw [if_neg (fun f => gv.mp f e)]
          have ex : ∃ j, j < N ∧ c j = x := Decidable.byContradiction (fun f => c2 ⟨e, f⟩)
          rcases hC.number hx31 with ⟨j, h1, h2, h3⟩ | ⟨h1, h2⟩
          · rw [h3]
            simp only [Option.bind_some]
            rw [if_neg (nI_pos (by omega))]
            rfl
          · obtain ⟨j, g1, g2⟩ := ex
            exact absurd g2 (h1 j g1)
        · rw [if_pos (gv.mpr e)]
          rfl
      · unfold f_X9_concept f_X9_concept_28
        rw [hm1]
        simp only [Option.bind_some]
        rw [if_neg (fun e => c1' (hm2.mp e)), hh1]
        simp only [Option.bind_some]
        by_cases e : bh = true
        · rw [e, if_neg (by decide), e51 2 (by decide)]
        · have bf : bh = false := by simpa using e
          have eA : ¬ A = 0 := fun f => c2 ⟨f, fun g => e (hh2.mpr g)⟩
          rw [bf, if_pos (by decide), if_neg (fun f => eA (gm.mp f)), e51 2 (by decide)]
  · refine TI.ex (code := 1) (r := 0) (S := S) (M := M) (by decide) ?_ ?_ ⟨hR.m0 1, Fr.refl S, Mr.mset (by decide)⟩
    · unfold f_L_concept f_X8_concept
      rw [if_pos (hs.mpr c1)]
      rfl
    · unfold f_X9_concept
      rw [hm1]
      simp only [Option.bind_some]
      rw [if_pos (hm2.mpr c1), e51 1 (by decide)]
end PCO
