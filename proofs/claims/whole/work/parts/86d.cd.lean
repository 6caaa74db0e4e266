theorem isCode_out {a : Int32} (h : a < 0 ∨ 333 < a) : f_X0_isCode a = false ∧ f_X9_isCode a = false := by
  constructor
  · unfold f_X0_isCode
    by_cases c : a < 0
    · rw [if_pos c]
    · rw [if_neg c, if_pos (h.resolve_left c)]
  · unfold f_X9_isCode
    rw [show (0 : Int64) = (0 : Int32).toInt64 from rfl, show (333 : Int64) = (333 : Int32).toInt64 from rfl, isB, if_pos (qb_0.mpr ?_)]
    rcases h with h | h
    · rw [decide_eq_false (i32_le.mpr h)]; rfl
    · rw [decide_eq_false (i32_le.mpr h), Bool.and_false]
theorem isCodeE (a : Int32) : (f_X0_isCode a = false ∧ f_X9_isCode a = false) ∨ ∃ x, x < 64 ∧ a = nI (cd x) ∧ f_X0_isCode a = true ∧ f_X9_isCode a = true := by
  by_cases h : a < 0 ∨ 333 < a
  · exact Or.inl (isCode_out h)
  · obtain ⟨k, -, hk, rfl⟩ := rng16 (lo := 0) (hi := 333) (m := 0) (n := 333) rfl rfl (by decide) (by decide) (fun e => h (Or.inl e)) (i32_lt.mp (fun e => h (Or.inr e)))
    obtain ⟨h1, h2⟩ := code_a k (by omega)
    have h3 := (code_0 k (by omega)).2
    cases hb : isK k
    · exact Or.inl ⟨by rw [h3, hb], by rw [h1, hb]⟩
    · obtain ⟨g1, g2⟩ := h2 hb
      exact Or.inr ⟨rk k, g1, by rw [g2], by rw [h3, hb], by rw [h1, hb]⟩
theorem sft {m k : Nat} (hm : m < 2 ^ 64) (hk : k < 64) : ((lN m >>> ((nI k).toInt64 &&& 63)) &&& (1 : Int64)) = 0 ↔ m.testBit k = false := by
  rw [wb_c k hk]
  have e : ((lN m >>> lN k) &&& (1 : Int64)).toBitVec = ((BitVec.ofNat 64 m).sshiftRight k) &&& 1#64 := by
    rw [Int64.toBitVec_and, Int64.toBitVec_shiftRight]
    show ((lN m).toBitVec.sshiftRight ((lN k).toBitVec.smod 64).toNat) &&& _ = _
    rw [wb_tb, wb_tb, wb_sm k hk, BitVec.toNat_ofNat, Nat.mod_eq_of_lt (by omega)]
    rfl
  have b0 : (((BitVec.ofNat 64 m).sshiftRight k) &&& 1#64).getLsbD 0 = m.testBit k := by
    rw [BitVec.getLsbD_and, BitVec.getLsbD_sshiftRight, Nat.add_zero, if_pos hk, BitVec.getLsbD_ofNat]
    simp [hk]
  constructor
  · intro h
    rw [← b0, ← e, h]
    rfl
  · intro h
    apply Int64.toBitVec_inj.mp
    rw [e]
    apply BitVec.eq_of_getLsbD_eq
    intro i hi
    by_cases e0 : i = 0
    · subst e0
      rw [b0, h]
      rfl
    · rw [BitVec.getLsbD_and, show (1#64).getLsbD i = false by rw [BitVec.getLsbD_one]; simp [e0], Bool.and_false]
      show false = (0#64).getLsbD i
      simp
def lf (gs : Nat → Nat) (hs : Nat → Int32) (n x : Nat) : Bool := decide (fb_ct (fun k => decide (hvF x (gs k) = hs k)) n = n)
theorem lf_succ (gs : Nat → Nat) (hs : Nat → Int32) (n x : Nat) : lf gs hs (n + 1) x = (lf gs hs n x && decide (hvF x (gs n) = hs n)) := by
  unfold lf
  rw [fb_ct_succ]
  have := fb_ct_le (fun k => decide (hvF x (gs k) = hs k)) n
  apply Bool.eq_iff_iff.mpr
  rw [Bool.and_eq_true, decide_eq_true_iff, decide_eq_true_iff]
  split
  · rename_i h; rw [h]; constructor
    · intro e; exact ⟨by omega, rfl⟩
    · intro e; omega
  · rename_i h
    constructor
    · intro e; omega
    · intro e; exact absurd e.2 h
theorem lf_cong {gs gs' : Nat → Nat} {hs hs' : Nat → Int32} {n : Nat} (h : ∀ k, k < n → gs k = gs' k ∧ hs k = hs' k) (x : Nat) : lf gs hs n x = lf gs' hs' n x := by
  unfold lf
  rw [fb_ct_cong (q := fun k => decide (hvF x (gs' k) = hs' k)) (fun k hk => by rw [(h k hk).1, (h k hk).2])]
def RK (s7 : Nat → Int32) (sL : Int64) (m14 : Int32) (mn : Nat) (mr : Nat → Nat → Int32) (x0 : Nat) (gs : Nat → Nat) (hs : Nat → Int32) (n : Nat) : Prop :=
  x0 < 64 ∧ n ≤ 20 ∧ s7 0 = nI x0 ∧ s7 1 = nI n ∧ m14 = nI (cd x0) ∧ mn = n ∧ (∀ k, k < n → gs k < 64 ∧ mr k 0 = nI (cd (gs k)) ∧ mr k 1 = hs k ∧ hvF x0 (gs k) = hs k) ∧ sL = lN (pm (lf gs hs n) 64)
abbrev RKs (S : CS) (M : MS) (x0 : Nat) (gs : Nat → Nat) (hs : Nat → Int32) (n : Nat) : Prop := RK (S.1 7) S.2 (M.1 14) (M.2.1 4) (M.2.2.1 4) x0 gs hs n
def RelK (S : CS) (M : MS) : Prop := ∃ (x0 : Nat) (gs : Nat → Nat) (hs : Nat → Int32) (n : Nat), RKs S M x0 gs hs n
theorem lN_m1 : (-1 : Int64) = lN (pm (fun _ => true) 64) := by decide +kernel
/-- what the class keeps but for the places L and the codes left -/
def Fq (L : List Nat) (S S' : CS) : Prop := ∀ j, j ∉ L → S'.1 j = S.1 j
section PCD
variable {S : CS} {M : MS} {x0 n : Nat} {gs : Nat → Nat} {hs : Nat → Int32}
theorem RK.m0 (h : RKs S M x0 gs hs n) (v : Int32) : RKs S (mset M 0 v) x0 gs hs n := by
  show RK _ _ _ _ _ _ _ _ _
  rw [show (mset M 0 v).1 14 = M.1 14 from ms_n (by decide)]
  exact h
theorem RelK.m0 (h : RelK S M) (v : Int32) : RelK S (mset M 0 v) := by
  obtain ⟨x0, gs, hs, n, hK⟩ := h
  exact ⟨x0, gs, hs, n, hK.m0 v⟩
theorem RK.lf0 (h : RKs S M x0 gs hs n) : lf gs hs n x0 = true := by
  unfold lf
  exact decide_eq_true (fb_ct_all.mpr (fun k hk => decide_eq_true (h.2.2.2.2.2.2.1 k hk).2.2.2))
theorem RK.left (h : RKs S M x0 gs hs n) {x : Nat} (hx : x < 64) : f_X0_isLeft S (nI x) = lf gs hs n x := by
  unfold f_X0_isLeft
  have hb := sft (pm_lt (lf gs hs n) 64) hx
  rw [pm_bit, decide_eq_true hx, Bool.true_and] at hb
  rw [h.2.2.2.2.2.2.2]
  cases e : lf gs hs n x
  · rw [if_pos (lg0.mpr (hb.mpr e))]
  · rw [if_neg (fun f => by have := hb.mp (lg0.mp f); rw [e] at this; cases this)]
theorem RK.poss (h : RKs S M x0 gs hs n) {k : Nat} (hk : k < 334) : f_X9_isPossible M (nI k) = some (isK k && lf gs hs n (rk k)) := by
  have hn := h.2.1
  have hmn : M.2.1 4 = n := h.2.2.2.2.2.1
  obtain ⟨k1, k2⟩ := code_a k hk
  unfold f_X9_isPossible
  rw [k1]
  have key := pu_for0 (W := fun m i => f_X9_isPossible_15 M m (nI k) (q_b (isK k && lf gs hs i (rk k))) (nI i) (M.1 24) = some (isK k && lf gs hs n (rk k))) (e := n) (n := 1000) (by omega) (fun m => ?_) (fun m i hi ih => ?_)
  · have l0 : lf gs hs 0 (rk k) = true := rfl
    rw [l0, Bool.and_true] at key
    exact key
  · show f_X9_isPossible_15b _ _ _ _ _ _ = _
    unfold f_X9_isPossible_15b
    rw [hmn, if_pos it_end]
    cases isK k && lf gs hs n (rk k)
    · rfl
    · rfl
  · obtain ⟨g1, g2, g3, g4⟩ := h.2.2.2.2.2.2.1 i hi
    show f_X9_isPossible_15b _ _ _ _ _ _ = _
    unfold f_X9_isPossible_15b f_X9_isPossible_58 f_X9_isPossible_59
    rw [hmn, if_neg (it_go hi (by omega)), if_pos (it_in hi (by omega) rfl), nI_1]
    rw [lf_succ, ← Bool.and_assoc] at ih
    cases hb : isK k && lf gs hs i (rk k)
    · rw [hb, Bool.false_and] at ih
      rw [if_pos (by decide)]
      exact ih
    · rw [hb, Bool.true_and] at ih
      have hk1 : isK k = true := ((Bool.and_eq_true _ _).mp hb).1
      obtain ⟨r1, r2⟩ := k2 hk1
      have eh := (hintE r1 g1).2
      rw [r2] at eh
      have hcl : (nI i).toNatClampNeg = i := nI_clamp (by omega)
      rw [if_neg (by decide), hcl, if_pos hi, g2, eh]
      simp only [Option.bind_some]
      rw [if_pos hi, g3]
      by_cases e : hvF (rk k) (gs i) = hs i
      · rw [decide_eq_true e] at ih
        rw [if_pos e]
        exact ih
      · rw [decide_eq_false e] at ih
        rw [if_neg e]
        exact ih
theorem RK.cnt (l : Nat → Bool) : ∀ k, k ≤ 334 → fb_ct (fun j => isK j && l (rk j)) k = fb_ct l (rk k)
  | 0, _ => rfl
  | k + 1, h => by
    have ih := RK.cnt l k (by omega)
    have er : rk (k + 1) = rk k + (if isK k then 1 else 0) := fb_ct_succ _ _
    rw [fb_ct_succ, ih, er]
    cases hb : isK k
    · rfl
    · rw [if_pos rfl, fb_ct_succ]
      rfl
theorem RK.pcs (h : RKs S M x0 gs hs n) : f_X9_possibleCodes M = some (nI (fb_ct (lf gs hs n) 64)) := by
  have key := pu_for0 (W := fun m i => f_X9_possibleCodes_4 M m (nI (fb_ct (fun j => isK j && lf gs hs n (rk j)) i)) (nI i) = some (nI (fb_ct (fun j => isK j && lf gs hs n (rk j)) 334))) (e := 334) (n := 340) (by omega) (fun m => ?_) (fun m i hi ih => ?_)
  · rw [RK.cnt _ 334 (Nat.le_refl _), show rk 334 = 64 from code_n] at key
    exact key
  · show f_X9_possibleCodes_4b _ _ _ _ = _
    unfold f_X9_possibleCodes_4b
    rw [if_pos (show (333 : Int32) < nI 334 from nI_lt (a := 333) (by decide) (by decide))]
  · show f_X9_possibleCodes_4b _ _ _ _ = _
    unfold f_X9_possibleCodes_4b f_X9_possibleCodes_25
    rw [if_neg (show ¬ (333 : Int32) < nI i from nI_nlt (b := i) (a := 333) (by omega) (by decide)), h.poss hi]
    simp only [Option.bind_some]
    rw [fb_ct_succ] at ih
    cases hb : isK i && lf gs hs n (rk i)
    · rw [hb, if_neg (by decide), Nat.add_zero] at ih
      rw [if_pos (by decide), Int32.add_zero, nI_1]
      exact ih
    · rw [hb, if_pos rfl] at ih
      rw [if_neg (by decide), nI_1, nI_1]
      exact ih
theorem D_possible (h : RelK S M) : ∃ v : Int32, f_X8_possible S = v ∧ f_X9_possible M = some (v, mset M 0 0) := by
  obtain ⟨x0, gs, hs, n, hK⟩ := h
  refine ⟨nI (fb_ct (lf gs hs n) 64), ?_, ?_⟩
  · unfold f_X8_possible
    rw [hK.2.2.2.2.2.2.2, bitCount_pm64 _ (Nat.le_refl 64)]
  · unfold f_X9_possible
    rw [(hK.m0 0).pcs]
    rfl
theorem D_nextCode (h : RelK S M) : ∃ v : Int32, f_X8_nextCode S = some v ∧ f_X9_nextCode M = some (v, mset M 0 0) := by
  obtain ⟨x0, gs, hs, n, hK⟩ := h
  have hx0 := hK.1
  obtain ⟨j, j1, j2, j3⟩ := fb_ct_kth (p := lf gs hs n) (k := 0) (n := 64) (fb_ct_pos.mpr ⟨x0, hx0, hK.lf0⟩)
  have lo : ∀ i, i < j → lf gs hs n i = false := fb_ct_zero.mp j3
  obtain ⟨b1, b2, b3, b4, b5⟩ := code_b j j1
  refine ⟨nI (cd j), ?_, ?_⟩
  · unfold f_X8_nextCode f_X0_leastLeft
    have : f_X0_leastLeft_2 S 1000 0 = some (nI (cd j)) := by
      refine pu_for (fun m i => f_X0_leastLeft_2 S m (nI i) = some (nI (cd j))) j (fun m => ?_) (fun m i hi ih => ?_) j 1000 0 (Nat.zero_add j) (by omega)
      · show f_X0_leastLeft_2b _ _ _ = _
        unfold f_X0_leastLeft_2b
        rw [if_neg (show ¬ (64 : Int32) ≤ nI j from nI_ge (b := 64) j1 (by decide)), hK.left j1, j2, if_neg (by decide), b5]
      · show f_X0_leastLeft_2b _ _ _ = _
        unfold f_X0_leastLeft_2b
        rw [if_neg (show ¬ (64 : Int32) ≤ nI i from nI_ge (b := 64) (by omega) (by decide)), hK.left (by omega), lo i hi, if_pos (by decide), nI_1]
        exact ih
    rw [this]
    rfl
  · unfold f_X9_nextCode
    refine pu_for (fun m i => f_X9_nextCode_7 m (nI i) (mset M 0 0) = some (nI (cd j), mset M 0 0)) (cd j) (fun m => ?_) (fun m i hi ih => ?_) (cd j) 340 0 (Nat.zero_add _) (by omega)
    · show f_X9_nextCode_7b _ _ _ = _
      unfold f_X9_nextCode_7b
      rw [(hK.m0 0).poss b3]
      simp only [Option.bind_some]
      rw [b1, b2, j2, if_neg (by decide)]
    · show f_X9_nextCode_7b _ _ _ = _
      unfold f_X9_nextCode_7b
      rw [(hK.m0 0).poss (by omega)]
      simp only [Option.bind_some]
      have : (isK i && lf gs hs n (rk i)) = false := by
        cases hb : isK i
        · rfl
        · have m := fb_ct_mono isK (m := i + 1) (n := cd j) (by omega)
          rw [fb_ct_succ, if_pos hb] at m
          have m2 : fb_ct isK (cd j) = j := b2
          rw [lo (rk i) (by unfold rk; omega)]
          rfl
      rw [this, if_pos (by decide), nI_1]
      exact ih
theorem T_secret (h : RelK S M) (a : Int32) (fo : Nat → Int64) : TI (f_L_secret S a fo) fo (f_X9_secret a M) (fun S' M' => RelK S' M' ∧ Fq [7] S S' ∧ Mr [0, 14] [4] M M') := by
  have hR := h
  obtain ⟨x0, gs, hs, n, hK⟩ := h
  rcases isCodeE a with ⟨h1, h2⟩ | ⟨x, hx, rfl, h1, h2⟩
  · refine TI.ex (code := 1) (r := 0) (S := S) (M := M) (by decide) ?_ ?_ ⟨hR.m0 1, fun _ _ => rfl, Mr.mset (by decide)⟩
    · unfold f_L_secret f_X8_secret
      rw [h1, if_pos (by decide)]
      rfl
    · unfold f_X9_secret f_X9_secret_13
      rw [h2, if_pos (by decide), isWr]
      rfl
  · obtain ⟨b1, b2, b3, b4, b5⟩ := code_b x hx
    refine TI.ok (r := nI n) (S := f_X0_startAnew (nI (cd x)) S) (M := mset (mclr (mset M 0 0) 4) 14 (nI (cd x))) ?_ ?_ ?_ ⟨⟨x, fun _ => 0, fun _ => 0, 0, hx, by decide, ?_, ?_, ms_s, ?_, fun k hk => absurd hk (Nat.not_lt_zero k), ?_⟩, ?_, ?_⟩
    · unfold f_L_secret f_X8_secret
      rw [h1, if_neg (by decide), hK.2.2.2.1]
      rfl
    · unfold f_X9_secret f_X9_secret_13
      rw [h2, if_neg (by decide), isWr]
      simp only [Option.bind_some]
      rw [if_pos (by decide), show (mset M 0 0).2.1 4 = n from hK.2.2.2.2.2.1]
    · rw [ms_n (by decide), mc_k (by decide), ms_s]
    · show (cset (cset S 7 0 (f_X0_packed (nI (cd x)))) 7 1 0).1 7 0 = _
      rw [cs_k (by decide), cs_s, b4]
    · show (cset (cset S 7 0 (f_X0_packed (nI (cd x)))) 7 1 0).1 7 1 = _
      rw [cs_s]
      rfl
    · exact mc_n
    · show (-1 : Int64) = _
      rw [lN_m1]
      congr 2
    · intro j hj
      show (cset (cset S 7 0 _) 7 1 0).1 j = _
      rw [cs_n (fun e => hj (by simp [e])), cs_n (fun e => hj (by simp [e]))]
    · exact (Mr.mset (by decide)).trans ((Mr.mclr (by decide)).trans (Mr.mset (by decide)))
theorem lN_clear {f g : Nat → Bool} {i : Nat} (hi : i < 64) (h : ∀ k, k < 64 → g k = (f k && !decide (i = k))) : lN (pm f 64) &&& (((1 : Int64) <<< ((nI i).toInt64 &&& 63)) ^^^ (-1 : Int64)) = lN (pm g 64) := by
  have e1 : (1 : Int64) <<< ((nI i).toInt64 &&& 63) = lN (2 ^ i) := by
    have := wb_shl 1 (k := i) hi
    rw [Nat.one_mul] at this
    exact this
  rw [e1]
  apply Int64.toBitVec_inj.mp
  rw [Int64.toBitVec_and, Int64.toBitVec_xor, wb_tb, wb_tb, wb_tb]
  apply BitVec.eq_of_getLsbD_eq
  intro k hk
  have em : (-1 : Int64).toBitVec.getLsbD k = true := by
    rw [show (-1 : Int64).toBitVec = BitVec.allOnes 64 by decide, BitVec.getLsbD_allOnes]
    exact decide_eq_true hk
  rw [BitVec.getLsbD_and, BitVec.getLsbD_xor, em, BitVec.getLsbD_ofNat, BitVec.getLsbD_ofNat, BitVec.getLsbD_ofNat, decide_eq_true hk, Bool.true_and, Bool.true_and, Bool.true_and, pm_bit, pm_bit, decide_eq_true hk, Bool.true_and, Bool.true_and, h k hk, Nat.testBit_two_pow, Bool.xor_true]
theorem x_give (hK : RKs S M x0 gs hs n) {y : Nat} (hy : y < 64) : ∃ S' : CS, f_X0_giveHint (nI (cd y)) S = some (hvF x0 y, S') ∧ Fq [7] S S' ∧ S'.1 7 0 = S.1 7 0 ∧ S'.1 7 1 = S.1 7 1 + 1 ∧ S'.2 = lN (pm (fun x => lf gs hs n x && decide (hvF x y = hvF x0 y)) 64) := by
  obtain ⟨b1, b2, b3, b4, b5⟩ := code_b y hy
  unfold f_X0_giveHint
  rw [b4, hK.2.2.1, (hintE hK.1 hy).1]
  simp only [Option.bind_some]
  have h := pu_forS (W := fun m i s => ∃ S' : CS, f_X0_giveHint_17 m (nI y) (hvF x0 y) (nI i) s = some (hvF x0 y, S') ∧ Fq [7] S S' ∧ S'.1 7 0 = S.1 7 0 ∧ S'.1 7 1 = S.1 7 1 + 1 ∧ S'.2 = lN (pm (fun x => lf gs hs n x && decide (hvF x y = hvF x0 y)) 64))
    (I := fun i s => s.1 = S.1 ∧ s.2 = lN (pm (fun x => lf gs hs n x && (decide (i ≤ x) || decide (hvF x y = hvF x0 y))) 64)) 64 (fun m s hi => ?_) (fun m i s hi hI ih => ?_) 64 1000 0 S (Nat.zero_add 64) (by omega) ⟨rfl, by
      rw [hK.2.2.2.2.2.2.2]
      congr 1
      exact pm_cong (fun k _ => by rw [decide_eq_true (Nat.zero_le k), Bool.true_or, Bool.and_true])⟩
  · exact h
  · obtain ⟨i1, i2⟩ := hi
    refine ⟨cset s 7 1 (s.1 7 1 + 1), ?_, fun j hj => ?_, ?_, ?_, ?_⟩
    · show f_X0_giveHint_17b _ _ _ _ _ = _
      unfold f_X0_giveHint_17b
      rw [if_pos (show (64 : Int32) ≤ nI 64 from nI_le (Nat.le_refl 64) (by decide))]
    · rw [cs_n (fun e => hj (by simp [e])), i1]
    · rw [cs_k (by decide), i1]
    · rw [cs_s, i1]
    · show s.2 = _
      rw [i2]
      congr 1
      exact pm_cong (fun k hk => by rw [decide_eq_false (by omega), Bool.false_or])
  · obtain ⟨i1, i2⟩ := hI
    show ∃ S' : CS, f_X0_giveHint_17b _ _ _ _ _ = _ ∧ _
    unfold f_X0_giveHint_17b f_X0_giveHint_51
    rw [if_neg (show ¬ (64 : Int32) ≤ nI i from nI_ge (b := 64) hi (by decide)), (hintE hi hy).1]
    simp only [Option.bind_some]
    rw [nI_1]
    by_cases e : hvF i y = hvF x0 y
    · rw [if_pos e]
      exact ih s ⟨i1, by
        rw [i2]
        congr 1
        refine pm_cong (fun k _ => ?_)
        by_cases ek : k = i
        · subst ek; rw [decide_eq_true e, Bool.or_true, Bool.or_true]
        · rw [show decide (i + 1 ≤ k) = decide (i ≤ k) from decide_eq_decide.mpr (by omega)]⟩
    · rw [if_neg e]
      refine ih (csetL s _) ⟨i1, ?_⟩
      show s.2 &&& _ = _
      rw [i2]
      exact lN_clear hi (fun k _ => by
        by_cases ek : i = k
        · subst ek
          rw [decide_eq_false (show ¬ i + 1 ≤ i by omega), decide_eq_false e, decide_eq_true rfl]
          simp
        · rw [show decide (i + 1 ≤ k) = decide (i ≤ k) from decide_eq_decide.mpr (by omega), decide_eq_false ek]
          simp)
theorem T_guess (h : RelK S M) (a : Int32) (fo : Nat → Int64) : TI (f_L_guess S a fo) fo (f_X9_guess a M) (fun S' M' => RelK S' M' ∧ Fq [7] S S' ∧ Mr [0] [4] M M') := by
  have hR := h
  obtain ⟨x0, gs, hs, n, hK⟩ := h
  obtain ⟨d1, d2, d3, d4, d5, d6, d7, d8⟩ := id hK
  rcases isCodeE a with ⟨h1, h2⟩ | ⟨y, hy, rfl, h1, h2⟩
  · refine TI.ex (code := 1) (r := 0) (S := S) (M := M) (by decide) ?_ ?_ ⟨hR.m0 1, fun _ _ => rfl, Mr.mset (by decide)⟩
    · unfold f_L_guess f_X8_guess
      rw [h1, if_pos (by decide)]
      rfl
    · unfold f_X9_guess f_X9_guess_31
      rw [h2, if_pos (by decide), isWr]
      rfl
  · by_cases c2 : n = 20
    · refine TI.ex (code := 2) (r := 0) (S := S) (M := M) (by decide) ?_ ?_ ⟨hR.m0 2, fun _ _ => rfl, Mr.mset (by decide)⟩
      · unfold f_L_guess f_X8_guess
        rw [h1, if_neg (by decide), d4, if_neg (show ¬ nI n < (20 : Int32) from nI_nlt (b := 20) (by omega) (by omega))]
        rfl
      · unfold f_X9_guess f_X9_guess_31
        rw [h2, if_neg (by decide), d6, if_pos (show nI n = (20 : Int32) by rw [c2]; rfl), isWr]
        rfl
    · obtain ⟨S', k1, k2, k3, k4, k5⟩ := x_give hK hy
      have hm : (mset M 0 0).1 14 = nI (cd x0) := (ms_n (by decide)).trans d5
      obtain ⟨M', hM⟩ : ∃ M', M' = madd (mset M 0 0) 4 (upd (upd (fun _ => 0) 0 (nI (cd y))) 1 (hvF x0 y)) := ⟨_, rfl⟩
      have mM : Mr [0] [4] M M' := by rw [hM]; exact (Mr.mset (by decide)).trans (Mr.madd (by decide))
      have m14 : M'.1 14 = nI (cd x0) := (mM.1 14 (by decide) (by decide)).trans d5
      have mn : M'.2.1 4 = n + 1 := by rw [hM, ma_n]; exact congrArg (· + 1) d6
      have mr : M'.2.2.1 4 = rupd (M.2.2.1 4) n (upd (upd (fun _ => 0) 0 (nI (cd y))) 1 (hvF x0 y)) := by rw [hM, ma_r, show (mset M 0 0).2.1 4 = n from d6]; rfl
      refine TI.ok (r := hvF x0 y) (S := S') (M := M') ?_ ?_ ?_ ⟨⟨x0, nup gs n y, nup hs n (hvF x0 y), n + 1, d1, by omega, by rw [k3]; exact d3, by rw [k4, d4, nI_1], m14, mn, fun k hk => ?_, ?_⟩, k2, mM⟩
      · unfold f_L_guess f_X8_guess
        rw [h1, if_neg (by decide), d4, if_pos (show nI n < (20 : Int32) from nI_lt (b := 20) (by omega) (by decide)), k1]
        rfl
      · unfold f_X9_guess f_X9_guess_31
        rw [h2, if_neg (by decide), d6, if_neg (show ¬ nI n = (20 : Int32) from fun e => c2 ((nI_eq (b := 20) (by omega) (by decide)).mp e)), isWr]
        simp only [Option.bind_some]
        rw [if_pos (by decide), hm, (hintE d1 hy).2]
        simp only [Option.bind_some]
        rw [show (mset M 0 0).2.1 4 = n from d6, if_pos (by omega), ← hM, m14, (hintE d1 hy).2]
        rfl
      · have := (Mr.madd (L := []) (K := [4]) (M := mset M 0 0) (i := 4) (f := upd (upd (fun _ => 0) 0 (nI (cd y))) 1 (hvF x0 y)) (by decide)).1 0 (by decide) (by decide)
        rw [hM, this, ms_s]
      · rw [mr]
        by_cases e : k = n
        · subst e
          rw [ru_s, nup_s, nup_s, pk_us, pk_un (by decide), pk_us]
          exact ⟨hy, rfl, rfl, rfl⟩
        · rw [ru_n e, nup_n e, nup_n e]
          exact d7 k (by omega)
      · rw [k5]
        congr 1
        refine pm_cong (fun k _ => ?_)
        rw [lf_succ, nup_s, nup_s, lf_cong (gs := nup gs n y) (gs' := gs) (hs := nup hs n (hvF x0 y)) (hs' := hs) (fun k hk => ⟨nup_n (by omega), nup_n (by omega)⟩)]
end PCD
