/-! shattered sets, dimension -/
def tr (c : Nat → Nat) (v k : Nat) : Nat := c k &&& v
theorem hasB_succ (c : Nat → Nat) (i t : Nat) : hasB c (i + 1) t = (hasB c i t || decide (c i = t)) := by
  apply Bool.eq_iff_iff.mpr
  rw [Bool.or_eq_true, hasB_iff, hasB_iff, decide_eq_true_iff]
  constructor
  · rintro ⟨j, h1, h2⟩
    by_cases e : j = i
    · subst e; exact Or.inr h2
    · exact Or.inl ⟨j, by omega, h2⟩
  · rintro (⟨j, h1, h2⟩ | h)
    · exact ⟨j, by omega, h2⟩
    · exact ⟨i, Nat.lt_succ_self i, h⟩
theorem pm_or_pow {f g : Nat → Bool} {n j : Nat} (hj : j < n) (h : ∀ k, k < n → g k = (f k || decide (j = k))) : pm f n ||| 2 ^ j = pm g n := by
  apply Nat.eq_of_testBit_eq
  intro i
  rw [Nat.testBit_or, pm_bit, pm_bit, Nat.testBit_two_pow]
  by_cases e : i < n
  · rw [decide_eq_true e, h i e, Bool.true_and, Bool.true_and]
  · rw [decide_eq_false e, Bool.false_and, Bool.false_and, decide_eq_false (by omega)]
    rfl
theorem ct_new {f g : Nat → Bool} {n j : Nat} (hj : j < n) (h : ∀ k, k < n → g k = (f k || decide (j = k))) : fb_ct g n = fb_ct f n + (if f j then 0 else 1) := by
  by_cases e : f j = true
  · rw [if_pos e, Nat.add_zero]
    refine fb_ct_cong (fun k hk => ?_)
    rw [h k hk]
    by_cases e2 : j = k
    · subst e2; rw [e]; rfl
    · rw [decide_eq_false e2, Bool.or_false]
  · have key : ∀ m, m ≤ n → fb_ct g m = fb_ct f m + (if j < m then 1 else 0) := by
      intro m
      induction m with
      | zero => intro _; rw [if_neg (Nat.not_lt_zero j)]; rfl
      | succ m ih =>
        intro hm
        rw [fb_ct_succ, fb_ct_succ, ih (by omega), h m (by omega)]
        by_cases e2 : j = m
        · subst e2
          rw [decide_eq_true rfl, Bool.or_true, if_pos rfl, if_neg e, if_neg (Nat.lt_irrefl j), if_pos (Nat.lt_succ_self j)]
        · rw [decide_eq_false e2, Bool.or_false]
          by_cases e3 : j < m
          · rw [if_pos e3, if_pos (show j < m + 1 by omega)]; split <;> omega
          · rw [if_neg e3, if_neg (show ¬ j < m + 1 by omega), Nat.add_zero, Nat.add_zero]
    rw [key n (Nat.le_refl n), if_pos hj, if_neg e]
section PSH
variable {S : CS} {M : MS} {P N A B B' H Z : Nat} {c cf : Nat → Nat} {de : Nat → Bool}
def bits (v : Nat) : Nat := fb_ct (fun k => v.testBit k) 32
theorem bits_le {v P : Nat} (hP : P ≤ 6) (hv : v < 2 ^ P) : bits v ≤ P := by
  unfold bits
  obtain ⟨d, hd⟩ : ∃ d, 32 = P + d := ⟨32 - P, by omega⟩
  rw [hd, fb_ct_split, (fb_ct_zero (p := fun k => v.testBit (P + k)) (n := d)).mpr (fun k _ => Nat.testBit_lt_two_pow (Nat.lt_of_lt_of_le hv (Nat.pow_le_pow_right (by decide) (by omega)))), Nat.add_zero]
  exact fb_ct_le _ _
theorem bitC {v : Nat} (hv : v < 64) : f_J6_bitCount_0f7a4 (nI v) = nI (bits v) := bitCount_nI (by omega)
def shB (c : Nat → Nat) (N v : Nat) : Bool := decide (fb_ct (hasB (tr c v) N) 64 = 2 ^ bits v)
theorem RC.tr64 (hC : RCs S M P N c cf de) {k v : Nat} (hk : k < N) : tr c v k < 2 ^ P := Nat.lt_of_le_of_lt Nat.and_le_left (hC.2.2.2.2.2.1 k hk)
theorem RC.ctH (hC : RCs S M P N c cf de) (v : Nat) : ∀ i, i ≤ N → fb_ct (hasB (tr c v) i) 64 ≤ i
  | 0, _ => by rw [(fb_ct_zero (p := hasB (tr c v) 0) (n := 64)).mpr (fun k _ => by rw [Bool.eq_false_iff]; intro e; obtain ⟨j, h, _⟩ := (hasB_iff _ _ _).mp e; omega)]; exact Nat.le_refl 0
  | i + 1, h => by
    have ih := RC.ctH hC v i (by omega)
    have := hC.shl.2.2
    have t := hC.tr64 (v := v) (show i < N by omega)
    rw [ct_new (f := hasB (tr c v) i) (j := tr c v i) (by omega) (fun k _ => hasB_succ _ i k)]
    split <;> omega
theorem RC.shC (hC : RCs S M P N c cf de) {v : Nat} (hv : v < 2 ^ P) : f_X1_shatters S (nI v) = some (shB c N v) := by
  have h64 := hC.shl.2.2
  have hN := hC.1.2.2
  have hP := hC.1.2.1
  have hb := bits_le hC.1.2.1 hv
  have hb6 : 2 ^ bits v ≤ 64 := Nat.pow_le_pow_right (n := 2) (by decide) (Nat.le_trans hb hC.1.2.1)
  have z0 : pm (hasB (tr c v) 0) 64 = 0 := pm_zero.mpr (fun k _ => by rw [Bool.eq_false_iff]; intro e; obtain ⟨j, h, _⟩ := (hasB_iff _ _ _).mp e; omega)
  suffices key : f_X1_shatters_5 S 1000 (nI v) (lN (pm (hasB (tr c v) 0) 64)) (nI 0) = some (shB c N v) by
    rw [z0] at key
    exact key
  refine pu_for0 (W := fun n i => f_X1_shatters_5 S n (nI v) (lN (pm (hasB (tr c v) i) 64)) (nI i) = some (shB c N v)) (e := N) (n := 1000) (by omega) (fun n => ?_) (fun n i hi ih => ?_)
  · show f_X1_shatters_5b S _ _ _ _ = _
    unfold f_X1_shatters_5b
    have le := hC.ctH v N (Nat.le_refl N)
    rw [hC.2.2.1, if_pos (nI_le (Nat.le_refl N) hC.N31), bitCount_pm64 _ (Nat.le_refl 64), bitC (by omega), nI_one _ (by omega)]
    unfold shB
    by_cases e : fb_ct (hasB (tr c v) N) 64 = 2 ^ bits v
    · rw [e, if_pos rfl, decide_eq_true rfl]
    · rw [if_neg (fun f => e ((nI_eq (by omega) (by omega)).mp f)), decide_eq_false e]
  · show f_X1_shatters_5b S _ _ _ _ = _
    unfold f_X1_shatters_5b
    have t := hC.tr64 (v := v) hi
    rw [hC.2.2.1, if_neg (nI_ge hi hC.N31), hC.setAt hi, nI_and, nI_1]
    have e1 : (1 : Int64) <<< ((nI (c i &&& v)).toInt64 &&& 63) = lN (2 ^ (tr c v i)) := by
      have := wb_shl 1 (k := tr c v i) (by omega)
      rw [Nat.one_mul] at this
      exact this
    rw [e1, wb_or (pm_lt _ 64) (Nat.pow_lt_pow_right (by decide) (by omega)), pm_or_pow (g := hasB (tr c v) (i + 1)) (by omega) (fun k _ => hasB_succ _ i k)]
    exact ih
theorem RC.shM (hC : RCs S M P N c cf de) {v : Nat} (hv : v < 2 ^ P) : f_X9_shatters M (nI v) = some (shB c N v) := by
  have hN := hC.1.2.2
  obtain ⟨-, sh, h64⟩ := hC.shl
  have hP := hC.1.2.1
  have hb := bits_le hC.1.2.1 hv
  have hb6 : 2 ^ bits v ≤ 64 := Nat.pow_le_pow_right (n := 2) (by decide) (Nat.le_trans hb hC.1.2.1)
  unfold f_X9_shatters
  rw [sh, nI_clamp (by omega), if_pos ⟨nI_pos (by omega), h64⟩]
  have h := pu_forS (W := fun n i (s : Nat → Int32) => f_X9_shatters_22 M n (nI v) (nI (fb_ct (hasB (tr c v) i) 64)) (2 ^ P) s (nI i) (M.1 20) = some (shB c N v))
    (I := fun i s => ∀ t, t < 2 ^ P → s t = q_b (hasB (tr c v) i t)) N (fun n s hi => ?_) (fun n i s hi hI ih => ?_) N 1000 0 (fun _ => 0) (Nat.zero_add N) (by omega) (fun t _ => by
      rw [show hasB (tr c v) 0 t = false from by rw [Bool.eq_false_iff]; intro e; obtain ⟨j, h, _⟩ := (hasB_iff _ _ _).mp e; omega]; rfl)
  · rw [(fb_ct_zero (p := hasB (tr c v) 0) (n := 64)).mpr (fun k _ => by rw [Bool.eq_false_iff]; intro e; obtain ⟨j, h, _⟩ := (hasB_iff _ _ _).mp e; omega)] at h
    exact h
  · show f_X9_shatters_22b _ _ _ _ _ _ _ _ = _
    unfold f_X9_shatters_22b
    have le := hC.ctH v N (Nat.le_refl N)
    rw [hC.mN, if_pos it_end, bitC (by omega), nI_one _ (by omega)]
    unfold shB
    by_cases e : fb_ct (hasB (tr c v) N) 64 = 2 ^ bits v
    · rw [e, if_pos rfl, decide_eq_true rfl]
    · rw [if_neg (fun f => e ((nI_eq (by omega) (by omega)).mp f)), decide_eq_false e]
  · have t := hC.tr64 (v := v) hi
    have hcl : (nI (tr c v i)).toNatClampNeg = tr c v i := nI_clamp (by omega)
    have hn := ct_new (f := hasB (tr c v) i) (g := hasB (tr c v) (i + 1)) (j := tr c v i) (n := 64) (by omega) (fun k _ => hasB_succ _ i k)
    have next := ih (upd s (tr c v i) 1) (fun u hu => by
      rw [hasB_succ]
      by_cases e : u = tr c v i
      · subst e; rw [pk_us, decide_eq_true rfl, Bool.or_true]; rfl
      · rw [pk_un e, hI u hu, decide_eq_false (fun f => e f.symm), Bool.or_false])
    have e0 : M.2.2.1 0 i 0 &&& nI v = nI (tr c v i) := by rw [hC.mst hi, nI_and]; rfl
    show f_X9_shatters_22b _ _ _ _ _ _ _ _ = _
    unfold f_X9_shatters_22b f_X9_shatters_61
    rw [hC.mN, if_neg (it_go hi hC.N31), if_pos (it_in hi hC.N31 rfl), nI_clamp (by omega), if_pos hi, e0, if_pos (q_in_nI t (by omega)), show s (nI (tr c v i)).toNatClampNeg = q_b (hasB (tr c v) i (tr c v i)) by rw [hcl]; exact hI _ t, nI_1, show vp_nar .boolean (1 : Int32) = 1 from rfl]
    cases hb2 : hasB (tr c v) i (tr c v i)
    · rw [hb2, if_neg (by decide)] at hn
      rw [if_pos (by decide), if_pos hi, if_pos (q_in_nI t (by omega)), hcl, nI_1]
      rw [hn] at next
      exact next
    · rw [hb2, if_pos rfl, Nat.add_zero] at hn
      rw [if_neg (by decide), if_pos hi, if_pos (q_in_nI t (by omega)), hcl, Int32.add_zero, nI_1]
      rw [hn] at next
      exact next
theorem T_isShattered (h : RelC S M) (a : Int32) (fo : Nat → Int64) : TB (f_L_isShattered S a fo) fo (f_X9_isShattered a M) (fun S' M' => S' = S ∧ Mr [0] [] M M') := by
  obtain ⟨P, N, c, cf, de, A, B, B', H, Z, hC, hT⟩ := h
  have hs := isSetC hC.1.2.1 hC.2.1 a
  obtain ⟨bm, hm1, hm2⟩ := isSetM hC.1.2.1 hC.2.2.2.1 a
  by_cases c1 : ∃ m, m < 2 ^ P ∧ a = nI m
  · have c1' : ¬ ¬ ∃ m, m < 2 ^ P ∧ a = nI m := fun e => e c1
    have n1 := fun e => c1' (hs.mp e)
    have n2 := fun e => c1' (hm2.mp e)
    obtain ⟨v, hv, rfl⟩ := c1
    refine TB.ok (r := shB c N v) (S := S) (M := mset M 0 0) ?_ ?_ ms_s ⟨rfl, Mr.mset (by decide)⟩
    · unfold f_L_isShattered f_X8_isShattered
      rw [if_neg n1, hC.shC hv]
      simp only [Option.bind_some, if_true]
      rw [qbz]
    · unfold f_X9_isShattered f_X9_isShattered_14
      rw [hm1]
      simp only [Option.bind_some]
      rw [if_neg n2, isWr]
      simp only [Option.bind_some]
      rw [if_pos (by decide), (hC.m0 0).shM hv]
      simp only [Option.bind_some]
      cases shB c N v
      · rw [if_pos (by decide)]
      · rw [if_neg (by decide)]
  · refine TB.ex (code := 1) (r := false) (S := S) (M := M) (by decide) ?_ ?_ ⟨rfl, Mr.mset (by decide)⟩
    · unfold f_L_isShattered f_X8_isShattered
      rw [if_pos (hs.mpr c1)]
      rfl
    · unfold f_X9_isShattered f_X9_isShattered_14
      rw [hm1]
      simp only [Option.bind_some]
      rw [if_pos (hm2.mpr c1), isWr]
      rfl
def dm (c : Nat → Nat) (N : Nat) : Nat → Nat
  | 0 => 0
  | i + 1 => if shB c N i then max (dm c N i) (bits i + 1) else dm c N i
theorem dm_succ (c : Nat → Nat) (N i : Nat) : dm c N (i + 1) = if shB c N i then max (dm c N i) (bits i + 1) else dm c N i := rfl
theorem dm_le (c : Nat → Nat) (N : Nat) {P : Nat} (hP : P ≤ 6) : ∀ i, i ≤ 2 ^ P → dm c N i ≤ P + 1
  | 0, _ => Nat.zero_le _
  | i + 1, h => by
    have := dm_le c N hP i (by omega)
    have := bits_le hP (show i < 2 ^ P by omega)
    rw [dm_succ]
    split
    · exact Nat.max_le.mpr ⟨by omega, by omega⟩
    · omega
theorem RC.dimC (hC : RCs S M P N c cf de) : f_X1_greatestShattered S = some (nI (dm c N (2 ^ P)) - 1) := by
  obtain ⟨sh, -, h64⟩ := hC.shl
  have hP := hC.1.2.1
  refine pu_for0 (W := fun n i => f_X1_greatestShattered_4 S n (nI (dm c N i) - 1) (nI i) = some (nI (dm c N (2 ^ P)) - 1)) (e := 2 ^ P) (n := 1000) (by omega) (fun n => ?_) (fun n i hi ih => ?_)
  · show f_X1_greatestShattered_4b S _ _ _ = _
    unfold f_X1_greatestShattered_4b
    rw [sh, if_pos (nI_le (Nat.le_refl _) (by omega))]
  · show f_X1_greatestShattered_4b S _ _ _ = _
    unfold f_X1_greatestShattered_4b f_X1_greatestShattered_35
    have b1 := bits_le hP hi
    have d1 := dm_le c N hP i (by omega)
    have lp := le_pred (x := bits i) (m := dm c N i) (by omega) (by omega)
    rw [sh, if_neg (nI_ge hi (by omega)), bitC (by omega), nI_1]
    rw [dm_succ] at ih
    by_cases e : bits i < dm c N i
    · rw [if_pos (lp.mpr e)]
      rw [show (if shB c N i then max (dm c N i) (bits i + 1) else dm c N i) = dm c N i by split; exact Nat.max_eq_left (by omega); rfl] at ih
      exact ih
    · rw [if_neg (fun f => e (lp.mp f)), hC.shC hi]
      simp only [Option.bind_some]
      cases hb : shB c N i
      · rw [hb, if_neg (by decide)] at ih
        rw [if_pos (by decide)]
        exact ih
      · rw [hb, if_pos rfl, Nat.max_eq_right (by omega), ← nI_1 (bits i), Int32.add_sub_cancel] at ih
        rw [if_neg (by decide)]
        exact ih
theorem RC.dimM (hC : RCs S M P N c cf de) : f_X9_dimensionOf M = some (nI (dm c N (2 ^ P)) - 1) := by
  obtain ⟨-, sh, h64⟩ := hC.shl
  have hP := hC.1.2.1
  refine pu_for0 (W := fun n i => f_X9_dimensionOf_4 M n (nI (dm c N i) - 1) (nI i) = some (nI (dm c N (2 ^ P)) - 1)) (e := 2 ^ P) (n := 70) (by omega) (fun n => ?_) (fun n i hi ih => ?_)
  · show f_X9_dimensionOf_4b _ _ _ _ = _
    unfold f_X9_dimensionOf_4b
    rw [sh, if_pos (nI_le (Nat.le_refl _) (by omega))]
  · show f_X9_dimensionOf_4b _ _ _ _ = _
    unfold f_X9_dimensionOf_4b f_X9_dimensionOf_34
    have b1 := bits_le hP hi
    have d1 := dm_le c N hP i (by omega)
    rw [sh, if_neg (nI_ge hi (by omega)), hC.shM hi]
    simp only [Option.bind_some]
    rw [bitC (by omega), max_pred (by omega) (by omega), nI_1]
    rw [dm_succ] at ih
    cases hb : shB c N i
    · rw [hb, if_neg (by decide)] at ih
      rw [if_pos (by decide)]
      exact ih
    · rw [hb, if_pos rfl] at ih
      rw [if_neg (by decide)]
      exact ih
theorem D_dimension (h : RelC S M) : ∃ v : Int32, f_X8_dimension S = some v ∧ f_X9_dimension M = some (v, mset M 0 0) := by
  obtain ⟨P, N, c, cf, de, A, B, B', H, Z, hC, hT⟩ := h
  refine ⟨nI (dm c N (2 ^ P)) - 1, ?_, ?_⟩
  · unfold f_X8_dimension
    rw [hC.dimC]
    rfl
  · unfold f_X9_dimension
    rw [(hC.m0 0).dimM]
    rfl
end PSH
