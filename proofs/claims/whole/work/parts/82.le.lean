/-! lessons; the halver -/
theorem bit1 {a q : Nat} (ha : a < 2 ^ 31) (hq : q < 32) : ((nI a >>> (nI q &&& 31)) &&& (1 : Int32) = 1) ↔ a.testBit q = true := by
  have h := hasP ha hq
  unfold f_X9_hasPoint at h
  by_cases e : (nI a >>> (nI q &&& 31)) &&& (1 : Int32) = 1
  · rw [if_pos e] at h
    exact ⟨fun _ => h.symm, fun _ => e⟩
  · rw [if_neg e] at h
    exact ⟨fun f => absurd f e, fun f => by rw [f] at h; cases h⟩
section PLE
variable {S : CS} {M : MS} {P N A B B' H Z : Nat} {c cf : Nat → Nat} {de : Nat → Bool}
def bad (c : Nat → Nat) (a v k : Nat) : Bool := decide (k ≠ a) && decide ((c a ^^^ c k) &&& v = 0)
def lsB (c : Nat → Nat) (N a v : Nat) : Bool := decide (fb_ct (bad c a v) N = 0)
theorem RC.xr64 (hC : RCs S M P N c cf de) {a k v : Nat} (ha : a < N) (hk : k < N) : (c a ^^^ c k) &&& v < 64 := Nat.lt_of_le_of_lt Nat.and_le_left (Nat.xor_lt_two_pow (n := 6) (hC.c64 ha) (hC.c64 hk))
theorem RC.lsC (hC : RCs S M P N c cf de) {a v : Nat} (ha : a < N) : f_X1_isLesson S (nI v) (nI a) = some (lsB c N a v) := by
  have hN := hC.1.2.2
  unfold f_X1_isLesson
  rw [hC.setAt ha]
  refine pu_for0 (W := fun n i => fb_ct (bad c a v) i = 0 → f_X1_isLesson_9 S n (nI v) (nI a) (nI (c a)) (nI i) = some (lsB c N a v)) (e := N) (n := 1000) (by omega) (fun n h0 => ?_) (fun n i hi ih h0 => ?_) rfl
  · show f_X1_isLesson_9b S _ _ _ _ _ = _
    unfold f_X1_isLesson_9b
    rw [hC.2.2.1, if_pos (nI_le (Nat.le_refl N) hC.N31)]
    unfold lsB
    rw [decide_eq_true h0]
  · show f_X1_isLesson_9b S _ _ _ _ _ = _
    unfold f_X1_isLesson_9b f_X1_isLesson_39
    rw [fb_ct_succ, h0, Nat.zero_add] at ih
    rw [hC.2.2.1, if_neg (nI_ge hi hC.N31), hC.setAt hi, nI_xor, nI_and, nI_1]
    have z : nI ((c a ^^^ c i) &&& v) = 0 ↔ (c a ^^^ c i) &&& v = 0 := nI_0iff (Nat.lt_trans (hC.xr64 ha hi) (by decide))
    by_cases e : i = a
    · rw [if_pos (by rw [e])]
      exact ih (if_neg (by unfold bad; simp [e]))
    · rw [if_neg (fun f => e ((nI_eq (by omega) (by omega)).mp f))]
      by_cases e2 : (c a ^^^ c i) &&& v = 0
      · rw [if_pos (z.mpr e2)]
        have m := fb_ct_mono (bad c a v) (m := i + 1) (n := N) (by omega)
        rw [fb_ct_succ, if_pos (show bad c a v i = true by unfold bad; simp [e, e2])] at m
        unfold lsB
        rw [decide_eq_false (by omega)]
      · rw [if_neg (fun f => e2 (z.mp f))]
        exact ih (if_neg (by unfold bad; simp [e2]))
theorem RC.lsM (hC : RCs S M P N c cf de) {a v : Nat} (ha : a < N) (k7 : Int32 → Int32 → Int32 → Option Int32) (w : Int32) : f_X9_lessonOf_23 M k7 1000 (nI a) w (nI v) 1 0 = (if lsB c N a v then k7 (nI a) (q_min w (f_J6_bitCount_0f7a4 (nI v))) (nI v + 1) else k7 (nI a) w (nI v + 1)) := by
  have hN := hC.1.2.2
  refine pu_for0 (W := fun n i => f_X9_lessonOf_23 M k7 n (nI a) w (nI v) (q_b (decide (fb_ct (bad c a v) i = 0))) (nI i) = (if lsB c N a v then k7 (nI a) (q_min w (f_J6_bitCount_0f7a4 (nI v))) (nI v + 1) else k7 (nI a) w (nI v + 1))) (e := N) (n := 1000) (by omega) (fun n => ?_) (fun n i hi ih => ?_)
  · show f_X9_lessonOf_23b _ _ _ _ _ _ _ _ = _
    unfold f_X9_lessonOf_23b f_X9_lessonOf_113
    rw [hC.mN, if_pos (nI_le (Nat.le_refl N) hC.N31)]
    unfold lsB
    cases decide (fb_ct (bad c a v) N = 0)
    · rw [if_pos (by decide), if_neg (by decide)]
    · rw [if_neg (by decide), if_pos rfl]
  · rw [fb_ct_succ] at ih
    show f_X9_lessonOf_23b _ _ _ _ _ _ _ _ = _
    unfold f_X9_lessonOf_23b f_X9_lessonOf_82 f_X9_lessonOf_87
    have z : nI ((c i ^^^ c a) &&& v) = 0 ↔ (c i ^^^ c a) &&& v = 0 := nI_0iff (Nat.lt_trans (hC.xr64 hi ha) (by decide))
    have a1 : ∀ b : Bool, q_b b &&& (1 : Int32) = q_b b := fun b => by cases b <;> decide
    have a0 : ∀ b : Bool, q_b b &&& (0 : Int32) = q_b false := fun b => by cases b <;> decide
    rw [hC.mN, if_neg (nI_ge hi hC.N31), nI_1]
    by_cases e : i = a
    · rw [if_neg (show ¬ bad c a v i = true by unfold bad; simp [e]), Nat.add_zero] at ih
      rw [if_pos (by rw [e]), a1]
      exact ih
    · rw [if_neg (fun f => e ((nI_eq (by omega) (by omega)).mp f)), if_pos (q_in_nI hi (by omega)), nI_clamp (by omega), if_pos hi, if_pos (q_in_nI ha (by omega)), nI_clamp (by omega), if_pos ha, hC.mst hi, hC.mst ha, nI_xor, nI_and]
      by_cases e2 : (c i ^^^ c a) &&& v = 0
      · rw [if_pos (show bad c a v i = true by unfold bad; rw [Nat.xor_comm]; simp [e, e2]), decide_eq_false (by omega)] at ih
        rw [if_pos (z.mpr e2), a0]
        exact ih
      · rw [if_neg (show ¬ bad c a v i = true by unfold bad; rw [Nat.xor_comm]; simp [e2]), Nat.add_zero] at ih
        rw [if_neg (fun f => e2 (z.mp f)), a1]
        exact ih
def ll (c : Nat → Nat) (N a P : Nat) : Nat → Nat
  | 0 => P
  | i + 1 => if lsB c N a i then min (ll c N a P i) (bits i) else ll c N a P i
theorem ll_succ (c : Nat → Nat) (N a P i : Nat) : ll c N a P (i + 1) = if lsB c N a i then min (ll c N a P i) (bits i) else ll c N a P i := rfl
theorem ll_le (c : Nat → Nat) (N a P : Nat) : ∀ i, ll c N a P i ≤ P
  | 0 => Nat.le_refl P
  | i + 1 => by
    have := ll_le c N a P i
    rw [ll_succ]
    split
    · exact Nat.le_trans (Nat.min_le_left _ _) this
    · exact this
theorem RC.llC (hC : RCs S M P N c cf de) {a : Nat} (ha : a < N) : f_X1_leastLesson S (nI a) = some (nI (ll c N a P (2 ^ P))) := by
  obtain ⟨sh, -, h64⟩ := hC.shl
  have hP := hC.1.2.1
  unfold f_X1_leastLesson
  rw [hC.2.1]
  refine pu_for0 (W := fun n i => f_X1_leastLesson_7 S n (nI a) (nI (ll c N a P i)) (nI i) = some (nI (ll c N a P (2 ^ P)))) (e := 2 ^ P) (n := 1000) (by omega) (fun n => ?_) (fun n i hi ih => ?_)
  · show f_X1_leastLesson_7b S _ _ _ _ = _
    unfold f_X1_leastLesson_7b
    rw [sh, if_pos (nI_le (Nat.le_refl _) (by omega))]
  · show f_X1_leastLesson_7b S _ _ _ _ = _
    unfold f_X1_leastLesson_7b f_X1_leastLesson_39
    have b1 := bits_le hP hi
    have l1 := ll_le c N a P i
    rw [sh, if_neg (nI_ge hi (by omega)), bitC (by omega), nI_1]
    rw [ll_succ] at ih
    by_cases e : ll c N a P i ≤ bits i
    · rw [if_pos (nI_le e (by omega))]
      rw [show (if lsB c N a i then min (ll c N a P i) (bits i) else ll c N a P i) = ll c N a P i by split; exact Nat.min_eq_left e; rfl] at ih
      exact ih
    · rw [if_neg (nI_ge (by omega) (by omega)), hC.lsC ha]
      simp only [Option.bind_some]
      cases hb : lsB c N a i
      · rw [hb, if_neg (by decide)] at ih
        rw [if_pos (by decide)]
        exact ih
      · rw [hb, if_pos rfl, Nat.min_eq_right (by omega)] at ih
        rw [if_neg (by decide)]
        exact ih
theorem RC.llM (hC : RCs S M P N c cf de) {a : Nat} (ha : a < N) : f_X9_lessonOf M (nI a) = some (nI (ll c N a P (2 ^ P))) := by
  obtain ⟨-, sh, h64⟩ := hC.shl
  have hP := hC.1.2.1
  unfold f_X9_lessonOf
  rw [hC.2.2.2.1]
  refine pu_for0 (W := fun n i => f_X9_lessonOf_7 M n (nI a) (nI (ll c N a P i)) (nI i) = some (nI (ll c N a P (2 ^ P)))) (e := 2 ^ P) (n := 1000) (by omega) (fun n => ?_) (fun n i hi ih => ?_)
  · show f_X9_lessonOf_7b M _ _ _ _ = _
    unfold f_X9_lessonOf_7b
    rw [sh, if_pos (nI_le (Nat.le_refl _) (by omega))]
  · show f_X9_lessonOf_7b M _ _ _ _ = _
    unfold f_X9_lessonOf_7b
    have b1 := bits_le hP hi
    have l1 := ll_le c N a P i
    rw [sh, if_neg (nI_ge hi (by omega)), hC.lsM ha, bitC (by omega), min_nI (by omega) (by omega), nI_1]
    rw [ll_succ] at ih
    cases hb : lsB c N a i
    · rw [hb, if_neg (by decide)] at ih
      rw [if_neg (by decide)]
      exact ih
    · rw [hb, if_pos rfl] at ih
      rw [if_pos rfl]
      exact ih
theorem T_lesson (h : RelC S M) (a : Int32) (fo : Nat → Int64) : TI (f_L_lesson S a fo) fo (f_X9_lesson a M) (fun S' M' => S' = S ∧ Mr [0] [] M M') := by
  obtain ⟨P, N, c, cf, de, A, B, B', H, Z, hC, hT⟩ := h
  by_cases c1 : a < 0 ∨ nI N ≤ a
  · refine TI.ex (code := 1) (r := 0) (S := S) (M := M) (by decide) ?_ ?_ ⟨rfl, Mr.mset (by decide)⟩
    · unfold f_L_lesson f_X8_lesson
      rw [if_pos ((isNum hC.2.2.1 a).mpr c1)]
      rfl
    · unfold f_X9_lesson
      rw [isNoC, hC.mN, if_pos c1]
      rfl
  · obtain ⟨k, hk, rfl⟩ := btw hC.N31 (fun e => c1 (Or.inl e)) (fun e => c1 (Or.inr e))
    refine TI.ok (r := nI (ll c N k P (2 ^ P))) (S := S) (M := mset M 0 0) ?_ ?_ ms_s ⟨rfl, Mr.mset (by decide)⟩
    · unfold f_L_lesson f_X8_lesson
      rw [if_neg (fun e => c1 ((isNum hC.2.2.1 _).mp e)), hC.llC hk]
      rfl
    · unfold f_X9_lesson
      rw [isNoC, hC.mN, if_neg c1]
      simp only [Option.bind_some]
      rw [if_pos (by decide), (hC.m0 0).llM hk]
      rfl
/-! groups split by a point, as the reference does -/
theorem RC.with1 (hC : RCs S M P N c cf de) (l : Nat → Bool) {q : Nat} (hq : q < 32) : f_X9_with M (nI (pm l N)) (nI q) 1 = some (nI (pm (fun k => l k && has c q k) N)) := by
  have hN := hC.1.2.2
  refine pu_for0 (W := fun n i => f_X9_with_6 M n (nI (pm l N)) (nI q) 1 (nI (pm (fun k => l k && has c q k) i)) (nI i) = some (nI (pm (fun k => l k && has c q k) N))) (e := N) (n := 1000) (by omega) (fun n => ?_) (fun n i hi ih => ?_)
  · show f_X9_with_6b _ _ _ _ _ _ _ = _
    unfold f_X9_with_6b
    rw [hC.mN, if_pos (nI_le (Nat.le_refl N) hC.N31)]
  · rw [pm_succ] at ih
    show f_X9_with_6b _ _ _ _ _ _ _ = _
    unfold f_X9_with_6b f_X9_with_63 f_X9_with_64
    have hb := bit1 (a := pm l N) (q := i) (pm31 l (by omega)) (by omega)
    rw [pm_bit, decide_eq_true hi, Bool.true_and] at hb
    rw [hC.mN, if_neg (nI_ge hi hC.N31), nI_1]
    have o0 : ∀ x : Nat, nI x ||| (0 : Int32) = nI x := fun x => by rw [show (0 : Int32) = nI 0 from rfl, nI_or, Nat.or_zero]
    cases hl : l i
    · rw [hl, Bool.false_and, if_neg (by decide), Nat.add_zero] at ih
      rw [if_neg (fun e => by have := hb.mp e; rw [hl] at this; cases this), o0]
      exact ih
    · rw [hl, Bool.true_and] at ih
      rw [if_pos (hb.mpr hl), if_pos (q_in_nI hi (by omega)), nI_clamp (by omega), if_pos hi, hC.mhas hi hq]
      cases hp : has c q i
      · rw [hp, if_neg (by decide), Nat.add_zero] at ih
        rw [if_neg (by decide), o0]
        exact ih
      · rw [hp, if_pos rfl] at ih
        rw [if_pos (by decide), nI_one i (by omega), nI_or, Nat.or_two_pow_eq_add_of_lt (pm_lt _ i)]
        exact ih
def hl (c : Nat → Nat) (a : Nat) : Nat → Nat → Bool
  | 0, _ => true
  | i + 1, k => hl c a i k && (has c i k == (c a).testBit i)
def mo (c : Nat → Nat) (N a i : Nat) : Bool := decide (¬ fb_ct (fun k => hl c a i k && has c i k) N < fb_ct (fun k => hl c a i k && !has c i k) N)
def hm (c : Nat → Nat) (N a : Nat) : Nat → Nat
  | 0 => 0
  | i + 1 => if mo c N a i = (c a).testBit i then hm c N a i else hm c N a i + 1
theorem hm_succ (c : Nat → Nat) (N a i : Nat) : hm c N a (i + 1) = if mo c N a i = (c a).testBit i then hm c N a i else hm c N a i + 1 := rfl
theorem T_halver (h : RelC S M) (a : Int32) (fo : Nat → Int64) : TI (f_L_halver S a fo) fo (f_X9_halver a M) (fun S' M' => S' = S ∧ Mr [0] [] M M') := by
  obtain ⟨P, N, c, cf, de, A, B, B', H, Z, hC, hT⟩ := h
  by_cases c1 : a < 0 ∨ nI N ≤ a
  · refine TI.ex (code := 1) (r := 0) (S := S) (M := M) (by decide) ?_ ?_ ⟨rfl, Mr.mset (by decide)⟩
    · unfold f_L_halver f_X8_halver
      rw [if_pos ((isNum hC.2.2.1 a).mpr c1)]
      rfl
    · unfold f_X9_halver
      rw [isNoC, hC.mN, if_pos c1]
      rfl
  · obtain ⟨x, hx, rfl⟩ := btw hC.N31 (fun e => c1 (Or.inl e)) (fun e => c1 (Or.inr e))
    have hP := hC.1.2.1
    have hN := hC.1.2.2
    have cx31 : c x < 2 ^ 31 := Nat.lt_trans (hC.c64 hx) (by decide)
    have e0 : pm (hl c x 0) N = 2 ^ N - 1 := pm_all N
    refine TI.ok (r := nI (hm c N x P)) (S := S) (M := mset M 0 0) ?_ ?_ ms_s ⟨rfl, Mr.mset (by decide)⟩
    · unfold f_L_halver f_X8_halver
      rw [if_neg (fun e => c1 ((isNum hC.2.2.1 _).mp e))]
      have hh : f_X1_halvingMistakes S (nI x) = some (nI (hm c N x P)) := by
        unfold f_X1_halvingMistakes
        rw [hC.setAt hx, hC.every]
        refine pu_for0 (W := fun n i => f_X1_halvingMistakes_17 S n (nI (c x)) (nI (pm (hl c x i) N)) (nI (hm c N x i)) (nI i) = some (nI (hm c N x P))) (e := P) (n := 1000) (by omega) (fun n => ?_) (fun n i hi ih => ?_)
        · show f_X1_halvingMistakes_17b _ _ _ _ _ _ = _
          unfold f_X1_halvingMistakes_17b
          rw [hC.2.1, if_pos (nI_le (Nat.le_refl P) hC.P31)]
        · show f_X1_halvingMistakes_17b _ _ _ _ _ _ = _
          unfold f_X1_halvingMistakes_17b f_X1_halvingMistakes_45
          have a2 := ctN hC (fun k => hl c x i k && has c i k)
          have a3 := ctN hC (fun k => hl c x i k && !has c i k)
          have em : f_X1_isMostlyIn S (nI i) (nI (pm (hl c x i) N)) = mo c N x i := by
            unfold f_X1_isMostlyIn mo
            rw [hC.bcH _ hi, hC.bcL _ hi]
            by_cases e : fb_ct (fun k => hl c x i k && has c i k) N < fb_ct (fun k => hl c x i k && !has c i k) N
            · rw [if_pos (nI_lt e (by omega)), decide_eq_false (by omega)]
            · rw [if_neg (nI_nlt (by omega) (by omega)), decide_eq_true (by omega)]
          have en : nI (pm (hl c x i) N) &&& f_X1_agreeing S (nI (c x)) (nI i) = nI (pm (hl c x (i + 1)) N) := by
            rw [hC.agree cx31 hi, nI_and, pm_and]
            rfl
          rw [hC.2.1, if_neg (nI_ge hi hC.P31), em, hasBit_nI cx31 (by omega), en, nI_1]
          rw [hm_succ] at ih
          by_cases e : mo c N x i = (c x).testBit i
          · rw [if_pos e] at ih
            rw [if_pos (by rw [e])]
            exact ih
          · rw [if_neg e] at ih
            rw [if_neg (fun f => e (qb_e.mp f)), nI_1]
            exact ih
      rw [hh]
      rfl
    · unfold f_X9_halver
      rw [isNoC, hC.mN, if_neg c1]
      simp only [Option.bind_some]
      rw [if_pos (by decide), show (mset M 0 0).2.1 0 = N from hC.mN, nI_ones N (by omega), ← e0]
      have hC' := hC.m0 0
      generalize mset M 0 0 = M1 at hC' ⊢
      refine pu_for0 (W := fun n i => f_X9_halver_29 n (nI x) (nI (pm (hl c x i) N)) (nI (hm c N x i)) (nI i) M1 = some (nI (hm c N x P), M1)) (e := P) (n := 1000) (by omega) (fun n => ?_) (fun n i hi ih => ?_)
      · show f_X9_halver_29b _ _ _ _ _ _ = _
        unfold f_X9_halver_29b
        rw [hC'.2.2.2.1, if_pos (nI_le (Nat.le_refl P) hC'.P31)]
      · show f_X9_halver_29b _ _ _ _ _ _ = _
        unfold f_X9_halver_29b f_X9_halver_67 f_X9_halver_104 f_X9_halver_122
        have a1 := ctN hC (hl c x i)
        have a2 := ctN hC (fun k => hl c x i k && has c i k)
        have ct := ct_two (hl c x i) (has c i) N
        have mnext : (if q_b ((c x).testBit i) = 0 then nI (pm (hl c x i) N) &&& (nI (pm (fun k => hl c x i k && has c i k) N) ^^^ (-1 : Int32)) else nI (pm (fun k => hl c x i k && has c i k) N)) = nI (pm (hl c x (i + 1)) N) := by
          cases hb : (c x).testBit i
          · rw [if_pos (by decide), pm_andn _ _ _ hC.N32]
            congr 2
            funext k
            show _ = (hl c x i k && (has c i k == (c x).testBit i))
            rw [hb]
            cases hl c x i k <;> cases has c i k <;> rfl
          · rw [if_neg (by decide)]
            congr 2
            funext k
            show _ = (hl c x i k && (has c i k == (c x).testBit i))
            rw [hb]
            cases hl c x i k <;> cases has c i k <;> rfl
        rw [hm_succ, ← mnext] at ih
        rw [hC'.2.2.2.1, if_neg (nI_ge hi hC'.P31), hC'.with1 _ (by omega)]
        simp only [Option.bind_some]
        rw [bitCount_pm _ hC.N32, bitCount_pm _ hC.N32, show (2 : Int32) = nI 2 from rfl, pk_mul, hC'.mN, nI_1]
        have hv : f_X9_hasPoint (M1.2.2.1 0 (nI x).toNatClampNeg 0) (nI i) = (c x).testBit i := by rw [nI_clamp (by omega), hC'.mst hx, hasP cx31 (by omega)]
        have qi := q_in_nI hx (show N < 2 ^ 31 by omega)
        have go : ∀ w : Int32, w = q_b (mo c N x i) → (if w = q_b ((c x).testBit i) then (if q_b ((c x).testBit i) = 0 then f_X9_halver_29 n (nI x) (nI (pm (hl c x i) N) &&& (nI (pm (fun k => hl c x i k && has c i k) N) ^^^ (-1 : Int32))) (nI (hm c N x i) + 0) (nI (i + 1)) M1 else f_X9_halver_29 n (nI x) (nI (pm (fun k => hl c x i k && has c i k) N)) (nI (hm c N x i) + 0) (nI (i + 1)) M1) else (if q_b ((c x).testBit i) = 0 then f_X9_halver_29 n (nI x) (nI (pm (hl c x i) N) &&& (nI (pm (fun k => hl c x i k && has c i k) N) ^^^ (-1 : Int32))) (nI (hm c N x i) + 1) (nI (i + 1)) M1 else f_X9_halver_29 n (nI x) (nI (pm (fun k => hl c x i k && has c i k) N)) (nI (hm c N x i) + 1) (nI (i + 1)) M1)) = some (nI (hm c N x P), M1) := by
          intro w hw
          subst hw
          by_cases e : mo c N x i = (c x).testBit i
          · rw [if_pos e] at ih
            rw [if_pos (by rw [e]), Int32.add_zero]
            split
            · rename_i h0
              rw [if_pos h0] at ih
              exact ih
            · rename_i h0
              rw [if_neg h0] at ih
              exact ih
          · rw [if_neg e] at ih
            rw [if_neg (fun f => e (qb_e.mp f)), nI_1]
            split
            · rename_i h0
              rw [if_pos h0] at ih
              exact ih
            · rename_i h0
              rw [if_neg h0] at ih
              exact ih
        by_cases e : 2 * fb_ct (fun k => hl c x i k && has c i k) N < fb_ct (hl c x i) N
        · rw [if_pos (nI_lt e (by omega)), if_pos qi, if_pos qi.2, hv]
          exact go 0 (by unfold mo; rw [decide_eq_false (by omega)]; rfl)
        · rw [if_neg (nI_nlt (by omega) (by omega)), if_pos qi, if_pos qi.2, hv]
          exact go 1 (by unfold mo; rw [decide_eq_true (by omega)]; rfl)
end PLE
