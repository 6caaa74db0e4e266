/-! shares and means -/
def okD (w : UInt64) : Prop := q_n64 w ∧ (Op.cmpValue (FP.dcmp w w) .l) = 0
def TF (F : Option (Int32 × (Nat → UInt64) × CS)) (fo : Nat → UInt64) (code : Int32) (w : UInt64) (S : CS) : Prop := F = some (code, (if code = 0 then vf_upd fo 0 w else fo), S)
theorem fl_32 : ∀ n, n < 25 → ∀ a, a < 25 → n = 0 ∨ (q_n32 (FP.fdiv (FP.i2f (nI a)) (FP.i2f (nI n))) ∧ q_n64 (FP.f2d (FP.fdiv (FP.i2f (nI a)) (FP.i2f (nI n)))) ∧ (Op.cmpValue (FP.dcmp (FP.f2d (FP.fdiv (FP.i2f (nI a)) (FP.i2f (nI n)))) (FP.f2d (FP.fdiv (FP.i2f (nI a)) (FP.i2f (nI n))))) .l) = 0) := by decide +kernel
theorem fl_64 : ∀ n, n < 25 → ∀ a, a < 145 → n = 0 ∨ (q_n64 (FP.ddiv (FP.i2d (nI a)) (FP.i2d (nI n))) ∧ (Op.cmpValue (FP.dcmp (FP.ddiv (FP.i2d (nI a)) (FP.i2d (nI n))) (FP.ddiv (FP.i2d (nI a)) (FP.i2d (nI n)))) .l) = 0) := by decide +kernel
section PFL
variable {S : CS} {M : MS} {P N A B B' H Z : Nat} {c cf : Nat → Nat} {de : Nat → Bool}
theorem T_share (h : RelC S M) (fo : Nat → UInt64) : ∃ (code : Int32) (r : UInt32) (M' : MS), TF (f_L_aliveShare S fo) fo code (FP.f2d r) S ∧ f_X9_aliveShare M = some (r, M') ∧ M'.1 0 = code ∧ (code = 0 → okD (FP.f2d r)) ∧ Mr [0] [] M M' := by
  obtain ⟨P, N, c, cf, de, A, B, B', H, Z, hC, hT⟩ := h
  have hN := hC.1.2.2
  have a1 := ctN hC (liv B cf de)
  have z : S.1 2 3 = 0 ↔ N = 0 := by rw [hC.2.2.1]; exact nI_0iff (by omega)
  by_cases e : N = 0
  · refine ⟨1, FP.fconst0, mset M 0 1, ?_, ?_, ms_s, fun f => absurd f (by decide), Mr.mset (by decide)⟩
    · show f_L_aliveShare S fo = _
      unfold f_L_aliveShare f_X8_aliveShare
      rw [if_pos (z.mpr e)]
      rfl
    · unfold f_X9_aliveShare f_X9_aliveShare_18
      rw [hC.mN, decide_eq_true e, if_neg (by decide), isWr]
      rfl
  · obtain ⟨k1, k2, k3⟩ := (fl_32 N (by omega) (fb_ct (liv B cf de) N) (by omega)).resolve_left e
    refine ⟨0, FP.fdiv (FP.i2f (nI (fb_ct (liv B cf de) N))) (FP.i2f (nI N)), mset M 0 0, ?_, ?_, ms_s, fun _ => ⟨k2, k3⟩, Mr.mset (by decide)⟩
    · show f_L_aliveShare S fo = _
      unfold f_L_aliveShare f_X8_aliveShare
      rw [if_neg (fun f => e (z.mp f)), hT.cliv hC]
      simp only [Option.bind_some]
      rw [bitCount_pm _ hC.N32, hC.2.2.1, if_pos k1]
      simp only [Option.bind_some, if_true]
      rw [if_pos k2]
    · unfold f_X9_aliveShare f_X9_aliveShare_18
      rw [hC.mN, decide_eq_false e, if_pos (by decide), isWr]
      simp only [Option.bind_some]
      rw [if_pos (by decide), (hT.m0 0).mliv (hC.m0 0)]
      simp only [Option.bind_some]
      rw [show (mset M 0 0).2.1 0 = N from hC.mN, if_pos k1]
def lsum (c : Nat → Nat) (N P : Nat) (i : Nat) : Nat := fb_sm (fun a => ll c N a P (2 ^ P)) i
theorem RC.sumC (hC : RCs S M P N c cf de) : f_X1_lessonSum S = some (nI (lsum c N P N)) := by
  have hN := hC.1.2.2
  refine pu_for0 (W := fun n i => f_X1_lessonSum_4 S n (nI (lsum c N P i)) (nI i) = some (nI (lsum c N P N))) (e := N) (n := 1000) (by omega) (fun n => ?_) (fun n i hi ih => ?_)
  · show f_X1_lessonSum_4b S _ _ _ = _
    unfold f_X1_lessonSum_4b
    rw [hC.2.2.1, if_pos (nI_le (Nat.le_refl N) hC.N31)]
  · show f_X1_lessonSum_4b S _ _ _ = _
    unfold f_X1_lessonSum_4b
    rw [hC.2.2.1, if_neg (nI_ge hi hC.N31), hC.llC hi]
    simp only [Option.bind_some]
    rw [nI_add, nI_1]
    exact ih
theorem RC.sumM (hC : RCs S M P N c cf de) : f_X9_meanLesson M = (if q_b (decide (N = 0)) = 0 then f_X9_meanLesson_49 (nI (lsum c N P N)) 0 M else f_X9_meanLesson_49 (nI (lsum c N P N)) 1 M) := by
  have hN := hC.1.2.2
  refine pu_for0 (W := fun n i => f_X9_meanLesson_4 n (nI (lsum c N P i)) (nI i) M = (if q_b (decide (N = 0)) = 0 then f_X9_meanLesson_49 (nI (lsum c N P N)) 0 M else f_X9_meanLesson_49 (nI (lsum c N P N)) 1 M)) (e := N) (n := 1000) (by omega) (fun n => ?_) (fun n i hi ih => ?_)
  · show f_X9_meanLesson_4b _ _ _ _ = _
    unfold f_X9_meanLesson_4b
    rw [hC.mN, if_pos (nI_le (Nat.le_refl N) hC.N31)]
  · show f_X9_meanLesson_4b _ _ _ _ = _
    unfold f_X9_meanLesson_4b
    rw [hC.mN, if_neg (nI_ge hi hC.N31), hC.llM hi]
    simp only [Option.bind_some]
    rw [nI_add, nI_1]
    exact ih
theorem T_mean (h : RelC S M) (fo : Nat → UInt64) : ∃ (code : Int32) (r : UInt64) (M' : MS), TF (f_L_meanLesson S fo) fo code r S ∧ f_X9_meanLesson M = some (r, M') ∧ M'.1 0 = code ∧ (code = 0 → okD r) ∧ Mr [0] [] M M' := by
  obtain ⟨P, N, c, cf, de, A, B, B', H, Z, hC, hT⟩ := h
  have hN := hC.1.2.2
  have hP := hC.1.2.1
  have z : S.1 2 3 = 0 ↔ N = 0 := by rw [hC.2.2.1]; exact nI_0iff (by omega)
  have hs : lsum c N P N < 145 := by
    have h1 := fb_sm_bound (f := fun a => ll c N a P (2 ^ P)) (c := P) (n := N) (fun k _ => ll_le c N k P _)
    have h2 : N * P ≤ 24 * 6 := Nat.mul_le_mul hN hP
    have h3 : lsum c N P N = fb_sm (fun a => ll c N a P (2 ^ P)) N := rfl
    omega
  by_cases e : N = 0
  · refine ⟨1, FP.dconst0, mset M 0 1, ?_, ?_, ms_s, fun f => absurd f (by decide), Mr.mset (by decide)⟩
    · show f_L_meanLesson S fo = _
      unfold f_L_meanLesson f_X8_meanLesson
      rw [if_pos (z.mpr e)]
      rfl
    · rw [hC.sumM, decide_eq_true e, if_neg (by decide)]
      unfold f_X9_meanLesson_49
      rw [isWr]
      rfl
  · obtain ⟨k1, k2⟩ := (fl_64 N (by omega) (lsum c N P N) hs).resolve_left e
    refine ⟨0, FP.ddiv (FP.i2d (nI (lsum c N P N))) (FP.i2d (nI N)), mset M 0 0, ?_, ?_, ms_s, fun _ => ⟨k1, k2⟩, Mr.mset (by decide)⟩
    · show f_L_meanLesson S fo = _
      unfold f_L_meanLesson f_X8_meanLesson
      rw [if_neg (fun f => e (z.mp f)), hC.sumC]
      simp only [Option.bind_some]
      rw [hC.2.2.1, if_pos k1]
      rfl
    · rw [hC.sumM, decide_eq_false e, if_pos (by decide)]
      unfold f_X9_meanLesson_49
      rw [isWr]
      simp only [Option.bind_some]
      rw [if_pos (by decide), show (mset M 0 0).2.1 0 = N from hC.mN, if_pos k1]
end PFL
