/-! the checksum, soundness -/
section CKS
variable {S : CS} {M : MS}
theorem ck_0 {P N : Nat} {c cf : Nat → Nat} {de : Nat → Bool} (hC : RCs S M P N c cf de) (v : Int64) : ∃ w : Int64, f_X8_checksum_6 1000 v 0 S = f_X8_checksum_57 1000 w 0 S ∧ f_X9_checksum_19 1000 v 0 (M.1 20) M = f_X9_checksum_86 1000 w 0 (M.1 21) M := by
  have hN := hC.1.2.2
  have key := pu_for0 (W := fun m i => ∀ v : Int64, ∃ w : Int64, f_X8_checksum_6 m v (nI i) S = f_X8_checksum_57 1000 w 0 S ∧ f_X9_checksum_19 m v (nI i) (M.1 20) M = f_X9_checksum_86 1000 w 0 (M.1 21) M) (e := N) (n := 1000) (by omega) (fun m v => ⟨v, ?_, ?_⟩) (fun m i hi ih v => ?_)
  · exact key v
  · show f_X8_checksum_6b (f_X8_checksum_6 m) v (nI N) S = _
    unfold f_X8_checksum_6b
    rw [hC.2.2.1, if_pos (nI_le (Nat.le_refl N) (by omega))]
  · show f_X9_checksum_19b (f_X9_checksum_19 m) v (nI N) (M.1 20) M = _
    unfold f_X9_checksum_19b
    rw [hC.mN, if_pos it_end]
  · have e1 : M.2.2.1 0 (nI i).toNatClampNeg 0 = nI (c i) := by rw [nI_clamp (by omega)]; exact hC.mst hi
    have e2 : M.2.2.1 0 (nI i).toNatClampNeg 1 = nI (cf i) := by rw [nI_clamp (by omega)]; exact hC.2.2.2.2.2.2.2.2.2.2.2.2.1 i hi
    have e3 : M.2.2.1 0 (nI i).toNatClampNeg 2 = if de i then 1 else 0 := by rw [nI_clamp (by omega)]; exact hC.2.2.2.2.2.2.2.2.2.2.2.2.2 i hi
    have hc := (q_in_nI (i := i) (n := N) hi (by omega)).2
    obtain ⟨w, w1, w2⟩ := ih (((31 : Int64) * (((31 : Int64) * v) + (nI (c i)).toInt64)) + (if de i then (-1 : Int32) else nI (cf i)).toInt64)
    refine ⟨w, ?_, ?_⟩
    · refine Eq.trans ?_ w1
      show f_X8_checksum_6b (f_X8_checksum_6 m) v (nI i) S = _
      unfold f_X8_checksum_6b
      rw [hC.2.2.1, if_neg (nI_ge hi (by omega)), hC.setAt hi, hC.confl hi, nI_1]
    · refine Eq.trans ?_ w2
      show f_X9_checksum_19b (f_X9_checksum_19 m) v (nI i) (M.1 20) M = _
      unfold f_X9_checksum_19b f_X9_checksum_70
      rw [hC.mN, if_neg (it_go hi (by omega)), if_pos (it_in hi (by omega) rfl), if_pos hc, if_pos hc, if_pos hc, e1, e2, e3, nI_1]
      cases de i
      · rw [if_neg Bool.false_ne_true, if_neg Bool.false_ne_true, if_neg (by decide)]
      · rw [if_pos rfl, if_pos rfl, if_pos rfl]
theorem ck_1 {E : Nat} {w : Nat → Nat} (hX : RX (S.1 4) (S.1 14) (S.1 15) (M.1 10) (M.2.1 1) (M.2.2.1 1) E w) (v : Int64) : ∃ z : Int64, f_X8_checksum_57 1000 v 0 S = ((f_X4_allWays S).bind fun u3 => some ((((31 : Int64) * (((31 : Int64) * z) + (f_J13_bitCount_95d88 S.2).toInt64)) + u3.1.toInt64), u3.2)) ∧ f_X9_checksum_86 1000 v 0 (M.1 21) M = ((f_X9_possibleCodes M).bind fun u5 => ((f_X9_orders M 10 (0 : Int32) (-1 : Int32) (-1 : Int32)).bind fun u7 => some ((((31 : Int64) * (((31 : Int64) * z) + u5.toInt64)) + u7.toInt64), M))) := by
  obtain ⟨h1, h2, h3, h4, h5⟩ := hX
  have key := pu_for0 (W := fun m i => ∀ v : Int64, ∃ z : Int64, f_X8_checksum_57 m v (nI i) S = ((f_X4_allWays S).bind fun u3 => some ((((31 : Int64) * (((31 : Int64) * z) + (f_J13_bitCount_95d88 S.2).toInt64)) + u3.1.toInt64), u3.2)) ∧ f_X9_checksum_86 m v (nI i) (M.1 21) M = ((f_X9_possibleCodes M).bind fun u5 => ((f_X9_orders M 10 (0 : Int32) (-1 : Int32) (-1 : Int32)).bind fun u7 => some ((((31 : Int64) * (((31 : Int64) * z) + u5.toInt64)) + u7.toInt64), M)))) (e := E) (n := 1000) (by omega) (fun m v => ⟨v, ?_, ?_⟩) (fun m i hi ih v => ?_)
  · exact key v
  · show f_X8_checksum_57b (f_X8_checksum_57 m) v (nI E) S = _
    unfold f_X8_checksum_57b
    rw [h2, if_pos (nI_le (Nat.le_refl E) (by omega))]
  · show f_X9_checksum_86b (f_X9_checksum_86 m) v (nI E) (M.1 21) M = _
    unfold f_X9_checksum_86b
    rw [h3, if_pos it_end]
  · obtain ⟨k1, k2, -⟩ := h5 i hi
    have e1 : M.2.2.1 1 (nI i).toNatClampNeg 0 = nI (w i) := by rw [nI_clamp (by omega)]; exact k2
    have hc := (q_in_nI (i := i) (n := E) hi (by omega)).2
    obtain ⟨z, z1, z2⟩ := ih (((31 : Int64) * v) + (nI (w i)).toInt64)
    refine ⟨z, ?_, ?_⟩
    · refine Eq.trans ?_ z1
      show f_X8_checksum_57b (f_X8_checksum_57 m) v (nI i) S = _
      unfold f_X8_checksum_57b f_X2_weightOf
      rw [h2, if_neg (nI_ge hi (by omega)), q_at_nI (by omega) (by decide), k1, nI_1]
    · refine Eq.trans ?_ z2
      show f_X9_checksum_86b (f_X9_checksum_86 m) v (nI i) (M.1 21) M = _
      unfold f_X9_checksum_86b
      rw [h3, if_neg (it_go hi (by omega)), if_pos (it_in hi (by omega) rfl), if_pos hc, e1, nI_1]
theorem D_checksum (hC : RelC S M) (hX : RelX S M) (hK : RelK S M) (hO : RelO S M) : ∃ (v : Int64) (S' : CS), f_X8_checksum S = some (v, S') ∧ f_X9_checksum M = some (v, mset M 0 0) ∧ Fr [21] S S' := by
  obtain ⟨P, N, c, cf, de, A, B, B', H, Z, hC1, -⟩ := hC.m0 0
  obtain ⟨E, w, hX1⟩ := hX
  obtain ⟨x0, gs, hs, n, hK1⟩ := hK.m0 0
  obtain ⟨T, ah, hO1⟩ := hO.m0 0
  obtain ⟨S', o1, o2, o3⟩ := RO.cnt hO1
  have hX2 : RX (S.1 4) (S.1 14) (S.1 15) ((mset M 0 0).1 10) ((mset M 0 0).2.1 1) ((mset M 0 0).2.2.1 1) E w := by
    rw [show (mset M 0 0).1 10 = M.1 10 from ms_n (by decide)]
    exact hX1
  obtain ⟨w1, a1, a2⟩ := ck_0 hC1 7
  obtain ⟨z, b1, b2⟩ := ck_1 hX2 w1
  have hb : f_J13_bitCount_95d88 S.2 = nI (fb_ct (lf gs hs n) 64) := by
    rw [hK1.2.2.2.2.2.2.2]
    exact bitCount_pm64 _ (Nat.le_refl 64)
  have hp := RK.pcs hK1
  rw [o1, hb] at b1
  rw [hp, o2] at b2
  refine ⟨((31 : Int64) * (((31 : Int64) * z) + (nI (fb_ct (lf gs hs n) 64)).toInt64)) + (nI (dgr ah T)).toInt64, S', ?_, ?_, o3⟩
  · have e : f_X8_checksum S = f_X8_checksum_6 1000 7 0 S := rfl
    rw [e, a1, b1]
    rfl
  · have e : f_X9_checksum M = f_X9_checksum_19 1000 7 0 ((mset M 0 0).1 20) (mset M 0 0) := rfl
    rw [e, a2, b2]
    rfl
theorem D_isSound (hC : RelC S M) (hK : RelK S M) : ∃ S' : CS, f_X8_isSound S = some (true, S') ∧ Fr [3, 12, 13] S S' := by
  obtain ⟨S', x1, x2⟩ := x_ordered hC
  have hC' : RelC S' M := hC.of (x2.1 1 (by decide)) (x2.1 2 (by decide)) (x2.1 9 (by decide)) (x2.1 10 (by decide)) (x2.1 11 (by decide)) (fun _ _ _ => rfl) rfl rfl
  obtain ⟨x0, gs, hs, n, hK1⟩ := hK
  have hK2 : RKs S' M x0 gs hs n := by
    show RK _ _ _ _ _ _ _ _ _
    rw [x2.1 7 (by decide), x2.2]
    exact hK1
  refine ⟨S', ?_, x2⟩
  unfold f_X8_isSound
  rw [x1]
  simp only [Option.bind_some]
  rw [if_neg (by decide), x_honoured hC', if_neg (by decide), hK2.2.2.1, RK.left hK2 hK2.1, RK.lf0 hK2, if_neg (by decide)]
end CKS
