section TV
variable {L : Nat} {xs : Nat → Int32} {k28 : Nat → Nat → Int32 → LSt → Option Bool} {kc ks : Nat} {v5 : Int32} {S : LSt}
theorem u_0 (hI : INV S.2.1 S.1) (hq : qs3 L v5) (hc : kc + 1601 ≤ room_1.cells) (hs : ks + 10400 ≤ room_1.slots) : okT k28 kc ks v5 S (f_L_law_244 L xs k28 kc ks v5 S) := by
  obtain ⟨S1, M1, fo1, hP, e⟩ := turn_I (T_points hI.1 (xs (v5 + (1 : Int32)).toNatClampNeg) S.2.2.1) S.2.2.2 (fun X => k28 (kc + 1) (ks + 6) (v5 + 4) X)
  have e2 : f_L_law_244 L xs k28 kc ks v5 S = k28 (kc + 1) (ks + 6) (v5 + 4) (M1, S1, fo1, S.2.2.2) := by
    unfold f_L_law_244
    rw [if_pos ⟨by omega, by omega⟩]
    simp only [if_pos hq.1]
    exact e
  exact okT.mk e2 (INV.C hI hP (by decide)) (by decide) (by decide)
theorem u_1 (hI : INV S.2.1 S.1) (hq : qs3 L v5) (hc : kc + 1601 ≤ room_1.cells) (hs : ks + 10400 ≤ room_1.slots) : okT k28 kc ks v5 S (f_L_law_300 L xs k28 kc ks v5 S) := by
  obtain ⟨S1, M1, fo1, hP, e⟩ := turn_I (T_concept hI.1 (xs (v5 + (1 : Int32)).toNatClampNeg) S.2.2.1) S.2.2.2 (fun X => k28 (kc + 4) (ks + 116) (v5 + 4) X)
  have e2 : f_L_law_300 L xs k28 kc ks v5 S = k28 (kc + 4) (ks + 116) (v5 + 4) (M1, S1, fo1, S.2.2.2) := by
    unfold f_L_law_300
    rw [if_pos ⟨by omega, by omega⟩]
    simp only [if_pos hq.1]
    exact e
  exact okT.mk e2 (INV.C hI hP (by decide)) (by decide) (by decide)
theorem u_2 (hI : INV S.2.1 S.1) (hq : qs3 L v5) (hc : kc + 1601 ≤ room_1.cells) (hs : ks + 10400 ≤ room_1.slots) : okT k28 kc ks v5 S (f_L_law_356 L xs k28 kc ks v5 S) := by
  obtain ⟨S1, M1, fo1, hP, e⟩ := turn_I (T_family hI.1 (((xs (v5 + (1 : Int32)).toNatClampNeg).toUInt32 % 65536).toInt32) S.2.2.1) S.2.2.2 (fun X => k28 (kc + 191) (ks + 10306) (v5 + 4) X)
  have e2 : f_L_law_356 L xs k28 kc ks v5 S = k28 (kc + 191) (ks + 10306) (v5 + 4) (M1, S1, fo1, S.2.2.2) := by
    unfold f_L_law_356
    rw [if_pos ⟨by omega, by omega⟩]
    simp only [if_pos hq.1]
    exact e
  exact okT.mk e2 (INV.C hI hP (by decide)) (by decide) (by decide)
theorem u_3 (hI : INV S.2.1 S.1) (hq : qs3 L v5) (hc : kc + 1601 ≤ room_1.cells) (hs : ks + 10400 ≤ room_1.slots) : okT k28 kc ks v5 S (f_L_law_414 L xs k28 kc ks v5 S) := by
  obtain ⟨S1, M1, fo1, hP, e⟩ := turn_I (T_setOf hI.1 (xs (v5 + (1 : Int32)).toNatClampNeg) S.2.2.1) S.2.2.2 (fun X => k28 (kc + 1) (ks + 6) (v5 + 4) X)
  have e2 : f_L_law_414 L xs k28 kc ks v5 S = k28 (kc + 1) (ks + 6) (v5 + 4) (M1, S1, fo1, S.2.2.2) := by
    unfold f_L_law_414
    rw [if_pos ⟨by omega, by omega⟩]
    simp only [if_pos hq.1]
    exact e
  exact okT.mk e2 (INV.same hI hP) (by decide) (by decide)
theorem u_4 (hI : INV S.2.1 S.1) (hq : qs3 L v5) (hc : kc + 1601 ≤ room_1.cells) (hs : ks + 10400 ≤ room_1.slots) : okT k28 kc ks v5 S (f_L_law_470 L xs k28 kc ks v5 S) := by
  obtain ⟨S1, M1, fo1, hP, e⟩ := turn_B (T_teach hI.1 (((xs (v5 + (1 : Int32)).toNatClampNeg).toUInt32 % 65536).toInt32) (xs (v5 + (2 : Int32)).toNatClampNeg) (xs (v5 + (3 : Int32)).toNatClampNeg) S.2.2.1) S.2.2.2 (fun X => k28 (kc + 2) (ks + 10) (v5 + 4) X)
  have e2 : f_L_law_470 L xs k28 kc ks v5 S = k28 (kc + 2) (ks + 10) (v5 + 4) (M1, S1, fo1, S.2.2.2) := by
    unfold f_L_law_470
    rw [if_pos ⟨by omega, by omega⟩]
    simp only [if_pos hq.1, if_pos hq.2.1, if_pos hq.2.2]
    exact e
  exact okT.mk e2 (INV.C hI hP (by decide)) (by decide) (by decide)
theorem u_5 (hI : INV S.2.1 S.1) (hq : qs3 L v5) (hc : kc + 1601 ≤ room_1.cells) (hs : ks + 10400 ≤ room_1.slots) : okT k28 kc ks v5 S (f_L_law_559 L xs k28 kc ks v5 S) := by
  obtain ⟨S1, M1, fo1, hP, e⟩ := turn_I (T_seed hI.1 (xs (v5 + (1 : Int32)).toNatClampNeg) S.2.2.1) S.2.2.2 (fun X => k28 (kc + 1) (ks + 6) (v5 + 4) X)
  have e2 : f_L_law_559 L xs k28 kc ks v5 S = k28 (kc + 1) (ks + 6) (v5 + 4) (M1, S1, fo1, S.2.2.2) := by
    unfold f_L_law_559
    rw [if_pos ⟨by omega, by omega⟩]
    simp only [if_pos hq.1]
    exact e
  exact okT.mk e2 (INV.C hI hP (by decide)) (by decide) (by decide)
theorem u_6 (hI : INV S.2.1 S.1) (hq : qs3 L v5) (hc : kc + 1601 ≤ room_1.cells) (hs : ks + 10400 ≤ room_1.slots) : okT k28 kc ks v5 S (f_L_law_615 L xs k28 kc ks v5 S) := by
  obtain ⟨S1, M1, fo1, hP, e⟩ := turn_B (T_ask hI.1 (xs (v5 + (1 : Int32)).toNatClampNeg) S.2.2.1) S.2.2.2 (fun X => k28 (kc + 4) (ks + 18) (v5 + 4) X)
  have e2 : f_L_law_615 L xs k28 kc ks v5 S = k28 (kc + 4) (ks + 18) (v5 + 4) (M1, S1, fo1, S.2.2.2) := by
    unfold f_L_law_615
    rw [if_pos ⟨by omega, by omega⟩]
    simp only [if_pos hq.1]
    exact e
  exact okT.mk e2 (INV.C hI hP (by decide)) (by decide) (by decide)
theorem u_7 (hI : INV S.2.1 S.1) (hq : qs3 L v5) (hc : kc + 1601 ≤ room_1.cells) (hs : ks + 10400 ≤ room_1.slots) : okT k28 kc ks v5 S (f_L_law_678 L xs k28 kc ks v5 S) := by
  obtain ⟨S1, M1, fo1, hP, e⟩ := turn_I (T_equal hI.1 (xs (v5 + (1 : Int32)).toNatClampNeg) S.2.2.1) S.2.2.2 (fun X => k28 (kc + 26) (ks + 106) (v5 + 4) X)
  have e2 : f_L_law_678 L xs k28 kc ks v5 S = k28 (kc + 26) (ks + 106) (v5 + 4) (M1, S1, fo1, S.2.2.2) := by
    unfold f_L_law_678
    rw [if_pos ⟨by omega, by omega⟩]
    simp only [if_pos hq.1]
    exact e
  exact okT.mk e2 (INV.C hI hP (by decide)) (by decide) (by decide)
theorem u_9 (hI : INV S.2.1 S.1) (hq : qs3 L v5) (hc : kc + 1601 ≤ room_1.cells) (hs : ks + 10400 ≤ room_1.slots) : okT k28 kc ks v5 S (f_L_law_747 L xs k28 kc ks v5 S) := by
  obtain ⟨S1, M1, fo1, hP, e⟩ := turn_I (T_conflicts hI.1 (xs (v5 + (1 : Int32)).toNatClampNeg) S.2.2.1) S.2.2.2 (fun X => k28 (kc + 1) (ks + 6) (v5 + 4) X)
  have e2 : f_L_law_747 L xs k28 kc ks v5 S = k28 (kc + 1) (ks + 6) (v5 + 4) (M1, S1, fo1, S.2.2.2) := by
    unfold f_L_law_747
    rw [if_pos ⟨by omega, by omega⟩]
    simp only [if_pos hq.1]
    exact e
  exact okT.mk e2 (INV.same hI hP) (by decide) (by decide)
theorem u_10 (hI : INV S.2.1 S.1) (hq : qs3 L v5) (hc : kc + 1601 ≤ room_1.cells) (hs : ks + 10400 ≤ room_1.slots) : okT k28 kc ks v5 S (f_L_law_803 L xs k28 kc ks v5 S) := by
  obtain ⟨S1, M1, fo1, hP, e⟩ := turn_B (T_isAlive hI.1 (xs (v5 + (1 : Int32)).toNatClampNeg) S.2.2.1) S.2.2.2 (fun X => k28 (kc + 1) (ks + 6) (v5 + 4) X)
  have e2 : f_L_law_803 L xs k28 kc ks v5 S = k28 (kc + 1) (ks + 6) (v5 + 4) (M1, S1, fo1, S.2.2.2) := by
    unfold f_L_law_803
    rw [if_pos ⟨by omega, by omega⟩]
    simp only [if_pos hq.1]
    exact e
  exact okT.mk e2 (INV.same hI hP) (by decide) (by decide)
theorem u_12 (hI : INV S.2.1 S.1) (hq : qs3 L v5) (hc : kc + 1601 ≤ room_1.cells) (hs : ks + 10400 ≤ room_1.slots) : okT k28 kc ks v5 S (f_L_law_879 L xs k28 kc ks v5 S) := by
  obtain ⟨S1, M1, fo1, hP, e⟩ := turn_I (T_sure hI.1 (xs (v5 + (1 : Int32)).toNatClampNeg) S.2.2.1) S.2.2.2 (fun X => k28 (kc + 4) (ks + 18) (v5 + 4) X)
  have e2 : f_L_law_879 L xs k28 kc ks v5 S = k28 (kc + 4) (ks + 18) (v5 + 4) (M1, S1, fo1, S.2.2.2) := by
    unfold f_L_law_879
    rw [if_pos ⟨by omega, by omega⟩]
    simp only [if_pos hq.1]
    exact e
  exact okT.mk e2 (INV.same hI hP) (by decide) (by decide)
theorem u_13 (hI : INV S.2.1 S.1) (hq : qs3 L v5) (hc : kc + 1601 ≤ room_1.cells) (hs : ks + 10400 ≤ room_1.slots) : okT k28 kc ks v5 S (f_L_law_935 L xs k28 kc ks v5 S) := by
  obtain ⟨S1, M1, fo1, hP, e⟩ := turn_I (T_best hI.1  S.2.2.1) S.2.2.2 (fun X => k28 (kc + 32) (ks + 130) (v5 + 4) X)
  have e2 : f_L_law_935 L xs k28 kc ks v5 S = k28 (kc + 32) (ks + 130) (v5 + 4) (M1, S1, fo1, S.2.2.2) := by
    unfold f_L_law_935
    rw [if_pos ⟨by omega, by omega⟩]
    exact e
  exact okT.mk e2 (INV.same hI hP) (by decide) (by decide)
theorem u_14 (hI : INV S.2.1 S.1) (hq : qs3 L v5) (hc : kc + 1601 ≤ room_1.cells) (hs : ks + 10400 ≤ room_1.slots) : okT k28 kc ks v5 S (f_L_law_979 L xs k28 kc ks v5 S) := by
  obtain ⟨S1, M1, fo1, hP, e⟩ := turn_I (T_learn hI.1  S.2.2.1) S.2.2.2 (fun X => k28 (kc + 1601) (ks + 6406) (v5 + 4) X)
  have e2 : f_L_law_979 L xs k28 kc ks v5 S = k28 (kc + 1601) (ks + 6406) (v5 + 4) (M1, S1, fo1, S.2.2.2) := by
    unfold f_L_law_979
    rw [if_pos ⟨by omega, by omega⟩]
    exact e
  exact okT.mk e2 (INV.C hI hP (by decide)) (by decide) (by decide)
theorem u_15 (hI : INV S.2.1 S.1) (hq : qs3 L v5) (hc : kc + 1601 ≤ room_1.cells) (hs : ks + 10400 ≤ room_1.slots) : okT k28 kc ks v5 S (f_L_law_1023 L xs k28 kc ks v5 S) := by
  obtain ⟨S1, M1, fo1, hP, e⟩ := turn_I (T_found hI.1  S.2.2.1) S.2.2.2 (fun X => k28 (kc + 2) (ks + 10) (v5 + 4) X)
  have e2 : f_L_law_1023 L xs k28 kc ks v5 S = k28 (kc + 2) (ks + 10) (v5 + 4) (M1, S1, fo1, S.2.2.2) := by
    unfold f_L_law_1023
    rw [if_pos ⟨by omega, by omega⟩]
    exact e
  exact okT.mk e2 (INV.same hI hP) (by decide) (by decide)
theorem u_16 (hI : INV S.2.1 S.1) (hq : qs3 L v5) (hc : kc + 1601 ≤ room_1.cells) (hs : ks + 10400 ≤ room_1.slots) : okT k28 kc ks v5 S (f_L_law_1067 L xs k28 kc ks v5 S) := by
  obtain ⟨S1, M1, fo1, hP, e⟩ := turn_B (T_isShattered hI.1 (xs (v5 + (1 : Int32)).toNatClampNeg) S.2.2.1) S.2.2.2 (fun X => k28 (kc + 3) (ks + 74) (v5 + 4) X)
  have e2 : f_L_law_1067 L xs k28 kc ks v5 S = k28 (kc + 3) (ks + 74) (v5 + 4) (M1, S1, fo1, S.2.2.2) := by
    unfold f_L_law_1067
    rw [if_pos ⟨by omega, by omega⟩]
    simp only [if_pos hq.1]
    exact e
  exact okT.mk e2 (INV.same hI hP) (by decide) (by decide)
theorem u_18 (hI : INV S.2.1 S.1) (hq : qs3 L v5) (hc : kc + 1601 ≤ room_1.cells) (hs : ks + 10400 ≤ room_1.slots) : okT k28 kc ks v5 S (f_L_law_1143 L xs k28 kc ks v5 S) := by
  obtain ⟨S1, M1, fo1, hP, e⟩ := turn_I (T_lesson hI.1 (xs (v5 + (1 : Int32)).toNatClampNeg) S.2.2.1) S.2.2.2 (fun X => k28 (kc + 1) (ks + 6) (v5 + 4) X)
  have e2 : f_L_law_1143 L xs k28 kc ks v5 S = k28 (kc + 1) (ks + 6) (v5 + 4) (M1, S1, fo1, S.2.2.2) := by
    unfold f_L_law_1143
    rw [if_pos ⟨by omega, by omega⟩]
    simp only [if_pos hq.1]
    exact e
  exact okT.mk e2 (INV.same hI hP) (by decide) (by decide)
theorem u_21 (hI : INV S.2.1 S.1) (hq : qs3 L v5) (hc : kc + 1601 ≤ room_1.cells) (hs : ks + 10400 ≤ room_1.slots) : okT k28 kc ks v5 S (f_L_law_1225 L xs k28 kc ks v5 S) := by
  obtain ⟨S1, M1, fo1, hP, e⟩ := turn_I (T_halver hI.1 (xs (v5 + (1 : Int32)).toNatClampNeg) S.2.2.1) S.2.2.2 (fun X => k28 (kc + 1) (ks + 6) (v5 + 4) X)
  have e2 : f_L_law_1225 L xs k28 kc ks v5 S = k28 (kc + 1) (ks + 6) (v5 + 4) (M1, S1, fo1, S.2.2.2) := by
    unfold f_L_law_1225
    rw [if_pos ⟨by omega, by omega⟩]
    simp only [if_pos hq.1]
    exact e
  exact okT.mk e2 (INV.same hI hP) (by decide) (by decide)
theorem u_22 (hI : INV S.2.1 S.1) (hq : qs3 L v5) (hc : kc + 1601 ≤ room_1.cells) (hs : ks + 10400 ≤ room_1.slots) : okT k28 kc ks v5 S (f_L_law_1281 L xs k28 kc ks v5 S) := by
  obtain ⟨S1, M1, fo1, hP, e⟩ := turn_I (T_experts hI.2.1 (xs (v5 + (1 : Int32)).toNatClampNeg) S.2.2.1) S.2.2.2 (fun X => k28 (kc + 21) (ks + 1026) (v5 + 4) X)
  have e2 : f_L_law_1281 L xs k28 kc ks v5 S = k28 (kc + 21) (ks + 1026) (v5 + 4) (M1, S1, fo1, S.2.2.2) := by
    unfold f_L_law_1281
    rw [if_pos ⟨by omega, by omega⟩]
    simp only [if_pos hq.1]
    exact e
  exact okT.mk e2 (INV.X hI hP) (by decide) (by decide)
theorem u_24 (hI : INV S.2.1 S.1) (hq : qs3 L v5) (hc : kc + 1601 ≤ room_1.cells) (hs : ks + 10400 ≤ room_1.slots) : okT k28 kc ks v5 S (f_L_law_1428 L xs k28 kc ks v5 S) := by
  obtain ⟨S1, M1, fo1, hP, e⟩ := turn_I (T_weight hI.2.1 (xs (v5 + (1 : Int32)).toNatClampNeg) S.2.2.1) S.2.2.2 (fun X => k28 (kc + 1) (ks + 6) (v5 + 4) X)
  have e2 : f_L_law_1428 L xs k28 kc ks v5 S = k28 (kc + 1) (ks + 6) (v5 + 4) (M1, S1, fo1, S.2.2.2) := by
    unfold f_L_law_1428
    rw [if_pos ⟨by omega, by omega⟩]
    simp only [if_pos hq.1]
    exact e
  exact okT.mk e2 (INV.same hI hP) (by decide) (by decide)
theorem u_25 (hI : INV S.2.1 S.1) (hq : qs3 L v5) (hc : kc + 1601 ≤ room_1.cells) (hs : ks + 10400 ≤ room_1.slots) : okT k28 kc ks v5 S (f_L_law_1484 L xs k28 kc ks v5 S) := by
  obtain ⟨S1, M1, fo1, hP, e⟩ := turn_I (T_regret hI.2.1  S.2.2.1) S.2.2.2 (fun X => k28 (kc + 2) (ks + 10) (v5 + 4) X)
  have e2 : f_L_law_1484 L xs k28 kc ks v5 S = k28 (kc + 2) (ks + 10) (v5 + 4) (M1, S1, fo1, S.2.2.2) := by
    unfold f_L_law_1484
    rw [if_pos ⟨by omega, by omega⟩]
    exact e
  exact okT.mk e2 (INV.same hI hP) (by decide) (by decide)
theorem u_27 (hI : INV S.2.1 S.1) (hq : qs3 L v5) (hc : kc + 1601 ≤ room_1.cells) (hs : ks + 10400 ≤ room_1.slots) : okT k28 kc ks v5 S (f_L_law_1600 L xs k28 kc ks v5 S) := by
  obtain ⟨S1, M1, fo1, hP, e⟩ := turn_I (T_go hI.2.2.1 (xs (v5 + (1 : Int32)).toNatClampNeg) (((xs (v5 + (2 : Int32)).toNatClampNeg).toUInt32 % 65536).toInt32) (xs (v5 + (3 : Int32)).toNatClampNeg) S.2.2.1) S.2.2.2 (fun X => k28 (kc + 1) (ks + 6) (v5 + 4) X)
  have e2 : f_L_law_1600 L xs k28 kc ks v5 S = k28 (kc + 1) (ks + 6) (v5 + 4) (M1, S1, fo1, S.2.2.2) := by
    unfold f_L_law_1600
    rw [if_pos ⟨by omega, by omega⟩]
    simp only [if_pos hq.1, if_pos hq.2.1, if_pos hq.2.2]
    exact e
  exact okT.mk e2 ⟨INV.St hI hP.1 hP.2.1 hP.2.2.1, hP.2.2.2⟩ (by decide) (by decide)
theorem u_28 (hI : INV S.2.1 S.1) (hq : qs3 L v5) (hc : kc + 1601 ≤ room_1.cells) (hs : ks + 10400 ≤ room_1.slots) : okT k28 kc ks v5 S (f_L_law_1682 L xs k28 kc ks v5 S) := by
  obtain ⟨S1, M1, fo1, hP, e⟩ := turn_B (T_accepts hI.2.2.1 (xs (v5 + (1 : Int32)).toNatClampNeg) (xs (v5 + (2 : Int32)).toNatClampNeg) S.2.2.1) S.2.2.2 (fun X => k28 (kc + 1) (ks + 6) (v5 + 4) X)
  have e2 : f_L_law_1682 L xs k28 kc ks v5 S = k28 (kc + 1) (ks + 6) (v5 + 4) (M1, S1, fo1, S.2.2.2) := by
    unfold f_L_law_1682
    rw [if_pos ⟨by omega, by omega⟩]
    simp only [if_pos hq.1, if_pos hq.2.1]
    exact e
  exact okT.mk e2 (INV.same hI hP) (by decide) (by decide)
theorem u_29 (hI : INV S.2.1 S.1) (hq : qs3 L v5) (hc : kc + 1601 ≤ room_1.cells) (hs : ks + 10400 ≤ room_1.slots) : okT k28 kc ks v5 S (f_L_law_1757 L xs k28 kc ks v5 S) := by
  obtain ⟨S1, M1, fo1, hP, e⟩ := turn_I (T_apart hI.2.2.1 (xs (v5 + (1 : Int32)).toNatClampNeg) (xs (v5 + (2 : Int32)).toNatClampNeg) S.2.2.1) S.2.2.2 (fun X => k28 (kc + 325) (ks + 1626) (v5 + 4) X)
  have e2 : f_L_law_1757 L xs k28 kc ks v5 S = k28 (kc + 325) (ks + 1626) (v5 + 4) (M1, S1, fo1, S.2.2.2) := by
    unfold f_L_law_1757
    rw [if_pos ⟨by omega, by omega⟩]
    simp only [if_pos hq.1, if_pos hq.2.1]
    exact e
  exact okT.mk e2 (INV.same hI hP) (by decide) (by decide)
theorem u_32 (hI : INV S.2.1 S.1) (hq : qs3 L v5) (hc : kc + 1601 ≤ room_1.cells) (hs : ks + 10400 ≤ room_1.slots) : okT k28 kc ks v5 S (f_L_law_1965 L xs k28 kc ks v5 S) := by
  obtain ⟨S1, M1, fo1, hP, e⟩ := turn_B (T_fits hI.2.2.1 hI.2.2.2.1  S.2.2.1) S.2.2.2 (fun X => k28 (kc + 2) (ks + 10) (v5 + 4) X)
  have e2 : f_L_law_1965 L xs k28 kc ks v5 S = k28 (kc + 2) (ks + 10) (v5 + 4) (M1, S1, fo1, S.2.2.2) := by
    unfold f_L_law_1965
    rw [if_pos ⟨by omega, by omega⟩]
    exact e
  exact okT.mk e2 (INV.same hI hP) (by decide) (by decide)
theorem u_33 (hI : INV S.2.1 S.1) (hq : qs3 L v5) (hc : kc + 1601 ≤ room_1.cells) (hs : ks + 10400 ≤ room_1.slots) : okT k28 kc ks v5 S (f_L_law_2016 L xs k28 kc ks v5 S) := by
  obtain ⟨S1, M1, fo1, hP, e⟩ := turn_I (T_fewest hI.2.2.2.1  S.2.2.1) S.2.2.2 (fun X => k28 (kc + 747) (ks + 2990) (v5 + 4) X)
  have e2 : f_L_law_2016 L xs k28 kc ks v5 S = k28 (kc + 747) (ks + 2990) (v5 + 4) (M1, S1, fo1, S.2.2.2) := by
    unfold f_L_law_2016
    rw [if_pos ⟨by omega, by omega⟩]
    exact e
  exact okT.mk e2 (INV.W hI hP (by decide)) (by decide) (by decide)
theorem u_34 (hI : INV S.2.1 S.1) (hq : qs3 L v5) (hc : kc + 1601 ≤ room_1.cells) (hs : ks + 10400 ≤ room_1.slots) : okT k28 kc ks v5 S (f_L_law_2060 L xs k28 kc ks v5 S) := by
  obtain ⟨S1, M1, fo1, hP, e⟩ := turn_I (T_secret hI.2.2.2.2.1 (xs (v5 + (1 : Int32)).toNatClampNeg) S.2.2.1) S.2.2.2 (fun X => k28 (kc + 1) (ks + 6) (v5 + 4) X)
  have e2 : f_L_law_2060 L xs k28 kc ks v5 S = k28 (kc + 1) (ks + 6) (v5 + 4) (M1, S1, fo1, S.2.2.2) := by
    unfold f_L_law_2060
    rw [if_pos ⟨by omega, by omega⟩]
    simp only [if_pos hq.1]
    exact e
  exact okT.mk e2 (INV.Kd hI hP (by decide)) (by decide) (by decide)
theorem u_35 (hI : INV S.2.1 S.1) (hq : qs3 L v5) (hc : kc + 1601 ≤ room_1.cells) (hs : ks + 10400 ≤ room_1.slots) : okT k28 kc ks v5 S (f_L_law_2116 L xs k28 kc ks v5 S) := by
  obtain ⟨S1, M1, fo1, hP, e⟩ := turn_I (T_guess hI.2.2.2.2.1 (xs (v5 + (1 : Int32)).toNatClampNeg) S.2.2.1) S.2.2.2 (fun X => k28 (kc + 3) (ks + 108) (v5 + 4) X)
  have e2 : f_L_law_2116 L xs k28 kc ks v5 S = k28 (kc + 3) (ks + 108) (v5 + 4) (M1, S1, fo1, S.2.2.2) := by
    unfold f_L_law_2116
    rw [if_pos ⟨by omega, by omega⟩]
    simp only [if_pos hq.1]
    exact e
  exact okT.mk e2 (INV.Kd hI hP (by decide)) (by decide) (by decide)
theorem u_38 (hI : INV S.2.1 S.1) (hq : qs3 L v5) (hc : kc + 1601 ≤ room_1.cells) (hs : ks + 10400 ≤ room_1.slots) : okT k28 kc ks v5 S (f_L_law_2198 L xs k28 kc ks v5 S) := by
  obtain ⟨S1, M1, fo1, hP, e⟩ := turn_I (T_things hI.2.2.2.2.2 (xs (v5 + (1 : Int32)).toNatClampNeg) S.2.2.1) S.2.2.2 (fun X => k28 (kc + 1) (ks + 6) (v5 + 4) X)
  have e2 : f_L_law_2198 L xs k28 kc ks v5 S = k28 (kc + 1) (ks + 6) (v5 + 4) (M1, S1, fo1, S.2.2.2) := by
    unfold f_L_law_2198
    rw [if_pos ⟨by omega, by omega⟩]
    simp only [if_pos hq.1]
    exact e
  exact okT.mk e2 (INV.O hI hP (by decide)) (by decide) (by decide)
theorem u_39 (hI : INV S.2.1 S.1) (hq : qs3 L v5) (hc : kc + 1601 ≤ room_1.cells) (hs : ks + 10400 ≤ room_1.slots) : okT k28 kc ks v5 S (f_L_law_2254 L xs k28 kc ks v5 S) := by
  obtain ⟨S1, M1, fo1, hP, e⟩ := turn_I (T_ahead hI.2.2.2.2.2 (xs (v5 + (1 : Int32)).toNatClampNeg) (xs (v5 + (2 : Int32)).toNatClampNeg) S.2.2.1) S.2.2.2 (fun X => k28 (kc + 1) (ks + 6) (v5 + 4) X)
  have e2 : f_L_law_2254 L xs k28 kc ks v5 S = k28 (kc + 1) (ks + 6) (v5 + 4) (M1, S1, fo1, S.2.2.2) := by
    unfold f_L_law_2254
    rw [if_pos ⟨by omega, by omega⟩]
    simp only [if_pos hq.1, if_pos hq.2.1]
    exact e
  exact okT.mk e2 (INV.O hI hP (by decide)) (by decide) (by decide)
theorem u_41 (hI : INV S.2.1 S.1) (hq : qs3 L v5) (hc : kc + 1601 ≤ room_1.cells) (hs : ks + 10400 ≤ room_1.slots) : okT k28 kc ks v5 S (f_L_law_2335 L xs k28 kc ks v5 S) := by
  obtain ⟨S1, M1, fo1, hP, e⟩ := turn_I (T_pair hI.2.2.2.2.2  S.2.2.1) S.2.2.2 (fun X => k28 (kc + 1) (ks + 6) (v5 + 4) X)
  have e2 : f_L_law_2335 L xs k28 kc ks v5 S = k28 (kc + 1) (ks + 6) (v5 + 4) (M1, S1, fo1, S.2.2.2) := by
    unfold f_L_law_2335
    rw [if_pos ⟨by omega, by omega⟩]
    exact e
  exact okT.mk e2 (INV.O hI hP (by decide)) (by decide) (by decide)
end TV
