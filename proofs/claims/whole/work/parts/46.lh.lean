def f_L_points (S : CS) (a1 : Int32) (fo : Nat → Int64) : Option (Int32 × (Nat → Int64) × CS) := ((f_X8_points a1 S).bind fun u => (if u.1.1 = 0 then some ((0 : Int32), vp_updL fo 0 u.1.2.toInt64, u.2) else (if u.1.1 = 1 then some ((1 : Int32), fo, u.2) else none)))
theorem z_L_points : q_dsc yL_points 3 := ⟨by decide +kernel, by decide +kernel, by decide +kernel⟩
set_option maxRecDepth 100000 in
set_option maxHeartbeats 4000000 in
theorem c_L_points (l : Launch) (hfl : l.stackTraces = false) (D : va_G) (cc : Nat → ClassId) (N0 : Nat) (g : Nat → Nat) (xo : Nat) (E : va_W) (S : CS) (a1 : Int32) (fo : Nat → Int64) (v : Int32 × (Nat → Int64) × CS) (hf : f_L_points S a1 fo = some v) : q_Met l yL_points wsL_points 7 162 D cc N0 (cw cc g S ++ ((xo, .inl (cc 4, 1, .inr (.inl fo))) :: E)) [.ref (g 0), .int a1, .ref xo] (q_p (some (.int v.1)) (cw cc g v.2.2 ++ ((xo, .inl (cc 4, 1, .inr (.inl v.2.1))) :: E))) 1 6 := by
  refine q_ofH (code := cL_points) (nL := 4) (ret := (some .int)) (hh := [(0, 9, 12, 13)]) (by decide +kernel) rfl (Nat.le_of_ble_eq_true rfl) (fun p e s m below meth c C ht => ?_)
  refine q_lv (lv2 := [(0, .ref (g 0)), (1, .int a1), (2, .ref xo)]) rfl ?_
  obtain ⟨u, hu, hf⟩ := q_bind hf
  refine q_aload_n (pc := 0) C dL_points_0 rfl 2 rfl ?_
  refine q_iconst (pc := 1) C 0 dL_points_1 q_ci_0 ?_
  refine q_aload_n (pc := 2) C dL_points_2 rfl 0 rfl ?_
  refine q_iload_n (pc := 3) C dL_points_3 rfl 1 rfl ?_
  refine q_callVC (pc := 4) (As := [.int a1]) (rest := [.int 0, .ref xo]) C (c_X8_points l hfl D cc N0 g ((xo, .inl (cc 4, 1, .inr (.inl fo))) :: E) S a1 u hu) gL_points_X8_points rfl rfl z_X8_points ⟨(Nat.le_of_ble_eq_true rfl), (Nat.le_of_ble_eq_true rfl)⟩ (q0 := 0) (cw_at_0 cc g _ S) rfl rfl rfl (Nat.le_of_ble_eq_true rfl) dL_points_4 ⟨(Nat.le_of_ble_eq_true rfl), (Nat.le_of_ble_eq_true rfl)⟩ ?_ ?_
  · rintro _ _ ⟨h0, rfl, rfl⟩
    have hf := q_iteT hf h0
    obtain rfl := q_some hf
    refine q_nm (wz := (cw cc g u.2 ++ ((xo, .inl (cc 4, 1, .inr (.inl fo))) :: E))) (ka := 1) (kb := 6) (sz := [.int u.1.2, .int 0, .ref xo]) rfl rfl rfl rfl ?_
    refine q_i2l (pc := 7) C dL_points_7 rfl ?_
    refine q_last (pc := 8) C 22 rfl ⟨by decide, by decide⟩ dL_points_8 (ws1 := (cw cc g u.2 ++ ((xo, .inl (cc 4, 1, .inr (.inl (vp_updL fo 0 u.1.2.toInt64)))) :: E))) rfl ?_
    refine q_goto (pc := 9) (tgt := 15) C dL_points_9 (by decide) ?_
    refine q_iconst (pc := 15) C 0 dL_points_15 q_ci_0 ?_
    exact q_iret (pc := 16) C dL_points_16 ⟨rfl, rfl⟩
  · rintro _ _ ⟨rfl, hp, rfl⟩
    have hf := q_iteF hf (Nat.pos_iff_ne_zero.mp hp)
    by_cases h0 : u.1.1 = 1
    · have hf := q_iteT hf h0
      obtain rfl := q_some hf
      refine ⟨12, ⟨[], ⟨0, 9, 12, 13⟩, [], ht, (fun z hz => nomatch hz), by decide, by decide, by rw [h0]; exact (List.mem_of_getElem? (i := 1) rfl), by rw [h0]; decide, rfl⟩, fun a => ?_⟩
      refine q_nm (wz := (cw cc g u.2 ++ ((xo, .inl (cc 4, 1, .inr (.inl fo))) :: E))) (ka := 1) (kb := 6) (sz := [.ref a]) rfl rfl rfl rfl ?_
      refine q_astore_n (pc := 12) (lvq := [(3, .ref a), (0, .ref (g 0)), (1, .int a1), (2, .ref xo)]) C dL_points_12 rfl (by decide) rfl ?_
      refine q_iconst (pc := 13) C 1 dL_points_13 q_ci_1 ?_
      exact q_iret (pc := 14) C dL_points_14 ⟨rfl, rfl⟩
    have hf := q_iteF hf h0
    cases hf
def f_L_concept (S : CS) (a1 : Int32) (fo : Nat → Int64) : Option (Int32 × (Nat → Int64) × CS) := ((f_X8_concept a1 S).bind fun u => (if u.1.1 = 0 then some ((0 : Int32), vp_updL fo 0 u.1.2.toInt64, u.2) else (if u.1.1 = 1 then some ((1 : Int32), fo, u.2) else (if u.1.1 = 2 then some ((2 : Int32), fo, u.2) else (if u.1.1 = 3 then some ((3 : Int32), fo, u.2) else none)))))
theorem z_L_concept : q_dsc yL_concept 3 := ⟨by decide +kernel, by decide +kernel, by decide +kernel⟩
set_option maxRecDepth 100000 in
set_option maxHeartbeats 4000000 in
theorem c_L_concept (l : Launch) (hfl : l.stackTraces = false) (D : va_G) (cc : Nat → ClassId) (N0 : Nat) (g : Nat → Nat) (xo : Nat) (E : va_W) (S : CS) (a1 : Int32) (fo : Nat → Int64) (v : Int32 × (Nat → Int64) × CS) (hf : f_L_concept S a1 fo = some v) : q_Met l yL_concept wsL_concept 7 161 D cc N0 (cw cc g S ++ ((xo, .inl (cc 4, 1, .inr (.inl fo))) :: E)) [.ref (g 0), .int a1, .ref xo] (q_p (some (.int v.1)) (cw cc g v.2.2 ++ ((xo, .inl (cc 4, 1, .inr (.inl v.2.1))) :: E))) 1 6 := by
  refine q_ofH (code := cL_concept) (nL := 4) (ret := (some .int)) (hh := [(0, 9, 12, 13), (0, 9, 15, 18), (0, 9, 18, 20)]) (by decide +kernel) rfl (Nat.le_of_ble_eq_true rfl) (fun p e s m below meth c C ht => ?_)
  refine q_lv (lv2 := [(0, .ref (g 0)), (1, .int a1), (2, .ref xo)]) rfl ?_
  obtain ⟨u, hu, hf⟩ := q_bind hf
  refine q_aload_n (pc := 0) C dL_concept_0 rfl 2 rfl ?_
  refine q_iconst (pc := 1) C 0 dL_concept_1 q_ci_0 ?_
  refine q_aload_n (pc := 2) C dL_concept_2 rfl 0 rfl ?_
  refine q_iload_n (pc := 3) C dL_concept_3 rfl 1 rfl ?_
  refine q_callVC (pc := 4) (As := [.int a1]) (rest := [.int 0, .ref xo]) C (c_X8_concept l hfl D cc N0 g ((xo, .inl (cc 4, 1, .inr (.inl fo))) :: E) S a1 u hu) gL_concept_X8_concept rfl rfl z_X8_concept ⟨(Nat.le_of_ble_eq_true rfl), (Nat.le_of_ble_eq_true rfl)⟩ (q0 := 0) (cw_at_0 cc g _ S) rfl rfl rfl (Nat.le_of_ble_eq_true rfl) dL_concept_4 ⟨(Nat.le_of_ble_eq_true rfl), (Nat.le_of_ble_eq_true rfl)⟩ ?_ ?_
  · rintro _ _ ⟨h0, rfl, rfl⟩
    have hf := q_iteT hf h0
    obtain rfl := q_some hf
    refine q_nm (wz := (cw cc g u.2 ++ ((xo, .inl (cc 4, 1, .inr (.inl fo))) :: E))) (ka := 1) (kb := 6) (sz := [.int u.1.2, .int 0, .ref xo]) rfl rfl rfl rfl ?_
    refine q_i2l (pc := 7) C dL_concept_7 rfl ?_
    refine q_last (pc := 8) C 22 rfl ⟨by decide, by decide⟩ dL_concept_8 (ws1 := (cw cc g u.2 ++ ((xo, .inl (cc 4, 1, .inr (.inl (vp_updL fo 0 u.1.2.toInt64)))) :: E))) rfl ?_
    refine q_goto (pc := 9) (tgt := 21) C dL_concept_9 (by decide) ?_
    refine q_iconst (pc := 21) C 0 dL_concept_21 q_ci_0 ?_
    exact q_iret (pc := 22) C dL_concept_22 ⟨rfl, rfl⟩
  · rintro _ _ ⟨rfl, hp, rfl⟩
    have hf := q_iteF hf (Nat.pos_iff_ne_zero.mp hp)
    by_cases h0 : u.1.1 = 1
    · have hf := q_iteT hf h0
      obtain rfl := q_some hf
      refine ⟨12, ⟨[], ⟨0, 9, 12, 13⟩, [⟨0, 9, 15, 18⟩, ⟨0, 9, 18, 20⟩], ht, (fun z hz => nomatch hz), by decide, by decide, by rw [h0]; exact (List.mem_of_getElem? (i := 1) rfl), by rw [h0]; decide, rfl⟩, fun a => ?_⟩
      refine q_nm (wz := (cw cc g u.2 ++ ((xo, .inl (cc 4, 1, .inr (.inl fo))) :: E))) (ka := 1) (kb := 6) (sz := [.ref a]) rfl rfl rfl rfl ?_
      refine q_astore_n (pc := 12) (lvq := [(3, .ref a), (0, .ref (g 0)), (1, .int a1), (2, .ref xo)]) C dL_concept_12 rfl (by decide) rfl ?_
      refine q_iconst (pc := 13) C 1 dL_concept_13 q_ci_1 ?_
      exact q_iret (pc := 14) C dL_concept_14 ⟨rfl, rfl⟩
    have hf := q_iteF hf h0
    by_cases h1 : u.1.1 = 2
    · have hf := q_iteT hf h1
      obtain rfl := q_some hf
      refine ⟨15, ⟨[⟨0, 9, 12, 13⟩], ⟨0, 9, 15, 18⟩, [⟨0, 9, 18, 20⟩], ht, (List.forall_mem_cons.mpr ⟨Or.inr ⟨by decide, "java/lang/IllegalArgumentException", (List.mem_of_getElem? (i := 1) rfl), by rw [h1]; decide⟩, (fun z hz => nomatch hz)⟩), by decide, by decide, by rw [h1]; exact (List.mem_of_getElem? (i := 2) rfl), by rw [h1]; decide, rfl⟩, fun a => ?_⟩
      refine q_nm (wz := (cw cc g u.2 ++ ((xo, .inl (cc 4, 1, .inr (.inl fo))) :: E))) (ka := 1) (kb := 6) (sz := [.ref a]) rfl rfl rfl rfl ?_
      refine q_astore_n (pc := 15) (lvq := [(3, .ref a), (0, .ref (g 0)), (1, .int a1), (2, .ref xo)]) C dL_concept_15 rfl (by decide) rfl ?_
      refine q_iconst (pc := 16) C 2 dL_concept_16 q_ci_2 ?_
      exact q_iret (pc := 17) C dL_concept_17 ⟨rfl, rfl⟩
    have hf := q_iteF hf h1
    by_cases h2 : u.1.1 = 3
    · have hf := q_iteT hf h2
      obtain rfl := q_some hf
      refine ⟨18, ⟨[⟨0, 9, 12, 13⟩, ⟨0, 9, 15, 18⟩], ⟨0, 9, 18, 20⟩, [], ht, (List.forall_mem_cons.mpr ⟨Or.inr ⟨by decide, "java/lang/IllegalArgumentException", (List.mem_of_getElem? (i := 1) rfl), by rw [h2]; decide⟩, (List.forall_mem_cons.mpr ⟨Or.inr ⟨by decide, "java/lang/UnsupportedOperationException", (List.mem_of_getElem? (i := 2) rfl), by rw [h2]; decide⟩, (fun z hz => nomatch hz)⟩)⟩), by decide, by decide, by rw [h2]; exact (List.mem_of_getElem? (i := 3) rfl), by rw [h2]; decide, rfl⟩, fun a => ?_⟩
      refine q_nm (wz := (cw cc g u.2 ++ ((xo, .inl (cc 4, 1, .inr (.inl fo))) :: E))) (ka := 1) (kb := 6) (sz := [.ref a]) rfl rfl rfl rfl ?_
      refine q_astore_n (pc := 18) (lvq := [(3, .ref a), (0, .ref (g 0)), (1, .int a1), (2, .ref xo)]) C dL_concept_18 rfl (by decide) rfl ?_
      refine q_iconst (pc := 19) C 3 dL_concept_19 q_ci_3 ?_
      exact q_iret (pc := 20) C dL_concept_20 ⟨rfl, rfl⟩
    have hf := q_iteF hf h2
    cases hf
def f_L_family (S : CS) (a1 : Int32) (fo : Nat → Int64) : Option (Int32 × (Nat → Int64) × CS) := ((f_X8_family a1 S).bind fun u => (if u.1.1 = 0 then some ((0 : Int32), vp_updL fo 0 u.1.2.toInt64, u.2) else (if u.1.1 = 1 then some ((1 : Int32), fo, u.2) else (if u.1.1 = 2 then some ((2 : Int32), fo, u.2) else (if u.1.1 = 3 then some ((3 : Int32), fo, u.2) else none)))))
theorem z_L_family : q_dsc yL_family 3 := ⟨by decide +kernel, by decide +kernel, by decide +kernel⟩
set_option maxRecDepth 100000 in
set_option maxHeartbeats 4000000 in
theorem c_L_family (l : Launch) (hfl : l.stackTraces = false) (D : va_G) (cc : Nat → ClassId) (N0 : Nat) (g : Nat → Nat) (xo : Nat) (E : va_W) (S : CS) (a1 : Int32) (fo : Nat → Int64) (v : Int32 × (Nat → Int64) × CS) (hf : f_L_family S a1 fo = some v) : q_Met l yL_family wsL_family 7 161 D cc N0 (cw cc g S ++ ((xo, .inl (cc 4, 1, .inr (.inl fo))) :: E)) [.ref (g 0), .int a1, .ref xo] (q_p (some (.int v.1)) (cw cc g v.2.2 ++ ((xo, .inl (cc 4, 1, .inr (.inl v.2.1))) :: E))) 1 6 := by
  refine q_ofH (code := cL_family) (nL := 4) (ret := (some .int)) (hh := [(0, 9, 12, 13), (0, 9, 15, 18), (0, 9, 18, 20)]) (by decide +kernel) rfl (Nat.le_of_ble_eq_true rfl) (fun p e s m below meth c C ht => ?_)
  refine q_lv (lv2 := [(0, .ref (g 0)), (1, .int a1), (2, .ref xo)]) rfl ?_
  obtain ⟨u, hu, hf⟩ := q_bind hf
  refine q_aload_n (pc := 0) C dL_family_0 rfl 2 rfl ?_
  refine q_iconst (pc := 1) C 0 dL_family_1 q_ci_0 ?_
  refine q_aload_n (pc := 2) C dL_family_2 rfl 0 rfl ?_
  refine q_iload_n (pc := 3) C dL_family_3 rfl 1 rfl ?_
  refine q_callVC (pc := 4) (As := [.int a1]) (rest := [.int 0, .ref xo]) C (c_X8_family l hfl D cc N0 g ((xo, .inl (cc 4, 1, .inr (.inl fo))) :: E) S a1 u hu) gL_family_X8_family rfl rfl z_X8_family ⟨(Nat.le_of_ble_eq_true rfl), (Nat.le_of_ble_eq_true rfl)⟩ (q0 := 0) (cw_at_0 cc g _ S) rfl rfl rfl (Nat.le_of_ble_eq_true rfl) dL_family_4 ⟨(Nat.le_of_ble_eq_true rfl), (Nat.le_of_ble_eq_true rfl)⟩ ?_ ?_
  · rintro _ _ ⟨h0, rfl, rfl⟩
    have hf := q_iteT hf h0
    obtain rfl := q_some hf
    refine q_nm (wz := (cw cc g u.2 ++ ((xo, .inl (cc 4, 1, .inr (.inl fo))) :: E))) (ka := 1) (kb := 6) (sz := [.int u.1.2, .int 0, .ref xo]) rfl rfl rfl rfl ?_
    refine q_i2l (pc := 7) C dL_family_7 rfl ?_
    refine q_last (pc := 8) C 22 rfl ⟨by decide, by decide⟩ dL_family_8 (ws1 := (cw cc g u.2 ++ ((xo, .inl (cc 4, 1, .inr (.inl (vp_updL fo 0 u.1.2.toInt64)))) :: E))) rfl ?_
    refine q_goto (pc := 9) (tgt := 21) C dL_family_9 (by decide) ?_
    refine q_iconst (pc := 21) C 0 dL_family_21 q_ci_0 ?_
    exact q_iret (pc := 22) C dL_family_22 ⟨rfl, rfl⟩
  · rintro _ _ ⟨rfl, hp, rfl⟩
    have hf := q_iteF hf (Nat.pos_iff_ne_zero.mp hp)
    by_cases h0 : u.1.1 = 1
    · have hf := q_iteT hf h0
      obtain rfl := q_some hf
      refine ⟨12, ⟨[], ⟨0, 9, 12, 13⟩, [⟨0, 9, 15, 18⟩, ⟨0, 9, 18, 20⟩], ht, (fun z hz => nomatch hz), by decide, by decide, by rw [h0]; exact (List.mem_of_getElem? (i := 1) rfl), by rw [h0]; decide, rfl⟩, fun a => ?_⟩
      refine q_nm (wz := (cw cc g u.2 ++ ((xo, .inl (cc 4, 1, .inr (.inl fo))) :: E))) (ka := 1) (kb := 6) (sz := [.ref a]) rfl rfl rfl rfl ?_
      refine q_astore_n (pc := 12) (lvq := [(3, .ref a), (0, .ref (g 0)), (1, .int a1), (2, .ref xo)]) C dL_family_12 rfl (by decide) rfl ?_
      refine q_iconst (pc := 13) C 1 dL_family_13 q_ci_1 ?_
      exact q_iret (pc := 14) C dL_family_14 ⟨rfl, rfl⟩
    have hf := q_iteF hf h0
    by_cases h1 : u.1.1 = 2
    · have hf := q_iteT hf h1
      obtain rfl := q_some hf
      refine ⟨15, ⟨[⟨0, 9, 12, 13⟩], ⟨0, 9, 15, 18⟩, [⟨0, 9, 18, 20⟩], ht, (List.forall_mem_cons.mpr ⟨Or.inr ⟨by decide, "java/lang/IllegalArgumentException", (List.mem_of_getElem? (i := 1) rfl), by rw [h1]; decide⟩, (fun z hz => nomatch hz)⟩), by decide, by decide, by rw [h1]; exact (List.mem_of_getElem? (i := 2) rfl), by rw [h1]; decide, rfl⟩, fun a => ?_⟩
      refine q_nm (wz := (cw cc g u.2 ++ ((xo, .inl (cc 4, 1, .inr (.inl fo))) :: E))) (ka := 1) (kb := 6) (sz := [.ref a]) rfl rfl rfl rfl ?_
      refine q_astore_n (pc := 15) (lvq := [(3, .ref a), (0, .ref (g 0)), (1, .int a1), (2, .ref xo)]) C dL_family_15 rfl (by decide) rfl ?_
      refine q_iconst (pc := 16) C 2 dL_family_16 q_ci_2 ?_
      exact q_iret (pc := 17) C dL_family_17 ⟨rfl, rfl⟩
    have hf := q_iteF hf h1
    by_cases h2 : u.1.1 = 3
    · have hf := q_iteT hf h2
      obtain rfl := q_some hf
      refine ⟨18, ⟨[⟨0, 9, 12, 13⟩, ⟨0, 9, 15, 18⟩], ⟨0, 9, 18, 20⟩, [], ht, (List.forall_mem_cons.mpr ⟨Or.inr ⟨by decide, "java/lang/IllegalArgumentException", (List.mem_of_getElem? (i := 1) rfl), by rw [h2]; decide⟩, (List.forall_mem_cons.mpr ⟨Or.inr ⟨by decide, "java/lang/UnsupportedOperationException", (List.mem_of_getElem? (i := 2) rfl), by rw [h2]; decide⟩, (fun z hz => nomatch hz)⟩)⟩), by decide, by decide, by rw [h2]; exact (List.mem_of_getElem? (i := 3) rfl), by rw [h2]; decide, rfl⟩, fun a => ?_⟩
      refine q_nm (wz := (cw cc g u.2 ++ ((xo, .inl (cc 4, 1, .inr (.inl fo))) :: E))) (ka := 1) (kb := 6) (sz := [.ref a]) rfl rfl rfl rfl ?_
      refine q_astore_n (pc := 18) (lvq := [(3, .ref a), (0, .ref (g 0)), (1, .int a1), (2, .ref xo)]) C dL_family_18 rfl (by decide) rfl ?_
      refine q_iconst (pc := 19) C 3 dL_family_19 q_ci_3 ?_
      exact q_iret (pc := 20) C dL_family_20 ⟨rfl, rfl⟩
    have hf := q_iteF hf h2
    cases hf
def f_L_setOf (S : CS) (a1 : Int32) (fo : Nat → Int64) : Option (Int32 × (Nat → Int64) × CS) := ((fun u => (if u.1 = 0 then some ((0 : Int32), vp_updL fo 0 u.2.toInt64, S) else (if u.1 = 4 then some ((1 : Int32), fo, S) else none))) (f_X8_setOf S a1))
theorem z_L_setOf : q_dsc yL_setOf 3 := ⟨by decide +kernel, by decide +kernel, by decide +kernel⟩
set_option maxRecDepth 100000 in
set_option maxHeartbeats 4000000 in
theorem c_L_setOf (l : Launch) (hfl : l.stackTraces = false) (D : va_G) (cc : Nat → ClassId) (N0 : Nat) (g : Nat → Nat) (xo : Nat) (E : va_W) (S : CS) (a1 : Int32) (fo : Nat → Int64) (v : Int32 × (Nat → Int64) × CS) (hf : f_L_setOf S a1 fo = some v) : q_Met l yL_setOf wsL_setOf 7 161 D cc N0 (cw cc g S ++ ((xo, .inl (cc 4, 1, .inr (.inl fo))) :: E)) [.ref (g 0), .int a1, .ref xo] (q_p (some (.int v.1)) (cw cc g v.2.2 ++ ((xo, .inl (cc 4, 1, .inr (.inl v.2.1))) :: E))) 1 6 := by
  refine q_ofH (code := cL_setOf) (nL := 4) (ret := (some .int)) (hh := [(0, 9, 12, 29)]) (by decide +kernel) rfl (Nat.le_of_ble_eq_true rfl) (fun p e s m below meth c C ht => ?_)
  refine q_lv (lv2 := [(0, .ref (g 0)), (1, .int a1), (2, .ref xo)]) rfl ?_
  obtain ⟨u, hu⟩ : ∃ u, f_X8_setOf S a1 = u := ⟨_, rfl⟩
  rw [f_L_setOf, hu] at hf
  have hf : (if u.1 = 0 then some ((0 : Int32), vp_updL fo 0 u.2.toInt64, S) else (if u.1 = 4 then some ((1 : Int32), fo, S) else none)) = some v := hf
  refine q_aload_n (pc := 0) C dL_setOf_0 rfl 2 rfl ?_
  refine q_iconst (pc := 1) C 0 dL_setOf_1 q_ci_0 ?_
  refine q_aload_n (pc := 2) C dL_setOf_2 rfl 0 rfl ?_
  refine q_iload_n (pc := 3) C dL_setOf_3 rfl 1 rfl ?_
  refine q_callVC (pc := 4) (As := [.int a1]) (rest := [.int 0, .ref xo]) C (c_X8_setOf l hfl D cc N0 g ((xo, .inl (cc 4, 1, .inr (.inl fo))) :: E) S a1 u hu) gL_setOf_X8_setOf rfl rfl z_X8_setOf ⟨(Nat.le_of_ble_eq_true rfl), (Nat.le_of_ble_eq_true rfl)⟩ (q0 := 0) (cw_at_0 cc g _ S) rfl rfl rfl (Nat.le_of_ble_eq_true rfl) dL_setOf_4 ⟨(Nat.le_of_ble_eq_true rfl), (Nat.le_of_ble_eq_true rfl)⟩ ?_ ?_
  · rintro _ _ ⟨h0, rfl, rfl⟩
    have hf := q_iteT hf h0
    obtain rfl := q_some hf
    refine q_nm (wz := (cw cc g S ++ ((xo, .inl (cc 4, 1, .inr (.inl fo))) :: E))) (ka := 1) (kb := 6) (sz := [.int u.2, .int 0, .ref xo]) rfl rfl rfl rfl ?_
    refine q_i2l (pc := 7) C dL_setOf_7 rfl ?_
    refine q_last (pc := 8) C 22 rfl ⟨by decide, by decide⟩ dL_setOf_8 (ws1 := (cw cc g S ++ ((xo, .inl (cc 4, 1, .inr (.inl (vp_updL fo 0 u.2.toInt64)))) :: E))) rfl ?_
    refine q_goto (pc := 9) (tgt := 15) C dL_setOf_9 (by decide) ?_
    refine q_iconst (pc := 15) C 0 dL_setOf_15 q_ci_0 ?_
    exact q_iret (pc := 16) C dL_setOf_16 ⟨rfl, rfl⟩
  · rintro _ _ ⟨rfl, hp, rfl⟩
    have hf := q_iteF hf (Nat.pos_iff_ne_zero.mp hp)
    by_cases h0 : u.1 = 4
    · have hf := q_iteT hf h0
      obtain rfl := q_some hf
      refine ⟨12, ⟨[], ⟨0, 9, 12, 29⟩, [], ht, (fun z hz => nomatch hz), by decide, by decide, by rw [h0]; exact (List.mem_of_getElem? (i := 1) rfl), by rw [h0]; decide, rfl⟩, fun a => ?_⟩
      refine q_nm (wz := (cw cc g S ++ ((xo, .inl (cc 4, 1, .inr (.inl fo))) :: E))) (ka := 1) (kb := 6) (sz := [.ref a]) rfl rfl rfl rfl ?_
      refine q_astore_n (pc := 12) (lvq := [(3, .ref a), (0, .ref (g 0)), (1, .int a1), (2, .ref xo)]) C dL_setOf_12 rfl (by decide) rfl ?_
      refine q_iconst (pc := 13) C 1 dL_setOf_13 q_ci_1 ?_
      exact q_iret (pc := 14) C dL_setOf_14 ⟨rfl, rfl⟩
    have hf := q_iteF hf h0
    cases hf
def f_L_teach (S : CS) (a1 : Int32) (a2 : Int32) (a3 : Int32) (fo : Nat → Int64) : Option (Int32 × (Nat → Int64) × CS) := ((f_X8_teach a1 a2 a3 S).bind fun u => (if u.1.1 = 0 then some ((0 : Int32), vp_updL fo 0 (if q_b u.1.2 = 0 then (0 : Int64) else 1), u.2) else (if u.1.1 = 1 then some ((1 : Int32), fo, u.2) else (if u.1.1 = 4 then some ((2 : Int32), fo, u.2) else (if u.1.1 = 2 then some ((3 : Int32), fo, u.2) else none)))))
theorem z_L_teach : q_dsc yL_teach 5 := ⟨by decide +kernel, by decide +kernel, by decide +kernel⟩
set_option maxRecDepth 100000 in
set_option maxHeartbeats 4000000 in
theorem c_L_teach (l : Launch) (hfl : l.stackTraces = false) (D : va_G) (cc : Nat → ClassId) (N0 : Nat) (g : Nat → Nat) (xo : Nat) (E : va_W) (S : CS) (a1 : Int32) (a2 : Int32) (a3 : Int32) (fo : Nat → Int64) (v : Int32 × (Nat → Int64) × CS) (hf : f_L_teach S a1 a2 a3 fo = some v) : q_Met l yL_teach wsL_teach 7 164 D cc N0 (cw cc g S ++ ((xo, .inl (cc 4, 1, .inr (.inl fo))) :: E)) [.ref (g 0), .int a1, .int a2, .int a3, .ref xo] (q_p (some (.int v.1)) (cw cc g v.2.2 ++ ((xo, .inl (cc 4, 1, .inr (.inl v.2.1))) :: E))) 1 6 := by
  refine q_ofH (code := cL_teach) (nL := 6) (ret := (some .int)) (hh := [(0, 19, 22, 13), (0, 19, 26, 29), (0, 19, 30, 18)]) (by decide +kernel) rfl (Nat.le_of_ble_eq_true rfl) (fun p e s m below meth c C ht => ?_)
  refine q_lv (lv2 := [(0, .ref (g 0)), (1, .int a1), (2, .int a2), (3, .int a3), (4, .ref xo)]) rfl ?_
  obtain ⟨u, hu, hf⟩ := q_bind hf
  refine q_aload (pc := 0) C dL_teach_0 4 rfl ?_
  refine q_iconst (pc := 2) C 0 dL_teach_2 q_ci_0 ?_
  refine q_aload_n (pc := 3) C dL_teach_3 rfl 0 rfl ?_
  refine q_iload_n (pc := 4) C dL_teach_4 rfl 1 rfl ?_
  refine q_iload_n (pc := 5) C dL_teach_5 rfl 2 rfl ?_
  refine q_iload_n (pc := 6) C dL_teach_6 rfl 3 rfl ?_
  refine q_callVC (pc := 7) (As := [.int a1, .int a2, .int a3]) (rest := [.int 0, .ref xo]) C (c_X8_teach l hfl D cc N0 g ((xo, .inl (cc 4, 1, .inr (.inl fo))) :: E) S a1 a2 a3 u hu) gL_teach_X8_teach rfl rfl z_X8_teach ⟨(Nat.le_of_ble_eq_true rfl), (Nat.le_of_ble_eq_true rfl)⟩ (q0 := 0) (cw_at_0 cc g _ S) rfl rfl rfl (Nat.le_of_ble_eq_true rfl) dL_teach_7 ⟨(Nat.le_of_ble_eq_true rfl), (Nat.le_of_ble_eq_true rfl)⟩ ?_ ?_
  · rintro _ _ ⟨h0, rfl, rfl⟩
    have hf := q_iteT hf h0
    obtain rfl := q_some hf
    refine q_nm (wz := (cw cc g u.2 ++ ((xo, .inl (cc 4, 1, .inr (.inl fo))) :: E))) (ka := 1) (kb := 6) (sz := [.int (q_b u.1.2), .int 0, .ref xo]) rfl rfl rfl rfl ?_
    refine q_if_eq (pc := 10) (tgt := 17) C dL_teach_10 (by decide) (fun c1 => ?_) (fun c1 => ?_)
    · refine q_lconst (pc := 17) C 0 dL_teach_17 q_cl_0 ?_
      refine q_last (pc := 18) C 22 rfl ⟨by decide, by decide⟩ dL_teach_18 (ws1 := (cw cc g u.2 ++ ((xo, .inl (cc 4, 1, .inr (.inl (vp_updL fo 0 (0 : Int64))))) :: E))) rfl ?_
      refine q_goto (pc := 19) (tgt := 34) C dL_teach_19 (by decide) ?_
      refine q_iconst (pc := 34) C 0 dL_teach_34 q_ci_0 ?_
      exact q_iret (pc := 35) C dL_teach_35 ⟨rfl, by rw [if_pos c1]⟩
    · refine q_lconst (pc := 13) C 1 dL_teach_13 q_cl_1 ?_
      refine q_goto (pc := 14) (tgt := 18) C dL_teach_14 (by decide) ?_
      refine q_last (pc := 18) C 22 rfl ⟨by decide, by decide⟩ dL_teach_18 (ws1 := (cw cc g u.2 ++ ((xo, .inl (cc 4, 1, .inr (.inl (vp_updL fo 0 (1 : Int64))))) :: E))) rfl ?_
      refine q_goto (pc := 19) (tgt := 34) C dL_teach_19 (by decide) ?_
      refine q_iconst (pc := 34) C 0 dL_teach_34 q_ci_0 ?_
      exact q_iret (pc := 35) C dL_teach_35 ⟨rfl, by rw [if_neg c1]⟩
  · rintro _ _ ⟨rfl, hp, rfl⟩
    have hf := q_iteF hf (Nat.pos_iff_ne_zero.mp hp)
    by_cases h0 : u.1.1 = 1
    · have hf := q_iteT hf h0
      obtain rfl := q_some hf
      refine ⟨22, ⟨[], ⟨0, 19, 22, 13⟩, [⟨0, 19, 26, 29⟩, ⟨0, 19, 30, 18⟩], ht, (fun z hz => nomatch hz), by decide, by decide, by rw [h0]; exact (List.mem_of_getElem? (i := 1) rfl), by rw [h0]; decide, rfl⟩, fun a => ?_⟩
      refine q_nm (wz := (cw cc g u.2 ++ ((xo, .inl (cc 4, 1, .inr (.inl fo))) :: E))) (ka := 1) (kb := 6) (sz := [.ref a]) rfl rfl rfl rfl ?_
      refine q_astore (pc := 22) (lvq := [(5, .ref a), (0, .ref (g 0)), (1, .int a1), (2, .int a2), (3, .int a3), (4, .ref xo)]) C dL_teach_22 (by decide) rfl ?_
      refine q_iconst (pc := 24) C 1 dL_teach_24 q_ci_1 ?_
      exact q_iret (pc := 25) C dL_teach_25 ⟨rfl, rfl⟩
    have hf := q_iteF hf h0
    by_cases h1 : u.1.1 = 4
    · have hf := q_iteT hf h1
      obtain rfl := q_some hf
      refine ⟨26, ⟨[⟨0, 19, 22, 13⟩], ⟨0, 19, 26, 29⟩, [⟨0, 19, 30, 18⟩], ht, (List.forall_mem_cons.mpr ⟨Or.inr ⟨by decide, "java/lang/IllegalArgumentException", (List.mem_of_getElem? (i := 1) rfl), by rw [h1]; decide⟩, (fun z hz => nomatch hz)⟩), by decide, by decide, by rw [h1]; exact (List.mem_of_getElem? (i := 2) rfl), by rw [h1]; decide, rfl⟩, fun a => ?_⟩
      refine q_nm (wz := (cw cc g u.2 ++ ((xo, .inl (cc 4, 1, .inr (.inl fo))) :: E))) (ka := 1) (kb := 6) (sz := [.ref a]) rfl rfl rfl rfl ?_
      refine q_astore (pc := 26) (lvq := [(5, .ref a), (0, .ref (g 0)), (1, .int a1), (2, .int a2), (3, .int a3), (4, .ref xo)]) C dL_teach_26 (by decide) rfl ?_
      refine q_iconst (pc := 28) C 2 dL_teach_28 q_ci_2 ?_
      exact q_iret (pc := 29) C dL_teach_29 ⟨rfl, rfl⟩
    have hf := q_iteF hf h1
    by_cases h2 : u.1.1 = 2
    · have hf := q_iteT hf h2
      obtain rfl := q_some hf
      refine ⟨30, ⟨[⟨0, 19, 22, 13⟩, ⟨0, 19, 26, 29⟩], ⟨0, 19, 30, 18⟩, [], ht, (List.forall_mem_cons.mpr ⟨Or.inr ⟨by decide, "java/lang/IllegalArgumentException", (List.mem_of_getElem? (i := 1) rfl), by rw [h2]; decide⟩, (List.forall_mem_cons.mpr ⟨Or.inr ⟨by decide, "java/lang/IndexOutOfBoundsException", (List.mem_of_getElem? (i := 2) rfl), by rw [h2]; decide⟩, (fun z hz => nomatch hz)⟩)⟩), by decide, by decide, by rw [h2]; exact (List.mem_of_getElem? (i := 3) rfl), by rw [h2]; decide, rfl⟩, fun a => ?_⟩
      refine q_nm (wz := (cw cc g u.2 ++ ((xo, .inl (cc 4, 1, .inr (.inl fo))) :: E))) (ka := 1) (kb := 6) (sz := [.ref a]) rfl rfl rfl rfl ?_
      refine q_astore (pc := 30) (lvq := [(5, .ref a), (0, .ref (g 0)), (1, .int a1), (2, .int a2), (3, .int a3), (4, .ref xo)]) C dL_teach_30 (by decide) rfl ?_
      refine q_iconst (pc := 32) C 3 dL_teach_32 q_ci_3 ?_
      exact q_iret (pc := 33) C dL_teach_33 ⟨rfl, rfl⟩
    have hf := q_iteF hf h2
    cases hf
def f_L_seed (S : CS) (a1 : Int32) (fo : Nat → Int64) : Option (Int32 × (Nat → Int64) × CS) := ((fun u => (if u.1.1 = 0 then some ((0 : Int32), vp_updL fo 0 u.1.2.toInt64, u.2) else (if u.1.1 = 1 then some ((1 : Int32), fo, u.2) else none))) (f_X8_seed a1 S))
theorem z_L_seed : q_dsc yL_seed 3 := ⟨by decide +kernel, by decide +kernel, by decide +kernel⟩
set_option maxRecDepth 100000 in
set_option maxHeartbeats 4000000 in
theorem c_L_seed (l : Launch) (hfl : l.stackTraces = false) (D : va_G) (cc : Nat → ClassId) (N0 : Nat) (g : Nat → Nat) (xo : Nat) (E : va_W) (S : CS) (a1 : Int32) (fo : Nat → Int64) (v : Int32 × (Nat → Int64) × CS) (hf : f_L_seed S a1 fo = some v) : q_Met l yL_seed wsL_seed 7 162 D cc N0 (cw cc g S ++ ((xo, .inl (cc 4, 1, .inr (.inl fo))) :: E)) [.ref (g 0), .int a1, .ref xo] (q_p (some (.int v.1)) (cw cc g v.2.2 ++ ((xo, .inl (cc 4, 1, .inr (.inl v.2.1))) :: E))) 1 6 := by
  refine q_ofH (code := cL_seed) (nL := 4) (ret := (some .int)) (hh := [(0, 9, 12, 13)]) (by decide +kernel) rfl (Nat.le_of_ble_eq_true rfl) (fun p e s m below meth c C ht => ?_)
  refine q_lv (lv2 := [(0, .ref (g 0)), (1, .int a1), (2, .ref xo)]) rfl ?_
  obtain ⟨u, hu⟩ : ∃ u, f_X8_seed a1 S = u := ⟨_, rfl⟩
  rw [f_L_seed, hu] at hf
  have hf : (if u.1.1 = 0 then some ((0 : Int32), vp_updL fo 0 u.1.2.toInt64, u.2) else (if u.1.1 = 1 then some ((1 : Int32), fo, u.2) else none)) = some v := hf
  refine q_aload_n (pc := 0) C dL_seed_0 rfl 2 rfl ?_
  refine q_iconst (pc := 1) C 0 dL_seed_1 q_ci_0 ?_
  refine q_aload_n (pc := 2) C dL_seed_2 rfl 0 rfl ?_
  refine q_iload_n (pc := 3) C dL_seed_3 rfl 1 rfl ?_
  refine q_callVC (pc := 4) (As := [.int a1]) (rest := [.int 0, .ref xo]) C (c_X8_seed l hfl D cc N0 g ((xo, .inl (cc 4, 1, .inr (.inl fo))) :: E) S a1 u hu) gL_seed_X8_seed rfl rfl z_X8_seed ⟨(Nat.le_of_ble_eq_true rfl), (Nat.le_of_ble_eq_true rfl)⟩ (q0 := 0) (cw_at_0 cc g _ S) rfl rfl rfl (Nat.le_of_ble_eq_true rfl) dL_seed_4 ⟨(Nat.le_of_ble_eq_true rfl), (Nat.le_of_ble_eq_true rfl)⟩ ?_ ?_
  · rintro _ _ ⟨h0, rfl, rfl⟩
    have hf := q_iteT hf h0
    obtain rfl := q_some hf
    refine q_nm (wz := (cw cc g u.2 ++ ((xo, .inl (cc 4, 1, .inr (.inl fo))) :: E))) (ka := 1) (kb := 6) (sz := [.int u.1.2, .int 0, .ref xo]) rfl rfl rfl rfl ?_
    refine q_i2l (pc := 7) C dL_seed_7 rfl ?_
    refine q_last (pc := 8) C 22 rfl ⟨by decide, by decide⟩ dL_seed_8 (ws1 := (cw cc g u.2 ++ ((xo, .inl (cc 4, 1, .inr (.inl (vp_updL fo 0 u.1.2.toInt64)))) :: E))) rfl ?_
    refine q_goto (pc := 9) (tgt := 15) C dL_seed_9 (by decide) ?_
    refine q_iconst (pc := 15) C 0 dL_seed_15 q_ci_0 ?_
    exact q_iret (pc := 16) C dL_seed_16 ⟨rfl, rfl⟩
  · rintro _ _ ⟨rfl, hp, rfl⟩
    have hf := q_iteF hf (Nat.pos_iff_ne_zero.mp hp)
    by_cases h0 : u.1.1 = 1
    · have hf := q_iteT hf h0
      obtain rfl := q_some hf
      refine ⟨12, ⟨[], ⟨0, 9, 12, 13⟩, [], ht, (fun z hz => nomatch hz), by decide, by decide, by rw [h0]; exact (List.mem_of_getElem? (i := 1) rfl), by rw [h0]; decide, rfl⟩, fun a => ?_⟩
      refine q_nm (wz := (cw cc g u.2 ++ ((xo, .inl (cc 4, 1, .inr (.inl fo))) :: E))) (ka := 1) (kb := 6) (sz := [.ref a]) rfl rfl rfl rfl ?_
      refine q_astore_n (pc := 12) (lvq := [(3, .ref a), (0, .ref (g 0)), (1, .int a1), (2, .ref xo)]) C dL_seed_12 rfl (by decide) rfl ?_
      refine q_iconst (pc := 13) C 1 dL_seed_13 q_ci_1 ?_
      exact q_iret (pc := 14) C dL_seed_14 ⟨rfl, rfl⟩
    have hf := q_iteF hf h0
    cases hf
def f_L_ask (S : CS) (a1 : Int32) (fo : Nat → Int64) : Option (Int32 × (Nat → Int64) × CS) := ((f_X8_ask a1 S).bind fun u => (if u.1.1 = 0 then some ((0 : Int32), vp_updL fo 0 (if q_b u.1.2 = 0 then (0 : Int64) else 1), u.2) else (if u.1.1 = 1 then some ((1 : Int32), fo, u.2) else (if u.1.1 = 2 then some ((2 : Int32), fo, u.2) else (if u.1.1 = 3 then some ((3 : Int32), fo, u.2) else none)))))
theorem z_L_ask : q_dsc yL_ask 3 := ⟨by decide +kernel, by decide +kernel, by decide +kernel⟩
set_option maxRecDepth 100000 in
set_option maxHeartbeats 4000000 in
theorem c_L_ask (l : Launch) (hfl : l.stackTraces = false) (D : va_G) (cc : Nat → ClassId) (N0 : Nat) (g : Nat → Nat) (xo : Nat) (E : va_W) (S : CS) (a1 : Int32) (fo : Nat → Int64) (v : Int32 × (Nat → Int64) × CS) (hf : f_L_ask S a1 fo = some v) : q_Met l yL_ask wsL_ask 7 161 D cc N0 (cw cc g S ++ ((xo, .inl (cc 4, 1, .inr (.inl fo))) :: E)) [.ref (g 0), .int a1, .ref xo] (q_p (some (.int v.1)) (cw cc g v.2.2 ++ ((xo, .inl (cc 4, 1, .inr (.inl v.2.1))) :: E))) 1 6 := by
  refine q_ofH (code := cL_ask) (nL := 4) (ret := (some .int)) (hh := [(0, 16, 19, 13), (0, 16, 22, 18), (0, 16, 25, 20)]) (by decide +kernel) rfl (Nat.le_of_ble_eq_true rfl) (fun p e s m below meth c C ht => ?_)
  refine q_lv (lv2 := [(0, .ref (g 0)), (1, .int a1), (2, .ref xo)]) rfl ?_
  obtain ⟨u, hu, hf⟩ := q_bind hf
  refine q_aload_n (pc := 0) C dL_ask_0 rfl 2 rfl ?_
  refine q_iconst (pc := 1) C 0 dL_ask_1 q_ci_0 ?_
  refine q_aload_n (pc := 2) C dL_ask_2 rfl 0 rfl ?_
  refine q_iload_n (pc := 3) C dL_ask_3 rfl 1 rfl ?_
  refine q_callVC (pc := 4) (As := [.int a1]) (rest := [.int 0, .ref xo]) C (c_X8_ask l hfl D cc N0 g ((xo, .inl (cc 4, 1, .inr (.inl fo))) :: E) S a1 u hu) gL_ask_X8_ask rfl rfl z_X8_ask ⟨(Nat.le_of_ble_eq_true rfl), (Nat.le_of_ble_eq_true rfl)⟩ (q0 := 0) (cw_at_0 cc g _ S) rfl rfl rfl (Nat.le_of_ble_eq_true rfl) dL_ask_4 ⟨(Nat.le_of_ble_eq_true rfl), (Nat.le_of_ble_eq_true rfl)⟩ ?_ ?_
  · rintro _ _ ⟨h0, rfl, rfl⟩
    have hf := q_iteT hf h0
    obtain rfl := q_some hf
    refine q_nm (wz := (cw cc g u.2 ++ ((xo, .inl (cc 4, 1, .inr (.inl fo))) :: E))) (ka := 1) (kb := 6) (sz := [.int (q_b u.1.2), .int 0, .ref xo]) rfl rfl rfl rfl ?_
    refine q_if_eq (pc := 7) (tgt := 14) C dL_ask_7 (by decide) (fun c1 => ?_) (fun c1 => ?_)
    · refine q_lconst (pc := 14) C 0 dL_ask_14 q_cl_0 ?_
      refine q_last (pc := 15) C 22 rfl ⟨by decide, by decide⟩ dL_ask_15 (ws1 := (cw cc g u.2 ++ ((xo, .inl (cc 4, 1, .inr (.inl (vp_updL fo 0 (0 : Int64))))) :: E))) rfl ?_
      refine q_goto (pc := 16) (tgt := 28) C dL_ask_16 (by decide) ?_
      refine q_iconst (pc := 28) C 0 dL_ask_28 q_ci_0 ?_
      exact q_iret (pc := 29) C dL_ask_29 ⟨rfl, by rw [if_pos c1]⟩
    · refine q_lconst (pc := 10) C 1 dL_ask_10 q_cl_1 ?_
      refine q_goto (pc := 11) (tgt := 15) C dL_ask_11 (by decide) ?_
      refine q_last (pc := 15) C 22 rfl ⟨by decide, by decide⟩ dL_ask_15 (ws1 := (cw cc g u.2 ++ ((xo, .inl (cc 4, 1, .inr (.inl (vp_updL fo 0 (1 : Int64))))) :: E))) rfl ?_
      refine q_goto (pc := 16) (tgt := 28) C dL_ask_16 (by decide) ?_
      refine q_iconst (pc := 28) C 0 dL_ask_28 q_ci_0 ?_
      exact q_iret (pc := 29) C dL_ask_29 ⟨rfl, by rw [if_neg c1]⟩
  · rintro _ _ ⟨rfl, hp, rfl⟩
    have hf := q_iteF hf (Nat.pos_iff_ne_zero.mp hp)
    by_cases h0 : u.1.1 = 1
    · have hf := q_iteT hf h0
      obtain rfl := q_some hf
      refine ⟨19, ⟨[], ⟨0, 16, 19, 13⟩, [⟨0, 16, 22, 18⟩, ⟨0, 16, 25, 20⟩], ht, (fun z hz => nomatch hz), by decide, by decide, by rw [h0]; exact (List.mem_of_getElem? (i := 1) rfl), by rw [h0]; decide, rfl⟩, fun a => ?_⟩
      refine q_nm (wz := (cw cc g u.2 ++ ((xo, .inl (cc 4, 1, .inr (.inl fo))) :: E))) (ka := 1) (kb := 6) (sz := [.ref a]) rfl rfl rfl rfl ?_
      refine q_astore_n (pc := 19) (lvq := [(3, .ref a), (0, .ref (g 0)), (1, .int a1), (2, .ref xo)]) C dL_ask_19 rfl (by decide) rfl ?_
      refine q_iconst (pc := 20) C 1 dL_ask_20 q_ci_1 ?_
      exact q_iret (pc := 21) C dL_ask_21 ⟨rfl, rfl⟩
    have hf := q_iteF hf h0
    by_cases h1 : u.1.1 = 2
    · have hf := q_iteT hf h1
      obtain rfl := q_some hf
      refine ⟨22, ⟨[⟨0, 16, 19, 13⟩], ⟨0, 16, 22, 18⟩, [⟨0, 16, 25, 20⟩], ht, (List.forall_mem_cons.mpr ⟨Or.inr ⟨by decide, "java/lang/IllegalArgumentException", (List.mem_of_getElem? (i := 1) rfl), by rw [h1]; decide⟩, (fun z hz => nomatch hz)⟩), by decide, by decide, by rw [h1]; exact (List.mem_of_getElem? (i := 2) rfl), by rw [h1]; decide, rfl⟩, fun a => ?_⟩
      refine q_nm (wz := (cw cc g u.2 ++ ((xo, .inl (cc 4, 1, .inr (.inl fo))) :: E))) (ka := 1) (kb := 6) (sz := [.ref a]) rfl rfl rfl rfl ?_
      refine q_astore_n (pc := 22) (lvq := [(3, .ref a), (0, .ref (g 0)), (1, .int a1), (2, .ref xo)]) C dL_ask_22 rfl (by decide) rfl ?_
      refine q_iconst (pc := 23) C 2 dL_ask_23 q_ci_2 ?_
      exact q_iret (pc := 24) C dL_ask_24 ⟨rfl, rfl⟩
    have hf := q_iteF hf h1
    by_cases h2 : u.1.1 = 3
    · have hf := q_iteT hf h2
      obtain rfl := q_some hf
      refine ⟨25, ⟨[⟨0, 16, 19, 13⟩, ⟨0, 16, 22, 18⟩], ⟨0, 16, 25, 20⟩, [], ht, (List.forall_mem_cons.mpr ⟨Or.inr ⟨by decide, "java/lang/IllegalArgumentException", (List.mem_of_getElem? (i := 1) rfl), by rw [h2]; decide⟩, (List.forall_mem_cons.mpr ⟨Or.inr ⟨by decide, "java/lang/UnsupportedOperationException", (List.mem_of_getElem? (i := 2) rfl), by rw [h2]; decide⟩, (fun z hz => nomatch hz)⟩)⟩), by decide, by decide, by rw [h2]; exact (List.mem_of_getElem? (i := 3) rfl), by rw [h2]; decide, rfl⟩, fun a => ?_⟩
      refine q_nm (wz := (cw cc g u.2 ++ ((xo, .inl (cc 4, 1, .inr (.inl fo))) :: E))) (ka := 1) (kb := 6) (sz := [.ref a]) rfl rfl rfl rfl ?_
      refine q_astore_n (pc := 25) (lvq := [(3, .ref a), (0, .ref (g 0)), (1, .int a1), (2, .ref xo)]) C dL_ask_25 rfl (by decide) rfl ?_
      refine q_iconst (pc := 26) C 3 dL_ask_26 q_ci_3 ?_
      exact q_iret (pc := 27) C dL_ask_27 ⟨rfl, rfl⟩
    have hf := q_iteF hf h2
    cases hf
def f_L_equal (S : CS) (a1 : Int32) (fo : Nat → Int64) : Option (Int32 × (Nat → Int64) × CS) := ((f_X8_equal a1 S).bind fun u => (if u.1.1 = 0 then some ((0 : Int32), vp_updL fo 0 u.1.2.toInt64, u.2) else (if u.1.1 = 1 then some ((1 : Int32), fo, u.2) else (if u.1.1 = 2 then some ((2 : Int32), fo, u.2) else (if u.1.1 = 3 then some ((3 : Int32), fo, u.2) else none)))))
theorem z_L_equal : q_dsc yL_equal 3 := ⟨by decide +kernel, by decide +kernel, by decide +kernel⟩
set_option maxRecDepth 100000 in
set_option maxHeartbeats 4000000 in
theorem c_L_equal (l : Launch) (hfl : l.stackTraces = false) (D : va_G) (cc : Nat → ClassId) (N0 : Nat) (g : Nat → Nat) (xo : Nat) (E : va_W) (S : CS) (a1 : Int32) (fo : Nat → Int64) (v : Int32 × (Nat → Int64) × CS) (hf : f_L_equal S a1 fo = some v) : q_Met l yL_equal wsL_equal 7 161 D cc N0 (cw cc g S ++ ((xo, .inl (cc 4, 1, .inr (.inl fo))) :: E)) [.ref (g 0), .int a1, .ref xo] (q_p (some (.int v.1)) (cw cc g v.2.2 ++ ((xo, .inl (cc 4, 1, .inr (.inl v.2.1))) :: E))) 1 6 := by
  refine q_ofH (code := cL_equal) (nL := 4) (ret := (some .int)) (hh := [(0, 9, 12, 13), (0, 9, 15, 18), (0, 9, 18, 20)]) (by decide +kernel) rfl (Nat.le_of_ble_eq_true rfl) (fun p e s m below meth c C ht => ?_)
  refine q_lv (lv2 := [(0, .ref (g 0)), (1, .int a1), (2, .ref xo)]) rfl ?_
  obtain ⟨u, hu, hf⟩ := q_bind hf
  refine q_aload_n (pc := 0) C dL_equal_0 rfl 2 rfl ?_
  refine q_iconst (pc := 1) C 0 dL_equal_1 q_ci_0 ?_
  refine q_aload_n (pc := 2) C dL_equal_2 rfl 0 rfl ?_
  refine q_iload_n (pc := 3) C dL_equal_3 rfl 1 rfl ?_
  refine q_callVC (pc := 4) (As := [.int a1]) (rest := [.int 0, .ref xo]) C (c_X8_equal l hfl D cc N0 g ((xo, .inl (cc 4, 1, .inr (.inl fo))) :: E) S a1 u hu) gL_equal_X8_equal rfl rfl z_X8_equal ⟨(Nat.le_of_ble_eq_true rfl), (Nat.le_of_ble_eq_true rfl)⟩ (q0 := 0) (cw_at_0 cc g _ S) rfl rfl rfl (Nat.le_of_ble_eq_true rfl) dL_equal_4 ⟨(Nat.le_of_ble_eq_true rfl), (Nat.le_of_ble_eq_true rfl)⟩ ?_ ?_
  · rintro _ _ ⟨h0, rfl, rfl⟩
    have hf := q_iteT hf h0
    obtain rfl := q_some hf
    refine q_nm (wz := (cw cc g u.2 ++ ((xo, .inl (cc 4, 1, .inr (.inl fo))) :: E))) (ka := 1) (kb := 6) (sz := [.int u.1.2, .int 0, .ref xo]) rfl rfl rfl rfl ?_
    refine q_i2l (pc := 7) C dL_equal_7 rfl ?_
    refine q_last (pc := 8) C 22 rfl ⟨by decide, by decide⟩ dL_equal_8 (ws1 := (cw cc g u.2 ++ ((xo, .inl (cc 4, 1, .inr (.inl (vp_updL fo 0 u.1.2.toInt64)))) :: E))) rfl ?_
    refine q_goto (pc := 9) (tgt := 21) C dL_equal_9 (by decide) ?_
    refine q_iconst (pc := 21) C 0 dL_equal_21 q_ci_0 ?_
    exact q_iret (pc := 22) C dL_equal_22 ⟨rfl, rfl⟩
  · rintro _ _ ⟨rfl, hp, rfl⟩
    have hf := q_iteF hf (Nat.pos_iff_ne_zero.mp hp)
    by_cases h0 : u.1.1 = 1
    · have hf := q_iteT hf h0
      obtain rfl := q_some hf
      refine ⟨12, ⟨[], ⟨0, 9, 12, 13⟩, [⟨0, 9, 15, 18⟩, ⟨0, 9, 18, 20⟩], ht, (fun z hz => nomatch hz), by decide, by decide, by rw [h0]; exact (List.mem_of_getElem? (i := 1) rfl), by rw [h0]; decide, rfl⟩, fun a => ?_⟩
      refine q_nm (wz := (cw cc g u.2 ++ ((xo, .inl (cc 4, 1, .inr (.inl fo))) :: E))) (ka := 1) (kb := 6) (sz := [.ref a]) rfl rfl rfl rfl ?_
      refine q_astore_n (pc := 12) (lvq := [(3, .ref a), (0, .ref (g 0)), (1, .int a1), (2, .ref xo)]) C dL_equal_12 rfl (by decide) rfl ?_
      refine q_iconst (pc := 13) C 1 dL_equal_13 q_ci_1 ?_
      exact q_iret (pc := 14) C dL_equal_14 ⟨rfl, rfl⟩
    have hf := q_iteF hf h0
    by_cases h1 : u.1.1 = 2
    · have hf := q_iteT hf h1
      obtain rfl := q_some hf
      refine ⟨15, ⟨[⟨0, 9, 12, 13⟩], ⟨0, 9, 15, 18⟩, [⟨0, 9, 18, 20⟩], ht, (List.forall_mem_cons.mpr ⟨Or.inr ⟨by decide, "java/lang/IllegalArgumentException", (List.mem_of_getElem? (i := 1) rfl), by rw [h1]; decide⟩, (fun z hz => nomatch hz)⟩), by decide, by decide, by rw [h1]; exact (List.mem_of_getElem? (i := 2) rfl), by rw [h1]; decide, rfl⟩, fun a => ?_⟩
      refine q_nm (wz := (cw cc g u.2 ++ ((xo, .inl (cc 4, 1, .inr (.inl fo))) :: E))) (ka := 1) (kb := 6) (sz := [.ref a]) rfl rfl rfl rfl ?_
      refine q_astore_n (pc := 15) (lvq := [(3, .ref a), (0, .ref (g 0)), (1, .int a1), (2, .ref xo)]) C dL_equal_15 rfl (by decide) rfl ?_
      refine q_iconst (pc := 16) C 2 dL_equal_16 q_ci_2 ?_
      exact q_iret (pc := 17) C dL_equal_17 ⟨rfl, rfl⟩
    have hf := q_iteF hf h1
    by_cases h2 : u.1.1 = 3
    · have hf := q_iteT hf h2
      obtain rfl := q_some hf
      refine ⟨18, ⟨[⟨0, 9, 12, 13⟩, ⟨0, 9, 15, 18⟩], ⟨0, 9, 18, 20⟩, [], ht, (List.forall_mem_cons.mpr ⟨Or.inr ⟨by decide, "java/lang/IllegalArgumentException", (List.mem_of_getElem? (i := 1) rfl), by rw [h2]; decide⟩, (List.forall_mem_cons.mpr ⟨Or.inr ⟨by decide, "java/lang/UnsupportedOperationException", (List.mem_of_getElem? (i := 2) rfl), by rw [h2]; decide⟩, (fun z hz => nomatch hz)⟩)⟩), by decide, by decide, by rw [h2]; exact (List.mem_of_getElem? (i := 3) rfl), by rw [h2]; decide, rfl⟩, fun a => ?_⟩
      refine q_nm (wz := (cw cc g u.2 ++ ((xo, .inl (cc 4, 1, .inr (.inl fo))) :: E))) (ka := 1) (kb := 6) (sz := [.ref a]) rfl rfl rfl rfl ?_
      refine q_astore_n (pc := 18) (lvq := [(3, .ref a), (0, .ref (g 0)), (1, .int a1), (2, .ref xo)]) C dL_equal_18 rfl (by decide) rfl ?_
      refine q_iconst (pc := 19) C 3 dL_equal_19 q_ci_3 ?_
      exact q_iret (pc := 20) C dL_equal_20 ⟨rfl, rfl⟩
    have hf := q_iteF hf h2
    cases hf
def f_L_conflicts (S : CS) (a1 : Int32) (fo : Nat → Int64) : Option (Int32 × (Nat → Int64) × CS) := ((fun u => (if u.1 = 0 then some ((0 : Int32), vp_updL fo 0 u.2.toInt64, S) else (if u.1 = 4 then some ((1 : Int32), fo, S) else none))) (f_X8_conflicts S a1))
theorem z_L_conflicts : q_dsc yL_conflicts 3 := ⟨by decide +kernel, by decide +kernel, by decide +kernel⟩
set_option maxRecDepth 100000 in
set_option maxHeartbeats 4000000 in
theorem c_L_conflicts (l : Launch) (hfl : l.stackTraces = false) (D : va_G) (cc : Nat → ClassId) (N0 : Nat) (g : Nat → Nat) (xo : Nat) (E : va_W) (S : CS) (a1 : Int32) (fo : Nat → Int64) (v : Int32 × (Nat → Int64) × CS) (hf : f_L_conflicts S a1 fo = some v) : q_Met l yL_conflicts wsL_conflicts 7 161 D cc N0 (cw cc g S ++ ((xo, .inl (cc 4, 1, .inr (.inl fo))) :: E)) [.ref (g 0), .int a1, .ref xo] (q_p (some (.int v.1)) (cw cc g v.2.2 ++ ((xo, .inl (cc 4, 1, .inr (.inl v.2.1))) :: E))) 1 6 := by
  refine q_ofH (code := cL_conflicts) (nL := 4) (ret := (some .int)) (hh := [(0, 9, 12, 29)]) (by decide +kernel) rfl (Nat.le_of_ble_eq_true rfl) (fun p e s m below meth c C ht => ?_)
  refine q_lv (lv2 := [(0, .ref (g 0)), (1, .int a1), (2, .ref xo)]) rfl ?_
  obtain ⟨u, hu⟩ : ∃ u, f_X8_conflicts S a1 = u := ⟨_, rfl⟩
  rw [f_L_conflicts, hu] at hf
  have hf : (if u.1 = 0 then some ((0 : Int32), vp_updL fo 0 u.2.toInt64, S) else (if u.1 = 4 then some ((1 : Int32), fo, S) else none)) = some v := hf
  refine q_aload_n (pc := 0) C dL_conflicts_0 rfl 2 rfl ?_
  refine q_iconst (pc := 1) C 0 dL_conflicts_1 q_ci_0 ?_
  refine q_aload_n (pc := 2) C dL_conflicts_2 rfl 0 rfl ?_
  refine q_iload_n (pc := 3) C dL_conflicts_3 rfl 1 rfl ?_
  refine q_callVC (pc := 4) (As := [.int a1]) (rest := [.int 0, .ref xo]) C (c_X8_conflicts l hfl D cc N0 g ((xo, .inl (cc 4, 1, .inr (.inl fo))) :: E) S a1 u hu) gL_conflicts_X8_conflicts rfl rfl z_X8_conflicts ⟨(Nat.le_of_ble_eq_true rfl), (Nat.le_of_ble_eq_true rfl)⟩ (q0 := 0) (cw_at_0 cc g _ S) rfl rfl rfl (Nat.le_of_ble_eq_true rfl) dL_conflicts_4 ⟨(Nat.le_of_ble_eq_true rfl), (Nat.le_of_ble_eq_true rfl)⟩ ?_ ?_
  · rintro _ _ ⟨h0, rfl, rfl⟩
    have hf := q_iteT hf h0
    obtain rfl := q_some hf
    refine q_nm (wz := (cw cc g S ++ ((xo, .inl (cc 4, 1, .inr (.inl fo))) :: E))) (ka := 1) (kb := 6) (sz := [.int u.2, .int 0, .ref xo]) rfl rfl rfl rfl ?_
    refine q_i2l (pc := 7) C dL_conflicts_7 rfl ?_
    refine q_last (pc := 8) C 22 rfl ⟨by decide, by decide⟩ dL_conflicts_8 (ws1 := (cw cc g S ++ ((xo, .inl (cc 4, 1, .inr (.inl (vp_updL fo 0 u.2.toInt64)))) :: E))) rfl ?_
    refine q_goto (pc := 9) (tgt := 15) C dL_conflicts_9 (by decide) ?_
    refine q_iconst (pc := 15) C 0 dL_conflicts_15 q_ci_0 ?_
    exact q_iret (pc := 16) C dL_conflicts_16 ⟨rfl, rfl⟩
  · rintro _ _ ⟨rfl, hp, rfl⟩
    have hf := q_iteF hf (Nat.pos_iff_ne_zero.mp hp)
    by_cases h0 : u.1 = 4
    · have hf := q_iteT hf h0
      obtain rfl := q_some hf
      refine ⟨12, ⟨[], ⟨0, 9, 12, 29⟩, [], ht, (fun z hz => nomatch hz), by decide, by decide, by rw [h0]; exact (List.mem_of_getElem? (i := 1) rfl), by rw [h0]; decide, rfl⟩, fun a => ?_⟩
      refine q_nm (wz := (cw cc g S ++ ((xo, .inl (cc 4, 1, .inr (.inl fo))) :: E))) (ka := 1) (kb := 6) (sz := [.ref a]) rfl rfl rfl rfl ?_
      refine q_astore_n (pc := 12) (lvq := [(3, .ref a), (0, .ref (g 0)), (1, .int a1), (2, .ref xo)]) C dL_conflicts_12 rfl (by decide) rfl ?_
      refine q_iconst (pc := 13) C 1 dL_conflicts_13 q_ci_1 ?_
      exact q_iret (pc := 14) C dL_conflicts_14 ⟨rfl, rfl⟩
    have hf := q_iteF hf h0
    cases hf
def f_L_isAlive (S : CS) (a1 : Int32) (fo : Nat → Int64) : Option (Int32 × (Nat → Int64) × CS) := ((fun u => (if u.1 = 0 then some ((0 : Int32), vp_updL fo 0 (if q_b u.2 = 0 then (0 : Int64) else 1), S) else (if u.1 = 4 then some ((1 : Int32), fo, S) else none))) (f_X8_isAlive S a1))
theorem z_L_isAlive : q_dsc yL_isAlive 3 := ⟨by decide +kernel, by decide +kernel, by decide +kernel⟩
set_option maxRecDepth 100000 in
set_option maxHeartbeats 4000000 in
theorem c_L_isAlive (l : Launch) (hfl : l.stackTraces = false) (D : va_G) (cc : Nat → ClassId) (N0 : Nat) (g : Nat → Nat) (xo : Nat) (E : va_W) (S : CS) (a1 : Int32) (fo : Nat → Int64) (v : Int32 × (Nat → Int64) × CS) (hf : f_L_isAlive S a1 fo = some v) : q_Met l yL_isAlive wsL_isAlive 7 161 D cc N0 (cw cc g S ++ ((xo, .inl (cc 4, 1, .inr (.inl fo))) :: E)) [.ref (g 0), .int a1, .ref xo] (q_p (some (.int v.1)) (cw cc g v.2.2 ++ ((xo, .inl (cc 4, 1, .inr (.inl v.2.1))) :: E))) 1 6 := by
  refine q_ofH (code := cL_isAlive) (nL := 4) (ret := (some .int)) (hh := [(0, 16, 19, 29)]) (by decide +kernel) rfl (Nat.le_of_ble_eq_true rfl) (fun p e s m below meth c C ht => ?_)
  refine q_lv (lv2 := [(0, .ref (g 0)), (1, .int a1), (2, .ref xo)]) rfl ?_
  obtain ⟨u, hu⟩ : ∃ u, f_X8_isAlive S a1 = u := ⟨_, rfl⟩
  rw [f_L_isAlive, hu] at hf
  have hf : (if u.1 = 0 then some ((0 : Int32), vp_updL fo 0 (if q_b u.2 = 0 then (0 : Int64) else 1), S) else (if u.1 = 4 then some ((1 : Int32), fo, S) else none)) = some v := hf
  refine q_aload_n (pc := 0) C dL_isAlive_0 rfl 2 rfl ?_
  refine q_iconst (pc := 1) C 0 dL_isAlive_1 q_ci_0 ?_
  refine q_aload_n (pc := 2) C dL_isAlive_2 rfl 0 rfl ?_
  refine q_iload_n (pc := 3) C dL_isAlive_3 rfl 1 rfl ?_
  refine q_callVC (pc := 4) (As := [.int a1]) (rest := [.int 0, .ref xo]) C (c_X8_isAlive l hfl D cc N0 g ((xo, .inl (cc 4, 1, .inr (.inl fo))) :: E) S a1 u hu) gL_isAlive_X8_isAlive rfl rfl z_X8_isAlive ⟨(Nat.le_of_ble_eq_true rfl), (Nat.le_of_ble_eq_true rfl)⟩ (q0 := 0) (cw_at_0 cc g _ S) rfl rfl rfl (Nat.le_of_ble_eq_true rfl) dL_isAlive_4 ⟨(Nat.le_of_ble_eq_true rfl), (Nat.le_of_ble_eq_true rfl)⟩ ?_ ?_
  · rintro _ _ ⟨h0, rfl, rfl⟩
    have hf := q_iteT hf h0
    obtain rfl := q_some hf
    refine q_nm (wz := (cw cc g S ++ ((xo, .inl (cc 4, 1, .inr (.inl fo))) :: E))) (ka := 1) (kb := 6) (sz := [.int (q_b u.2), .int 0, .ref xo]) rfl rfl rfl rfl ?_
    refine q_if_eq (pc := 7) (tgt := 14) C dL_isAlive_7 (by decide) (fun c1 => ?_) (fun c1 => ?_)
    · refine q_lconst (pc := 14) C 0 dL_isAlive_14 q_cl_0 ?_
      refine q_last (pc := 15) C 22 rfl ⟨by decide, by decide⟩ dL_isAlive_15 (ws1 := (cw cc g S ++ ((xo, .inl (cc 4, 1, .inr (.inl (vp_updL fo 0 (0 : Int64))))) :: E))) rfl ?_
      refine q_goto (pc := 16) (tgt := 22) C dL_isAlive_16 (by decide) ?_
      refine q_iconst (pc := 22) C 0 dL_isAlive_22 q_ci_0 ?_
      exact q_iret (pc := 23) C dL_isAlive_23 ⟨rfl, by rw [if_pos c1]⟩
    · refine q_lconst (pc := 10) C 1 dL_isAlive_10 q_cl_1 ?_
      refine q_goto (pc := 11) (tgt := 15) C dL_isAlive_11 (by decide) ?_
      refine q_last (pc := 15) C 22 rfl ⟨by decide, by decide⟩ dL_isAlive_15 (ws1 := (cw cc g S ++ ((xo, .inl (cc 4, 1, .inr (.inl (vp_updL fo 0 (1 : Int64))))) :: E))) rfl ?_
      refine q_goto (pc := 16) (tgt := 22) C dL_isAlive_16 (by decide) ?_
      refine q_iconst (pc := 22) C 0 dL_isAlive_22 q_ci_0 ?_
      exact q_iret (pc := 23) C dL_isAlive_23 ⟨rfl, by rw [if_neg c1]⟩
  · rintro _ _ ⟨rfl, hp, rfl⟩
    have hf := q_iteF hf (Nat.pos_iff_ne_zero.mp hp)
    by_cases h0 : u.1 = 4
    · have hf := q_iteT hf h0
      obtain rfl := q_some hf
      refine ⟨19, ⟨[], ⟨0, 16, 19, 29⟩, [], ht, (fun z hz => nomatch hz), by decide, by decide, by rw [h0]; exact (List.mem_of_getElem? (i := 1) rfl), by rw [h0]; decide, rfl⟩, fun a => ?_⟩
      refine q_nm (wz := (cw cc g S ++ ((xo, .inl (cc 4, 1, .inr (.inl fo))) :: E))) (ka := 1) (kb := 6) (sz := [.ref a]) rfl rfl rfl rfl ?_
      refine q_astore_n (pc := 19) (lvq := [(3, .ref a), (0, .ref (g 0)), (1, .int a1), (2, .ref xo)]) C dL_isAlive_19 rfl (by decide) rfl ?_
      refine q_iconst (pc := 20) C 1 dL_isAlive_20 q_ci_1 ?_
      exact q_iret (pc := 21) C dL_isAlive_21 ⟨rfl, rfl⟩
    have hf := q_iteF hf h0
    cases hf
def f_L_sure (S : CS) (a1 : Int32) (fo : Nat → Int64) : Option (Int32 × (Nat → Int64) × CS) := ((f_X8_sure S a1).bind fun u => (if u.1 = 0 then some ((0 : Int32), vp_updL fo 0 u.2.toInt64, S) else (if u.1 = 1 then some ((1 : Int32), fo, S) else none)))
theorem z_L_sure : q_dsc yL_sure 3 := ⟨by decide +kernel, by decide +kernel, by decide +kernel⟩
set_option maxRecDepth 100000 in
set_option maxHeartbeats 4000000 in
theorem c_L_sure (l : Launch) (hfl : l.stackTraces = false) (D : va_G) (cc : Nat → ClassId) (N0 : Nat) (g : Nat → Nat) (xo : Nat) (E : va_W) (S : CS) (a1 : Int32) (fo : Nat → Int64) (v : Int32 × (Nat → Int64) × CS) (hf : f_L_sure S a1 fo = some v) : q_Met l yL_sure wsL_sure 7 161 D cc N0 (cw cc g S ++ ((xo, .inl (cc 4, 1, .inr (.inl fo))) :: E)) [.ref (g 0), .int a1, .ref xo] (q_p (some (.int v.1)) (cw cc g v.2.2 ++ ((xo, .inl (cc 4, 1, .inr (.inl v.2.1))) :: E))) 1 6 := by
  refine q_ofH (code := cL_sure) (nL := 4) (ret := (some .int)) (hh := [(0, 9, 12, 13)]) (by decide +kernel) rfl (Nat.le_of_ble_eq_true rfl) (fun p e s m below meth c C ht => ?_)
  refine q_lv (lv2 := [(0, .ref (g 0)), (1, .int a1), (2, .ref xo)]) rfl ?_
  obtain ⟨u, hu, hf⟩ := q_bind hf
  refine q_aload_n (pc := 0) C dL_sure_0 rfl 2 rfl ?_
  refine q_iconst (pc := 1) C 0 dL_sure_1 q_ci_0 ?_
  refine q_aload_n (pc := 2) C dL_sure_2 rfl 0 rfl ?_
  refine q_iload_n (pc := 3) C dL_sure_3 rfl 1 rfl ?_
  refine q_callVC (pc := 4) (As := [.int a1]) (rest := [.int 0, .ref xo]) C (c_X8_sure l hfl D cc N0 g ((xo, .inl (cc 4, 1, .inr (.inl fo))) :: E) S a1 u hu) gL_sure_X8_sure rfl rfl z_X8_sure ⟨(Nat.le_of_ble_eq_true rfl), (Nat.le_of_ble_eq_true rfl)⟩ (q0 := 0) (cw_at_0 cc g _ S) rfl rfl rfl (Nat.le_of_ble_eq_true rfl) dL_sure_4 ⟨(Nat.le_of_ble_eq_true rfl), (Nat.le_of_ble_eq_true rfl)⟩ ?_ ?_
  · rintro _ _ ⟨h0, rfl, rfl⟩
    have hf := q_iteT hf h0
    obtain rfl := q_some hf
    refine q_nm (wz := (cw cc g S ++ ((xo, .inl (cc 4, 1, .inr (.inl fo))) :: E))) (ka := 1) (kb := 6) (sz := [.int u.2, .int 0, .ref xo]) rfl rfl rfl rfl ?_
    refine q_i2l (pc := 7) C dL_sure_7 rfl ?_
    refine q_last (pc := 8) C 22 rfl ⟨by decide, by decide⟩ dL_sure_8 (ws1 := (cw cc g S ++ ((xo, .inl (cc 4, 1, .inr (.inl (vp_updL fo 0 u.2.toInt64)))) :: E))) rfl ?_
    refine q_goto (pc := 9) (tgt := 15) C dL_sure_9 (by decide) ?_
    refine q_iconst (pc := 15) C 0 dL_sure_15 q_ci_0 ?_
    exact q_iret (pc := 16) C dL_sure_16 ⟨rfl, rfl⟩
  · rintro _ _ ⟨rfl, hp, rfl⟩
    have hf := q_iteF hf (Nat.pos_iff_ne_zero.mp hp)
    by_cases h0 : u.1 = 1
    · have hf := q_iteT hf h0
      obtain rfl := q_some hf
      refine ⟨12, ⟨[], ⟨0, 9, 12, 13⟩, [], ht, (fun z hz => nomatch hz), by decide, by decide, by rw [h0]; exact (List.mem_of_getElem? (i := 1) rfl), by rw [h0]; decide, rfl⟩, fun a => ?_⟩
      refine q_nm (wz := (cw cc g S ++ ((xo, .inl (cc 4, 1, .inr (.inl fo))) :: E))) (ka := 1) (kb := 6) (sz := [.ref a]) rfl rfl rfl rfl ?_
      refine q_astore_n (pc := 12) (lvq := [(3, .ref a), (0, .ref (g 0)), (1, .int a1), (2, .ref xo)]) C dL_sure_12 rfl (by decide) rfl ?_
      refine q_iconst (pc := 13) C 1 dL_sure_13 q_ci_1 ?_
      exact q_iret (pc := 14) C dL_sure_14 ⟨rfl, rfl⟩
    have hf := q_iteF hf h0
    cases hf
def f_L_best (S : CS) (fo : Nat → Int64) : Option (Int32 × (Nat → Int64) × CS) := ((f_X8_best S).bind fun u => (if u.1 = 0 then some ((0 : Int32), vp_updL fo 0 u.2.toInt64, S) else (if u.1 = 5 then some ((1 : Int32), fo, S) else none)))
theorem z_L_best : q_dsc yL_best 2 := ⟨by decide +kernel, by decide +kernel, by decide +kernel⟩
set_option maxRecDepth 100000 in
set_option maxHeartbeats 4000000 in
theorem c_L_best (l : Launch) (hfl : l.stackTraces = false) (D : va_G) (cc : Nat → ClassId) (N0 : Nat) (g : Nat → Nat) (xo : Nat) (E : va_W) (S : CS) (fo : Nat → Int64) (v : Int32 × (Nat → Int64) × CS) (hf : f_L_best S fo = some v) : q_Met l yL_best wsL_best 7 161 D cc N0 (cw cc g S ++ ((xo, .inl (cc 4, 1, .inr (.inl fo))) :: E)) [.ref (g 0), .ref xo] (q_p (some (.int v.1)) (cw cc g v.2.2 ++ ((xo, .inl (cc 4, 1, .inr (.inl v.2.1))) :: E))) 1 6 := by
  refine q_ofH (code := cL_best) (nL := 3) (ret := (some .int)) (hh := [(0, 8, 11, 59)]) (by decide +kernel) rfl (Nat.le_of_ble_eq_true rfl) (fun p e s m below meth c C ht => ?_)
  refine q_lv (lv2 := [(0, .ref (g 0)), (1, .ref xo)]) rfl ?_
  obtain ⟨u, hu, hf⟩ := q_bind hf
  refine q_aload_n (pc := 0) C dL_best_0 rfl 1 rfl ?_
  refine q_iconst (pc := 1) C 0 dL_best_1 q_ci_0 ?_
  refine q_aload_n (pc := 2) C dL_best_2 rfl 0 rfl ?_
  refine q_callVC (pc := 3) (As := []) (rest := [.int 0, .ref xo]) C (c_X8_best l hfl D cc N0 g ((xo, .inl (cc 4, 1, .inr (.inl fo))) :: E) S u hu) gL_best_X8_best rfl rfl z_X8_best ⟨(Nat.le_of_ble_eq_true rfl), (Nat.le_of_ble_eq_true rfl)⟩ (q0 := 0) (cw_at_0 cc g _ S) rfl rfl rfl (Nat.le_of_ble_eq_true rfl) dL_best_3 ⟨(Nat.le_of_ble_eq_true rfl), (Nat.le_of_ble_eq_true rfl)⟩ ?_ ?_
  · rintro _ _ ⟨h0, rfl, rfl⟩
    have hf := q_iteT hf h0
    obtain rfl := q_some hf
    refine q_nm (wz := (cw cc g S ++ ((xo, .inl (cc 4, 1, .inr (.inl fo))) :: E))) (ka := 1) (kb := 6) (sz := [.int u.2, .int 0, .ref xo]) rfl rfl rfl rfl ?_
    refine q_i2l (pc := 6) C dL_best_6 rfl ?_
    refine q_last (pc := 7) C 22 rfl ⟨by decide, by decide⟩ dL_best_7 (ws1 := (cw cc g S ++ ((xo, .inl (cc 4, 1, .inr (.inl (vp_updL fo 0 u.2.toInt64)))) :: E))) rfl ?_
    refine q_goto (pc := 8) (tgt := 14) C dL_best_8 (by decide) ?_
    refine q_iconst (pc := 14) C 0 dL_best_14 q_ci_0 ?_
    exact q_iret (pc := 15) C dL_best_15 ⟨rfl, rfl⟩
  · rintro _ _ ⟨rfl, hp, rfl⟩
    have hf := q_iteF hf (Nat.pos_iff_ne_zero.mp hp)
    by_cases h0 : u.1 = 5
    · have hf := q_iteT hf h0
      obtain rfl := q_some hf
      refine ⟨11, ⟨[], ⟨0, 8, 11, 59⟩, [], ht, (fun z hz => nomatch hz), by decide, by decide, by rw [h0]; exact (List.mem_of_getElem? (i := 1) rfl), by rw [h0]; decide, rfl⟩, fun a => ?_⟩
      refine q_nm (wz := (cw cc g S ++ ((xo, .inl (cc 4, 1, .inr (.inl fo))) :: E))) (ka := 1) (kb := 6) (sz := [.ref a]) rfl rfl rfl rfl ?_
      refine q_astore_n (pc := 11) (lvq := [(2, .ref a), (0, .ref (g 0)), (1, .ref xo)]) C dL_best_11 rfl (by decide) rfl ?_
      refine q_iconst (pc := 12) C 1 dL_best_12 q_ci_1 ?_
      exact q_iret (pc := 13) C dL_best_13 ⟨rfl, rfl⟩
    have hf := q_iteF hf h0
    cases hf
def f_L_learn (S : CS) (fo : Nat → Int64) : Option (Int32 × (Nat → Int64) × CS) := ((f_X8_learn S).bind fun u => (if u.1.1 = 0 then some ((0 : Int32), vp_updL fo 0 u.1.2.toInt64, u.2) else (if u.1.1 = 2 then some ((1 : Int32), fo, u.2) else none)))
theorem z_L_learn : q_dsc yL_learn 2 := ⟨by decide +kernel, by decide +kernel, by decide +kernel⟩
set_option maxRecDepth 100000 in
set_option maxHeartbeats 4000000 in
theorem c_L_learn (l : Launch) (hfl : l.stackTraces = false) (D : va_G) (cc : Nat → ClassId) (N0 : Nat) (g : Nat → Nat) (xo : Nat) (E : va_W) (S : CS) (fo : Nat → Int64) (v : Int32 × (Nat → Int64) × CS) (hf : f_L_learn S fo = some v) : q_Met l yL_learn wsL_learn 7 160 D cc N0 (cw cc g S ++ ((xo, .inl (cc 4, 1, .inr (.inl fo))) :: E)) [.ref (g 0), .ref xo] (q_p (some (.int v.1)) (cw cc g v.2.2 ++ ((xo, .inl (cc 4, 1, .inr (.inl v.2.1))) :: E))) 1 6 := by
  refine q_ofH (code := cL_learn) (nL := 3) (ret := (some .int)) (hh := [(0, 8, 11, 18)]) (by decide +kernel) rfl (Nat.le_of_ble_eq_true rfl) (fun p e s m below meth c C ht => ?_)
  refine q_lv (lv2 := [(0, .ref (g 0)), (1, .ref xo)]) rfl ?_
  obtain ⟨u, hu, hf⟩ := q_bind hf
  refine q_aload_n (pc := 0) C dL_learn_0 rfl 1 rfl ?_
  refine q_iconst (pc := 1) C 0 dL_learn_1 q_ci_0 ?_
  refine q_aload_n (pc := 2) C dL_learn_2 rfl 0 rfl ?_
  refine q_callVC (pc := 3) (As := []) (rest := [.int 0, .ref xo]) C (c_X8_learn l hfl D cc N0 g ((xo, .inl (cc 4, 1, .inr (.inl fo))) :: E) S u hu) gL_learn_X8_learn rfl rfl z_X8_learn ⟨(Nat.le_of_ble_eq_true rfl), (Nat.le_of_ble_eq_true rfl)⟩ (q0 := 0) (cw_at_0 cc g _ S) rfl rfl rfl (Nat.le_of_ble_eq_true rfl) dL_learn_3 ⟨(Nat.le_of_ble_eq_true rfl), (Nat.le_of_ble_eq_true rfl)⟩ ?_ ?_
  · rintro _ _ ⟨h0, rfl, rfl⟩
    have hf := q_iteT hf h0
    obtain rfl := q_some hf
    refine q_nm (wz := (cw cc g u.2 ++ ((xo, .inl (cc 4, 1, .inr (.inl fo))) :: E))) (ka := 1) (kb := 6) (sz := [.int u.1.2, .int 0, .ref xo]) rfl rfl rfl rfl ?_
    refine q_i2l (pc := 6) C dL_learn_6 rfl ?_
    refine q_last (pc := 7) C 22 rfl ⟨by decide, by decide⟩ dL_learn_7 (ws1 := (cw cc g u.2 ++ ((xo, .inl (cc 4, 1, .inr (.inl (vp_updL fo 0 u.1.2.toInt64)))) :: E))) rfl ?_
    refine q_goto (pc := 8) (tgt := 14) C dL_learn_8 (by decide) ?_
    refine q_iconst (pc := 14) C 0 dL_learn_14 q_ci_0 ?_
    exact q_iret (pc := 15) C dL_learn_15 ⟨rfl, rfl⟩
  · rintro _ _ ⟨rfl, hp, rfl⟩
    have hf := q_iteF hf (Nat.pos_iff_ne_zero.mp hp)
    by_cases h0 : u.1.1 = 2
    · have hf := q_iteT hf h0
      obtain rfl := q_some hf
      refine ⟨11, ⟨[], ⟨0, 8, 11, 18⟩, [], ht, (fun z hz => nomatch hz), by decide, by decide, by rw [h0]; exact (List.mem_of_getElem? (i := 1) rfl), by rw [h0]; decide, rfl⟩, fun a => ?_⟩
      refine q_nm (wz := (cw cc g u.2 ++ ((xo, .inl (cc 4, 1, .inr (.inl fo))) :: E))) (ka := 1) (kb := 6) (sz := [.ref a]) rfl rfl rfl rfl ?_
      refine q_astore_n (pc := 11) (lvq := [(2, .ref a), (0, .ref (g 0)), (1, .ref xo)]) C dL_learn_11 rfl (by decide) rfl ?_
      refine q_iconst (pc := 12) C 1 dL_learn_12 q_ci_1 ?_
      exact q_iret (pc := 13) C dL_learn_13 ⟨rfl, rfl⟩
    have hf := q_iteF hf h0
    cases hf
def f_L_found (S : CS) (fo : Nat → Int64) : Option (Int32 × (Nat → Int64) × CS) := ((f_X8_found S).bind fun u => (if u.1 = 0 then some ((0 : Int32), vp_updL fo 0 u.2.toInt64, S) else (if u.1 = 5 then some ((1 : Int32), fo, S) else none)))
theorem z_L_found : q_dsc yL_found 2 := ⟨by decide +kernel, by decide +kernel, by decide +kernel⟩
set_option maxRecDepth 100000 in
set_option maxHeartbeats 4000000 in
theorem c_L_found (l : Launch) (hfl : l.stackTraces = false) (D : va_G) (cc : Nat → ClassId) (N0 : Nat) (g : Nat → Nat) (xo : Nat) (E : va_W) (S : CS) (fo : Nat → Int64) (v : Int32 × (Nat → Int64) × CS) (hf : f_L_found S fo = some v) : q_Met l yL_found wsL_found 7 161 D cc N0 (cw cc g S ++ ((xo, .inl (cc 4, 1, .inr (.inl fo))) :: E)) [.ref (g 0), .ref xo] (q_p (some (.int v.1)) (cw cc g v.2.2 ++ ((xo, .inl (cc 4, 1, .inr (.inl v.2.1))) :: E))) 1 6 := by
  refine q_ofH (code := cL_found) (nL := 3) (ret := (some .int)) (hh := [(0, 8, 11, 59)]) (by decide +kernel) rfl (Nat.le_of_ble_eq_true rfl) (fun p e s m below meth c C ht => ?_)
  refine q_lv (lv2 := [(0, .ref (g 0)), (1, .ref xo)]) rfl ?_
  obtain ⟨u, hu, hf⟩ := q_bind hf
  refine q_aload_n (pc := 0) C dL_found_0 rfl 1 rfl ?_
  refine q_iconst (pc := 1) C 0 dL_found_1 q_ci_0 ?_
  refine q_aload_n (pc := 2) C dL_found_2 rfl 0 rfl ?_
  refine q_callVC (pc := 3) (As := []) (rest := [.int 0, .ref xo]) C (c_X8_found l hfl D cc N0 g ((xo, .inl (cc 4, 1, .inr (.inl fo))) :: E) S u hu) gL_found_X8_found rfl rfl z_X8_found ⟨(Nat.le_of_ble_eq_true rfl), (Nat.le_of_ble_eq_true rfl)⟩ (q0 := 0) (cw_at_0 cc g _ S) rfl rfl rfl (Nat.le_of_ble_eq_true rfl) dL_found_3 ⟨(Nat.le_of_ble_eq_true rfl), (Nat.le_of_ble_eq_true rfl)⟩ ?_ ?_
  · rintro _ _ ⟨h0, rfl, rfl⟩
    have hf := q_iteT hf h0
    obtain rfl := q_some hf
    refine q_nm (wz := (cw cc g S ++ ((xo, .inl (cc 4, 1, .inr (.inl fo))) :: E))) (ka := 1) (kb := 6) (sz := [.int u.2, .int 0, .ref xo]) rfl rfl rfl rfl ?_
    refine q_i2l (pc := 6) C dL_found_6 rfl ?_
    refine q_last (pc := 7) C 22 rfl ⟨by decide, by decide⟩ dL_found_7 (ws1 := (cw cc g S ++ ((xo, .inl (cc 4, 1, .inr (.inl (vp_updL fo 0 u.2.toInt64)))) :: E))) rfl ?_
    refine q_goto (pc := 8) (tgt := 14) C dL_found_8 (by decide) ?_
    refine q_iconst (pc := 14) C 0 dL_found_14 q_ci_0 ?_
    exact q_iret (pc := 15) C dL_found_15 ⟨rfl, rfl⟩
  · rintro _ _ ⟨rfl, hp, rfl⟩
    have hf := q_iteF hf (Nat.pos_iff_ne_zero.mp hp)
    by_cases h0 : u.1 = 5
    · have hf := q_iteT hf h0
      obtain rfl := q_some hf
      refine ⟨11, ⟨[], ⟨0, 8, 11, 59⟩, [], ht, (fun z hz => nomatch hz), by decide, by decide, by rw [h0]; exact (List.mem_of_getElem? (i := 1) rfl), by rw [h0]; decide, rfl⟩, fun a => ?_⟩
      refine q_nm (wz := (cw cc g S ++ ((xo, .inl (cc 4, 1, .inr (.inl fo))) :: E))) (ka := 1) (kb := 6) (sz := [.ref a]) rfl rfl rfl rfl ?_
      refine q_astore_n (pc := 11) (lvq := [(2, .ref a), (0, .ref (g 0)), (1, .ref xo)]) C dL_found_11 rfl (by decide) rfl ?_
      refine q_iconst (pc := 12) C 1 dL_found_12 q_ci_1 ?_
      exact q_iret (pc := 13) C dL_found_13 ⟨rfl, rfl⟩
    have hf := q_iteF hf h0
    cases hf
def f_L_isShattered (S : CS) (a1 : Int32) (fo : Nat → Int64) : Option (Int32 × (Nat → Int64) × CS) := ((f_X8_isShattered S a1).bind fun u => (if u.1 = 0 then some ((0 : Int32), vp_updL fo 0 (if q_b u.2 = 0 then (0 : Int64) else 1), S) else (if u.1 = 1 then some ((1 : Int32), fo, S) else none)))
theorem z_L_isShattered : q_dsc yL_isShattered 3 := ⟨by decide +kernel, by decide +kernel, by decide +kernel⟩
set_option maxRecDepth 100000 in
set_option maxHeartbeats 4000000 in
theorem c_L_isShattered (l : Launch) (hfl : l.stackTraces = false) (D : va_G) (cc : Nat → ClassId) (N0 : Nat) (g : Nat → Nat) (xo : Nat) (E : va_W) (S : CS) (a1 : Int32) (fo : Nat → Int64) (v : Int32 × (Nat → Int64) × CS) (hf : f_L_isShattered S a1 fo = some v) : q_Met l yL_isShattered wsL_isShattered 7 161 D cc N0 (cw cc g S ++ ((xo, .inl (cc 4, 1, .inr (.inl fo))) :: E)) [.ref (g 0), .int a1, .ref xo] (q_p (some (.int v.1)) (cw cc g v.2.2 ++ ((xo, .inl (cc 4, 1, .inr (.inl v.2.1))) :: E))) 1 6 := by
  refine q_ofH (code := cL_isShattered) (nL := 4) (ret := (some .int)) (hh := [(0, 16, 19, 13)]) (by decide +kernel) rfl (Nat.le_of_ble_eq_true rfl) (fun p e s m below meth c C ht => ?_)
  refine q_lv (lv2 := [(0, .ref (g 0)), (1, .int a1), (2, .ref xo)]) rfl ?_
  obtain ⟨u, hu, hf⟩ := q_bind hf
  refine q_aload_n (pc := 0) C dL_isShattered_0 rfl 2 rfl ?_
  refine q_iconst (pc := 1) C 0 dL_isShattered_1 q_ci_0 ?_
  refine q_aload_n (pc := 2) C dL_isShattered_2 rfl 0 rfl ?_
  refine q_iload_n (pc := 3) C dL_isShattered_3 rfl 1 rfl ?_
  refine q_callVC (pc := 4) (As := [.int a1]) (rest := [.int 0, .ref xo]) C (c_X8_isShattered l hfl D cc N0 g ((xo, .inl (cc 4, 1, .inr (.inl fo))) :: E) S a1 u hu) gL_isShattered_X8_isShattered rfl rfl z_X8_isShattered ⟨(Nat.le_of_ble_eq_true rfl), (Nat.le_of_ble_eq_true rfl)⟩ (q0 := 0) (cw_at_0 cc g _ S) rfl rfl rfl (Nat.le_of_ble_eq_true rfl) dL_isShattered_4 ⟨(Nat.le_of_ble_eq_true rfl), (Nat.le_of_ble_eq_true rfl)⟩ ?_ ?_
  · rintro _ _ ⟨h0, rfl, rfl⟩
    have hf := q_iteT hf h0
    obtain rfl := q_some hf
    refine q_nm (wz := (cw cc g S ++ ((xo, .inl (cc 4, 1, .inr (.inl fo))) :: E))) (ka := 1) (kb := 6) (sz := [.int (q_b u.2), .int 0, .ref xo]) rfl rfl rfl rfl ?_
    refine q_if_eq (pc := 7) (tgt := 14) C dL_isShattered_7 (by decide) (fun c1 => ?_) (fun c1 => ?_)
    · refine q_lconst (pc := 14) C 0 dL_isShattered_14 q_cl_0 ?_
      refine q_last (pc := 15) C 22 rfl ⟨by decide, by decide⟩ dL_isShattered_15 (ws1 := (cw cc g S ++ ((xo, .inl (cc 4, 1, .inr (.inl (vp_updL fo 0 (0 : Int64))))) :: E))) rfl ?_
      refine q_goto (pc := 16) (tgt := 22) C dL_isShattered_16 (by decide) ?_
      refine q_iconst (pc := 22) C 0 dL_isShattered_22 q_ci_0 ?_
      exact q_iret (pc := 23) C dL_isShattered_23 ⟨rfl, by rw [if_pos c1]⟩
    · refine q_lconst (pc := 10) C 1 dL_isShattered_10 q_cl_1 ?_
      refine q_goto (pc := 11) (tgt := 15) C dL_isShattered_11 (by decide) ?_
      refine q_last (pc := 15) C 22 rfl ⟨by decide, by decide⟩ dL_isShattered_15 (ws1 := (cw cc g S ++ ((xo, .inl (cc 4, 1, .inr (.inl (vp_updL fo 0 (1 : Int64))))) :: E))) rfl ?_
      refine q_goto (pc := 16) (tgt := 22) C dL_isShattered_16 (by decide) ?_
      refine q_iconst (pc := 22) C 0 dL_isShattered_22 q_ci_0 ?_
      exact q_iret (pc := 23) C dL_isShattered_23 ⟨rfl, by rw [if_neg c1]⟩
  · rintro _ _ ⟨rfl, hp, rfl⟩
    have hf := q_iteF hf (Nat.pos_iff_ne_zero.mp hp)
    by_cases h0 : u.1 = 1
    · have hf := q_iteT hf h0
      obtain rfl := q_some hf
      refine ⟨19, ⟨[], ⟨0, 16, 19, 13⟩, [], ht, (fun z hz => nomatch hz), by decide, by decide, by rw [h0]; exact (List.mem_of_getElem? (i := 1) rfl), by rw [h0]; decide, rfl⟩, fun a => ?_⟩
      refine q_nm (wz := (cw cc g S ++ ((xo, .inl (cc 4, 1, .inr (.inl fo))) :: E))) (ka := 1) (kb := 6) (sz := [.ref a]) rfl rfl rfl rfl ?_
      refine q_astore_n (pc := 19) (lvq := [(3, .ref a), (0, .ref (g 0)), (1, .int a1), (2, .ref xo)]) C dL_isShattered_19 rfl (by decide) rfl ?_
      refine q_iconst (pc := 20) C 1 dL_isShattered_20 q_ci_1 ?_
      exact q_iret (pc := 21) C dL_isShattered_21 ⟨rfl, rfl⟩
    have hf := q_iteF hf h0
    cases hf
def f_L_lesson (S : CS) (a1 : Int32) (fo : Nat → Int64) : Option (Int32 × (Nat → Int64) × CS) := ((f_X8_lesson S a1).bind fun u => (if u.1 = 0 then some ((0 : Int32), vp_updL fo 0 u.2.toInt64, S) else (if u.1 = 4 then some ((1 : Int32), fo, S) else none)))
theorem z_L_lesson : q_dsc yL_lesson 3 := ⟨by decide +kernel, by decide +kernel, by decide +kernel⟩
set_option maxRecDepth 100000 in
set_option maxHeartbeats 4000000 in
theorem c_L_lesson (l : Launch) (hfl : l.stackTraces = false) (D : va_G) (cc : Nat → ClassId) (N0 : Nat) (g : Nat → Nat) (xo : Nat) (E : va_W) (S : CS) (a1 : Int32) (fo : Nat → Int64) (v : Int32 × (Nat → Int64) × CS) (hf : f_L_lesson S a1 fo = some v) : q_Met l yL_lesson wsL_lesson 7 161 D cc N0 (cw cc g S ++ ((xo, .inl (cc 4, 1, .inr (.inl fo))) :: E)) [.ref (g 0), .int a1, .ref xo] (q_p (some (.int v.1)) (cw cc g v.2.2 ++ ((xo, .inl (cc 4, 1, .inr (.inl v.2.1))) :: E))) 1 6 := by
  refine q_ofH (code := cL_lesson) (nL := 4) (ret := (some .int)) (hh := [(0, 9, 12, 29)]) (by decide +kernel) rfl (Nat.le_of_ble_eq_true rfl) (fun p e s m below meth c C ht => ?_)
  refine q_lv (lv2 := [(0, .ref (g 0)), (1, .int a1), (2, .ref xo)]) rfl ?_
  obtain ⟨u, hu, hf⟩ := q_bind hf
  refine q_aload_n (pc := 0) C dL_lesson_0 rfl 2 rfl ?_
  refine q_iconst (pc := 1) C 0 dL_lesson_1 q_ci_0 ?_
  refine q_aload_n (pc := 2) C dL_lesson_2 rfl 0 rfl ?_
  refine q_iload_n (pc := 3) C dL_lesson_3 rfl 1 rfl ?_
  refine q_callVC (pc := 4) (As := [.int a1]) (rest := [.int 0, .ref xo]) C (c_X8_lesson l hfl D cc N0 g ((xo, .inl (cc 4, 1, .inr (.inl fo))) :: E) S a1 u hu) gL_lesson_X8_lesson rfl rfl z_X8_lesson ⟨(Nat.le_of_ble_eq_true rfl), (Nat.le_of_ble_eq_true rfl)⟩ (q0 := 0) (cw_at_0 cc g _ S) rfl rfl rfl (Nat.le_of_ble_eq_true rfl) dL_lesson_4 ⟨(Nat.le_of_ble_eq_true rfl), (Nat.le_of_ble_eq_true rfl)⟩ ?_ ?_
  · rintro _ _ ⟨h0, rfl, rfl⟩
    have hf := q_iteT hf h0
    obtain rfl := q_some hf
    refine q_nm (wz := (cw cc g S ++ ((xo, .inl (cc 4, 1, .inr (.inl fo))) :: E))) (ka := 1) (kb := 6) (sz := [.int u.2, .int 0, .ref xo]) rfl rfl rfl rfl ?_
    refine q_i2l (pc := 7) C dL_lesson_7 rfl ?_
    refine q_last (pc := 8) C 22 rfl ⟨by decide, by decide⟩ dL_lesson_8 (ws1 := (cw cc g S ++ ((xo, .inl (cc 4, 1, .inr (.inl (vp_updL fo 0 u.2.toInt64)))) :: E))) rfl ?_
    refine q_goto (pc := 9) (tgt := 15) C dL_lesson_9 (by decide) ?_
    refine q_iconst (pc := 15) C 0 dL_lesson_15 q_ci_0 ?_
    exact q_iret (pc := 16) C dL_lesson_16 ⟨rfl, rfl⟩
  · rintro _ _ ⟨rfl, hp, rfl⟩
    have hf := q_iteF hf (Nat.pos_iff_ne_zero.mp hp)
    by_cases h0 : u.1 = 4
    · have hf := q_iteT hf h0
      obtain rfl := q_some hf
      refine ⟨12, ⟨[], ⟨0, 9, 12, 29⟩, [], ht, (fun z hz => nomatch hz), by decide, by decide, by rw [h0]; exact (List.mem_of_getElem? (i := 1) rfl), by rw [h0]; decide, rfl⟩, fun a => ?_⟩
      refine q_nm (wz := (cw cc g S ++ ((xo, .inl (cc 4, 1, .inr (.inl fo))) :: E))) (ka := 1) (kb := 6) (sz := [.ref a]) rfl rfl rfl rfl ?_
      refine q_astore_n (pc := 12) (lvq := [(3, .ref a), (0, .ref (g 0)), (1, .int a1), (2, .ref xo)]) C dL_lesson_12 rfl (by decide) rfl ?_
      refine q_iconst (pc := 13) C 1 dL_lesson_13 q_ci_1 ?_
      exact q_iret (pc := 14) C dL_lesson_14 ⟨rfl, rfl⟩
    have hf := q_iteF hf h0
    cases hf
def f_L_halver (S : CS) (a1 : Int32) (fo : Nat → Int64) : Option (Int32 × (Nat → Int64) × CS) := ((f_X8_halver S a1).bind fun u => (if u.1 = 0 then some ((0 : Int32), vp_updL fo 0 u.2.toInt64, S) else (if u.1 = 4 then some ((1 : Int32), fo, S) else none)))
theorem z_L_halver : q_dsc yL_halver 3 := ⟨by decide +kernel, by decide +kernel, by decide +kernel⟩
set_option maxRecDepth 100000 in
set_option maxHeartbeats 4000000 in
theorem c_L_halver (l : Launch) (hfl : l.stackTraces = false) (D : va_G) (cc : Nat → ClassId) (N0 : Nat) (g : Nat → Nat) (xo : Nat) (E : va_W) (S : CS) (a1 : Int32) (fo : Nat → Int64) (v : Int32 × (Nat → Int64) × CS) (hf : f_L_halver S a1 fo = some v) : q_Met l yL_halver wsL_halver 7 161 D cc N0 (cw cc g S ++ ((xo, .inl (cc 4, 1, .inr (.inl fo))) :: E)) [.ref (g 0), .int a1, .ref xo] (q_p (some (.int v.1)) (cw cc g v.2.2 ++ ((xo, .inl (cc 4, 1, .inr (.inl v.2.1))) :: E))) 1 6 := by
  refine q_ofH (code := cL_halver) (nL := 4) (ret := (some .int)) (hh := [(0, 9, 12, 29)]) (by decide +kernel) rfl (Nat.le_of_ble_eq_true rfl) (fun p e s m below meth c C ht => ?_)
  refine q_lv (lv2 := [(0, .ref (g 0)), (1, .int a1), (2, .ref xo)]) rfl ?_
  obtain ⟨u, hu, hf⟩ := q_bind hf
  refine q_aload_n (pc := 0) C dL_halver_0 rfl 2 rfl ?_
  refine q_iconst (pc := 1) C 0 dL_halver_1 q_ci_0 ?_
  refine q_aload_n (pc := 2) C dL_halver_2 rfl 0 rfl ?_
  refine q_iload_n (pc := 3) C dL_halver_3 rfl 1 rfl ?_
  refine q_callVC (pc := 4) (As := [.int a1]) (rest := [.int 0, .ref xo]) C (c_X8_halver l hfl D cc N0 g ((xo, .inl (cc 4, 1, .inr (.inl fo))) :: E) S a1 u hu) gL_halver_X8_halver rfl rfl z_X8_halver ⟨(Nat.le_of_ble_eq_true rfl), (Nat.le_of_ble_eq_true rfl)⟩ (q0 := 0) (cw_at_0 cc g _ S) rfl rfl rfl (Nat.le_of_ble_eq_true rfl) dL_halver_4 ⟨(Nat.le_of_ble_eq_true rfl), (Nat.le_of_ble_eq_true rfl)⟩ ?_ ?_
  · rintro _ _ ⟨h0, rfl, rfl⟩
    have hf := q_iteT hf h0
    obtain rfl := q_some hf
    refine q_nm (wz := (cw cc g S ++ ((xo, .inl (cc 4, 1, .inr (.inl fo))) :: E))) (ka := 1) (kb := 6) (sz := [.int u.2, .int 0, .ref xo]) rfl rfl rfl rfl ?_
    refine q_i2l (pc := 7) C dL_halver_7 rfl ?_
    refine q_last (pc := 8) C 22 rfl ⟨by decide, by decide⟩ dL_halver_8 (ws1 := (cw cc g S ++ ((xo, .inl (cc 4, 1, .inr (.inl (vp_updL fo 0 u.2.toInt64)))) :: E))) rfl ?_
    refine q_goto (pc := 9) (tgt := 15) C dL_halver_9 (by decide) ?_
    refine q_iconst (pc := 15) C 0 dL_halver_15 q_ci_0 ?_
    exact q_iret (pc := 16) C dL_halver_16 ⟨rfl, rfl⟩
  · rintro _ _ ⟨rfl, hp, rfl⟩
    have hf := q_iteF hf (Nat.pos_iff_ne_zero.mp hp)
    by_cases h0 : u.1 = 4
    · have hf := q_iteT hf h0
      obtain rfl := q_some hf
      refine ⟨12, ⟨[], ⟨0, 9, 12, 29⟩, [], ht, (fun z hz => nomatch hz), by decide, by decide, by rw [h0]; exact (List.mem_of_getElem? (i := 1) rfl), by rw [h0]; decide, rfl⟩, fun a => ?_⟩
      refine q_nm (wz := (cw cc g S ++ ((xo, .inl (cc 4, 1, .inr (.inl fo))) :: E))) (ka := 1) (kb := 6) (sz := [.ref a]) rfl rfl rfl rfl ?_
      refine q_astore_n (pc := 12) (lvq := [(3, .ref a), (0, .ref (g 0)), (1, .int a1), (2, .ref xo)]) C dL_halver_12 rfl (by decide) rfl ?_
      refine q_iconst (pc := 13) C 1 dL_halver_13 q_ci_1 ?_
      exact q_iret (pc := 14) C dL_halver_14 ⟨rfl, rfl⟩
    have hf := q_iteF hf h0
    cases hf
def f_L_experts (S : CS) (a1 : Int32) (fo : Nat → Int64) : Option (Int32 × (Nat → Int64) × CS) := ((f_X8_experts a1 S).bind fun u => (if u.1.1 = 0 then some ((0 : Int32), vp_updL fo 0 u.1.2.toInt64, u.2) else (if u.1.1 = 1 then some ((1 : Int32), fo, u.2) else none)))
theorem z_L_experts : q_dsc yL_experts 3 := ⟨by decide +kernel, by decide +kernel, by decide +kernel⟩
set_option maxRecDepth 100000 in
set_option maxHeartbeats 4000000 in
theorem c_L_experts (l : Launch) (hfl : l.stackTraces = false) (D : va_G) (cc : Nat → ClassId) (N0 : Nat) (g : Nat → Nat) (xo : Nat) (E : va_W) (S : CS) (a1 : Int32) (fo : Nat → Int64) (v : Int32 × (Nat → Int64) × CS) (hf : f_L_experts S a1 fo = some v) : q_Met l yL_experts wsL_experts 7 162 D cc N0 (cw cc g S ++ ((xo, .inl (cc 4, 1, .inr (.inl fo))) :: E)) [.ref (g 0), .int a1, .ref xo] (q_p (some (.int v.1)) (cw cc g v.2.2 ++ ((xo, .inl (cc 4, 1, .inr (.inl v.2.1))) :: E))) 1 6 := by
  refine q_ofH (code := cL_experts) (nL := 4) (ret := (some .int)) (hh := [(0, 9, 12, 13)]) (by decide +kernel) rfl (Nat.le_of_ble_eq_true rfl) (fun p e s m below meth c C ht => ?_)
  refine q_lv (lv2 := [(0, .ref (g 0)), (1, .int a1), (2, .ref xo)]) rfl ?_
  obtain ⟨u, hu, hf⟩ := q_bind hf
  refine q_aload_n (pc := 0) C dL_experts_0 rfl 2 rfl ?_
  refine q_iconst (pc := 1) C 0 dL_experts_1 q_ci_0 ?_
  refine q_aload_n (pc := 2) C dL_experts_2 rfl 0 rfl ?_
  refine q_iload_n (pc := 3) C dL_experts_3 rfl 1 rfl ?_
  refine q_callVC (pc := 4) (As := [.int a1]) (rest := [.int 0, .ref xo]) C (c_X8_experts l hfl D cc N0 g ((xo, .inl (cc 4, 1, .inr (.inl fo))) :: E) S a1 u hu) gL_experts_X8_experts rfl rfl z_X8_experts ⟨(Nat.le_of_ble_eq_true rfl), (Nat.le_of_ble_eq_true rfl)⟩ (q0 := 0) (cw_at_0 cc g _ S) rfl rfl rfl (Nat.le_of_ble_eq_true rfl) dL_experts_4 ⟨(Nat.le_of_ble_eq_true rfl), (Nat.le_of_ble_eq_true rfl)⟩ ?_ ?_
  · rintro _ _ ⟨h0, rfl, rfl⟩
    have hf := q_iteT hf h0
    obtain rfl := q_some hf
    refine q_nm (wz := (cw cc g u.2 ++ ((xo, .inl (cc 4, 1, .inr (.inl fo))) :: E))) (ka := 1) (kb := 6) (sz := [.int u.1.2, .int 0, .ref xo]) rfl rfl rfl rfl ?_
    refine q_i2l (pc := 7) C dL_experts_7 rfl ?_
    refine q_last (pc := 8) C 22 rfl ⟨by decide, by decide⟩ dL_experts_8 (ws1 := (cw cc g u.2 ++ ((xo, .inl (cc 4, 1, .inr (.inl (vp_updL fo 0 u.1.2.toInt64)))) :: E))) rfl ?_
    refine q_goto (pc := 9) (tgt := 15) C dL_experts_9 (by decide) ?_
    refine q_iconst (pc := 15) C 0 dL_experts_15 q_ci_0 ?_
    exact q_iret (pc := 16) C dL_experts_16 ⟨rfl, rfl⟩
  · rintro _ _ ⟨rfl, hp, rfl⟩
    have hf := q_iteF hf (Nat.pos_iff_ne_zero.mp hp)
    by_cases h0 : u.1.1 = 1
    · have hf := q_iteT hf h0
      obtain rfl := q_some hf
      refine ⟨12, ⟨[], ⟨0, 9, 12, 13⟩, [], ht, (fun z hz => nomatch hz), by decide, by decide, by rw [h0]; exact (List.mem_of_getElem? (i := 1) rfl), by rw [h0]; decide, rfl⟩, fun a => ?_⟩
      refine q_nm (wz := (cw cc g u.2 ++ ((xo, .inl (cc 4, 1, .inr (.inl fo))) :: E))) (ka := 1) (kb := 6) (sz := [.ref a]) rfl rfl rfl rfl ?_
      refine q_astore_n (pc := 12) (lvq := [(3, .ref a), (0, .ref (g 0)), (1, .int a1), (2, .ref xo)]) C dL_experts_12 rfl (by decide) rfl ?_
      refine q_iconst (pc := 13) C 1 dL_experts_13 q_ci_1 ?_
      exact q_iret (pc := 14) C dL_experts_14 ⟨rfl, rfl⟩
    have hf := q_iteF hf h0
    cases hf
def f_L_round (S : CS) (a1 : Int32) (a2 : Int32) (fo : Nat → Int64) : Option (Int32 × (Nat → Int64) × CS) := ((f_X8_round a1 a2 S).bind fun u => (if u.1.1 = 0 then some ((0 : Int32), vp_updL fo 0 (if q_b u.1.2 = 0 then (0 : Int64) else 1), u.2) else (if u.1.1 = 1 then some ((1 : Int32), fo, u.2) else (if u.1.1 = 2 then some ((2 : Int32), fo, u.2) else none))))
theorem z_L_round : q_dsc yL_round 4 := ⟨by decide +kernel, by decide +kernel, by decide +kernel⟩
set_option maxRecDepth 100000 in
set_option maxHeartbeats 4000000 in
theorem c_L_round (l : Launch) (hfl : l.stackTraces = false) (D : va_G) (cc : Nat → ClassId) (N0 : Nat) (g : Nat → Nat) (xo : Nat) (E : va_W) (S : CS) (a1 : Int32) (a2 : Int32) (fo : Nat → Int64) (v : Int32 × (Nat → Int64) × CS) (hf : f_L_round S a1 a2 fo = some v) : q_Met l yL_round wsL_round 7 162 D cc N0 (cw cc g S ++ ((xo, .inl (cc 4, 1, .inr (.inl fo))) :: E)) [.ref (g 0), .int a1, .int a2, .ref xo] (q_p (some (.int v.1)) (cw cc g v.2.2 ++ ((xo, .inl (cc 4, 1, .inr (.inl v.2.1))) :: E))) 1 6 := by
  refine q_ofH (code := cL_round) (nL := 5) (ret := (some .int)) (hh := [(0, 17, 20, 13), (0, 17, 24, 18)]) (by decide +kernel) rfl (Nat.le_of_ble_eq_true rfl) (fun p e s m below meth c C ht => ?_)
  refine q_lv (lv2 := [(0, .ref (g 0)), (1, .int a1), (2, .int a2), (3, .ref xo)]) rfl ?_
  obtain ⟨u, hu, hf⟩ := q_bind hf
  refine q_aload_n (pc := 0) C dL_round_0 rfl 3 rfl ?_
  refine q_iconst (pc := 1) C 0 dL_round_1 q_ci_0 ?_
  refine q_aload_n (pc := 2) C dL_round_2 rfl 0 rfl ?_
  refine q_iload_n (pc := 3) C dL_round_3 rfl 1 rfl ?_
  refine q_iload_n (pc := 4) C dL_round_4 rfl 2 rfl ?_
  refine q_callVC (pc := 5) (As := [.int a1, .int a2]) (rest := [.int 0, .ref xo]) C (c_X8_round l hfl D cc N0 g ((xo, .inl (cc 4, 1, .inr (.inl fo))) :: E) S a1 a2 u hu) gL_round_X8_round rfl rfl z_X8_round ⟨(Nat.le_of_ble_eq_true rfl), (Nat.le_of_ble_eq_true rfl)⟩ (q0 := 0) (cw_at_0 cc g _ S) rfl rfl rfl (Nat.le_of_ble_eq_true rfl) dL_round_5 ⟨(Nat.le_of_ble_eq_true rfl), (Nat.le_of_ble_eq_true rfl)⟩ ?_ ?_
  · rintro _ _ ⟨h0, rfl, rfl⟩
    have hf := q_iteT hf h0
    obtain rfl := q_some hf
    refine q_nm (wz := (cw cc g u.2 ++ ((xo, .inl (cc 4, 1, .inr (.inl fo))) :: E))) (ka := 1) (kb := 6) (sz := [.int (q_b u.1.2), .int 0, .ref xo]) rfl rfl rfl rfl ?_
    refine q_if_eq (pc := 8) (tgt := 15) C dL_round_8 (by decide) (fun c1 => ?_) (fun c1 => ?_)
    · refine q_lconst (pc := 15) C 0 dL_round_15 q_cl_0 ?_
      refine q_last (pc := 16) C 22 rfl ⟨by decide, by decide⟩ dL_round_16 (ws1 := (cw cc g u.2 ++ ((xo, .inl (cc 4, 1, .inr (.inl (vp_updL fo 0 (0 : Int64))))) :: E))) rfl ?_
      refine q_goto (pc := 17) (tgt := 28) C dL_round_17 (by decide) ?_
      refine q_iconst (pc := 28) C 0 dL_round_28 q_ci_0 ?_
      exact q_iret (pc := 29) C dL_round_29 ⟨rfl, by rw [if_pos c1]⟩
    · refine q_lconst (pc := 11) C 1 dL_round_11 q_cl_1 ?_
      refine q_goto (pc := 12) (tgt := 16) C dL_round_12 (by decide) ?_
      refine q_last (pc := 16) C 22 rfl ⟨by decide, by decide⟩ dL_round_16 (ws1 := (cw cc g u.2 ++ ((xo, .inl (cc 4, 1, .inr (.inl (vp_updL fo 0 (1 : Int64))))) :: E))) rfl ?_
      refine q_goto (pc := 17) (tgt := 28) C dL_round_17 (by decide) ?_
      refine q_iconst (pc := 28) C 0 dL_round_28 q_ci_0 ?_
      exact q_iret (pc := 29) C dL_round_29 ⟨rfl, by rw [if_neg c1]⟩
  · rintro _ _ ⟨rfl, hp, rfl⟩
    have hf := q_iteF hf (Nat.pos_iff_ne_zero.mp hp)
    by_cases h0 : u.1.1 = 1
    · have hf := q_iteT hf h0
      obtain rfl := q_some hf
      refine ⟨20, ⟨[], ⟨0, 17, 20, 13⟩, [⟨0, 17, 24, 18⟩], ht, (fun z hz => nomatch hz), by decide, by decide, by rw [h0]; exact (List.mem_of_getElem? (i := 1) rfl), by rw [h0]; decide, rfl⟩, fun a => ?_⟩
      refine q_nm (wz := (cw cc g u.2 ++ ((xo, .inl (cc 4, 1, .inr (.inl fo))) :: E))) (ka := 1) (kb := 6) (sz := [.ref a]) rfl rfl rfl rfl ?_
      refine q_astore (pc := 20) (lvq := [(4, .ref a), (0, .ref (g 0)), (1, .int a1), (2, .int a2), (3, .ref xo)]) C dL_round_20 (by decide) rfl ?_
      refine q_iconst (pc := 22) C 1 dL_round_22 q_ci_1 ?_
      exact q_iret (pc := 23) C dL_round_23 ⟨rfl, rfl⟩
    have hf := q_iteF hf h0
    by_cases h1 : u.1.1 = 2
    · have hf := q_iteT hf h1
      obtain rfl := q_some hf
      refine ⟨24, ⟨[⟨0, 17, 20, 13⟩], ⟨0, 17, 24, 18⟩, [], ht, (List.forall_mem_cons.mpr ⟨Or.inr ⟨by decide, "java/lang/IllegalArgumentException", (List.mem_of_getElem? (i := 1) rfl), by rw [h1]; decide⟩, (fun z hz => nomatch hz)⟩), by decide, by decide, by rw [h1]; exact (List.mem_of_getElem? (i := 2) rfl), by rw [h1]; decide, rfl⟩, fun a => ?_⟩
      refine q_nm (wz := (cw cc g u.2 ++ ((xo, .inl (cc 4, 1, .inr (.inl fo))) :: E))) (ka := 1) (kb := 6) (sz := [.ref a]) rfl rfl rfl rfl ?_
      refine q_astore (pc := 24) (lvq := [(4, .ref a), (0, .ref (g 0)), (1, .int a1), (2, .int a2), (3, .ref xo)]) C dL_round_24 (by decide) rfl ?_
      refine q_iconst (pc := 26) C 2 dL_round_26 q_ci_2 ?_
      exact q_iret (pc := 27) C dL_round_27 ⟨rfl, rfl⟩
    have hf := q_iteF hf h1
    cases hf
def f_L_weight (S : CS) (a1 : Int32) (fo : Nat → Int64) : Option (Int32 × (Nat → Int64) × CS) := ((fun u => (if u.1 = 0 then some ((0 : Int32), vp_updL fo 0 u.2.toInt64, S) else (if u.1 = 4 then some ((1 : Int32), fo, S) else none))) (f_X8_weight S a1))
theorem z_L_weight : q_dsc yL_weight 3 := ⟨by decide +kernel, by decide +kernel, by decide +kernel⟩
set_option maxRecDepth 100000 in
set_option maxHeartbeats 4000000 in
theorem c_L_weight (l : Launch) (hfl : l.stackTraces = false) (D : va_G) (cc : Nat → ClassId) (N0 : Nat) (g : Nat → Nat) (xo : Nat) (E : va_W) (S : CS) (a1 : Int32) (fo : Nat → Int64) (v : Int32 × (Nat → Int64) × CS) (hf : f_L_weight S a1 fo = some v) : q_Met l yL_weight wsL_weight 7 161 D cc N0 (cw cc g S ++ ((xo, .inl (cc 4, 1, .inr (.inl fo))) :: E)) [.ref (g 0), .int a1, .ref xo] (q_p (some (.int v.1)) (cw cc g v.2.2 ++ ((xo, .inl (cc 4, 1, .inr (.inl v.2.1))) :: E))) 1 6 := by
  refine q_ofH (code := cL_weight) (nL := 4) (ret := (some .int)) (hh := [(0, 9, 12, 29)]) (by decide +kernel) rfl (Nat.le_of_ble_eq_true rfl) (fun p e s m below meth c C ht => ?_)
  refine q_lv (lv2 := [(0, .ref (g 0)), (1, .int a1), (2, .ref xo)]) rfl ?_
  obtain ⟨u, hu⟩ : ∃ u, f_X8_weight S a1 = u := ⟨_, rfl⟩
  rw [f_L_weight, hu] at hf
  have hf : (if u.1 = 0 then some ((0 : Int32), vp_updL fo 0 u.2.toInt64, S) else (if u.1 = 4 then some ((1 : Int32), fo, S) else none)) = some v := hf
  refine q_aload_n (pc := 0) C dL_weight_0 rfl 2 rfl ?_
  refine q_iconst (pc := 1) C 0 dL_weight_1 q_ci_0 ?_
  refine q_aload_n (pc := 2) C dL_weight_2 rfl 0 rfl ?_
  refine q_iload_n (pc := 3) C dL_weight_3 rfl 1 rfl ?_
  refine q_callVC (pc := 4) (As := [.int a1]) (rest := [.int 0, .ref xo]) C (c_X8_weight l hfl D cc N0 g ((xo, .inl (cc 4, 1, .inr (.inl fo))) :: E) S a1 u hu) gL_weight_X8_weight rfl rfl z_X8_weight ⟨(Nat.le_of_ble_eq_true rfl), (Nat.le_of_ble_eq_true rfl)⟩ (q0 := 0) (cw_at_0 cc g _ S) rfl rfl rfl (Nat.le_of_ble_eq_true rfl) dL_weight_4 ⟨(Nat.le_of_ble_eq_true rfl), (Nat.le_of_ble_eq_true rfl)⟩ ?_ ?_
  · rintro _ _ ⟨h0, rfl, rfl⟩
    have hf := q_iteT hf h0
    obtain rfl := q_some hf
    refine q_nm (wz := (cw cc g S ++ ((xo, .inl (cc 4, 1, .inr (.inl fo))) :: E))) (ka := 1) (kb := 6) (sz := [.int u.2, .int 0, .ref xo]) rfl rfl rfl rfl ?_
    refine q_i2l (pc := 7) C dL_weight_7 rfl ?_
    refine q_last (pc := 8) C 22 rfl ⟨by decide, by decide⟩ dL_weight_8 (ws1 := (cw cc g S ++ ((xo, .inl (cc 4, 1, .inr (.inl (vp_updL fo 0 u.2.toInt64)))) :: E))) rfl ?_
    refine q_goto (pc := 9) (tgt := 15) C dL_weight_9 (by decide) ?_
    refine q_iconst (pc := 15) C 0 dL_weight_15 q_ci_0 ?_
    exact q_iret (pc := 16) C dL_weight_16 ⟨rfl, rfl⟩
  · rintro _ _ ⟨rfl, hp, rfl⟩
    have hf := q_iteF hf (Nat.pos_iff_ne_zero.mp hp)
    by_cases h0 : u.1 = 4
    · have hf := q_iteT hf h0
      obtain rfl := q_some hf
      refine ⟨12, ⟨[], ⟨0, 9, 12, 29⟩, [], ht, (fun z hz => nomatch hz), by decide, by decide, by rw [h0]; exact (List.mem_of_getElem? (i := 1) rfl), by rw [h0]; decide, rfl⟩, fun a => ?_⟩
      refine q_nm (wz := (cw cc g S ++ ((xo, .inl (cc 4, 1, .inr (.inl fo))) :: E))) (ka := 1) (kb := 6) (sz := [.ref a]) rfl rfl rfl rfl ?_
      refine q_astore_n (pc := 12) (lvq := [(3, .ref a), (0, .ref (g 0)), (1, .int a1), (2, .ref xo)]) C dL_weight_12 rfl (by decide) rfl ?_
      refine q_iconst (pc := 13) C 1 dL_weight_13 q_ci_1 ?_
      exact q_iret (pc := 14) C dL_weight_14 ⟨rfl, rfl⟩
    have hf := q_iteF hf h0
    cases hf
def f_L_regret (S : CS) (fo : Nat → Int64) : Option (Int32 × (Nat → Int64) × CS) := ((f_X8_regret S).bind fun u => (if u.1 = 0 then some ((0 : Int32), vp_updL fo 0 u.2.toInt64, S) else (if u.1 = 2 then some ((1 : Int32), fo, S) else none)))
theorem z_L_regret : q_dsc yL_regret 2 := ⟨by decide +kernel, by decide +kernel, by decide +kernel⟩
set_option maxRecDepth 100000 in
set_option maxHeartbeats 4000000 in
theorem c_L_regret (l : Launch) (hfl : l.stackTraces = false) (D : va_G) (cc : Nat → ClassId) (N0 : Nat) (g : Nat → Nat) (xo : Nat) (E : va_W) (S : CS) (fo : Nat → Int64) (v : Int32 × (Nat → Int64) × CS) (hf : f_L_regret S fo = some v) : q_Met l yL_regret wsL_regret 7 160 D cc N0 (cw cc g S ++ ((xo, .inl (cc 4, 1, .inr (.inl fo))) :: E)) [.ref (g 0), .ref xo] (q_p (some (.int v.1)) (cw cc g v.2.2 ++ ((xo, .inl (cc 4, 1, .inr (.inl v.2.1))) :: E))) 1 6 := by
  refine q_ofH (code := cL_regret) (nL := 3) (ret := (some .int)) (hh := [(0, 8, 11, 18)]) (by decide +kernel) rfl (Nat.le_of_ble_eq_true rfl) (fun p e s m below meth c C ht => ?_)
  refine q_lv (lv2 := [(0, .ref (g 0)), (1, .ref xo)]) rfl ?_
  obtain ⟨u, hu, hf⟩ := q_bind hf
  refine q_aload_n (pc := 0) C dL_regret_0 rfl 1 rfl ?_
  refine q_iconst (pc := 1) C 0 dL_regret_1 q_ci_0 ?_
  refine q_aload_n (pc := 2) C dL_regret_2 rfl 0 rfl ?_
  refine q_callVC (pc := 3) (As := []) (rest := [.int 0, .ref xo]) C (c_X8_regret l hfl D cc N0 g ((xo, .inl (cc 4, 1, .inr (.inl fo))) :: E) S u hu) gL_regret_X8_regret rfl rfl z_X8_regret ⟨(Nat.le_of_ble_eq_true rfl), (Nat.le_of_ble_eq_true rfl)⟩ (q0 := 0) (cw_at_0 cc g _ S) rfl rfl rfl (Nat.le_of_ble_eq_true rfl) dL_regret_3 ⟨(Nat.le_of_ble_eq_true rfl), (Nat.le_of_ble_eq_true rfl)⟩ ?_ ?_
  · rintro _ _ ⟨h0, rfl, rfl⟩
    have hf := q_iteT hf h0
    obtain rfl := q_some hf
    refine q_nm (wz := (cw cc g S ++ ((xo, .inl (cc 4, 1, .inr (.inl fo))) :: E))) (ka := 1) (kb := 6) (sz := [.int u.2, .int 0, .ref xo]) rfl rfl rfl rfl ?_
    refine q_i2l (pc := 6) C dL_regret_6 rfl ?_
    refine q_last (pc := 7) C 22 rfl ⟨by decide, by decide⟩ dL_regret_7 (ws1 := (cw cc g S ++ ((xo, .inl (cc 4, 1, .inr (.inl (vp_updL fo 0 u.2.toInt64)))) :: E))) rfl ?_
    refine q_goto (pc := 8) (tgt := 14) C dL_regret_8 (by decide) ?_
    refine q_iconst (pc := 14) C 0 dL_regret_14 q_ci_0 ?_
    exact q_iret (pc := 15) C dL_regret_15 ⟨rfl, rfl⟩
  · rintro _ _ ⟨rfl, hp, rfl⟩
    have hf := q_iteF hf (Nat.pos_iff_ne_zero.mp hp)
    by_cases h0 : u.1 = 2
    · have hf := q_iteT hf h0
      obtain rfl := q_some hf
      refine ⟨11, ⟨[], ⟨0, 8, 11, 18⟩, [], ht, (fun z hz => nomatch hz), by decide, by decide, by rw [h0]; exact (List.mem_of_getElem? (i := 1) rfl), by rw [h0]; decide, rfl⟩, fun a => ?_⟩
      refine q_nm (wz := (cw cc g S ++ ((xo, .inl (cc 4, 1, .inr (.inl fo))) :: E))) (ka := 1) (kb := 6) (sz := [.ref a]) rfl rfl rfl rfl ?_
      refine q_astore_n (pc := 11) (lvq := [(2, .ref a), (0, .ref (g 0)), (1, .ref xo)]) C dL_regret_11 rfl (by decide) rfl ?_
      refine q_iconst (pc := 12) C 1 dL_regret_12 q_ci_1 ?_
      exact q_iret (pc := 13) C dL_regret_13 ⟨rfl, rfl⟩
    have hf := q_iteF hf h0
    cases hf
def f_L_state (S : CS) (a1 : Int32) (fo : Nat → Int64) : Option (Int32 × (Nat → Int64) × CS) := ((fun u => (if u.1.1 = 0 then some ((0 : Int32), vp_updL fo 0 u.1.2.toInt64, u.2) else (if u.1.1 = 3 then some ((1 : Int32), fo, u.2) else none))) (f_X8_state a1 S))
theorem z_L_state : q_dsc yL_state 3 := ⟨by decide +kernel, by decide +kernel, by decide +kernel⟩
set_option maxRecDepth 100000 in
set_option maxHeartbeats 4000000 in
theorem c_L_state (l : Launch) (hfl : l.stackTraces = false) (D : va_G) (cc : Nat → ClassId) (N0 : Nat) (g : Nat → Nat) (xo : Nat) (E : va_W) (S : CS) (a1 : Int32) (fo : Nat → Int64) (v : Int32 × (Nat → Int64) × CS) (hf : f_L_state S a1 fo = some v) : q_Met l yL_state wsL_state 7 161 D cc N0 (cw cc g S ++ ((xo, .inl (cc 4, 1, .inr (.inl fo))) :: E)) [.ref (g 0), .int a1, .ref xo] (q_p (some (.int v.1)) (cw cc g v.2.2 ++ ((xo, .inl (cc 4, 1, .inr (.inl v.2.1))) :: E))) 1 6 := by
  refine q_ofH (code := cL_state) (nL := 4) (ret := (some .int)) (hh := [(0, 9, 12, 20)]) (by decide +kernel) rfl (Nat.le_of_ble_eq_true rfl) (fun p e s m below meth c C ht => ?_)
  refine q_lv (lv2 := [(0, .ref (g 0)), (1, .int a1), (2, .ref xo)]) rfl ?_
  obtain ⟨u, hu⟩ : ∃ u, f_X8_state a1 S = u := ⟨_, rfl⟩
  rw [f_L_state, hu] at hf
  have hf : (if u.1.1 = 0 then some ((0 : Int32), vp_updL fo 0 u.1.2.toInt64, u.2) else (if u.1.1 = 3 then some ((1 : Int32), fo, u.2) else none)) = some v := hf
  refine q_aload_n (pc := 0) C dL_state_0 rfl 2 rfl ?_
  refine q_iconst (pc := 1) C 0 dL_state_1 q_ci_0 ?_
  refine q_aload_n (pc := 2) C dL_state_2 rfl 0 rfl ?_
  refine q_iload_n (pc := 3) C dL_state_3 rfl 1 rfl ?_
  refine q_callVC (pc := 4) (As := [.int a1]) (rest := [.int 0, .ref xo]) C (c_X8_state l hfl D cc N0 g ((xo, .inl (cc 4, 1, .inr (.inl fo))) :: E) S a1 u hu) gL_state_X8_state rfl rfl z_X8_state ⟨(Nat.le_of_ble_eq_true rfl), (Nat.le_of_ble_eq_true rfl)⟩ (q0 := 0) (cw_at_0 cc g _ S) rfl rfl rfl (Nat.le_of_ble_eq_true rfl) dL_state_4 ⟨(Nat.le_of_ble_eq_true rfl), (Nat.le_of_ble_eq_true rfl)⟩ ?_ ?_
  · rintro _ _ ⟨h0, rfl, rfl⟩
    have hf := q_iteT hf h0
    obtain rfl := q_some hf
    refine q_nm (wz := (cw cc g u.2 ++ ((xo, .inl (cc 4, 1, .inr (.inl fo))) :: E))) (ka := 1) (kb := 6) (sz := [.int u.1.2, .int 0, .ref xo]) rfl rfl rfl rfl ?_
    refine q_i2l (pc := 7) C dL_state_7 rfl ?_
    refine q_last (pc := 8) C 22 rfl ⟨by decide, by decide⟩ dL_state_8 (ws1 := (cw cc g u.2 ++ ((xo, .inl (cc 4, 1, .inr (.inl (vp_updL fo 0 u.1.2.toInt64)))) :: E))) rfl ?_
    refine q_goto (pc := 9) (tgt := 15) C dL_state_9 (by decide) ?_
    refine q_iconst (pc := 15) C 0 dL_state_15 q_ci_0 ?_
    exact q_iret (pc := 16) C dL_state_16 ⟨rfl, rfl⟩
  · rintro _ _ ⟨rfl, hp, rfl⟩
    have hf := q_iteF hf (Nat.pos_iff_ne_zero.mp hp)
    by_cases h0 : u.1.1 = 3
    · have hf := q_iteT hf h0
      obtain rfl := q_some hf
      refine ⟨12, ⟨[], ⟨0, 9, 12, 20⟩, [], ht, (fun z hz => nomatch hz), by decide, by decide, by rw [h0]; exact (List.mem_of_getElem? (i := 1) rfl), by rw [h0]; decide, rfl⟩, fun a => ?_⟩
      refine q_nm (wz := (cw cc g u.2 ++ ((xo, .inl (cc 4, 1, .inr (.inl fo))) :: E))) (ka := 1) (kb := 6) (sz := [.ref a]) rfl rfl rfl rfl ?_
      refine q_astore_n (pc := 12) (lvq := [(3, .ref a), (0, .ref (g 0)), (1, .int a1), (2, .ref xo)]) C dL_state_12 rfl (by decide) rfl ?_
      refine q_iconst (pc := 13) C 1 dL_state_13 q_ci_1 ?_
      exact q_iret (pc := 14) C dL_state_14 ⟨rfl, rfl⟩
    have hf := q_iteF hf h0
    cases hf
def f_L_go (S : CS) (a1 : Int32) (a2 : Int32) (a3 : Int32) (fo : Nat → Int64) : Option (Int32 × (Nat → Int64) × CS) := ((fun u => (if u.1.1 = 0 then some ((0 : Int32), vp_updL fo 0 u.1.2.toInt64, u.2) else (if u.1.1 = 4 then some ((1 : Int32), fo, u.2) else (if u.1.1 = 1 then some ((2 : Int32), fo, u.2) else none)))) (f_X8_go a1 a2 a3 S))
theorem z_L_go : q_dsc yL_go 5 := ⟨by decide +kernel, by decide +kernel, by decide +kernel⟩
set_option maxRecDepth 100000 in
set_option maxHeartbeats 4000000 in
theorem c_L_go (l : Launch) (hfl : l.stackTraces = false) (D : va_G) (cc : Nat → ClassId) (N0 : Nat) (g : Nat → Nat) (xo : Nat) (E : va_W) (S : CS) (a1 : Int32) (a2 : Int32) (a3 : Int32) (fo : Nat → Int64) (v : Int32 × (Nat → Int64) × CS) (hf : f_L_go S a1 a2 a3 fo = some v) : q_Met l yL_go wsL_go 7 163 D cc N0 (cw cc g S ++ ((xo, .inl (cc 4, 1, .inr (.inl fo))) :: E)) [.ref (g 0), .int a1, .int a2, .int a3, .ref xo] (q_p (some (.int v.1)) (cw cc g v.2.2 ++ ((xo, .inl (cc 4, 1, .inr (.inl v.2.1))) :: E))) 1 6 := by
  refine q_ofH (code := cL_go) (nL := 6) (ret := (some .int)) (hh := [(0, 12, 15, 29), (0, 12, 19, 13)]) (by decide +kernel) rfl (Nat.le_of_ble_eq_true rfl) (fun p e s m below meth c C ht => ?_)
  refine q_lv (lv2 := [(0, .ref (g 0)), (1, .int a1), (2, .int a2), (3, .int a3), (4, .ref xo)]) rfl ?_
  obtain ⟨u, hu⟩ : ∃ u, f_X8_go a1 a2 a3 S = u := ⟨_, rfl⟩
  rw [f_L_go, hu] at hf
  have hf : (if u.1.1 = 0 then some ((0 : Int32), vp_updL fo 0 u.1.2.toInt64, u.2) else (if u.1.1 = 4 then some ((1 : Int32), fo, u.2) else (if u.1.1 = 1 then some ((2 : Int32), fo, u.2) else none))) = some v := hf
  refine q_aload (pc := 0) C dL_go_0 4 rfl ?_
  refine q_iconst (pc := 2) C 0 dL_go_2 q_ci_0 ?_
  refine q_aload_n (pc := 3) C dL_go_3 rfl 0 rfl ?_
  refine q_iload_n (pc := 4) C dL_go_4 rfl 1 rfl ?_
  refine q_iload_n (pc := 5) C dL_go_5 rfl 2 rfl ?_
  refine q_iload_n (pc := 6) C dL_go_6 rfl 3 rfl ?_
  refine q_callVC (pc := 7) (As := [.int a1, .int a2, .int a3]) (rest := [.int 0, .ref xo]) C (c_X8_go l hfl D cc N0 g ((xo, .inl (cc 4, 1, .inr (.inl fo))) :: E) S a1 a2 a3 u hu) gL_go_X8_go rfl rfl z_X8_go ⟨(Nat.le_of_ble_eq_true rfl), (Nat.le_of_ble_eq_true rfl)⟩ (q0 := 0) (cw_at_0 cc g _ S) rfl rfl rfl (Nat.le_of_ble_eq_true rfl) dL_go_7 ⟨(Nat.le_of_ble_eq_true rfl), (Nat.le_of_ble_eq_true rfl)⟩ ?_ ?_
  · rintro _ _ ⟨h0, rfl, rfl⟩
    have hf := q_iteT hf h0
    obtain rfl := q_some hf
    refine q_nm (wz := (cw cc g u.2 ++ ((xo, .inl (cc 4, 1, .inr (.inl fo))) :: E))) (ka := 1) (kb := 6) (sz := [.int u.1.2, .int 0, .ref xo]) rfl rfl rfl rfl ?_
    refine q_i2l (pc := 10) C dL_go_10 rfl ?_
    refine q_last (pc := 11) C 22 rfl ⟨by decide, by decide⟩ dL_go_11 (ws1 := (cw cc g u.2 ++ ((xo, .inl (cc 4, 1, .inr (.inl (vp_updL fo 0 u.1.2.toInt64)))) :: E))) rfl ?_
    refine q_goto (pc := 12) (tgt := 23) C dL_go_12 (by decide) ?_
    refine q_iconst (pc := 23) C 0 dL_go_23 q_ci_0 ?_
    exact q_iret (pc := 24) C dL_go_24 ⟨rfl, rfl⟩
  · rintro _ _ ⟨rfl, hp, rfl⟩
    have hf := q_iteF hf (Nat.pos_iff_ne_zero.mp hp)
    by_cases h0 : u.1.1 = 4
    · have hf := q_iteT hf h0
      obtain rfl := q_some hf
      refine ⟨15, ⟨[], ⟨0, 12, 15, 29⟩, [⟨0, 12, 19, 13⟩], ht, (fun z hz => nomatch hz), by decide, by decide, by rw [h0]; exact (List.mem_of_getElem? (i := 1) rfl), by rw [h0]; decide, rfl⟩, fun a => ?_⟩
      refine q_nm (wz := (cw cc g u.2 ++ ((xo, .inl (cc 4, 1, .inr (.inl fo))) :: E))) (ka := 1) (kb := 6) (sz := [.ref a]) rfl rfl rfl rfl ?_
      refine q_astore (pc := 15) (lvq := [(5, .ref a), (0, .ref (g 0)), (1, .int a1), (2, .int a2), (3, .int a3), (4, .ref xo)]) C dL_go_15 (by decide) rfl ?_
      refine q_iconst (pc := 17) C 1 dL_go_17 q_ci_1 ?_
      exact q_iret (pc := 18) C dL_go_18 ⟨rfl, rfl⟩
    have hf := q_iteF hf h0
    by_cases h1 : u.1.1 = 1
    · have hf := q_iteT hf h1
      obtain rfl := q_some hf
      refine ⟨19, ⟨[⟨0, 12, 15, 29⟩], ⟨0, 12, 19, 13⟩, [], ht, (List.forall_mem_cons.mpr ⟨Or.inr ⟨by decide, "java/lang/IndexOutOfBoundsException", (List.mem_of_getElem? (i := 1) rfl), by rw [h1]; decide⟩, (fun z hz => nomatch hz)⟩), by decide, by decide, by rw [h1]; exact (List.mem_of_getElem? (i := 2) rfl), by rw [h1]; decide, rfl⟩, fun a => ?_⟩
      refine q_nm (wz := (cw cc g u.2 ++ ((xo, .inl (cc 4, 1, .inr (.inl fo))) :: E))) (ka := 1) (kb := 6) (sz := [.ref a]) rfl rfl rfl rfl ?_
      refine q_astore (pc := 19) (lvq := [(5, .ref a), (0, .ref (g 0)), (1, .int a1), (2, .int a2), (3, .int a3), (4, .ref xo)]) C dL_go_19 (by decide) rfl ?_
      refine q_iconst (pc := 21) C 2 dL_go_21 q_ci_2 ?_
      exact q_iret (pc := 22) C dL_go_22 ⟨rfl, rfl⟩
    have hf := q_iteF hf h1
    cases hf
def f_L_accepts (S : CS) (a1 : Int32) (a2 : Int32) (fo : Nat → Int64) : Option (Int32 × (Nat → Int64) × CS) := ((f_X8_accepts S a1 a2).bind fun u => (if u.1 = 0 then some ((0 : Int32), vp_updL fo 0 (if q_b u.2 = 0 then (0 : Int64) else 1), S) else (if u.1 = 1 then some ((1 : Int32), fo, S) else (if u.1 = 2 then some ((2 : Int32), fo, S) else none))))
theorem z_L_accepts : q_dsc yL_accepts 4 := ⟨by decide +kernel, by decide +kernel, by decide +kernel⟩
set_option maxRecDepth 100000 in
set_option maxHeartbeats 4000000 in
theorem c_L_accepts (l : Launch) (hfl : l.stackTraces = false) (D : va_G) (cc : Nat → ClassId) (N0 : Nat) (g : Nat → Nat) (xo : Nat) (E : va_W) (S : CS) (a1 : Int32) (a2 : Int32) (fo : Nat → Int64) (v : Int32 × (Nat → Int64) × CS) (hf : f_L_accepts S a1 a2 fo = some v) : q_Met l yL_accepts wsL_accepts 7 162 D cc N0 (cw cc g S ++ ((xo, .inl (cc 4, 1, .inr (.inl fo))) :: E)) [.ref (g 0), .int a1, .int a2, .ref xo] (q_p (some (.int v.1)) (cw cc g v.2.2 ++ ((xo, .inl (cc 4, 1, .inr (.inl v.2.1))) :: E))) 1 6 := by
  refine q_ofH (code := cL_accepts) (nL := 5) (ret := (some .int)) (hh := [(0, 17, 20, 13), (0, 17, 24, 18)]) (by decide +kernel) rfl (Nat.le_of_ble_eq_true rfl) (fun p e s m below meth c C ht => ?_)
  refine q_lv (lv2 := [(0, .ref (g 0)), (1, .int a1), (2, .int a2), (3, .ref xo)]) rfl ?_
  obtain ⟨u, hu, hf⟩ := q_bind hf
  refine q_aload_n (pc := 0) C dL_accepts_0 rfl 3 rfl ?_
  refine q_iconst (pc := 1) C 0 dL_accepts_1 q_ci_0 ?_
  refine q_aload_n (pc := 2) C dL_accepts_2 rfl 0 rfl ?_
  refine q_iload_n (pc := 3) C dL_accepts_3 rfl 1 rfl ?_
  refine q_iload_n (pc := 4) C dL_accepts_4 rfl 2 rfl ?_
  refine q_callVC (pc := 5) (As := [.int a1, .int a2]) (rest := [.int 0, .ref xo]) C (c_X8_accepts l hfl D cc N0 g ((xo, .inl (cc 4, 1, .inr (.inl fo))) :: E) S a1 a2 u hu) gL_accepts_X8_accepts rfl rfl z_X8_accepts ⟨(Nat.le_of_ble_eq_true rfl), (Nat.le_of_ble_eq_true rfl)⟩ (q0 := 0) (cw_at_0 cc g _ S) rfl rfl rfl (Nat.le_of_ble_eq_true rfl) dL_accepts_5 ⟨(Nat.le_of_ble_eq_true rfl), (Nat.le_of_ble_eq_true rfl)⟩ ?_ ?_
  · rintro _ _ ⟨h0, rfl, rfl⟩
    have hf := q_iteT hf h0
    obtain rfl := q_some hf
    refine q_nm (wz := (cw cc g S ++ ((xo, .inl (cc 4, 1, .inr (.inl fo))) :: E))) (ka := 1) (kb := 6) (sz := [.int (q_b u.2), .int 0, .ref xo]) rfl rfl rfl rfl ?_
    refine q_if_eq (pc := 8) (tgt := 15) C dL_accepts_8 (by decide) (fun c1 => ?_) (fun c1 => ?_)
    · refine q_lconst (pc := 15) C 0 dL_accepts_15 q_cl_0 ?_
      refine q_last (pc := 16) C 22 rfl ⟨by decide, by decide⟩ dL_accepts_16 (ws1 := (cw cc g S ++ ((xo, .inl (cc 4, 1, .inr (.inl (vp_updL fo 0 (0 : Int64))))) :: E))) rfl ?_
      refine q_goto (pc := 17) (tgt := 28) C dL_accepts_17 (by decide) ?_
      refine q_iconst (pc := 28) C 0 dL_accepts_28 q_ci_0 ?_
      exact q_iret (pc := 29) C dL_accepts_29 ⟨rfl, by rw [if_pos c1]⟩
    · refine q_lconst (pc := 11) C 1 dL_accepts_11 q_cl_1 ?_
      refine q_goto (pc := 12) (tgt := 16) C dL_accepts_12 (by decide) ?_
      refine q_last (pc := 16) C 22 rfl ⟨by decide, by decide⟩ dL_accepts_16 (ws1 := (cw cc g S ++ ((xo, .inl (cc 4, 1, .inr (.inl (vp_updL fo 0 (1 : Int64))))) :: E))) rfl ?_
      refine q_goto (pc := 17) (tgt := 28) C dL_accepts_17 (by decide) ?_
      refine q_iconst (pc := 28) C 0 dL_accepts_28 q_ci_0 ?_
      exact q_iret (pc := 29) C dL_accepts_29 ⟨rfl, by rw [if_neg c1]⟩
  · rintro _ _ ⟨rfl, hp, rfl⟩
    have hf := q_iteF hf (Nat.pos_iff_ne_zero.mp hp)
    by_cases h0 : u.1 = 1
    · have hf := q_iteT hf h0
      obtain rfl := q_some hf
      refine ⟨20, ⟨[], ⟨0, 17, 20, 13⟩, [⟨0, 17, 24, 18⟩], ht, (fun z hz => nomatch hz), by decide, by decide, by rw [h0]; exact (List.mem_of_getElem? (i := 1) rfl), by rw [h0]; decide, rfl⟩, fun a => ?_⟩
      refine q_nm (wz := (cw cc g S ++ ((xo, .inl (cc 4, 1, .inr (.inl fo))) :: E))) (ka := 1) (kb := 6) (sz := [.ref a]) rfl rfl rfl rfl ?_
      refine q_astore (pc := 20) (lvq := [(4, .ref a), (0, .ref (g 0)), (1, .int a1), (2, .int a2), (3, .ref xo)]) C dL_accepts_20 (by decide) rfl ?_
      refine q_iconst (pc := 22) C 1 dL_accepts_22 q_ci_1 ?_
      exact q_iret (pc := 23) C dL_accepts_23 ⟨rfl, rfl⟩
    have hf := q_iteF hf h0
    by_cases h1 : u.1 = 2
    · have hf := q_iteT hf h1
      obtain rfl := q_some hf
      refine ⟨24, ⟨[⟨0, 17, 20, 13⟩], ⟨0, 17, 24, 18⟩, [], ht, (List.forall_mem_cons.mpr ⟨Or.inr ⟨by decide, "java/lang/IllegalArgumentException", (List.mem_of_getElem? (i := 1) rfl), by rw [h1]; decide⟩, (fun z hz => nomatch hz)⟩), by decide, by decide, by rw [h1]; exact (List.mem_of_getElem? (i := 2) rfl), by rw [h1]; decide, rfl⟩, fun a => ?_⟩
      refine q_nm (wz := (cw cc g S ++ ((xo, .inl (cc 4, 1, .inr (.inl fo))) :: E))) (ka := 1) (kb := 6) (sz := [.ref a]) rfl rfl rfl rfl ?_
      refine q_astore (pc := 24) (lvq := [(4, .ref a), (0, .ref (g 0)), (1, .int a1), (2, .int a2), (3, .ref xo)]) C dL_accepts_24 (by decide) rfl ?_
      refine q_iconst (pc := 26) C 2 dL_accepts_26 q_ci_2 ?_
      exact q_iret (pc := 27) C dL_accepts_27 ⟨rfl, rfl⟩
    have hf := q_iteF hf h1
    cases hf
def f_L_apart (S : CS) (a1 : Int32) (a2 : Int32) (fo : Nat → Int64) : Option (Int32 × (Nat → Int64) × CS) := ((f_X8_apart S a1 a2).bind fun u => (if u.1 = 0 then some ((0 : Int32), vp_updL fo 0 u.2.toInt64, S) else (if u.1 = 4 then some ((1 : Int32), fo, S) else (if u.1 = 5 then some ((2 : Int32), fo, S) else none))))
theorem z_L_apart : q_dsc yL_apart 4 := ⟨by decide +kernel, by decide +kernel, by decide +kernel⟩
set_option maxRecDepth 100000 in
set_option maxHeartbeats 4000000 in
theorem c_L_apart (l : Launch) (hfl : l.stackTraces = false) (D : va_G) (cc : Nat → ClassId) (N0 : Nat) (g : Nat → Nat) (xo : Nat) (E : va_W) (S : CS) (a1 : Int32) (a2 : Int32) (fo : Nat → Int64) (v : Int32 × (Nat → Int64) × CS) (hf : f_L_apart S a1 a2 fo = some v) : q_Met l yL_apart wsL_apart 7 163 D cc N0 (cw cc g S ++ ((xo, .inl (cc 4, 1, .inr (.inl fo))) :: E)) [.ref (g 0), .int a1, .int a2, .ref xo] (q_p (some (.int v.1)) (cw cc g v.2.2 ++ ((xo, .inl (cc 4, 1, .inr (.inl v.2.1))) :: E))) 1 6 := by
  refine q_ofH (code := cL_apart) (nL := 5) (ret := (some .int)) (hh := [(0, 10, 13, 29), (0, 10, 17, 59)]) (by decide +kernel) rfl (Nat.le_of_ble_eq_true rfl) (fun p e s m below meth c C ht => ?_)
  refine q_lv (lv2 := [(0, .ref (g 0)), (1, .int a1), (2, .int a2), (3, .ref xo)]) rfl ?_
  obtain ⟨u, hu, hf⟩ := q_bind hf
  refine q_aload_n (pc := 0) C dL_apart_0 rfl 3 rfl ?_
  refine q_iconst (pc := 1) C 0 dL_apart_1 q_ci_0 ?_
  refine q_aload_n (pc := 2) C dL_apart_2 rfl 0 rfl ?_
  refine q_iload_n (pc := 3) C dL_apart_3 rfl 1 rfl ?_
  refine q_iload_n (pc := 4) C dL_apart_4 rfl 2 rfl ?_
  refine q_callVC (pc := 5) (As := [.int a1, .int a2]) (rest := [.int 0, .ref xo]) C (c_X8_apart l hfl D cc N0 g ((xo, .inl (cc 4, 1, .inr (.inl fo))) :: E) S a1 a2 u hu) gL_apart_X8_apart rfl rfl z_X8_apart ⟨(Nat.le_of_ble_eq_true rfl), (Nat.le_of_ble_eq_true rfl)⟩ (q0 := 0) (cw_at_0 cc g _ S) rfl rfl rfl (Nat.le_of_ble_eq_true rfl) dL_apart_5 ⟨(Nat.le_of_ble_eq_true rfl), (Nat.le_of_ble_eq_true rfl)⟩ ?_ ?_
  · rintro _ _ ⟨h0, rfl, rfl⟩
    have hf := q_iteT hf h0
    obtain rfl := q_some hf
    refine q_nm (wz := (cw cc g S ++ ((xo, .inl (cc 4, 1, .inr (.inl fo))) :: E))) (ka := 1) (kb := 6) (sz := [.int u.2, .int 0, .ref xo]) rfl rfl rfl rfl ?_
    refine q_i2l (pc := 8) C dL_apart_8 rfl ?_
    refine q_last (pc := 9) C 22 rfl ⟨by decide, by decide⟩ dL_apart_9 (ws1 := (cw cc g S ++ ((xo, .inl (cc 4, 1, .inr (.inl (vp_updL fo 0 u.2.toInt64)))) :: E))) rfl ?_
    refine q_goto (pc := 10) (tgt := 21) C dL_apart_10 (by decide) ?_
    refine q_iconst (pc := 21) C 0 dL_apart_21 q_ci_0 ?_
    exact q_iret (pc := 22) C dL_apart_22 ⟨rfl, rfl⟩
  · rintro _ _ ⟨rfl, hp, rfl⟩
    have hf := q_iteF hf (Nat.pos_iff_ne_zero.mp hp)
    by_cases h0 : u.1 = 4
    · have hf := q_iteT hf h0
      obtain rfl := q_some hf
      refine ⟨13, ⟨[], ⟨0, 10, 13, 29⟩, [⟨0, 10, 17, 59⟩], ht, (fun z hz => nomatch hz), by decide, by decide, by rw [h0]; exact (List.mem_of_getElem? (i := 1) rfl), by rw [h0]; decide, rfl⟩, fun a => ?_⟩
      refine q_nm (wz := (cw cc g S ++ ((xo, .inl (cc 4, 1, .inr (.inl fo))) :: E))) (ka := 1) (kb := 6) (sz := [.ref a]) rfl rfl rfl rfl ?_
      refine q_astore (pc := 13) (lvq := [(4, .ref a), (0, .ref (g 0)), (1, .int a1), (2, .int a2), (3, .ref xo)]) C dL_apart_13 (by decide) rfl ?_
      refine q_iconst (pc := 15) C 1 dL_apart_15 q_ci_1 ?_
      exact q_iret (pc := 16) C dL_apart_16 ⟨rfl, rfl⟩
    have hf := q_iteF hf h0
    by_cases h1 : u.1 = 5
    · have hf := q_iteT hf h1
      obtain rfl := q_some hf
      refine ⟨17, ⟨[⟨0, 10, 13, 29⟩], ⟨0, 10, 17, 59⟩, [], ht, (List.forall_mem_cons.mpr ⟨Or.inr ⟨by decide, "java/lang/IndexOutOfBoundsException", (List.mem_of_getElem? (i := 1) rfl), by rw [h1]; decide⟩, (fun z hz => nomatch hz)⟩), by decide, by decide, by rw [h1]; exact (List.mem_of_getElem? (i := 2) rfl), by rw [h1]; decide, rfl⟩, fun a => ?_⟩
      refine q_nm (wz := (cw cc g S ++ ((xo, .inl (cc 4, 1, .inr (.inl fo))) :: E))) (ka := 1) (kb := 6) (sz := [.ref a]) rfl rfl rfl rfl ?_
      refine q_astore (pc := 17) (lvq := [(4, .ref a), (0, .ref (g 0)), (1, .int a1), (2, .int a2), (3, .ref xo)]) C dL_apart_17 (by decide) rfl ?_
      refine q_iconst (pc := 19) C 2 dL_apart_19 q_ci_2 ?_
      exact q_iret (pc := 20) C dL_apart_20 ⟨rfl, rfl⟩
    have hf := q_iteF hf h1
    cases hf
def f_L_leastStates (S : CS) (fo : Nat → Int64) : Option (Int32 × (Nat → Int64) × CS) := ((f_X8_leastStates S).bind fun u => (if u.1 = 0 then some ((0 : Int32), vp_updL fo 0 u.2.toInt64, S) else (if u.1 = 2 then some ((1 : Int32), fo, S) else none)))
theorem z_L_leastStates : q_dsc yL_leastStates 2 := ⟨by decide +kernel, by decide +kernel, by decide +kernel⟩
set_option maxRecDepth 100000 in
set_option maxHeartbeats 4000000 in
theorem c_L_leastStates (l : Launch) (hfl : l.stackTraces = false) (D : va_G) (cc : Nat → ClassId) (N0 : Nat) (g : Nat → Nat) (xo : Nat) (E : va_W) (S : CS) (fo : Nat → Int64) (v : Int32 × (Nat → Int64) × CS) (hf : f_L_leastStates S fo = some v) : q_Met l yL_leastStates wsL_leastStates 7 160 D cc N0 (cw cc g S ++ ((xo, .inl (cc 4, 1, .inr (.inl fo))) :: E)) [.ref (g 0), .ref xo] (q_p (some (.int v.1)) (cw cc g v.2.2 ++ ((xo, .inl (cc 4, 1, .inr (.inl v.2.1))) :: E))) 1 6 := by
  refine q_ofH (code := cL_leastStates) (nL := 3) (ret := (some .int)) (hh := [(0, 8, 11, 18)]) (by decide +kernel) rfl (Nat.le_of_ble_eq_true rfl) (fun p e s m below meth c C ht => ?_)
  refine q_lv (lv2 := [(0, .ref (g 0)), (1, .ref xo)]) rfl ?_
  obtain ⟨u, hu, hf⟩ := q_bind hf
  refine q_aload_n (pc := 0) C dL_leastStates_0 rfl 1 rfl ?_
  refine q_iconst (pc := 1) C 0 dL_leastStates_1 q_ci_0 ?_
  refine q_aload_n (pc := 2) C dL_leastStates_2 rfl 0 rfl ?_
  refine q_callVC (pc := 3) (As := []) (rest := [.int 0, .ref xo]) C (c_X8_leastStates l hfl D cc N0 g ((xo, .inl (cc 4, 1, .inr (.inl fo))) :: E) S u hu) gL_leastStates_X8_leastStates rfl rfl z_X8_leastStates ⟨(Nat.le_of_ble_eq_true rfl), (Nat.le_of_ble_eq_true rfl)⟩ (q0 := 0) (cw_at_0 cc g _ S) rfl rfl rfl (Nat.le_of_ble_eq_true rfl) dL_leastStates_3 ⟨(Nat.le_of_ble_eq_true rfl), (Nat.le_of_ble_eq_true rfl)⟩ ?_ ?_
  · rintro _ _ ⟨h0, rfl, rfl⟩
    have hf := q_iteT hf h0
    obtain rfl := q_some hf
    refine q_nm (wz := (cw cc g S ++ ((xo, .inl (cc 4, 1, .inr (.inl fo))) :: E))) (ka := 1) (kb := 6) (sz := [.int u.2, .int 0, .ref xo]) rfl rfl rfl rfl ?_
    refine q_i2l (pc := 6) C dL_leastStates_6 rfl ?_
    refine q_last (pc := 7) C 22 rfl ⟨by decide, by decide⟩ dL_leastStates_7 (ws1 := (cw cc g S ++ ((xo, .inl (cc 4, 1, .inr (.inl (vp_updL fo 0 u.2.toInt64)))) :: E))) rfl ?_
    refine q_goto (pc := 8) (tgt := 14) C dL_leastStates_8 (by decide) ?_
    refine q_iconst (pc := 14) C 0 dL_leastStates_14 q_ci_0 ?_
    exact q_iret (pc := 15) C dL_leastStates_15 ⟨rfl, rfl⟩
  · rintro _ _ ⟨rfl, hp, rfl⟩
    have hf := q_iteF hf (Nat.pos_iff_ne_zero.mp hp)
    by_cases h0 : u.1 = 2
    · have hf := q_iteT hf h0
      obtain rfl := q_some hf
      refine ⟨11, ⟨[], ⟨0, 8, 11, 18⟩, [], ht, (fun z hz => nomatch hz), by decide, by decide, by rw [h0]; exact (List.mem_of_getElem? (i := 1) rfl), by rw [h0]; decide, rfl⟩, fun a => ?_⟩
      refine q_nm (wz := (cw cc g S ++ ((xo, .inl (cc 4, 1, .inr (.inl fo))) :: E))) (ka := 1) (kb := 6) (sz := [.ref a]) rfl rfl rfl rfl ?_
      refine q_astore_n (pc := 11) (lvq := [(2, .ref a), (0, .ref (g 0)), (1, .ref xo)]) C dL_leastStates_11 rfl (by decide) rfl ?_
      refine q_iconst (pc := 12) C 1 dL_leastStates_12 q_ci_1 ?_
      exact q_iret (pc := 13) C dL_leastStates_13 ⟨rfl, rfl⟩
    have hf := q_iteF hf h0
    cases hf
def f_L_sample (S : CS) (a1 : Int32) (a2 : Int32) (a3 : Int32) (fo : Nat → Int64) : Option (Int32 × (Nat → Int64) × CS) := ((f_X8_sample a1 a2 a3 S).bind fun u => (if u.1.1 = 0 then some ((0 : Int32), vp_updL fo 0 u.1.2.toInt64, u.2) else (if u.1.1 = 1 then some ((1 : Int32), fo, u.2) else (if u.1.1 = 2 then some ((2 : Int32), fo, u.2) else (if u.1.1 = 3 then some ((3 : Int32), fo, u.2) else none)))))
theorem z_L_sample : q_dsc yL_sample 5 := ⟨by decide +kernel, by decide +kernel, by decide +kernel⟩
set_option maxRecDepth 100000 in
set_option maxHeartbeats 4000000 in
theorem c_L_sample (l : Launch) (hfl : l.stackTraces = false) (D : va_G) (cc : Nat → ClassId) (N0 : Nat) (g : Nat → Nat) (xo : Nat) (E : va_W) (S : CS) (a1 : Int32) (a2 : Int32) (a3 : Int32) (fo : Nat → Int64) (v : Int32 × (Nat → Int64) × CS) (hf : f_L_sample S a1 a2 a3 fo = some v) : q_Met l yL_sample wsL_sample 7 163 D cc N0 (cw cc g S ++ ((xo, .inl (cc 4, 1, .inr (.inl fo))) :: E)) [.ref (g 0), .int a1, .int a2, .int a3, .ref xo] (q_p (some (.int v.1)) (cw cc g v.2.2 ++ ((xo, .inl (cc 4, 1, .inr (.inl v.2.1))) :: E))) 1 6 := by
  refine q_ofH (code := cL_sample) (nL := 6) (ret := (some .int)) (hh := [(0, 12, 15, 13), (0, 12, 19, 18), (0, 12, 23, 20)]) (by decide +kernel) rfl (Nat.le_of_ble_eq_true rfl) (fun p e s m below meth c C ht => ?_)
  refine q_lv (lv2 := [(0, .ref (g 0)), (1, .int a1), (2, .int a2), (3, .int a3), (4, .ref xo)]) rfl ?_
  obtain ⟨u, hu, hf⟩ := q_bind hf
  refine q_aload (pc := 0) C dL_sample_0 4 rfl ?_
  refine q_iconst (pc := 2) C 0 dL_sample_2 q_ci_0 ?_
  refine q_aload_n (pc := 3) C dL_sample_3 rfl 0 rfl ?_
  refine q_iload_n (pc := 4) C dL_sample_4 rfl 1 rfl ?_
  refine q_iload_n (pc := 5) C dL_sample_5 rfl 2 rfl ?_
  refine q_iload_n (pc := 6) C dL_sample_6 rfl 3 rfl ?_
  refine q_callVC (pc := 7) (As := [.int a1, .int a2, .int a3]) (rest := [.int 0, .ref xo]) C (c_X8_sample l hfl D cc N0 g ((xo, .inl (cc 4, 1, .inr (.inl fo))) :: E) S a1 a2 a3 u hu) gL_sample_X8_sample rfl rfl z_X8_sample ⟨(Nat.le_of_ble_eq_true rfl), (Nat.le_of_ble_eq_true rfl)⟩ (q0 := 0) (cw_at_0 cc g _ S) rfl rfl rfl (Nat.le_of_ble_eq_true rfl) dL_sample_7 ⟨(Nat.le_of_ble_eq_true rfl), (Nat.le_of_ble_eq_true rfl)⟩ ?_ ?_
  · rintro _ _ ⟨h0, rfl, rfl⟩
    have hf := q_iteT hf h0
    obtain rfl := q_some hf
    refine q_nm (wz := (cw cc g u.2 ++ ((xo, .inl (cc 4, 1, .inr (.inl fo))) :: E))) (ka := 1) (kb := 6) (sz := [.int u.1.2, .int 0, .ref xo]) rfl rfl rfl rfl ?_
    refine q_i2l (pc := 10) C dL_sample_10 rfl ?_
    refine q_last (pc := 11) C 22 rfl ⟨by decide, by decide⟩ dL_sample_11 (ws1 := (cw cc g u.2 ++ ((xo, .inl (cc 4, 1, .inr (.inl (vp_updL fo 0 u.1.2.toInt64)))) :: E))) rfl ?_
    refine q_goto (pc := 12) (tgt := 27) C dL_sample_12 (by decide) ?_
    refine q_iconst (pc := 27) C 0 dL_sample_27 q_ci_0 ?_
    exact q_iret (pc := 28) C dL_sample_28 ⟨rfl, rfl⟩
  · rintro _ _ ⟨rfl, hp, rfl⟩
    have hf := q_iteF hf (Nat.pos_iff_ne_zero.mp hp)
    by_cases h0 : u.1.1 = 1
    · have hf := q_iteT hf h0
      obtain rfl := q_some hf
      refine ⟨15, ⟨[], ⟨0, 12, 15, 13⟩, [⟨0, 12, 19, 18⟩, ⟨0, 12, 23, 20⟩], ht, (fun z hz => nomatch hz), by decide, by decide, by rw [h0]; exact (List.mem_of_getElem? (i := 1) rfl), by rw [h0]; decide, rfl⟩, fun a => ?_⟩
      refine q_nm (wz := (cw cc g u.2 ++ ((xo, .inl (cc 4, 1, .inr (.inl fo))) :: E))) (ka := 1) (kb := 6) (sz := [.ref a]) rfl rfl rfl rfl ?_
      refine q_astore (pc := 15) (lvq := [(5, .ref a), (0, .ref (g 0)), (1, .int a1), (2, .int a2), (3, .int a3), (4, .ref xo)]) C dL_sample_15 (by decide) rfl ?_
      refine q_iconst (pc := 17) C 1 dL_sample_17 q_ci_1 ?_
      exact q_iret (pc := 18) C dL_sample_18 ⟨rfl, rfl⟩
    have hf := q_iteF hf h0
    by_cases h1 : u.1.1 = 2
    · have hf := q_iteT hf h1
      obtain rfl := q_some hf
      refine ⟨19, ⟨[⟨0, 12, 15, 13⟩], ⟨0, 12, 19, 18⟩, [⟨0, 12, 23, 20⟩], ht, (List.forall_mem_cons.mpr ⟨Or.inr ⟨by decide, "java/lang/IllegalArgumentException", (List.mem_of_getElem? (i := 1) rfl), by rw [h1]; decide⟩, (fun z hz => nomatch hz)⟩), by decide, by decide, by rw [h1]; exact (List.mem_of_getElem? (i := 2) rfl), by rw [h1]; decide, rfl⟩, fun a => ?_⟩
      refine q_nm (wz := (cw cc g u.2 ++ ((xo, .inl (cc 4, 1, .inr (.inl fo))) :: E))) (ka := 1) (kb := 6) (sz := [.ref a]) rfl rfl rfl rfl ?_
      refine q_astore (pc := 19) (lvq := [(5, .ref a), (0, .ref (g 0)), (1, .int a1), (2, .int a2), (3, .int a3), (4, .ref xo)]) C dL_sample_19 (by decide) rfl ?_
      refine q_iconst (pc := 21) C 2 dL_sample_21 q_ci_2 ?_
      exact q_iret (pc := 22) C dL_sample_22 ⟨rfl, rfl⟩
    have hf := q_iteF hf h1
    by_cases h2 : u.1.1 = 3
    · have hf := q_iteT hf h2
      obtain rfl := q_some hf
      refine ⟨23, ⟨[⟨0, 12, 15, 13⟩, ⟨0, 12, 19, 18⟩], ⟨0, 12, 23, 20⟩, [], ht, (List.forall_mem_cons.mpr ⟨Or.inr ⟨by decide, "java/lang/IllegalArgumentException", (List.mem_of_getElem? (i := 1) rfl), by rw [h2]; decide⟩, (List.forall_mem_cons.mpr ⟨Or.inr ⟨by decide, "java/lang/UnsupportedOperationException", (List.mem_of_getElem? (i := 2) rfl), by rw [h2]; decide⟩, (fun z hz => nomatch hz)⟩)⟩), by decide, by decide, by rw [h2]; exact (List.mem_of_getElem? (i := 3) rfl), by rw [h2]; decide, rfl⟩, fun a => ?_⟩
      refine q_nm (wz := (cw cc g u.2 ++ ((xo, .inl (cc 4, 1, .inr (.inl fo))) :: E))) (ka := 1) (kb := 6) (sz := [.ref a]) rfl rfl rfl rfl ?_
      refine q_astore (pc := 23) (lvq := [(5, .ref a), (0, .ref (g 0)), (1, .int a1), (2, .int a2), (3, .int a3), (4, .ref xo)]) C dL_sample_23 (by decide) rfl ?_
      refine q_iconst (pc := 25) C 3 dL_sample_25 q_ci_3 ?_
      exact q_iret (pc := 26) C dL_sample_26 ⟨rfl, rfl⟩
    have hf := q_iteF hf h2
    cases hf
def f_L_fits (S : CS) (fo : Nat → Int64) : Option (Int32 × (Nat → Int64) × CS) := ((f_X8_fits S).bind fun u => (if u.1 = 0 then some ((0 : Int32), vp_updL fo 0 (if q_b u.2 = 0 then (0 : Int64) else 1), S) else (if u.1 = 2 then some ((1 : Int32), fo, S) else none)))
theorem z_L_fits : q_dsc yL_fits 2 := ⟨by decide +kernel, by decide +kernel, by decide +kernel⟩
set_option maxRecDepth 100000 in
set_option maxHeartbeats 4000000 in
theorem c_L_fits (l : Launch) (hfl : l.stackTraces = false) (D : va_G) (cc : Nat → ClassId) (N0 : Nat) (g : Nat → Nat) (xo : Nat) (E : va_W) (S : CS) (fo : Nat → Int64) (v : Int32 × (Nat → Int64) × CS) (hf : f_L_fits S fo = some v) : q_Met l yL_fits wsL_fits 7 160 D cc N0 (cw cc g S ++ ((xo, .inl (cc 4, 1, .inr (.inl fo))) :: E)) [.ref (g 0), .ref xo] (q_p (some (.int v.1)) (cw cc g v.2.2 ++ ((xo, .inl (cc 4, 1, .inr (.inl v.2.1))) :: E))) 1 6 := by
  refine q_ofH (code := cL_fits) (nL := 3) (ret := (some .int)) (hh := [(0, 15, 18, 18)]) (by decide +kernel) rfl (Nat.le_of_ble_eq_true rfl) (fun p e s m below meth c C ht => ?_)
  refine q_lv (lv2 := [(0, .ref (g 0)), (1, .ref xo)]) rfl ?_
  obtain ⟨u, hu, hf⟩ := q_bind hf
  refine q_aload_n (pc := 0) C dL_fits_0 rfl 1 rfl ?_
  refine q_iconst (pc := 1) C 0 dL_fits_1 q_ci_0 ?_
  refine q_aload_n (pc := 2) C dL_fits_2 rfl 0 rfl ?_
  refine q_callVC (pc := 3) (As := []) (rest := [.int 0, .ref xo]) C (c_X8_fits l hfl D cc N0 g ((xo, .inl (cc 4, 1, .inr (.inl fo))) :: E) S u hu) gL_fits_X8_fits rfl rfl z_X8_fits ⟨(Nat.le_of_ble_eq_true rfl), (Nat.le_of_ble_eq_true rfl)⟩ (q0 := 0) (cw_at_0 cc g _ S) rfl rfl rfl (Nat.le_of_ble_eq_true rfl) dL_fits_3 ⟨(Nat.le_of_ble_eq_true rfl), (Nat.le_of_ble_eq_true rfl)⟩ ?_ ?_
  · rintro _ _ ⟨h0, rfl, rfl⟩
    have hf := q_iteT hf h0
    obtain rfl := q_some hf
    refine q_nm (wz := (cw cc g S ++ ((xo, .inl (cc 4, 1, .inr (.inl fo))) :: E))) (ka := 1) (kb := 6) (sz := [.int (q_b u.2), .int 0, .ref xo]) rfl rfl rfl rfl ?_
    refine q_if_eq (pc := 6) (tgt := 13) C dL_fits_6 (by decide) (fun c1 => ?_) (fun c1 => ?_)
    · refine q_lconst (pc := 13) C 0 dL_fits_13 q_cl_0 ?_
      refine q_last (pc := 14) C 22 rfl ⟨by decide, by decide⟩ dL_fits_14 (ws1 := (cw cc g S ++ ((xo, .inl (cc 4, 1, .inr (.inl (vp_updL fo 0 (0 : Int64))))) :: E))) rfl ?_
      refine q_goto (pc := 15) (tgt := 21) C dL_fits_15 (by decide) ?_
      refine q_iconst (pc := 21) C 0 dL_fits_21 q_ci_0 ?_
      exact q_iret (pc := 22) C dL_fits_22 ⟨rfl, by rw [if_pos c1]⟩
    · refine q_lconst (pc := 9) C 1 dL_fits_9 q_cl_1 ?_
      refine q_goto (pc := 10) (tgt := 14) C dL_fits_10 (by decide) ?_
      refine q_last (pc := 14) C 22 rfl ⟨by decide, by decide⟩ dL_fits_14 (ws1 := (cw cc g S ++ ((xo, .inl (cc 4, 1, .inr (.inl (vp_updL fo 0 (1 : Int64))))) :: E))) rfl ?_
      refine q_goto (pc := 15) (tgt := 21) C dL_fits_15 (by decide) ?_
      refine q_iconst (pc := 21) C 0 dL_fits_21 q_ci_0 ?_
      exact q_iret (pc := 22) C dL_fits_22 ⟨rfl, by rw [if_neg c1]⟩
  · rintro _ _ ⟨rfl, hp, rfl⟩
    have hf := q_iteF hf (Nat.pos_iff_ne_zero.mp hp)
    by_cases h0 : u.1 = 2
    · have hf := q_iteT hf h0
      obtain rfl := q_some hf
      refine ⟨18, ⟨[], ⟨0, 15, 18, 18⟩, [], ht, (fun z hz => nomatch hz), by decide, by decide, by rw [h0]; exact (List.mem_of_getElem? (i := 1) rfl), by rw [h0]; decide, rfl⟩, fun a => ?_⟩
      refine q_nm (wz := (cw cc g S ++ ((xo, .inl (cc 4, 1, .inr (.inl fo))) :: E))) (ka := 1) (kb := 6) (sz := [.ref a]) rfl rfl rfl rfl ?_
      refine q_astore_n (pc := 18) (lvq := [(2, .ref a), (0, .ref (g 0)), (1, .ref xo)]) C dL_fits_18 rfl (by decide) rfl ?_
      refine q_iconst (pc := 19) C 1 dL_fits_19 q_ci_1 ?_
      exact q_iret (pc := 20) C dL_fits_20 ⟨rfl, rfl⟩
    have hf := q_iteF hf h0
    cases hf
def f_L_fewest (S : CS) (fo : Nat → Int64) : Option (Int32 × (Nat → Int64) × CS) := ((f_X8_fewest S).bind fun u => (if u.1.1 = 0 then some ((0 : Int32), vp_updL fo 0 u.1.2.toInt64, u.2) else (if u.1.1 = 5 then some ((1 : Int32), fo, u.2) else none)))
theorem z_L_fewest : q_dsc yL_fewest 2 := ⟨by decide +kernel, by decide +kernel, by decide +kernel⟩
set_option maxRecDepth 100000 in
set_option maxHeartbeats 4000000 in
theorem c_L_fewest (l : Launch) (hfl : l.stackTraces = false) (D : va_G) (cc : Nat → ClassId) (N0 : Nat) (g : Nat → Nat) (xo : Nat) (E : va_W) (S : CS) (fo : Nat → Int64) (v : Int32 × (Nat → Int64) × CS) (hf : f_L_fewest S fo = some v) : q_Met l yL_fewest wsL_fewest 7 161 D cc N0 (cw cc g S ++ ((xo, .inl (cc 4, 1, .inr (.inl fo))) :: E)) [.ref (g 0), .ref xo] (q_p (some (.int v.1)) (cw cc g v.2.2 ++ ((xo, .inl (cc 4, 1, .inr (.inl v.2.1))) :: E))) 1 6 := by
  refine q_ofH (code := cL_fewest) (nL := 3) (ret := (some .int)) (hh := [(0, 8, 11, 59)]) (by decide +kernel) rfl (Nat.le_of_ble_eq_true rfl) (fun p e s m below meth c C ht => ?_)
  refine q_lv (lv2 := [(0, .ref (g 0)), (1, .ref xo)]) rfl ?_
  obtain ⟨u, hu, hf⟩ := q_bind hf
  refine q_aload_n (pc := 0) C dL_fewest_0 rfl 1 rfl ?_
  refine q_iconst (pc := 1) C 0 dL_fewest_1 q_ci_0 ?_
  refine q_aload_n (pc := 2) C dL_fewest_2 rfl 0 rfl ?_
  refine q_callVC (pc := 3) (As := []) (rest := [.int 0, .ref xo]) C (c_X8_fewest l hfl D cc N0 g ((xo, .inl (cc 4, 1, .inr (.inl fo))) :: E) S u hu) gL_fewest_X8_fewest rfl rfl z_X8_fewest ⟨(Nat.le_of_ble_eq_true rfl), (Nat.le_of_ble_eq_true rfl)⟩ (q0 := 0) (cw_at_0 cc g _ S) rfl rfl rfl (Nat.le_of_ble_eq_true rfl) dL_fewest_3 ⟨(Nat.le_of_ble_eq_true rfl), (Nat.le_of_ble_eq_true rfl)⟩ ?_ ?_
  · rintro _ _ ⟨h0, rfl, rfl⟩
    have hf := q_iteT hf h0
    obtain rfl := q_some hf
    refine q_nm (wz := (cw cc g u.2 ++ ((xo, .inl (cc 4, 1, .inr (.inl fo))) :: E))) (ka := 1) (kb := 6) (sz := [.int u.1.2, .int 0, .ref xo]) rfl rfl rfl rfl ?_
    refine q_i2l (pc := 6) C dL_fewest_6 rfl ?_
    refine q_last (pc := 7) C 22 rfl ⟨by decide, by decide⟩ dL_fewest_7 (ws1 := (cw cc g u.2 ++ ((xo, .inl (cc 4, 1, .inr (.inl (vp_updL fo 0 u.1.2.toInt64)))) :: E))) rfl ?_
    refine q_goto (pc := 8) (tgt := 14) C dL_fewest_8 (by decide) ?_
    refine q_iconst (pc := 14) C 0 dL_fewest_14 q_ci_0 ?_
    exact q_iret (pc := 15) C dL_fewest_15 ⟨rfl, rfl⟩
  · rintro _ _ ⟨rfl, hp, rfl⟩
    have hf := q_iteF hf (Nat.pos_iff_ne_zero.mp hp)
    by_cases h0 : u.1.1 = 5
    · have hf := q_iteT hf h0
      obtain rfl := q_some hf
      refine ⟨11, ⟨[], ⟨0, 8, 11, 59⟩, [], ht, (fun z hz => nomatch hz), by decide, by decide, by rw [h0]; exact (List.mem_of_getElem? (i := 1) rfl), by rw [h0]; decide, rfl⟩, fun a => ?_⟩
      refine q_nm (wz := (cw cc g u.2 ++ ((xo, .inl (cc 4, 1, .inr (.inl fo))) :: E))) (ka := 1) (kb := 6) (sz := [.ref a]) rfl rfl rfl rfl ?_
      refine q_astore_n (pc := 11) (lvq := [(2, .ref a), (0, .ref (g 0)), (1, .ref xo)]) C dL_fewest_11 rfl (by decide) rfl ?_
      refine q_iconst (pc := 12) C 1 dL_fewest_12 q_ci_1 ?_
      exact q_iret (pc := 13) C dL_fewest_13 ⟨rfl, rfl⟩
    have hf := q_iteF hf h0
    cases hf
def f_L_secret (S : CS) (a1 : Int32) (fo : Nat → Int64) : Option (Int32 × (Nat → Int64) × CS) := ((fun u => (if u.1.1 = 0 then some ((0 : Int32), vp_updL fo 0 u.1.2.toInt64, u.2) else (if u.1.1 = 1 then some ((1 : Int32), fo, u.2) else none))) (f_X8_secret a1 S))
theorem z_L_secret : q_dsc yL_secret 3 := ⟨by decide +kernel, by decide +kernel, by decide +kernel⟩
set_option maxRecDepth 100000 in
set_option maxHeartbeats 4000000 in
theorem c_L_secret (l : Launch) (hfl : l.stackTraces = false) (D : va_G) (cc : Nat → ClassId) (N0 : Nat) (g : Nat → Nat) (xo : Nat) (E : va_W) (S : CS) (a1 : Int32) (fo : Nat → Int64) (v : Int32 × (Nat → Int64) × CS) (hf : f_L_secret S a1 fo = some v) : q_Met l yL_secret wsL_secret 7 162 D cc N0 (cw cc g S ++ ((xo, .inl (cc 4, 1, .inr (.inl fo))) :: E)) [.ref (g 0), .int a1, .ref xo] (q_p (some (.int v.1)) (cw cc g v.2.2 ++ ((xo, .inl (cc 4, 1, .inr (.inl v.2.1))) :: E))) 1 6 := by
  refine q_ofH (code := cL_secret) (nL := 4) (ret := (some .int)) (hh := [(0, 9, 12, 13)]) (by decide +kernel) rfl (Nat.le_of_ble_eq_true rfl) (fun p e s m below meth c C ht => ?_)
  refine q_lv (lv2 := [(0, .ref (g 0)), (1, .int a1), (2, .ref xo)]) rfl ?_
  obtain ⟨u, hu⟩ : ∃ u, f_X8_secret a1 S = u := ⟨_, rfl⟩
  rw [f_L_secret, hu] at hf
  have hf : (if u.1.1 = 0 then some ((0 : Int32), vp_updL fo 0 u.1.2.toInt64, u.2) else (if u.1.1 = 1 then some ((1 : Int32), fo, u.2) else none)) = some v := hf
  refine q_aload_n (pc := 0) C dL_secret_0 rfl 2 rfl ?_
  refine q_iconst (pc := 1) C 0 dL_secret_1 q_ci_0 ?_
  refine q_aload_n (pc := 2) C dL_secret_2 rfl 0 rfl ?_
  refine q_iload_n (pc := 3) C dL_secret_3 rfl 1 rfl ?_
  refine q_callVC (pc := 4) (As := [.int a1]) (rest := [.int 0, .ref xo]) C (c_X8_secret l hfl D cc N0 g ((xo, .inl (cc 4, 1, .inr (.inl fo))) :: E) S a1 u hu) gL_secret_X8_secret rfl rfl z_X8_secret ⟨(Nat.le_of_ble_eq_true rfl), (Nat.le_of_ble_eq_true rfl)⟩ (q0 := 0) (cw_at_0 cc g _ S) rfl rfl rfl (Nat.le_of_ble_eq_true rfl) dL_secret_4 ⟨(Nat.le_of_ble_eq_true rfl), (Nat.le_of_ble_eq_true rfl)⟩ ?_ ?_
  · rintro _ _ ⟨h0, rfl, rfl⟩
    have hf := q_iteT hf h0
    obtain rfl := q_some hf
    refine q_nm (wz := (cw cc g u.2 ++ ((xo, .inl (cc 4, 1, .inr (.inl fo))) :: E))) (ka := 1) (kb := 6) (sz := [.int u.1.2, .int 0, .ref xo]) rfl rfl rfl rfl ?_
    refine q_i2l (pc := 7) C dL_secret_7 rfl ?_
    refine q_last (pc := 8) C 22 rfl ⟨by decide, by decide⟩ dL_secret_8 (ws1 := (cw cc g u.2 ++ ((xo, .inl (cc 4, 1, .inr (.inl (vp_updL fo 0 u.1.2.toInt64)))) :: E))) rfl ?_
    refine q_goto (pc := 9) (tgt := 15) C dL_secret_9 (by decide) ?_
    refine q_iconst (pc := 15) C 0 dL_secret_15 q_ci_0 ?_
    exact q_iret (pc := 16) C dL_secret_16 ⟨rfl, rfl⟩
  · rintro _ _ ⟨rfl, hp, rfl⟩
    have hf := q_iteF hf (Nat.pos_iff_ne_zero.mp hp)
    by_cases h0 : u.1.1 = 1
    · have hf := q_iteT hf h0
      obtain rfl := q_some hf
      refine ⟨12, ⟨[], ⟨0, 9, 12, 13⟩, [], ht, (fun z hz => nomatch hz), by decide, by decide, by rw [h0]; exact (List.mem_of_getElem? (i := 1) rfl), by rw [h0]; decide, rfl⟩, fun a => ?_⟩
      refine q_nm (wz := (cw cc g u.2 ++ ((xo, .inl (cc 4, 1, .inr (.inl fo))) :: E))) (ka := 1) (kb := 6) (sz := [.ref a]) rfl rfl rfl rfl ?_
      refine q_astore_n (pc := 12) (lvq := [(3, .ref a), (0, .ref (g 0)), (1, .int a1), (2, .ref xo)]) C dL_secret_12 rfl (by decide) rfl ?_
      refine q_iconst (pc := 13) C 1 dL_secret_13 q_ci_1 ?_
      exact q_iret (pc := 14) C dL_secret_14 ⟨rfl, rfl⟩
    have hf := q_iteF hf h0
    cases hf
def f_L_guess (S : CS) (a1 : Int32) (fo : Nat → Int64) : Option (Int32 × (Nat → Int64) × CS) := ((f_X8_guess a1 S).bind fun u => (if u.1.1 = 0 then some ((0 : Int32), vp_updL fo 0 u.1.2.toInt64, u.2) else (if u.1.1 = 1 then some ((1 : Int32), fo, u.2) else (if u.1.1 = 3 then some ((2 : Int32), fo, u.2) else none))))
theorem z_L_guess : q_dsc yL_guess 3 := ⟨by decide +kernel, by decide +kernel, by decide +kernel⟩
set_option maxRecDepth 100000 in
set_option maxHeartbeats 4000000 in
theorem c_L_guess (l : Launch) (hfl : l.stackTraces = false) (D : va_G) (cc : Nat → ClassId) (N0 : Nat) (g : Nat → Nat) (xo : Nat) (E : va_W) (S : CS) (a1 : Int32) (fo : Nat → Int64) (v : Int32 × (Nat → Int64) × CS) (hf : f_L_guess S a1 fo = some v) : q_Met l yL_guess wsL_guess 7 161 D cc N0 (cw cc g S ++ ((xo, .inl (cc 4, 1, .inr (.inl fo))) :: E)) [.ref (g 0), .int a1, .ref xo] (q_p (some (.int v.1)) (cw cc g v.2.2 ++ ((xo, .inl (cc 4, 1, .inr (.inl v.2.1))) :: E))) 1 6 := by
  refine q_ofH (code := cL_guess) (nL := 4) (ret := (some .int)) (hh := [(0, 9, 12, 13), (0, 9, 15, 20)]) (by decide +kernel) rfl (Nat.le_of_ble_eq_true rfl) (fun p e s m below meth c C ht => ?_)
  refine q_lv (lv2 := [(0, .ref (g 0)), (1, .int a1), (2, .ref xo)]) rfl ?_
  obtain ⟨u, hu, hf⟩ := q_bind hf
  refine q_aload_n (pc := 0) C dL_guess_0 rfl 2 rfl ?_
  refine q_iconst (pc := 1) C 0 dL_guess_1 q_ci_0 ?_
  refine q_aload_n (pc := 2) C dL_guess_2 rfl 0 rfl ?_
  refine q_iload_n (pc := 3) C dL_guess_3 rfl 1 rfl ?_
  refine q_callVC (pc := 4) (As := [.int a1]) (rest := [.int 0, .ref xo]) C (c_X8_guess l hfl D cc N0 g ((xo, .inl (cc 4, 1, .inr (.inl fo))) :: E) S a1 u hu) gL_guess_X8_guess rfl rfl z_X8_guess ⟨(Nat.le_of_ble_eq_true rfl), (Nat.le_of_ble_eq_true rfl)⟩ (q0 := 0) (cw_at_0 cc g _ S) rfl rfl rfl (Nat.le_of_ble_eq_true rfl) dL_guess_4 ⟨(Nat.le_of_ble_eq_true rfl), (Nat.le_of_ble_eq_true rfl)⟩ ?_ ?_
  · rintro _ _ ⟨h0, rfl, rfl⟩
    have hf := q_iteT hf h0
    obtain rfl := q_some hf
    refine q_nm (wz := (cw cc g u.2 ++ ((xo, .inl (cc 4, 1, .inr (.inl fo))) :: E))) (ka := 1) (kb := 6) (sz := [.int u.1.2, .int 0, .ref xo]) rfl rfl rfl rfl ?_
    refine q_i2l (pc := 7) C dL_guess_7 rfl ?_
    refine q_last (pc := 8) C 22 rfl ⟨by decide, by decide⟩ dL_guess_8 (ws1 := (cw cc g u.2 ++ ((xo, .inl (cc 4, 1, .inr (.inl (vp_updL fo 0 u.1.2.toInt64)))) :: E))) rfl ?_
    refine q_goto (pc := 9) (tgt := 18) C dL_guess_9 (by decide) ?_
    refine q_iconst (pc := 18) C 0 dL_guess_18 q_ci_0 ?_
    exact q_iret (pc := 19) C dL_guess_19 ⟨rfl, rfl⟩
  · rintro _ _ ⟨rfl, hp, rfl⟩
    have hf := q_iteF hf (Nat.pos_iff_ne_zero.mp hp)
    by_cases h0 : u.1.1 = 1
    · have hf := q_iteT hf h0
      obtain rfl := q_some hf
      refine ⟨12, ⟨[], ⟨0, 9, 12, 13⟩, [⟨0, 9, 15, 20⟩], ht, (fun z hz => nomatch hz), by decide, by decide, by rw [h0]; exact (List.mem_of_getElem? (i := 1) rfl), by rw [h0]; decide, rfl⟩, fun a => ?_⟩
      refine q_nm (wz := (cw cc g u.2 ++ ((xo, .inl (cc 4, 1, .inr (.inl fo))) :: E))) (ka := 1) (kb := 6) (sz := [.ref a]) rfl rfl rfl rfl ?_
      refine q_astore_n (pc := 12) (lvq := [(3, .ref a), (0, .ref (g 0)), (1, .int a1), (2, .ref xo)]) C dL_guess_12 rfl (by decide) rfl ?_
      refine q_iconst (pc := 13) C 1 dL_guess_13 q_ci_1 ?_
      exact q_iret (pc := 14) C dL_guess_14 ⟨rfl, rfl⟩
    have hf := q_iteF hf h0
    by_cases h1 : u.1.1 = 3
    · have hf := q_iteT hf h1
      obtain rfl := q_some hf
      refine ⟨15, ⟨[⟨0, 9, 12, 13⟩], ⟨0, 9, 15, 20⟩, [], ht, (List.forall_mem_cons.mpr ⟨Or.inr ⟨by decide, "java/lang/IllegalArgumentException", (List.mem_of_getElem? (i := 1) rfl), by rw [h1]; decide⟩, (fun z hz => nomatch hz)⟩), by decide, by decide, by rw [h1]; exact (List.mem_of_getElem? (i := 2) rfl), by rw [h1]; decide, rfl⟩, fun a => ?_⟩
      refine q_nm (wz := (cw cc g u.2 ++ ((xo, .inl (cc 4, 1, .inr (.inl fo))) :: E))) (ka := 1) (kb := 6) (sz := [.ref a]) rfl rfl rfl rfl ?_
      refine q_astore_n (pc := 15) (lvq := [(3, .ref a), (0, .ref (g 0)), (1, .int a1), (2, .ref xo)]) C dL_guess_15 rfl (by decide) rfl ?_
      refine q_iconst (pc := 16) C 2 dL_guess_16 q_ci_2 ?_
      exact q_iret (pc := 17) C dL_guess_17 ⟨rfl, rfl⟩
    have hf := q_iteF hf h1
    cases hf
def f_L_things (S : CS) (a1 : Int32) (fo : Nat → Int64) : Option (Int32 × (Nat → Int64) × CS) := ((f_X8_things a1 S).bind fun u => (if u.1.1 = 0 then some ((0 : Int32), vp_updL fo 0 u.1.2.toInt64, u.2) else (if u.1.1 = 1 then some ((1 : Int32), fo, u.2) else none)))
theorem z_L_things : q_dsc yL_things 3 := ⟨by decide +kernel, by decide +kernel, by decide +kernel⟩
set_option maxRecDepth 100000 in
set_option maxHeartbeats 4000000 in
theorem c_L_things (l : Launch) (hfl : l.stackTraces = false) (D : va_G) (cc : Nat → ClassId) (N0 : Nat) (g : Nat → Nat) (xo : Nat) (E : va_W) (S : CS) (a1 : Int32) (fo : Nat → Int64) (v : Int32 × (Nat → Int64) × CS) (hf : f_L_things S a1 fo = some v) : q_Met l yL_things wsL_things 7 162 D cc N0 (cw cc g S ++ ((xo, .inl (cc 4, 1, .inr (.inl fo))) :: E)) [.ref (g 0), .int a1, .ref xo] (q_p (some (.int v.1)) (cw cc g v.2.2 ++ ((xo, .inl (cc 4, 1, .inr (.inl v.2.1))) :: E))) 1 6 := by
  refine q_ofH (code := cL_things) (nL := 4) (ret := (some .int)) (hh := [(0, 9, 12, 13)]) (by decide +kernel) rfl (Nat.le_of_ble_eq_true rfl) (fun p e s m below meth c C ht => ?_)
  refine q_lv (lv2 := [(0, .ref (g 0)), (1, .int a1), (2, .ref xo)]) rfl ?_
  obtain ⟨u, hu, hf⟩ := q_bind hf
  refine q_aload_n (pc := 0) C dL_things_0 rfl 2 rfl ?_
  refine q_iconst (pc := 1) C 0 dL_things_1 q_ci_0 ?_
  refine q_aload_n (pc := 2) C dL_things_2 rfl 0 rfl ?_
  refine q_iload_n (pc := 3) C dL_things_3 rfl 1 rfl ?_
  refine q_callVC (pc := 4) (As := [.int a1]) (rest := [.int 0, .ref xo]) C (c_X8_things l hfl D cc N0 g ((xo, .inl (cc 4, 1, .inr (.inl fo))) :: E) S a1 u hu) gL_things_X8_things rfl rfl z_X8_things ⟨(Nat.le_of_ble_eq_true rfl), (Nat.le_of_ble_eq_true rfl)⟩ (q0 := 0) (cw_at_0 cc g _ S) rfl rfl rfl (Nat.le_of_ble_eq_true rfl) dL_things_4 ⟨(Nat.le_of_ble_eq_true rfl), (Nat.le_of_ble_eq_true rfl)⟩ ?_ ?_
  · rintro _ _ ⟨h0, rfl, rfl⟩
    have hf := q_iteT hf h0
    obtain rfl := q_some hf
    refine q_nm (wz := (cw cc g u.2 ++ ((xo, .inl (cc 4, 1, .inr (.inl fo))) :: E))) (ka := 1) (kb := 6) (sz := [.int u.1.2, .int 0, .ref xo]) rfl rfl rfl rfl ?_
    refine q_i2l (pc := 7) C dL_things_7 rfl ?_
    refine q_last (pc := 8) C 22 rfl ⟨by decide, by decide⟩ dL_things_8 (ws1 := (cw cc g u.2 ++ ((xo, .inl (cc 4, 1, .inr (.inl (vp_updL fo 0 u.1.2.toInt64)))) :: E))) rfl ?_
    refine q_goto (pc := 9) (tgt := 15) C dL_things_9 (by decide) ?_
    refine q_iconst (pc := 15) C 0 dL_things_15 q_ci_0 ?_
    exact q_iret (pc := 16) C dL_things_16 ⟨rfl, rfl⟩
  · rintro _ _ ⟨rfl, hp, rfl⟩
    have hf := q_iteF hf (Nat.pos_iff_ne_zero.mp hp)
    by_cases h0 : u.1.1 = 1
    · have hf := q_iteT hf h0
      obtain rfl := q_some hf
      refine ⟨12, ⟨[], ⟨0, 9, 12, 13⟩, [], ht, (fun z hz => nomatch hz), by decide, by decide, by rw [h0]; exact (List.mem_of_getElem? (i := 1) rfl), by rw [h0]; decide, rfl⟩, fun a => ?_⟩
      refine q_nm (wz := (cw cc g u.2 ++ ((xo, .inl (cc 4, 1, .inr (.inl fo))) :: E))) (ka := 1) (kb := 6) (sz := [.ref a]) rfl rfl rfl rfl ?_
      refine q_astore_n (pc := 12) (lvq := [(3, .ref a), (0, .ref (g 0)), (1, .int a1), (2, .ref xo)]) C dL_things_12 rfl (by decide) rfl ?_
      refine q_iconst (pc := 13) C 1 dL_things_13 q_ci_1 ?_
      exact q_iret (pc := 14) C dL_things_14 ⟨rfl, rfl⟩
    have hf := q_iteF hf h0
    cases hf
def f_L_ahead (S : CS) (a1 : Int32) (a2 : Int32) (fo : Nat → Int64) : Option (Int32 × (Nat → Int64) × CS) := ((f_X8_ahead a1 a2 S).bind fun u => (if u.1.1 = 0 then some ((0 : Int32), vp_updL fo 0 u.1.2.toInt64, u.2) else (if u.1.1 = 1 then some ((1 : Int32), fo, u.2) else (if u.1.1 = 2 then some ((2 : Int32), fo, u.2) else none))))
theorem z_L_ahead : q_dsc yL_ahead 4 := ⟨by decide +kernel, by decide +kernel, by decide +kernel⟩
set_option maxRecDepth 100000 in
set_option maxHeartbeats 4000000 in
theorem c_L_ahead (l : Launch) (hfl : l.stackTraces = false) (D : va_G) (cc : Nat → ClassId) (N0 : Nat) (g : Nat → Nat) (xo : Nat) (E : va_W) (S : CS) (a1 : Int32) (a2 : Int32) (fo : Nat → Int64) (v : Int32 × (Nat → Int64) × CS) (hf : f_L_ahead S a1 a2 fo = some v) : q_Met l yL_ahead wsL_ahead 7 163 D cc N0 (cw cc g S ++ ((xo, .inl (cc 4, 1, .inr (.inl fo))) :: E)) [.ref (g 0), .int a1, .int a2, .ref xo] (q_p (some (.int v.1)) (cw cc g v.2.2 ++ ((xo, .inl (cc 4, 1, .inr (.inl v.2.1))) :: E))) 1 6 := by
  refine q_ofH (code := cL_ahead) (nL := 5) (ret := (some .int)) (hh := [(0, 10, 13, 13), (0, 10, 17, 18)]) (by decide +kernel) rfl (Nat.le_of_ble_eq_true rfl) (fun p e s m below meth c C ht => ?_)
  refine q_lv (lv2 := [(0, .ref (g 0)), (1, .int a1), (2, .int a2), (3, .ref xo)]) rfl ?_
  obtain ⟨u, hu, hf⟩ := q_bind hf
  refine q_aload_n (pc := 0) C dL_ahead_0 rfl 3 rfl ?_
  refine q_iconst (pc := 1) C 0 dL_ahead_1 q_ci_0 ?_
  refine q_aload_n (pc := 2) C dL_ahead_2 rfl 0 rfl ?_
  refine q_iload_n (pc := 3) C dL_ahead_3 rfl 1 rfl ?_
  refine q_iload_n (pc := 4) C dL_ahead_4 rfl 2 rfl ?_
  refine q_callVC (pc := 5) (As := [.int a1, .int a2]) (rest := [.int 0, .ref xo]) C (c_X8_ahead l hfl D cc N0 g ((xo, .inl (cc 4, 1, .inr (.inl fo))) :: E) S a1 a2 u hu) gL_ahead_X8_ahead rfl rfl z_X8_ahead ⟨(Nat.le_of_ble_eq_true rfl), (Nat.le_of_ble_eq_true rfl)⟩ (q0 := 0) (cw_at_0 cc g _ S) rfl rfl rfl (Nat.le_of_ble_eq_true rfl) dL_ahead_5 ⟨(Nat.le_of_ble_eq_true rfl), (Nat.le_of_ble_eq_true rfl)⟩ ?_ ?_
  · rintro _ _ ⟨h0, rfl, rfl⟩
    have hf := q_iteT hf h0
    obtain rfl := q_some hf
    refine q_nm (wz := (cw cc g u.2 ++ ((xo, .inl (cc 4, 1, .inr (.inl fo))) :: E))) (ka := 1) (kb := 6) (sz := [.int u.1.2, .int 0, .ref xo]) rfl rfl rfl rfl ?_
    refine q_i2l (pc := 8) C dL_ahead_8 rfl ?_
    refine q_last (pc := 9) C 22 rfl ⟨by decide, by decide⟩ dL_ahead_9 (ws1 := (cw cc g u.2 ++ ((xo, .inl (cc 4, 1, .inr (.inl (vp_updL fo 0 u.1.2.toInt64)))) :: E))) rfl ?_
    refine q_goto (pc := 10) (tgt := 21) C dL_ahead_10 (by decide) ?_
    refine q_iconst (pc := 21) C 0 dL_ahead_21 q_ci_0 ?_
    exact q_iret (pc := 22) C dL_ahead_22 ⟨rfl, rfl⟩
  · rintro _ _ ⟨rfl, hp, rfl⟩
    have hf := q_iteF hf (Nat.pos_iff_ne_zero.mp hp)
    by_cases h0 : u.1.1 = 1
    · have hf := q_iteT hf h0
      obtain rfl := q_some hf
      refine ⟨13, ⟨[], ⟨0, 10, 13, 13⟩, [⟨0, 10, 17, 18⟩], ht, (fun z hz => nomatch hz), by decide, by decide, by rw [h0]; exact (List.mem_of_getElem? (i := 1) rfl), by rw [h0]; decide, rfl⟩, fun a => ?_⟩
      refine q_nm (wz := (cw cc g u.2 ++ ((xo, .inl (cc 4, 1, .inr (.inl fo))) :: E))) (ka := 1) (kb := 6) (sz := [.ref a]) rfl rfl rfl rfl ?_
      refine q_astore (pc := 13) (lvq := [(4, .ref a), (0, .ref (g 0)), (1, .int a1), (2, .int a2), (3, .ref xo)]) C dL_ahead_13 (by decide) rfl ?_
      refine q_iconst (pc := 15) C 1 dL_ahead_15 q_ci_1 ?_
      exact q_iret (pc := 16) C dL_ahead_16 ⟨rfl, rfl⟩
    have hf := q_iteF hf h0
    by_cases h1 : u.1.1 = 2
    · have hf := q_iteT hf h1
      obtain rfl := q_some hf
      refine ⟨17, ⟨[⟨0, 10, 13, 13⟩], ⟨0, 10, 17, 18⟩, [], ht, (List.forall_mem_cons.mpr ⟨Or.inr ⟨by decide, "java/lang/IllegalArgumentException", (List.mem_of_getElem? (i := 1) rfl), by rw [h1]; decide⟩, (fun z hz => nomatch hz)⟩), by decide, by decide, by rw [h1]; exact (List.mem_of_getElem? (i := 2) rfl), by rw [h1]; decide, rfl⟩, fun a => ?_⟩
      refine q_nm (wz := (cw cc g u.2 ++ ((xo, .inl (cc 4, 1, .inr (.inl fo))) :: E))) (ka := 1) (kb := 6) (sz := [.ref a]) rfl rfl rfl rfl ?_
      refine q_astore (pc := 17) (lvq := [(4, .ref a), (0, .ref (g 0)), (1, .int a1), (2, .int a2), (3, .ref xo)]) C dL_ahead_17 (by decide) rfl ?_
      refine q_iconst (pc := 19) C 2 dL_ahead_19 q_ci_2 ?_
      exact q_iret (pc := 20) C dL_ahead_20 ⟨rfl, rfl⟩
    have hf := q_iteF hf h1
    cases hf
def f_L_pair (S : CS) (fo : Nat → Int64) : Option (Int32 × (Nat → Int64) × CS) := ((f_X8_pair S).bind fun u => (if u.1.1 = 0 then some ((0 : Int32), vp_updL fo 0 u.1.2.toInt64, u.2) else (if u.1.1 = 5 then some ((1 : Int32), fo, u.2) else none)))
theorem z_L_pair : q_dsc yL_pair 2 := ⟨by decide +kernel, by decide +kernel, by decide +kernel⟩
set_option maxRecDepth 100000 in
set_option maxHeartbeats 4000000 in
theorem c_L_pair (l : Launch) (hfl : l.stackTraces = false) (D : va_G) (cc : Nat → ClassId) (N0 : Nat) (g : Nat → Nat) (xo : Nat) (E : va_W) (S : CS) (fo : Nat → Int64) (v : Int32 × (Nat → Int64) × CS) (hf : f_L_pair S fo = some v) : q_Met l yL_pair wsL_pair 7 160 D cc N0 (cw cc g S ++ ((xo, .inl (cc 4, 1, .inr (.inl fo))) :: E)) [.ref (g 0), .ref xo] (q_p (some (.int v.1)) (cw cc g v.2.2 ++ ((xo, .inl (cc 4, 1, .inr (.inl v.2.1))) :: E))) 1 6 := by
  refine q_ofH (code := cL_pair) (nL := 3) (ret := (some .int)) (hh := [(0, 8, 11, 59)]) (by decide +kernel) rfl (Nat.le_of_ble_eq_true rfl) (fun p e s m below meth c C ht => ?_)
  refine q_lv (lv2 := [(0, .ref (g 0)), (1, .ref xo)]) rfl ?_
  obtain ⟨u, hu, hf⟩ := q_bind hf
  refine q_aload_n (pc := 0) C dL_pair_0 rfl 1 rfl ?_
  refine q_iconst (pc := 1) C 0 dL_pair_1 q_ci_0 ?_
  refine q_aload_n (pc := 2) C dL_pair_2 rfl 0 rfl ?_
  refine q_callVC (pc := 3) (As := []) (rest := [.int 0, .ref xo]) C (c_X8_pair l hfl D cc N0 g ((xo, .inl (cc 4, 1, .inr (.inl fo))) :: E) S u hu) gL_pair_X8_pair rfl rfl z_X8_pair ⟨(Nat.le_of_ble_eq_true rfl), (Nat.le_of_ble_eq_true rfl)⟩ (q0 := 0) (cw_at_0 cc g _ S) rfl rfl rfl (Nat.le_of_ble_eq_true rfl) dL_pair_3 ⟨(Nat.le_of_ble_eq_true rfl), (Nat.le_of_ble_eq_true rfl)⟩ ?_ ?_
  · rintro _ _ ⟨h0, rfl, rfl⟩
    have hf := q_iteT hf h0
    obtain rfl := q_some hf
    refine q_nm (wz := (cw cc g u.2 ++ ((xo, .inl (cc 4, 1, .inr (.inl fo))) :: E))) (ka := 1) (kb := 6) (sz := [.int u.1.2, .int 0, .ref xo]) rfl rfl rfl rfl ?_
    refine q_i2l (pc := 6) C dL_pair_6 rfl ?_
    refine q_last (pc := 7) C 22 rfl ⟨by decide, by decide⟩ dL_pair_7 (ws1 := (cw cc g u.2 ++ ((xo, .inl (cc 4, 1, .inr (.inl (vp_updL fo 0 u.1.2.toInt64)))) :: E))) rfl ?_
    refine q_goto (pc := 8) (tgt := 14) C dL_pair_8 (by decide) ?_
    refine q_iconst (pc := 14) C 0 dL_pair_14 q_ci_0 ?_
    exact q_iret (pc := 15) C dL_pair_15 ⟨rfl, rfl⟩
  · rintro _ _ ⟨rfl, hp, rfl⟩
    have hf := q_iteF hf (Nat.pos_iff_ne_zero.mp hp)
    by_cases h0 : u.1.1 = 5
    · have hf := q_iteT hf h0
      obtain rfl := q_some hf
      refine ⟨11, ⟨[], ⟨0, 8, 11, 59⟩, [], ht, (fun z hz => nomatch hz), by decide, by decide, by rw [h0]; exact (List.mem_of_getElem? (i := 1) rfl), by rw [h0]; decide, rfl⟩, fun a => ?_⟩
      refine q_nm (wz := (cw cc g u.2 ++ ((xo, .inl (cc 4, 1, .inr (.inl fo))) :: E))) (ka := 1) (kb := 6) (sz := [.ref a]) rfl rfl rfl rfl ?_
      refine q_astore_n (pc := 11) (lvq := [(2, .ref a), (0, .ref (g 0)), (1, .ref xo)]) C dL_pair_11 rfl (by decide) rfl ?_
      refine q_iconst (pc := 12) C 1 dL_pair_12 q_ci_1 ?_
      exact q_iret (pc := 13) C dL_pair_13 ⟨rfl, rfl⟩
    have hf := q_iteF hf h0
    cases hf
def f_L_aliveShare (S : CS) (fo : Nat → UInt64) : Option (Int32 × (Nat → UInt64) × CS) := ((f_X8_aliveShare S).bind fun u => (if u.1 = 0 then (if q_n64 (FP.f2d u.2) then some ((0 : Int32), vf_upd fo 0 (FP.f2d u.2), S) else none) else (if u.1 = 5 then some ((1 : Int32), fo, S) else none)))
theorem z_L_aliveShare : q_dsc yL_aliveShare 2 := ⟨by decide +kernel, by decide +kernel, by decide +kernel⟩
set_option maxRecDepth 100000 in
set_option maxHeartbeats 4000000 in
theorem c_L_aliveShare (l : Launch) (hfl : l.stackTraces = false) (D : va_G) (cc : Nat → ClassId) (N0 : Nat) (g : Nat → Nat) (xo : Nat) (E : va_W) (S : CS) (fo : Nat → UInt64) (v : Int32 × (Nat → UInt64) × CS) (hf : f_L_aliveShare S fo = some v) : q_Met l yL_aliveShare wsL_aliveShare 7 160 D cc N0 (cw cc g S ++ ((xo, .inl (cc 5, 1, .inr (.inr (.inr (.inl fo))))) :: E)) [.ref (g 0), .ref xo] (q_p (some (.int v.1)) (cw cc g v.2.2 ++ ((xo, .inl (cc 5, 1, .inr (.inr (.inr (.inl v.2.1))))) :: E))) 1 6 := by
  refine q_ofH (code := cL_aliveShare) (nL := 3) (ret := (some .int)) (hh := [(0, 8, 11, 59)]) (by decide +kernel) rfl (Nat.le_of_ble_eq_true rfl) (fun p e s m below meth c C ht => ?_)
  refine q_lv (lv2 := [(0, .ref (g 0)), (1, .ref xo)]) rfl ?_
  obtain ⟨u, hu, hf⟩ := q_bind hf
  refine q_aload_n (pc := 0) C dL_aliveShare_0 rfl 1 rfl ?_
  refine q_iconst (pc := 1) C 0 dL_aliveShare_1 q_ci_0 ?_
  refine q_aload_n (pc := 2) C dL_aliveShare_2 rfl 0 rfl ?_
  refine q_callVC (pc := 3) (As := []) (rest := [.int 0, .ref xo]) C (c_X8_aliveShare l hfl D cc N0 g ((xo, .inl (cc 5, 1, .inr (.inr (.inr (.inl fo))))) :: E) S u hu) gL_aliveShare_X8_aliveShare rfl rfl z_X8_aliveShare ⟨(Nat.le_of_ble_eq_true rfl), (Nat.le_of_ble_eq_true rfl)⟩ (q0 := 0) (cw_at_0 cc g _ S) rfl rfl rfl (Nat.le_of_ble_eq_true rfl) dL_aliveShare_3 ⟨(Nat.le_of_ble_eq_true rfl), (Nat.le_of_ble_eq_true rfl)⟩ ?_ ?_
  · rintro _ _ ⟨h0, rfl, rfl⟩
    have hf := q_iteT hf h0
    obtain ⟨hn, hf⟩ := q_gd hf
    obtain rfl := q_some hf
    refine q_nm (wz := (cw cc g S ++ ((xo, .inl (cc 5, 1, .inr (.inr (.inr (.inl fo))))) :: E))) (ka := 1) (kb := 6) (sz := [.float u.2, .int 0, .ref xo]) rfl rfl rfl rfl ?_
    refine q_f2d (pc := 6) C dL_aliveShare_6 hn ?_
    refine q_dast (pc := 7) C 22 rfl ⟨by decide, by decide⟩ dL_aliveShare_7 (ws1 := (cw cc g S ++ ((xo, .inl (cc 5, 1, .inr (.inr (.inr (.inl (vf_upd fo 0 (FP.f2d u.2))))))) :: E))) rfl ?_
    refine q_goto (pc := 8) (tgt := 14) C dL_aliveShare_8 (by decide) ?_
    refine q_iconst (pc := 14) C 0 dL_aliveShare_14 q_ci_0 ?_
    exact q_iret (pc := 15) C dL_aliveShare_15 ⟨rfl, rfl⟩
  · rintro _ _ ⟨rfl, hp, rfl⟩
    have hf := q_iteF hf (Nat.pos_iff_ne_zero.mp hp)
    by_cases h0 : u.1 = 5
    · have hf := q_iteT hf h0
      obtain rfl := q_some hf
      refine ⟨11, ⟨[], ⟨0, 8, 11, 59⟩, [], ht, (fun z hz => nomatch hz), by decide, by decide, by rw [h0]; exact (List.mem_of_getElem? (i := 1) rfl), by rw [h0]; decide, rfl⟩, fun a => ?_⟩
      refine q_nm (wz := (cw cc g S ++ ((xo, .inl (cc 5, 1, .inr (.inr (.inr (.inl fo))))) :: E))) (ka := 1) (kb := 6) (sz := [.ref a]) rfl rfl rfl rfl ?_
      refine q_astore_n (pc := 11) (lvq := [(2, .ref a), (0, .ref (g 0)), (1, .ref xo)]) C dL_aliveShare_11 rfl (by decide) rfl ?_
      refine q_iconst (pc := 12) C 1 dL_aliveShare_12 q_ci_1 ?_
      exact q_iret (pc := 13) C dL_aliveShare_13 ⟨rfl, rfl⟩
    have hf := q_iteF hf h0
    cases hf
def f_L_meanLesson (S : CS) (fo : Nat → UInt64) : Option (Int32 × (Nat → UInt64) × CS) := ((f_X8_meanLesson S).bind fun u => (if u.1 = 0 then some ((0 : Int32), vf_upd fo 0 u.2, S) else (if u.1 = 5 then some ((1 : Int32), fo, S) else none)))
theorem z_L_meanLesson : q_dsc yL_meanLesson 2 := ⟨by decide +kernel, by decide +kernel, by decide +kernel⟩
set_option maxRecDepth 100000 in
set_option maxHeartbeats 4000000 in
theorem c_L_meanLesson (l : Launch) (hfl : l.stackTraces = false) (D : va_G) (cc : Nat → ClassId) (N0 : Nat) (g : Nat → Nat) (xo : Nat) (E : va_W) (S : CS) (fo : Nat → UInt64) (v : Int32 × (Nat → UInt64) × CS) (hf : f_L_meanLesson S fo = some v) : q_Met l yL_meanLesson wsL_meanLesson 7 160 D cc N0 (cw cc g S ++ ((xo, .inl (cc 5, 1, .inr (.inr (.inr (.inl fo))))) :: E)) [.ref (g 0), .ref xo] (q_p (some (.int v.1)) (cw cc g v.2.2 ++ ((xo, .inl (cc 5, 1, .inr (.inr (.inr (.inl v.2.1))))) :: E))) 1 6 := by
  refine q_ofH (code := cL_meanLesson) (nL := 3) (ret := (some .int)) (hh := [(0, 7, 10, 59)]) (by decide +kernel) rfl (Nat.le_of_ble_eq_true rfl) (fun p e s m below meth c C ht => ?_)
  refine q_lv (lv2 := [(0, .ref (g 0)), (1, .ref xo)]) rfl ?_
  obtain ⟨u, hu, hf⟩ := q_bind hf
  refine q_aload_n (pc := 0) C dL_meanLesson_0 rfl 1 rfl ?_
  refine q_iconst (pc := 1) C 0 dL_meanLesson_1 q_ci_0 ?_
  refine q_aload_n (pc := 2) C dL_meanLesson_2 rfl 0 rfl ?_
  refine q_callVC (pc := 3) (As := []) (rest := [.int 0, .ref xo]) C (c_X8_meanLesson l hfl D cc N0 g ((xo, .inl (cc 5, 1, .inr (.inr (.inr (.inl fo))))) :: E) S u hu) gL_meanLesson_X8_meanLesson rfl rfl z_X8_meanLesson ⟨(Nat.le_of_ble_eq_true rfl), (Nat.le_of_ble_eq_true rfl)⟩ (q0 := 0) (cw_at_0 cc g _ S) rfl rfl rfl (Nat.le_of_ble_eq_true rfl) dL_meanLesson_3 ⟨(Nat.le_of_ble_eq_true rfl), (Nat.le_of_ble_eq_true rfl)⟩ ?_ ?_
  · rintro _ _ ⟨h0, rfl, rfl⟩
    have hf := q_iteT hf h0
    obtain rfl := q_some hf
    refine q_nm (wz := (cw cc g S ++ ((xo, .inl (cc 5, 1, .inr (.inr (.inr (.inl fo))))) :: E))) (ka := 1) (kb := 6) (sz := [.double u.2, .int 0, .ref xo]) rfl rfl rfl rfl ?_
    refine q_dast (pc := 6) C 22 rfl ⟨by decide, by decide⟩ dL_meanLesson_6 (ws1 := (cw cc g S ++ ((xo, .inl (cc 5, 1, .inr (.inr (.inr (.inl (vf_upd fo 0 u.2)))))) :: E))) rfl ?_
    refine q_goto (pc := 7) (tgt := 13) C dL_meanLesson_7 (by decide) ?_
    refine q_iconst (pc := 13) C 0 dL_meanLesson_13 q_ci_0 ?_
    exact q_iret (pc := 14) C dL_meanLesson_14 ⟨rfl, rfl⟩
  · rintro _ _ ⟨rfl, hp, rfl⟩
    have hf := q_iteF hf (Nat.pos_iff_ne_zero.mp hp)
    by_cases h0 : u.1 = 5
    · have hf := q_iteT hf h0
      obtain rfl := q_some hf
      refine ⟨10, ⟨[], ⟨0, 7, 10, 59⟩, [], ht, (fun z hz => nomatch hz), by decide, by decide, by rw [h0]; exact (List.mem_of_getElem? (i := 1) rfl), by rw [h0]; decide, rfl⟩, fun a => ?_⟩
      refine q_nm (wz := (cw cc g S ++ ((xo, .inl (cc 5, 1, .inr (.inr (.inr (.inl fo))))) :: E))) (ka := 1) (kb := 6) (sz := [.ref a]) rfl rfl rfl rfl ?_
      refine q_astore_n (pc := 10) (lvq := [(2, .ref a), (0, .ref (g 0)), (1, .ref xo)]) C dL_meanLesson_10 rfl (by decide) rfl ?_
      refine q_iconst (pc := 11) C 1 dL_meanLesson_11 q_ci_1 ?_
      exact q_iret (pc := 12) C dL_meanLesson_12 ⟨rfl, rfl⟩
    have hf := q_iteF hf h0
    cases hf
