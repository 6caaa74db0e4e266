theorem q_cb_m128 : (Int8.ofInt (-128)).toInt32 = (-128 : Int32) := by decide
theorem q_cb_6 : (Int8.ofInt (6)).toInt32 = (6 : Int32) := by decide
theorem q_cb_8 : (Int8.ofInt (8)).toInt32 = (8 : Int32) := by decide
theorem q_cb_10 : (Int8.ofInt (10)).toInt32 = (10 : Int32) := by decide
theorem q_cb_12 : (Int8.ofInt (12)).toInt32 = (12 : Int32) := by decide
theorem q_cb_16 : (Int8.ofInt (16)).toInt32 = (16 : Int32) := by decide
theorem q_cb_17 : (Int8.ofInt (17)).toInt32 = (17 : Int32) := by decide
theorem q_cb_20 : (Int8.ofInt (20)).toInt32 = (20 : Int32) := by decide
theorem q_cb_24 : (Int8.ofInt (24)).toInt32 = (24 : Int32) := by decide
theorem q_cb_25 : (Int8.ofInt (25)).toInt32 = (25 : Int32) := by decide
theorem q_cb_32 : (Int8.ofInt (32)).toInt32 = (32 : Int32) := by decide
theorem q_cb_40 : (Int8.ofInt (40)).toInt32 = (40 : Int32) := by decide
theorem q_cb_43 : (Int8.ofInt (43)).toInt32 = (43 : Int32) := by decide
theorem q_cb_45 : (Int8.ofInt (45)).toInt32 = (45 : Int32) := by decide
theorem q_cb_63 : (Int8.ofInt (63)).toInt32 = (63 : Int32) := by decide
theorem q_cb_64 : (Int8.ofInt (64)).toInt32 = (64 : Int32) := by decide
theorem q_cb_97 : (Int8.ofInt (97)).toInt32 = (97 : Int32) := by decide
theorem q_cb_98 : (Int8.ofInt (98)).toInt32 = (98 : Int32) := by decide
theorem q_cb_100 : (Int8.ofInt (100)).toInt32 = (100 : Int32) := by decide
theorem q_cb_104 : (Int8.ofInt (104)).toInt32 = (104 : Int32) := by decide
theorem q_cb_105 : (Int8.ofInt (105)).toInt32 = (105 : Int32) := by decide
theorem q_cb_108 : (Int8.ofInt (108)).toInt32 = (108 : Int32) := by decide
theorem q_cb_112 : (Int8.ofInt (112)).toInt32 = (112 : Int32) := by decide
theorem q_cb_115 : (Int8.ofInt (115)).toInt32 = (115 : Int32) := by decide
theorem q_cb_116 : (Int8.ofInt (116)).toInt32 = (116 : Int32) := by decide
theorem q_cb_127 : (Int8.ofInt (127)).toInt32 = (127 : Int32) := by decide
theorem q_ci_m1 : Int32.ofInt (-1) = (-1 : Int32) := by decide
theorem q_ca_m1 {x : Int32} : x + Int32.ofInt (-1) = x + (-1 : Int32) := by rw [q_ci_m1]
theorem q_ci_0 : Int32.ofInt 0 = (0 : Int32) := by decide
theorem q_ca_0 {x : Int32} : x + Int32.ofInt (0) = x + (0 : Int32) := by rw [q_ci_0]
theorem q_ci_1 : Int32.ofInt 1 = (1 : Int32) := by decide
theorem q_ca_1 {x : Int32} : x + Int32.ofInt (1) = x + (1 : Int32) := by rw [q_ci_1]
theorem q_ci_2 : Int32.ofInt 2 = (2 : Int32) := by decide
theorem q_ca_2 {x : Int32} : x + Int32.ofInt (2) = x + (2 : Int32) := by rw [q_ci_2]
theorem q_ci_3 : Int32.ofInt 3 = (3 : Int32) := by decide
theorem q_ca_3 {x : Int32} : x + Int32.ofInt (3) = x + (3 : Int32) := by rw [q_ci_3]
theorem q_ci_4 : Int32.ofInt 4 = (4 : Int32) := by decide
theorem q_ca_4 {x : Int32} : x + Int32.ofInt (4) = x + (4 : Int32) := by rw [q_ci_4]
theorem q_ci_5 : Int32.ofInt 5 = (5 : Int32) := by decide
theorem q_ca_5 {x : Int32} : x + Int32.ofInt (5) = x + (5 : Int32) := by rw [q_ci_5]
theorem q_ci_8 : Int32.ofInt 8 = (8 : Int32) := by decide
theorem q_ca_8 {x : Int32} : x + Int32.ofInt (8) = x + (8 : Int32) := by rw [q_ci_8]
theorem q_ci_9 : Int32.ofInt 9 = (9 : Int32) := by decide
theorem q_ca_9 {x : Int32} : x + Int32.ofInt (9) = x + (9 : Int32) := by rw [q_ci_9]
theorem q_ci_16 : Int32.ofInt 16 = (16 : Int32) := by decide
theorem q_ca_16 {x : Int32} : x + Int32.ofInt (16) = x + (16 : Int32) := by rw [q_ci_16]
theorem q_cl_0 : Int64.ofNat ((0 : Fin 2) : Nat) = (0 : Int64) := by decide
theorem q_cl_1 : Int64.ofNat ((1 : Fin 2) : Nat) = (1 : Int64) := by decide
theorem q_cs_128 : (Int16.ofInt (128)).toInt32 = (128 : Int32) := by decide
theorem q_cs_255 : (Int16.ofInt (255)).toInt32 = (255 : Int32) := by decide
theorem q_cs_256 : (Int16.ofInt (256)).toInt32 = (256 : Int32) := by decide
theorem q_cs_333 : (Int16.ofInt (333)).toInt32 = (333 : Int32) := by decide
theorem q_cs_729 : (Int16.ofInt (729)).toInt32 = (729 : Int32) := by decide
theorem q_cs_746 : (Int16.ofInt (746)).toInt32 = (746 : Int32) := by decide
theorem q_cs_1023 : (Int16.ofInt (1023)).toInt32 = (1023 : Int32) := by decide
theorem q_cs_1024 : (Int16.ofInt (1024)).toInt32 = (1024 : Int32) := by decide
theorem c_X8_at (l : Launch) (D : va_G) (cc : Nat → ClassId) (N0 : Nat) (ws : va_W) (xq xa xn : Nat) (xf : Nat → Int32) (hxn : xn < 2 ^ 31) (hxa : ws[xq]? = some (xa, .inl (cc 0, xn, .inl xf))) (a1 : Int32) : q_Met l yX8_at wsX8_at 0 0 D cc N0 ws [.ref xa, .int a1] (q_p (some (.int (q_at xn xf a1))) ws) 0 0 := by
  refine q_ofW (code := cX8_at) (nL := 2) (ret := some .int) (by decide +kernel) rfl (Nat.le_of_ble_eq_true rfl) (fun p e s m below meth c C _ => ?_)
  refine q_lv (lv2 := [(0, .ref xa), (1, .int a1)]) rfl ?_
  refine q_iload_n (pc := 0) C dX8_at_0 rfl 1 rfl ?_
  refine q_if_lt (pc := 1) (tgt := 16) C dX8_at_1 (by decide) (fun c1 => ?_) (fun c1 => ?_)
  · refine q_iconst (pc := 16) C 0 dX8_at_16 q_ci_0 ?_
    exact q_iret (pc := 17) C dX8_at_17 ⟨by rw [q_at, if_pos c1], rfl⟩
  · refine q_iload_n (pc := 4) C dX8_at_4 rfl 1 rfl ?_
    refine q_aload_n (pc := 5) C dX8_at_5 rfl 0 rfl ?_
    refine q_alen (pc := 6) C xq 0 hxa rfl (v := nI xn) rfl dX8_at_6 ?_
    refine q_icmp_ge (pc := 7) (tgt := 16) C dX8_at_7 (by decide) (fun c2 => ?_) (fun c2 => ?_)
    · refine q_iconst (pc := 16) C 0 dX8_at_16 q_ci_0 ?_
      exact q_iret (pc := 17) C dX8_at_17 ⟨by rw [q_at, if_neg c1, if_pos c2], rfl⟩
    · refine q_aload_n (pc := 10) C dX8_at_10 rfl 0 rfl ?_
      refine q_iload_n (pc := 11) C dX8_at_11 rfl 1 rfl ?_
      refine q_iald (pc := 12) C xq hxa (q_inn hxn c1 c2) dX8_at_12 ?_
      refine q_goto (pc := 13) (tgt := 17) C dX8_at_13 (by decide) ?_
      exact q_iret (pc := 17) C dX8_at_17 ⟨by rw [q_at, if_neg c1, if_neg c2], rfl⟩
theorem z_X8_at : q_dsc yX8_at 2 := ⟨by decide +kernel, by decide +kernel, by decide +kernel⟩
theorem c_X8_put (l : Launch) (D : va_G) (cc : Nat → ClassId) (N0 : Nat) (ws : va_W) (xq xa xn : Nat) (xf : Nat → Int32) (hxn : xn < 2 ^ 31) (hxa : ws[xq]? = some (xa, .inl (cc 0, xn, .inl xf))) (a1 a2 : Int32) : q_Met l yX8_put wsX8_put 0 0 D cc N0 ws [.ref xa, .int a1, .int a2] (q_p none (ws.set xq (xa, .inl (cc 0, xn, .inl (q_pu xn xf a1 a2))))) 0 0 := by
  refine q_ofW (code := cX8_put) (nL := 3) (ret := none) (by decide +kernel) rfl (Nat.le_of_ble_eq_true rfl) (fun p e s m below meth c C _ => ?_)
  refine q_lv (lv2 := [(0, .ref xa), (1, .int a1), (2, .int a2)]) rfl ?_
  refine q_iload_n (pc := 0) C dX8_put_0 rfl 1 rfl ?_
  refine q_if_lt (pc := 1) (tgt := 14) C dX8_put_1 (by decide) (fun c1 => ?_) (fun c1 => ?_)
  · exact q_vret (pc := 14) C dX8_put_14 ⟨rfl, by rw [q_pu, if_pos c1, q_set_id hxa]⟩
  · refine q_iload_n (pc := 4) C dX8_put_4 rfl 1 rfl ?_
    refine q_aload_n (pc := 5) C dX8_put_5 rfl 0 rfl ?_
    refine q_alen (pc := 6) C xq 0 hxa rfl (v := nI xn) rfl dX8_put_6 ?_
    refine q_icmp_ge (pc := 7) (tgt := 14) C dX8_put_7 (by decide) (fun c2 => ?_) (fun c2 => ?_)
    · exact q_vret (pc := 14) C dX8_put_14 ⟨rfl, by rw [q_pu, if_neg c1, if_pos c2, q_set_id hxa]⟩
    · refine q_aload_n (pc := 10) C dX8_put_10 rfl 0 rfl ?_
      refine q_iload_n (pc := 11) C dX8_put_11 rfl 1 rfl ?_
      refine q_iload_n (pc := 12) C dX8_put_12 rfl 2 rfl ?_
      refine q_iast (pc := 13) C xq hxa (q_inn hxn c1 c2) dX8_put_13 rfl ?_
      exact q_vret (pc := 14) C dX8_put_14 ⟨rfl, by rw [q_pu, if_neg c1, if_neg c2]⟩
theorem z_X8_put : q_dsc yX8_put 3 := ⟨by decide +kernel, by decide +kernel, by decide +kernel⟩
