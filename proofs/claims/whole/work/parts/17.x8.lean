theorem n_X8_points_X1 : ∀ w ∈ wsX10, w ∈ wsX8_points := fun _ h => (List.mem_cons_of_mem _ (List.mem_append_left _ (List.mem_append_left _ (List.mem_append_right _ h))))
theorem n_X8_points_X8 : ∀ w ∈ wsX80, w ∈ wsX8_points := fun _ h => (List.mem_cons_of_mem _ (List.mem_append_left _ (List.mem_append_left _ (List.mem_append_left _ (List.mem_append_right _ h)))))
def f_X8_points_11 (S : CS) : Option ((Nat × Int32) × CS) := some ((1, 0), S)
def f_X8_points (a1 : Int32) (S : CS) : Option ((Nat × Int32) × CS) := (if a1 < (1 : Int32) then f_X8_points_11 S else (if a1 ≤ (6 : Int32) then ((f_X1_startAnew a1 S).bind fun u3 => ((f_X5_leave u3).bind fun u5 => some ((0, (S.1 2 3)), u5))) else f_X8_points_11 S))
set_option maxRecDepth 100000 in
set_option maxHeartbeats 4000000 in
theorem w_X8_points_11 {p : Program} {l : Launch} {e : Env} {s : State} {m : MethodId} {args : Array Value} {below : List Frame} {meth : Method} {c : Code} {D : va_G} {cc : Nat → ClassId} {N0 : Nat} {g : Nat → Nat} {E : va_W} {v : ((Nat × Int32) × CS)} (C : q_C p s m args meth c cX8_points 3 (some .int) wsX8_points RX8 D cc N0) (CX : q_KX N0 s) (hfl : l.stackTraces = false) (hex : ∀ x ∈ c.exceptionTable.toList, False)  (S : CS) (hf : f_X8_points_11  S = some v) : q_WA p l e (q_rm 6 140 1 6) s m args below meth c D N0 3 (vx_MQ below (q_Q D N0 (q_px v.1.1 (some (.int v.1.2)) (cw cc g v.2 ++ E))) (q_XX D N0 (q_xp v.1.1 (cw cc g v.2 ++ E))) args s 1 6 (q_A N0)) 0 0 (cw cc g S ++ E) 11 [] [] := by
  obtain rfl := q_some hf
  exact q_throw (pc := 11) (text := "points are 1 to 6") C CX hfl hex (List.mem_of_getElem? (i := 1) rfl) (List.mem_of_getElem? (i := 2) rfl) (by decide +kernel) (List.mem_of_getElem? (i := 0) rfl) (fun w h => (List.mem_cons_of_mem _ (List.mem_append_right _ h))) qx_good_67 qx_bad_67 dX8_points_11 dX8_points_14 dX8_points_15 dX8_points_17 dX8_points_20 (Nat.le_of_ble_eq_true rfl) (Nat.le_of_ble_eq_true rfl) (Nat.le_of_ble_eq_true rfl) (Nat.le_of_ble_eq_true rfl) (Nat.le_of_ble_eq_true rfl) (Nat.le_of_ble_eq_true rfl) ⟨rfl, Nat.le_of_ble_eq_true rfl, rfl⟩
set_option maxRecDepth 100000 in
set_option maxHeartbeats 4000000 in
theorem c_X8_points (l : Launch) (hfl : l.stackTraces = false) (D : va_G) (cc : Nat → ClassId) (N0 : Nat) (g : Nat → Nat) (E : va_W) (S : CS) (a1 : Int32) (v : ((Nat × Int32) × CS)) (hf : f_X8_points a1 S = some v) : q_MetX l yX8_points wsX8_points 6 140 D cc N0 (cw cc g S ++ E) [.ref (g 0), .int a1] (q_px v.1.1 (some (.int v.1.2)) (cw cc g v.2 ++ E)) (q_xp v.1.1 (cw cc g v.2 ++ E)) 1 6 := by
  refine q_ofWX (code := cX8_points) (nL := 3) (ret := (some .int)) (by decide +kernel) rfl (Nat.le_of_ble_eq_true rfl) (fun p e s m below meth c C CX hex => ?_)
  refine q_lv (lv2 := [(0, .ref (g 0)), (1, .int a1)]) rfl ?_
  refine q_iload_n (pc := 0) C dX8_points_0 rfl 1 rfl ?_
  refine q_iconst (pc := 1) C (1 : Int32) dX8_points_1 q_ci_1 ?_
  refine q_icmp_lt (pc := 2) (tgt := 11) C dX8_points_2 (by decide) (fun c1 => ?_) (fun c1 => ?_)
  · have hf := q_iteT hf c1
    refine q_sub (lvq := []) [] rfl ?_
    exact w_X8_points_11 C CX hfl hex S hf
  · have hf := q_iteF hf c1
    refine q_iload_n (pc := 5) C dX8_points_5 rfl 1 rfl ?_
    refine q_bipush (pc := 6) C (6 : Int32) dX8_points_6 q_cb_6 ?_
    refine q_icmp_le (pc := 8) (tgt := 21) C dX8_points_8 (by decide) (fun c2 => ?_) (fun c2 => ?_)
    · have hf := q_iteT hf c2
      refine q_aload_n (pc := 21) C dX8_points_21 rfl 0 rfl ?_
      refine r_g_0_1 (pc := 22) C n_X8_points_X8 (List.mem_of_getElem? (i := 3) rfl) dX8_points_22 ?_
      refine r_n_2_3 (pc := 25) C n_X8_points_X1 (host := "Queryschool") (List.mem_of_getElem? (i := 3) rfl) dX8_points_25 ?_
      refine q_istore_n (pc := 28) (lvq := [(2, .int (S.1 2 3)), (0, .ref (g 0)), (1, .int a1)]) C dX8_points_28 rfl (by decide) rfl ?_
      refine q_aload_n (pc := 29) C dX8_points_29 rfl 1 rfl ?_
      refine r_g_0_1 (pc := 30) C n_X8_points_X8 (List.mem_of_getElem? (i := 3) rfl) dX8_points_30 ?_
      refine q_iload_n (pc := 33) C dX8_points_33 rfl 2 rfl ?_
      obtain ⟨u3, e4, hf⟩ := q_bind hf
      refine q_callV (pc := 34) (As := [.int a1]) (rest := []) C (c_X1_startAnew l D cc N0 g E S a1 u3 e4) gX8_points_X1_startAnew rfl rfl z_X1_startAnew ⟨Nat.le_of_ble_eq_true rfl, Nat.le_of_ble_eq_true rfl⟩ (cw_at_2 cc g E _) rfl rfl rfl (Nat.le_of_ble_eq_true rfl) dX8_points_34 ⟨Nat.le_of_ble_eq_true rfl, Nat.le_of_ble_eq_true rfl⟩ ?_
      refine q_after (rv := none) (w0 := (cw cc g u3 ++ E)) (st2 := []) rfl rfl rfl ?_
      refine q_aload_n (pc := 37) C dX8_points_37 rfl 1 rfl ?_
      refine r_g_0_0 (pc := 38) C n_X8_points_X8 (List.mem_of_getElem? (i := 4) rfl) dX8_points_38 ?_
      obtain ⟨u5, e6, hf⟩ := q_bind hf
      refine q_callV (pc := 41) (As := []) (rest := []) C (c_X5_leave l D cc N0 g E u3 u5 e6) gX8_points_X5_leave rfl rfl z_X5_leave ⟨Nat.le_of_ble_eq_true rfl, Nat.le_of_ble_eq_true rfl⟩ (cw_at_1 cc g E _) rfl rfl rfl (Nat.le_of_ble_eq_true rfl) dX8_points_41 ⟨Nat.le_of_ble_eq_true rfl, Nat.le_of_ble_eq_true rfl⟩ ?_
      refine q_after (rv := none) (w0 := (cw cc g u5 ++ E)) (st2 := []) rfl rfl rfl ?_
      refine q_iload_n (pc := 44) C dX8_points_44 rfl 0 rfl ?_
      obtain rfl := q_some hf
      exact q_wid (Nat.zero_le _) (Nat.zero_le _) (q_retx (q_iret (pc := 45) C dX8_points_45 ⟨rfl, rfl, rfl⟩))
    · have hf := q_iteF hf c2
      refine q_sub (lvq := []) [] rfl ?_
      exact w_X8_points_11 C CX hfl hex S hf
theorem z_X8_points : q_dsc yX8_points 1 := ⟨by decide +kernel, by decide +kernel, by decide +kernel⟩
theorem n_X8_concept_X1 : ∀ w ∈ wsX10, w ∈ wsX8_concept := fun _ h => (List.mem_cons_of_mem _ (List.mem_append_left _ (List.mem_append_left _ (List.mem_append_left _ (List.mem_append_right _ h)))))
theorem n_X8_concept_X5 : ∀ w ∈ wsX50, w ∈ wsX8_concept := fun _ h => (List.mem_cons_of_mem _ (List.mem_append_left _ (List.mem_append_left _ (List.mem_append_left _ (List.mem_append_left _ (List.mem_append_right _ h))))))
theorem n_X8_concept_X8 : ∀ w ∈ wsX80, w ∈ wsX8_concept := fun _ h => (List.mem_cons_of_mem _ (List.mem_append_left _ (List.mem_append_left _ (List.mem_append_left _ (List.mem_append_left _ (List.mem_append_left _ (List.mem_append_right _ h)))))))
def f_X8_concept_42 (S : CS) : Option ((Nat × Int32) × CS) := some ((2, 0), S)
def f_X8_concept (a1 : Int32) (S : CS) : Option ((Nat × Int32) × CS) := (if (q_b (f_X1_isSet S a1)) = 0 then some ((1, 0), S) else (if 0 < (S.1 1 6) then f_X8_concept_42 S else ((f_X1_numberOf S a1).bind fun u3 => (if u3 < 0 then (if (S.1 2 3) < (24 : Int32) then ((f_X1_add a1 S).bind fun u7 => some ((0, u7.1), u7.2)) else some ((3, 0), S)) else f_X8_concept_42 S))))
set_option maxRecDepth 100000 in
set_option maxHeartbeats 4000000 in
theorem w_X8_concept_42 {p : Program} {l : Launch} {e : Env} {s : State} {m : MethodId} {args : Array Value} {below : List Frame} {meth : Method} {c : Code} {D : va_G} {cc : Nat → ClassId} {N0 : Nat} {g : Nat → Nat} {E : va_W} {v : ((Nat × Int32) × CS)} (C : q_C p s m args meth c cX8_concept 2 (some .int) wsX8_concept RX8 D cc N0) (CX : q_KX N0 s) (hfl : l.stackTraces = false) (hex : ∀ x ∈ c.exceptionTable.toList, False)  (S : CS) (hf : f_X8_concept_42  S = some v) : q_WA p l e (q_rm 6 140 1 6) s m args below meth c D N0 2 (vx_MQ below (q_Q D N0 (q_px v.1.1 (some (.int v.1.2)) (cw cc g v.2 ++ E))) (q_XX D N0 (q_xp v.1.1 (cw cc g v.2 ++ E))) args s 1 6 (q_A N0)) 0 0 (cw cc g S ++ E) 42 [] [] := by
  obtain rfl := q_some hf
  exact q_throw (pc := 42) (text := "the concept is there, or answers were given") C CX hfl hex (List.mem_of_getElem? (i := 3) rfl) (List.mem_of_getElem? (i := 4) rfl) (by decide +kernel) (List.mem_of_getElem? (i := 2) rfl) (fun w h => (List.mem_cons_of_mem _ (List.mem_append_left _ (List.mem_append_right _ h)))) qx_good_100 qx_bad_100 dX8_concept_42 dX8_concept_45 dX8_concept_46 dX8_concept_48 dX8_concept_51 (Nat.le_of_ble_eq_true rfl) (Nat.le_of_ble_eq_true rfl) (Nat.le_of_ble_eq_true rfl) (Nat.le_of_ble_eq_true rfl) (Nat.le_of_ble_eq_true rfl) (Nat.le_of_ble_eq_true rfl) ⟨rfl, Nat.le_of_ble_eq_true rfl, rfl⟩
set_option maxRecDepth 100000 in
set_option maxHeartbeats 4000000 in
theorem c_X8_concept (l : Launch) (hfl : l.stackTraces = false) (D : va_G) (cc : Nat → ClassId) (N0 : Nat) (g : Nat → Nat) (E : va_W) (S : CS) (a1 : Int32) (v : ((Nat × Int32) × CS)) (hf : f_X8_concept a1 S = some v) : q_MetX l yX8_concept wsX8_concept 6 140 D cc N0 (cw cc g S ++ E) [.ref (g 0), .int a1] (q_px v.1.1 (some (.int v.1.2)) (cw cc g v.2 ++ E)) (q_xp v.1.1 (cw cc g v.2 ++ E)) 1 6 := by
  refine q_ofWX (code := cX8_concept) (nL := 2) (ret := (some .int)) (by decide +kernel) rfl (Nat.le_of_ble_eq_true rfl) (fun p e s m below meth c C CX hex => ?_)
  refine q_lv (lv2 := [(0, .ref (g 0)), (1, .int a1)]) rfl ?_
  refine q_aload_n (pc := 0) C dX8_concept_0 rfl 0 rfl ?_
  refine r_g_0_1 (pc := 1) C n_X8_concept_X8 (List.mem_of_getElem? (i := 7) rfl) dX8_concept_1 ?_
  refine q_iload_n (pc := 4) C dX8_concept_4 rfl 1 rfl ?_
  refine q_callV (pc := 5) (As := [.int a1]) (rest := []) C (c_X1_isSet l D cc N0 g E S a1 _ rfl) gX8_concept_X1_isSet rfl rfl z_X1_isSet ⟨Nat.le_of_ble_eq_true rfl, Nat.le_of_ble_eq_true rfl⟩ (cw_at_2 cc g E _) rfl rfl rfl (Nat.le_of_ble_eq_true rfl) dX8_concept_5 ⟨Nat.le_of_ble_eq_true rfl, Nat.le_of_ble_eq_true rfl⟩ ?_
  refine q_after (rv := (some (.int (q_b (f_X1_isSet S a1))))) (w0 := (cw cc g S ++ E)) (st2 := [.int (q_b (f_X1_isSet S a1))]) rfl rfl rfl ?_
  refine q_if_ne (pc := 8) (tgt := 21) C dX8_concept_8 (by decide) (fun c1 => ?_) (fun c1 => ?_)
  · have hf := q_iteF hf c1
    refine q_aload_n (pc := 21) C dX8_concept_21 rfl 0 rfl ?_
    refine r_g_0_0 (pc := 22) C n_X8_concept_X8 (List.mem_of_getElem? (i := 8) rfl) dX8_concept_22 ?_
    refine r_n_1_6 (pc := 25) C n_X8_concept_X5 (host := "Queryschool") (List.mem_of_getElem? (i := 6) rfl) dX8_concept_25 ?_
    refine q_if_gt (pc := 28) (tgt := 42) C dX8_concept_28 (by decide) (fun c2 => ?_) (fun c2 => ?_)
    · have hf := q_iteT hf c2
      refine q_sub (lvq := []) [] rfl ?_
      exact w_X8_concept_42 C CX hfl hex S hf
    · have hf := q_iteF hf c2
      refine q_aload_n (pc := 31) C dX8_concept_31 rfl 0 rfl ?_
      refine r_g_0_1 (pc := 32) C n_X8_concept_X8 (List.mem_of_getElem? (i := 7) rfl) dX8_concept_32 ?_
      refine q_iload_n (pc := 35) C dX8_concept_35 rfl 1 rfl ?_
      obtain ⟨u3, e4, hf⟩ := q_bind hf
      refine q_callV (pc := 36) (As := [.int a1]) (rest := []) C (c_X1_numberOf l D cc N0 g E S a1 u3 e4) gX8_concept_X1_numberOf rfl rfl z_X1_numberOf ⟨Nat.le_of_ble_eq_true rfl, Nat.le_of_ble_eq_true rfl⟩ (cw_at_2 cc g E _) rfl rfl rfl (Nat.le_of_ble_eq_true rfl) dX8_concept_36 ⟨Nat.le_of_ble_eq_true rfl, Nat.le_of_ble_eq_true rfl⟩ ?_
      refine q_after (rv := (some (.int u3))) (w0 := (cw cc g S ++ E)) (st2 := [.int u3]) rfl rfl rfl ?_
      refine q_if_lt (pc := 39) (tgt := 52) C dX8_concept_39 (by decide) (fun c5 => ?_) (fun c5 => ?_)
      · have hf := q_iteT hf c5
        refine q_aload_n (pc := 52) C dX8_concept_52 rfl 0 rfl ?_
        refine r_g_0_1 (pc := 53) C n_X8_concept_X8 (List.mem_of_getElem? (i := 7) rfl) dX8_concept_53 ?_
        refine r_n_2_3 (pc := 56) C n_X8_concept_X1 (host := "Queryschool") (List.mem_of_getElem? (i := 3) rfl) dX8_concept_56 ?_
        refine q_bipush (pc := 59) C (24 : Int32) dX8_concept_59 q_cb_24 ?_
        refine q_icmp_lt (pc := 61) (tgt := 74) C dX8_concept_61 (by decide) (fun c6 => ?_) (fun c6 => ?_)
        · have hf := q_iteT hf c6
          refine q_aload_n (pc := 74) C dX8_concept_74 rfl 0 rfl ?_
          refine r_g_0_1 (pc := 75) C n_X8_concept_X8 (List.mem_of_getElem? (i := 7) rfl) dX8_concept_75 ?_
          refine q_iload_n (pc := 78) C dX8_concept_78 rfl 1 rfl ?_
          obtain ⟨u7, e8, hf⟩ := q_bind hf
          refine q_callV (pc := 79) (As := [.int a1]) (rest := []) C (c_X1_add l D cc N0 g E S a1 u7 e8) gX8_concept_X1_add rfl rfl z_X1_add ⟨Nat.le_of_ble_eq_true rfl, Nat.le_of_ble_eq_true rfl⟩ (cw_at_2 cc g E _) rfl rfl rfl (Nat.le_of_ble_eq_true rfl) dX8_concept_79 ⟨Nat.le_of_ble_eq_true rfl, Nat.le_of_ble_eq_true rfl⟩ ?_
          refine q_after (rv := (some (.int u7.1))) (w0 := (cw cc g u7.2 ++ E)) (st2 := [.int u7.1]) rfl rfl rfl ?_
          obtain rfl := q_some hf
          exact q_wid (Nat.zero_le _) (Nat.zero_le _) (q_retx (q_iret (pc := 82) C dX8_concept_82 ⟨rfl, rfl, rfl⟩))
        · have hf := q_iteF hf c6
          obtain rfl := q_some hf
          exact q_throw (pc := 64) (text := "there are 24 concepts") C CX hfl hex (List.mem_of_getElem? (i := 5) rfl) (List.mem_of_getElem? (i := 6) rfl) (by decide +kernel) (List.mem_of_getElem? (i := 3) rfl) (fun w h => (List.mem_cons_of_mem _ (List.mem_append_right _ h))) qx_good_105 qx_bad_105 dX8_concept_64 dX8_concept_67 dX8_concept_68 dX8_concept_70 dX8_concept_73 (Nat.le_of_ble_eq_true rfl) (Nat.le_of_ble_eq_true rfl) (Nat.le_of_ble_eq_true rfl) (Nat.le_of_ble_eq_true rfl) (Nat.le_of_ble_eq_true rfl) (Nat.le_of_ble_eq_true rfl) ⟨rfl, Nat.le_of_ble_eq_true rfl, rfl⟩
      · have hf := q_iteF hf c5
        refine q_sub (lvq := []) [] rfl ?_
        exact w_X8_concept_42 C CX hfl hex S hf
  · have hf := q_iteT hf c1
    obtain rfl := q_some hf
    exact q_throw (pc := 11) (text := "the set has other points") C CX hfl hex (List.mem_of_getElem? (i := 1) rfl) (List.mem_of_getElem? (i := 2) rfl) (by decide +kernel) (List.mem_of_getElem? (i := 1) rfl) (fun w h => (List.mem_cons_of_mem _ (List.mem_append_left _ (List.mem_append_left _ (List.mem_append_right _ h))))) qx_good_67 qx_bad_67 dX8_concept_11 dX8_concept_14 dX8_concept_15 dX8_concept_17 dX8_concept_20 (Nat.le_of_ble_eq_true rfl) (Nat.le_of_ble_eq_true rfl) (Nat.le_of_ble_eq_true rfl) (Nat.le_of_ble_eq_true rfl) (Nat.le_of_ble_eq_true rfl) (Nat.le_of_ble_eq_true rfl) ⟨rfl, Nat.le_of_ble_eq_true rfl, rfl⟩
theorem z_X8_concept : q_dsc yX8_concept 1 := ⟨by decide +kernel, by decide +kernel, by decide +kernel⟩
theorem n_X8_family_X1 : ∀ w ∈ wsX10, w ∈ wsX8_family := fun _ h => (List.mem_cons_of_mem _ (List.mem_append_left _ (List.mem_append_left _ (List.mem_append_left _ (List.mem_append_right _ h)))))
theorem n_X8_family_X5 : ∀ w ∈ wsX50, w ∈ wsX8_family := fun _ h => (List.mem_cons_of_mem _ (List.mem_append_left _ (List.mem_append_left _ (List.mem_append_left _ (List.mem_append_left _ (List.mem_append_right _ h))))))
theorem n_X8_family_X8 : ∀ w ∈ wsX80, w ∈ wsX8_family := fun _ h => (List.mem_cons_of_mem _ (List.mem_append_left _ (List.mem_append_left _ (List.mem_append_left _ (List.mem_append_left _ (List.mem_append_left _ (List.mem_append_right _ h)))))))
def f_X8_family (a1 : Int32) (S : CS) : Option ((Nat × Int32) × CS) := (if (q_b (f_X1_isFamily a1)) = 0 then some ((1, 0), S) else (if (S.1 1 6) ≤ 0 then ((f_X1_missing S a1).bind fun u3 => (if ((S.1 2 3) + u3) ≤ (24 : Int32) then ((f_X1_addAll a1 S).bind fun u6 => some ((0, (u6.1 2 3)), u6)) else some ((3, 0), S))) else some ((2, 0), S)))
set_option maxRecDepth 100000 in
set_option maxHeartbeats 4000000 in
theorem c_X8_family (l : Launch) (hfl : l.stackTraces = false) (D : va_G) (cc : Nat → ClassId) (N0 : Nat) (g : Nat → Nat) (E : va_W) (S : CS) (a1 : Int32) (v : ((Nat × Int32) × CS)) (hf : f_X8_family a1 S = some v) : q_MetX l yX8_family wsX8_family 6 140 D cc N0 (cw cc g S ++ E) [.ref (g 0), .int a1] (q_px v.1.1 (some (.int v.1.2)) (cw cc g v.2 ++ E)) (q_xp v.1.1 (cw cc g v.2 ++ E)) 1 6 := by
  refine q_ofWX (code := cX8_family) (nL := 2) (ret := (some .int)) (by decide +kernel) rfl (Nat.le_of_ble_eq_true rfl) (fun p e s m below meth c C CX hex => ?_)
  refine q_lv (lv2 := [(0, .ref (g 0)), (1, .int a1)]) rfl ?_
  refine q_iload_n (pc := 0) C dX8_family_0 rfl 1 rfl ?_
  refine q_callS (pc := 1) (As := [.int a1]) (rest := []) C (c_X1_isFamily l D cc N0 (cw cc g S ++ E) a1 _ rfl) gX8_family_X1_isFamily rfl z_X1_isFamily ⟨Nat.le_of_ble_eq_true rfl, Nat.le_of_ble_eq_true rfl⟩ rfl rfl (Nat.le_of_ble_eq_true rfl) dX8_family_1 ⟨Nat.le_of_ble_eq_true rfl, Nat.le_of_ble_eq_true rfl⟩ ?_
  refine q_after (rv := (some (.int (q_b (f_X1_isFamily a1))))) (w0 := (cw cc g S ++ E)) (st2 := [.int (q_b (f_X1_isFamily a1))]) rfl rfl rfl ?_
  refine q_if_ne (pc := 4) (tgt := 17) C dX8_family_4 (by decide) (fun c1 => ?_) (fun c1 => ?_)
  · have hf := q_iteF hf c1
    refine q_aload_n (pc := 17) C dX8_family_17 rfl 0 rfl ?_
    refine r_g_0_0 (pc := 18) C n_X8_family_X8 (List.mem_of_getElem? (i := 7) rfl) dX8_family_18 ?_
    refine r_n_1_6 (pc := 21) C n_X8_family_X5 (host := "Queryschool") (List.mem_of_getElem? (i := 6) rfl) dX8_family_21 ?_
    refine q_if_le (pc := 24) (tgt := 37) C dX8_family_24 (by decide) (fun c2 => ?_) (fun c2 => ?_)
    · have hf := q_iteT hf c2
      refine q_aload_n (pc := 37) C dX8_family_37 rfl 0 rfl ?_
      refine r_g_0_1 (pc := 38) C n_X8_family_X8 (List.mem_of_getElem? (i := 8) rfl) dX8_family_38 ?_
      refine r_n_2_3 (pc := 41) C n_X8_family_X1 (host := "Queryschool") (List.mem_of_getElem? (i := 3) rfl) dX8_family_41 ?_
      refine q_aload_n (pc := 44) C dX8_family_44 rfl 0 rfl ?_
      refine r_g_0_1 (pc := 45) C n_X8_family_X8 (List.mem_of_getElem? (i := 8) rfl) dX8_family_45 ?_
      refine q_iload_n (pc := 48) C dX8_family_48 rfl 1 rfl ?_
      obtain ⟨u3, e4, hf⟩ := q_bind hf
      refine q_callV (pc := 49) (As := [.int a1]) (rest := [.int (S.1 2 3)]) C (c_X1_missing l D cc N0 g E S a1 u3 e4) gX8_family_X1_missing rfl rfl z_X1_missing ⟨Nat.le_of_ble_eq_true rfl, Nat.le_of_ble_eq_true rfl⟩ (cw_at_2 cc g E _) rfl rfl rfl (Nat.le_of_ble_eq_true rfl) dX8_family_49 ⟨Nat.le_of_ble_eq_true rfl, Nat.le_of_ble_eq_true rfl⟩ ?_
      refine q_after (rv := (some (.int u3))) (w0 := (cw cc g S ++ E)) (st2 := [.int u3, .int (S.1 2 3)]) rfl rfl rfl ?_
      refine q_iadd (pc := 52) C dX8_family_52 ?_
      refine q_bipush (pc := 53) C (24 : Int32) dX8_family_53 q_cb_24 ?_
      refine q_icmp_le (pc := 55) (tgt := 68) C dX8_family_55 (by decide) (fun c5 => ?_) (fun c5 => ?_)
      · have hf := q_iteT hf c5
        refine q_aload_n (pc := 68) C dX8_family_68 rfl 0 rfl ?_
        refine r_g_0_1 (pc := 69) C n_X8_family_X8 (List.mem_of_getElem? (i := 8) rfl) dX8_family_69 ?_
        refine q_iload_n (pc := 72) C dX8_family_72 rfl 1 rfl ?_
        obtain ⟨u6, e7, hf⟩ := q_bind hf
        refine q_callV (pc := 73) (As := [.int a1]) (rest := []) C (c_X1_addAll l D cc N0 g E S a1 u6 e7) gX8_family_X1_addAll rfl rfl z_X1_addAll ⟨Nat.le_of_ble_eq_true rfl, Nat.le_of_ble_eq_true rfl⟩ (cw_at_2 cc g E _) rfl rfl rfl (Nat.le_of_ble_eq_true rfl) dX8_family_73 ⟨Nat.le_of_ble_eq_true rfl, Nat.le_of_ble_eq_true rfl⟩ ?_
        refine q_after (rv := none) (w0 := (cw cc g u6 ++ E)) (st2 := []) rfl rfl rfl ?_
        refine q_aload_n (pc := 76) C dX8_family_76 rfl 0 rfl ?_
        refine r_g_0_1 (pc := 77) C n_X8_family_X8 (List.mem_of_getElem? (i := 8) rfl) dX8_family_77 ?_
        refine r_n_2_3 (pc := 80) C n_X8_family_X1 (host := "Queryschool") (List.mem_of_getElem? (i := 3) rfl) dX8_family_80 ?_
        obtain rfl := q_some hf
        exact q_wid (Nat.zero_le _) (Nat.zero_le _) (q_retx (q_iret (pc := 83) C dX8_family_83 ⟨rfl, rfl, rfl⟩))
      · have hf := q_iteF hf c5
        obtain rfl := q_some hf
        exact q_throw (pc := 58) (text := "there would be more than 24 concepts") C CX hfl hex (List.mem_of_getElem? (i := 5) rfl) (List.mem_of_getElem? (i := 6) rfl) (by decide +kernel) (List.mem_of_getElem? (i := 6) rfl) (fun w h => (List.mem_cons_of_mem _ (List.mem_append_right _ h))) qx_good_105 qx_bad_105 dX8_family_58 dX8_family_61 dX8_family_62 dX8_family_64 dX8_family_67 (Nat.le_of_ble_eq_true rfl) (Nat.le_of_ble_eq_true rfl) (Nat.le_of_ble_eq_true rfl) (Nat.le_of_ble_eq_true rfl) (Nat.le_of_ble_eq_true rfl) (Nat.le_of_ble_eq_true rfl) ⟨rfl, Nat.le_of_ble_eq_true rfl, rfl⟩
    · have hf := q_iteF hf c2
      obtain rfl := q_some hf
      exact q_throw (pc := 27) (text := "answers were given") C CX hfl hex (List.mem_of_getElem? (i := 3) rfl) (List.mem_of_getElem? (i := 4) rfl) (by decide +kernel) (List.mem_of_getElem? (i := 5) rfl) (fun w h => (List.mem_cons_of_mem _ (List.mem_append_left _ (List.mem_append_right _ h)))) qx_good_100 qx_bad_100 dX8_family_27 dX8_family_30 dX8_family_31 dX8_family_33 dX8_family_36 (Nat.le_of_ble_eq_true rfl) (Nat.le_of_ble_eq_true rfl) (Nat.le_of_ble_eq_true rfl) (Nat.le_of_ble_eq_true rfl) (Nat.le_of_ble_eq_true rfl) (Nat.le_of_ble_eq_true rfl) ⟨rfl, Nat.le_of_ble_eq_true rfl, rfl⟩
  · have hf := q_iteT hf c1
    obtain rfl := q_some hf
    exact q_throw (pc := 7) (text := "there is no such family") C CX hfl hex (List.mem_of_getElem? (i := 1) rfl) (List.mem_of_getElem? (i := 2) rfl) (by decide +kernel) (List.mem_of_getElem? (i := 4) rfl) (fun w h => (List.mem_cons_of_mem _ (List.mem_append_left _ (List.mem_append_left _ (List.mem_append_right _ h))))) qx_good_67 qx_bad_67 dX8_family_7 dX8_family_10 dX8_family_11 dX8_family_13 dX8_family_16 (Nat.le_of_ble_eq_true rfl) (Nat.le_of_ble_eq_true rfl) (Nat.le_of_ble_eq_true rfl) (Nat.le_of_ble_eq_true rfl) (Nat.le_of_ble_eq_true rfl) (Nat.le_of_ble_eq_true rfl) ⟨rfl, Nat.le_of_ble_eq_true rfl, rfl⟩
theorem z_X8_family : q_dsc yX8_family 1 := ⟨by decide +kernel, by decide +kernel, by decide +kernel⟩
theorem n_X8_setOf_X8 : ∀ w ∈ wsX80, w ∈ wsX8_setOf := fun _ h => (List.mem_cons_of_mem _ (List.mem_append_left _ (List.mem_append_left _ (List.mem_append_right _ h))))
def f_X8_setOf (S : CS) (a1 : Int32) : (Nat × Int32) := (if (q_b (f_X1_isNumber S a1)) = 0 then (4, 0) else (0, (f_X1_setAt S a1)))
set_option maxRecDepth 100000 in
set_option maxHeartbeats 4000000 in
theorem c_X8_setOf (l : Launch) (hfl : l.stackTraces = false) (D : va_G) (cc : Nat → ClassId) (N0 : Nat) (g : Nat → Nat) (E : va_W) (S : CS) (a1 : Int32) (v : (Nat × Int32)) (hf : f_X8_setOf S a1 = v) : q_MetX l yX8_setOf wsX8_setOf 6 140 D cc N0 (cw cc g S ++ E) [.ref (g 0), .int a1] (q_px v.1 (some (.int v.2)) (cw cc g S ++ E)) (q_xp v.1 (cw cc g S ++ E)) 1 6 := by
  refine q_ofWX (code := cX8_setOf) (nL := 2) (ret := (some .int)) (by decide +kernel) rfl (Nat.le_of_ble_eq_true rfl) (fun p e s m below meth c C CX hex => ?_)
  refine q_lv (lv2 := [(0, .ref (g 0)), (1, .int a1)]) rfl ?_
  refine q_aload_n (pc := 0) C dX8_setOf_0 rfl 0 rfl ?_
  refine r_g_0_1 (pc := 1) C n_X8_setOf_X8 (List.mem_of_getElem? (i := 3) rfl) dX8_setOf_1 ?_
  refine q_iload_n (pc := 4) C dX8_setOf_4 rfl 1 rfl ?_
  refine q_callV (pc := 5) (As := [.int a1]) (rest := []) C (c_X1_isNumber l D cc N0 g E S a1 _ rfl) gX8_setOf_X1_isNumber rfl rfl z_X1_isNumber ⟨Nat.le_of_ble_eq_true rfl, Nat.le_of_ble_eq_true rfl⟩ (cw_at_2 cc g E _) rfl rfl rfl (Nat.le_of_ble_eq_true rfl) dX8_setOf_5 ⟨Nat.le_of_ble_eq_true rfl, Nat.le_of_ble_eq_true rfl⟩ ?_
  refine q_after (rv := (some (.int (q_b (f_X1_isNumber S a1))))) (w0 := (cw cc g S ++ E)) (st2 := [.int (q_b (f_X1_isNumber S a1))]) rfl rfl rfl ?_
  refine q_if_ne (pc := 8) (tgt := 21) C dX8_setOf_8 (by decide) (fun c1 => ?_) (fun c1 => ?_)
  · have hf := q_iteF hf c1
    refine q_aload_n (pc := 21) C dX8_setOf_21 rfl 0 rfl ?_
    refine r_g_0_1 (pc := 22) C n_X8_setOf_X8 (List.mem_of_getElem? (i := 3) rfl) dX8_setOf_22 ?_
    refine q_iload_n (pc := 25) C dX8_setOf_25 rfl 1 rfl ?_
    refine q_callV (pc := 26) (As := [.int a1]) (rest := []) C (c_X1_setAt l D cc N0 g E S a1 _ rfl) gX8_setOf_X1_setAt rfl rfl z_X1_setAt ⟨Nat.le_of_ble_eq_true rfl, Nat.le_of_ble_eq_true rfl⟩ (cw_at_2 cc g E _) rfl rfl rfl (Nat.le_of_ble_eq_true rfl) dX8_setOf_26 ⟨Nat.le_of_ble_eq_true rfl, Nat.le_of_ble_eq_true rfl⟩ ?_
    refine q_after (rv := (some (.int (f_X1_setAt S a1)))) (w0 := (cw cc g S ++ E)) (st2 := [.int (f_X1_setAt S a1)]) rfl rfl rfl ?_
    obtain rfl := hf
    exact q_wid (Nat.zero_le _) (Nat.zero_le _) (q_retx (q_iret (pc := 29) C dX8_setOf_29 ⟨rfl, rfl, rfl⟩))
  · have hf := q_iteT hf c1
    obtain rfl := hf
    exact q_throw (pc := 11) (text := "there is no such concept") C CX hfl hex (List.mem_of_getElem? (i := 1) rfl) (List.mem_of_getElem? (i := 2) rfl) (by decide +kernel) (List.mem_of_getElem? (i := 7) rfl) (fun w h => (List.mem_cons_of_mem _ (List.mem_append_right _ h))) qx_good_134 qx_bad_134 dX8_setOf_11 dX8_setOf_14 dX8_setOf_15 dX8_setOf_17 dX8_setOf_20 (Nat.le_of_ble_eq_true rfl) (Nat.le_of_ble_eq_true rfl) (Nat.le_of_ble_eq_true rfl) (Nat.le_of_ble_eq_true rfl) (Nat.le_of_ble_eq_true rfl) (Nat.le_of_ble_eq_true rfl) ⟨rfl, Nat.le_of_ble_eq_true rfl, rfl⟩
theorem z_X8_setOf : q_dsc yX8_setOf 1 := ⟨by decide +kernel, by decide +kernel, by decide +kernel⟩
theorem n_X8_teach_X1 : ∀ w ∈ wsX10, w ∈ wsX8_teach := fun _ h => (List.mem_cons_of_mem _ (List.mem_append_left _ (List.mem_append_left _ (List.mem_append_left _ (List.mem_append_left _ (List.mem_append_right _ h))))))
theorem n_X8_teach_X8 : ∀ w ∈ wsX80, w ∈ wsX8_teach := fun _ h => (List.mem_cons_of_mem _ (List.mem_append_left _ (List.mem_append_left _ (List.mem_append_left _ (List.mem_append_left _ (List.mem_append_left _ (List.mem_append_right _ h)))))))
def f_X8_teach_69 (v1 : Int32) (v2 : Int32) (v3 : Int32) (S : CS) : Option ((Nat × Bool) × CS) := (if (S.1 2 3) = 0 then some ((2, false), S) else ((f_X5_come v1 v2 v3 S).bind fun u5 => some ((0, (f_X5_isThere S)), u5)))
def f_X8_teach_42 (v1 : Int32) (v2 : Int32) (v3 : Int32) (S : CS) : Option ((Nat × Bool) × CS) := (if v1 = (97 : Int32) then f_X8_teach_69 v1 v2 v3 S else (if (q_b (f_X1_isNumber S v2)) = 0 then some ((4, false), S) else f_X8_teach_69 v1 v2 v3 S))
def f_X8_teach_32 (S : CS) : Option ((Nat × Bool) × CS) := some ((1, false), S)
def f_X8_teach (a1 : Int32) (a2 : Int32) (a3 : Int32) (S : CS) : Option ((Nat × Bool) × CS) := (if (q_b (f_X5_isKind a1)) = 0 then some ((1, false), S) else (if a1 = (108 : Int32) then (if a3 < 0 then f_X8_teach_32 S else (if a3 ≤ (2 : Int32) then f_X8_teach_42 a1 a2 a3 S else f_X8_teach_32 S)) else f_X8_teach_42 a1 a2 a3 S))
set_option maxRecDepth 100000 in
set_option maxHeartbeats 4000000 in
theorem w_X8_teach_69 {p : Program} {l : Launch} {e : Env} {s : State} {m : MethodId} {args : Array Value} {below : List Frame} {meth : Method} {c : Code} {D : va_G} {cc : Nat → ClassId} {N0 : Nat} {g : Nat → Nat} {E : va_W} {v : ((Nat × Bool) × CS)} (C : q_C p s m args meth c cX8_teach 5 (some .boolean) wsX8_teach RX8 D cc N0) (CX : q_KX N0 s) (hfl : l.stackTraces = false) (hex : ∀ x ∈ c.exceptionTable.toList, False)  (v1 : Int32) (v2 : Int32) (v3 : Int32) (S : CS) (hf : f_X8_teach_69  v1 v2 v3 S = some v) : q_WA p l e (q_rm 6 140 1 6) s m args below meth c D N0 5 (vx_MQ below (q_Q D N0 (q_px v.1.1 (some (.int (q_b v.1.2))) (cw cc g v.2 ++ E))) (q_XX D N0 (q_xp v.1.1 (cw cc g v.2 ++ E))) args s 1 6 (q_A N0)) 0 0 (cw cc g S ++ E) 69 [(0, .ref (g 0)), (1, .int v1), (2, .int v2), (3, .int v3)] [] := by
  refine q_aload_n (pc := 69) C dX8_teach_69 rfl 0 rfl ?_
  refine r_g_0_1 (pc := 70) C n_X8_teach_X8 (List.mem_of_getElem? (i := 7) rfl) dX8_teach_70 ?_
  refine r_n_2_3 (pc := 73) C n_X8_teach_X1 (host := "Queryschool") (List.mem_of_getElem? (i := 3) rfl) dX8_teach_73 ?_
  refine q_if_ne (pc := 76) (tgt := 89) C dX8_teach_76 (by decide) (fun c4 => ?_) (fun c4 => ?_)
  · have hf := q_iteF hf c4
    refine q_aload_n (pc := 89) C dX8_teach_89 rfl 0 rfl ?_
    refine r_g_0_0 (pc := 90) C n_X8_teach_X8 (List.mem_of_getElem? (i := 8) rfl) dX8_teach_90 ?_
    refine q_callV (pc := 93) (As := []) (rest := []) C (c_X5_isThere l D cc N0 g E S _ rfl) gX8_teach_X5_isThere rfl rfl z_X5_isThere ⟨Nat.le_of_ble_eq_true rfl, Nat.le_of_ble_eq_true rfl⟩ (cw_at_1 cc g E _) rfl rfl rfl (Nat.le_of_ble_eq_true rfl) dX8_teach_93 ⟨Nat.le_of_ble_eq_true rfl, Nat.le_of_ble_eq_true rfl⟩ ?_
    refine q_after (rv := (some (.int (q_b (f_X5_isThere S))))) (w0 := (cw cc g S ++ E)) (st2 := [.int (q_b (f_X5_isThere S))]) rfl rfl rfl ?_
    refine q_istore (pc := 96) (lvq := [(4, .int (q_b (f_X5_isThere S))), (0, .ref (g 0)), (1, .int v1), (2, .int v2), (3, .int v3)]) C dX8_teach_96 (by decide) rfl ?_
    refine q_aload_n (pc := 98) C dX8_teach_98 rfl 1 rfl ?_
    refine r_g_0_0 (pc := 99) C n_X8_teach_X8 (List.mem_of_getElem? (i := 8) rfl) dX8_teach_99 ?_
    refine q_iload_n (pc := 102) C dX8_teach_102 rfl 2 rfl ?_
    refine q_iload_n (pc := 103) C dX8_teach_103 rfl 3 rfl ?_
    refine q_iload_n (pc := 104) C dX8_teach_104 rfl 4 rfl ?_
    obtain ⟨u5, e6, hf⟩ := q_bind hf
    refine q_callV (pc := 105) (As := [.int v1, .int v2, .int v3]) (rest := []) C (c_X5_come l D cc N0 g E S v1 v2 v3 u5 e6) gX8_teach_X5_come rfl rfl z_X5_come ⟨Nat.le_of_ble_eq_true rfl, Nat.le_of_ble_eq_true rfl⟩ (cw_at_1 cc g E _) rfl rfl rfl (Nat.le_of_ble_eq_true rfl) dX8_teach_105 ⟨Nat.le_of_ble_eq_true rfl, Nat.le_of_ble_eq_true rfl⟩ ?_
    refine q_after (rv := none) (w0 := (cw cc g u5 ++ E)) (st2 := []) rfl rfl rfl ?_
    refine q_iload (pc := 108) C dX8_teach_108 0 rfl ?_
    obtain rfl := q_some hf
    exact q_wid (Nat.zero_le _) (Nat.zero_le _) (q_retx (q_zret (pc := 110) C (q_b_nar _) dX8_teach_110 ⟨rfl, rfl, rfl⟩))
  · have hf := q_iteT hf c4
    obtain rfl := q_some hf
    exact q_throw (pc := 79) (text := "there are no concepts") C CX hfl hex (List.mem_of_getElem? (i := 5) rfl) (List.mem_of_getElem? (i := 6) rfl) (by decide +kernel) (List.mem_of_getElem? (i := 10) rfl) (fun w h => (List.mem_cons_of_mem _ (List.mem_append_right _ h))) qx_good_100 qx_bad_100 dX8_teach_79 dX8_teach_82 dX8_teach_83 dX8_teach_85 dX8_teach_88 (Nat.le_of_ble_eq_true rfl) (Nat.le_of_ble_eq_true rfl) (Nat.le_of_ble_eq_true rfl) (Nat.le_of_ble_eq_true rfl) (Nat.le_of_ble_eq_true rfl) (Nat.le_of_ble_eq_true rfl) ⟨rfl, Nat.le_of_ble_eq_true rfl, rfl⟩
set_option maxRecDepth 100000 in
set_option maxHeartbeats 4000000 in
theorem w_X8_teach_42 {p : Program} {l : Launch} {e : Env} {s : State} {m : MethodId} {args : Array Value} {below : List Frame} {meth : Method} {c : Code} {D : va_G} {cc : Nat → ClassId} {N0 : Nat} {g : Nat → Nat} {E : va_W} {v : ((Nat × Bool) × CS)} (C : q_C p s m args meth c cX8_teach 5 (some .boolean) wsX8_teach RX8 D cc N0) (CX : q_KX N0 s) (hfl : l.stackTraces = false) (hex : ∀ x ∈ c.exceptionTable.toList, False)  (v1 : Int32) (v2 : Int32) (v3 : Int32) (S : CS) (hf : f_X8_teach_42  v1 v2 v3 S = some v) : q_WA p l e (q_rm 6 140 1 6) s m args below meth c D N0 5 (vx_MQ below (q_Q D N0 (q_px v.1.1 (some (.int (q_b v.1.2))) (cw cc g v.2 ++ E))) (q_XX D N0 (q_xp v.1.1 (cw cc g v.2 ++ E))) args s 1 6 (q_A N0)) 0 0 (cw cc g S ++ E) 42 [(0, .ref (g 0)), (1, .int v1), (2, .int v2), (3, .int v3)] [] := by
  refine q_iload_n (pc := 42) C dX8_teach_42 rfl 1 rfl ?_
  refine q_bipush (pc := 43) C (97 : Int32) dX8_teach_43 q_cb_97 ?_
  refine q_icmp_eq (pc := 45) (tgt := 69) C dX8_teach_45 (by decide) (fun c3 => ?_) (fun c3 => ?_)
  · have hf := q_iteT hf c3
    refine q_sub (lvq := [(0, .ref (g 0)), (1, .int v1), (2, .int v2), (3, .int v3)]) [0, 1, 2, 3] rfl ?_
    exact w_X8_teach_69 C CX hfl hex v1 v2 v3 S hf
  · have hf := q_iteF hf c3
    refine q_aload_n (pc := 48) C dX8_teach_48 rfl 0 rfl ?_
    refine r_g_0_1 (pc := 49) C n_X8_teach_X8 (List.mem_of_getElem? (i := 7) rfl) dX8_teach_49 ?_
    refine q_iload_n (pc := 52) C dX8_teach_52 rfl 2 rfl ?_
    refine q_callV (pc := 53) (As := [.int v2]) (rest := []) C (c_X1_isNumber l D cc N0 g E S v2 _ rfl) gX8_teach_X1_isNumber rfl rfl z_X1_isNumber ⟨Nat.le_of_ble_eq_true rfl, Nat.le_of_ble_eq_true rfl⟩ (cw_at_2 cc g E _) rfl rfl rfl (Nat.le_of_ble_eq_true rfl) dX8_teach_53 ⟨Nat.le_of_ble_eq_true rfl, Nat.le_of_ble_eq_true rfl⟩ ?_
    refine q_after (rv := (some (.int (q_b (f_X1_isNumber S v2))))) (w0 := (cw cc g S ++ E)) (st2 := [.int (q_b (f_X1_isNumber S v2))]) rfl rfl rfl ?_
    refine q_if_ne (pc := 56) (tgt := 69) C dX8_teach_56 (by decide) (fun c7 => ?_) (fun c7 => ?_)
    · have hf := q_iteF hf c7
      refine q_sub (lvq := [(0, .ref (g 0)), (1, .int v1), (2, .int v2), (3, .int v3)]) [0, 1, 2, 3] rfl ?_
      exact w_X8_teach_69 C CX hfl hex v1 v2 v3 S hf
    · have hf := q_iteT hf c7
      obtain rfl := q_some hf
      exact q_throw (pc := 59) (text := "there is no such concept") C CX hfl hex (List.mem_of_getElem? (i := 3) rfl) (List.mem_of_getElem? (i := 4) rfl) (by decide +kernel) (List.mem_of_getElem? (i := 7) rfl) (fun w h => (List.mem_cons_of_mem _ (List.mem_append_left _ (List.mem_append_right _ h)))) qx_good_134 qx_bad_134 dX8_teach_59 dX8_teach_62 dX8_teach_63 dX8_teach_65 dX8_teach_68 (Nat.le_of_ble_eq_true rfl) (Nat.le_of_ble_eq_true rfl) (Nat.le_of_ble_eq_true rfl) (Nat.le_of_ble_eq_true rfl) (Nat.le_of_ble_eq_true rfl) (Nat.le_of_ble_eq_true rfl) ⟨rfl, Nat.le_of_ble_eq_true rfl, rfl⟩
set_option maxRecDepth 100000 in
set_option maxHeartbeats 4000000 in
theorem w_X8_teach_32 {p : Program} {l : Launch} {e : Env} {s : State} {m : MethodId} {args : Array Value} {below : List Frame} {meth : Method} {c : Code} {D : va_G} {cc : Nat → ClassId} {N0 : Nat} {g : Nat → Nat} {E : va_W} {v : ((Nat × Bool) × CS)} (C : q_C p s m args meth c cX8_teach 5 (some .boolean) wsX8_teach RX8 D cc N0) (CX : q_KX N0 s) (hfl : l.stackTraces = false) (hex : ∀ x ∈ c.exceptionTable.toList, False)  (S : CS) (hf : f_X8_teach_32  S = some v) : q_WA p l e (q_rm 6 140 1 6) s m args below meth c D N0 5 (vx_MQ below (q_Q D N0 (q_px v.1.1 (some (.int (q_b v.1.2))) (cw cc g v.2 ++ E))) (q_XX D N0 (q_xp v.1.1 (cw cc g v.2 ++ E))) args s 1 6 (q_A N0)) 0 0 (cw cc g S ++ E) 32 [] [] := by
  obtain rfl := q_some hf
  exact q_throw (pc := 32) (text := "the budget is 0 to 2") C CX hfl hex (List.mem_of_getElem? (i := 1) rfl) (List.mem_of_getElem? (i := 2) rfl) (by decide +kernel) (List.mem_of_getElem? (i := 9) rfl) (fun w h => (List.mem_cons_of_mem _ (List.mem_append_left _ (List.mem_append_left _ (List.mem_append_right _ h))))) qx_good_67 qx_bad_67 dX8_teach_32 dX8_teach_35 dX8_teach_36 dX8_teach_38 dX8_teach_41 (Nat.le_of_ble_eq_true rfl) (Nat.le_of_ble_eq_true rfl) (Nat.le_of_ble_eq_true rfl) (Nat.le_of_ble_eq_true rfl) (Nat.le_of_ble_eq_true rfl) (Nat.le_of_ble_eq_true rfl) ⟨rfl, Nat.le_of_ble_eq_true rfl, rfl⟩
set_option maxRecDepth 100000 in
set_option maxHeartbeats 4000000 in
theorem c_X8_teach (l : Launch) (hfl : l.stackTraces = false) (D : va_G) (cc : Nat → ClassId) (N0 : Nat) (g : Nat → Nat) (E : va_W) (S : CS) (a1 : Int32) (a2 : Int32) (a3 : Int32) (v : ((Nat × Bool) × CS)) (hf : f_X8_teach a1 a2 a3 S = some v) : q_MetX l yX8_teach wsX8_teach 6 140 D cc N0 (cw cc g S ++ E) [.ref (g 0), .int a1, .int a2, .int a3] (q_px v.1.1 (some (.int (q_b v.1.2))) (cw cc g v.2 ++ E)) (q_xp v.1.1 (cw cc g v.2 ++ E)) 1 6 := by
  refine q_ofWX (code := cX8_teach) (nL := 5) (ret := (some .boolean)) (by decide +kernel) rfl (Nat.le_of_ble_eq_true rfl) (fun p e s m below meth c C CX hex => ?_)
  refine q_lv (lv2 := [(0, .ref (g 0)), (1, .int a1), (2, .int a2), (3, .int a3)]) rfl ?_
  refine q_iload_n (pc := 0) C dX8_teach_0 rfl 1 rfl ?_
  refine q_callS (pc := 1) (As := [.int a1]) (rest := []) C (c_X5_isKind l D cc N0 (cw cc g S ++ E) a1 _ rfl) gX8_teach_X5_isKind rfl z_X5_isKind ⟨Nat.le_of_ble_eq_true rfl, Nat.le_of_ble_eq_true rfl⟩ rfl rfl (Nat.le_of_ble_eq_true rfl) dX8_teach_1 ⟨Nat.le_of_ble_eq_true rfl, Nat.le_of_ble_eq_true rfl⟩ ?_
  refine q_after (rv := (some (.int (q_b (f_X5_isKind a1))))) (w0 := (cw cc g S ++ E)) (st2 := [.int (q_b (f_X5_isKind a1))]) rfl rfl rfl ?_
  refine q_if_ne (pc := 4) (tgt := 17) C dX8_teach_4 (by decide) (fun c1 => ?_) (fun c1 => ?_)
  · have hf := q_iteF hf c1
    refine q_iload_n (pc := 17) C dX8_teach_17 rfl 1 rfl ?_
    refine q_bipush (pc := 18) C (108 : Int32) dX8_teach_18 q_cb_108 ?_
    refine q_icmp_ne (pc := 20) (tgt := 42) C dX8_teach_20 (by decide) (fun c2 => ?_) (fun c2 => ?_)
    · have hf := q_iteF hf c2
      refine q_sub (lvq := [(0, .ref (g 0)), (1, .int a1), (2, .int a2), (3, .int a3)]) [0, 1, 2, 3] rfl ?_
      exact w_X8_teach_42 C CX hfl hex a1 a2 a3 S hf
    · have hf := q_iteT hf c2
      refine q_iload_n (pc := 23) C dX8_teach_23 rfl 3 rfl ?_
      refine q_if_lt (pc := 24) (tgt := 32) C dX8_teach_24 (by decide) (fun c8 => ?_) (fun c8 => ?_)
      · have hf := q_iteT hf c8
        refine q_sub (lvq := []) [] rfl ?_
        exact w_X8_teach_32 C CX hfl hex S hf
      · have hf := q_iteF hf c8
        refine q_iload_n (pc := 27) C dX8_teach_27 rfl 3 rfl ?_
        refine q_iconst (pc := 28) C (2 : Int32) dX8_teach_28 q_ci_2 ?_
        refine q_icmp_le (pc := 29) (tgt := 42) C dX8_teach_29 (by decide) (fun c9 => ?_) (fun c9 => ?_)
        · have hf := q_iteT hf c9
          refine q_sub (lvq := [(0, .ref (g 0)), (1, .int a1), (2, .int a2), (3, .int a3)]) [0, 1, 2, 3] rfl ?_
          exact w_X8_teach_42 C CX hfl hex a1 a2 a3 S hf
        · have hf := q_iteF hf c9
          refine q_sub (lvq := []) [] rfl ?_
          exact w_X8_teach_32 C CX hfl hex S hf
  · have hf := q_iteT hf c1
    obtain rfl := q_some hf
    exact q_throw (pc := 7) (text := "there is no such teacher") C CX hfl hex (List.mem_of_getElem? (i := 1) rfl) (List.mem_of_getElem? (i := 2) rfl) (by decide +kernel) (List.mem_of_getElem? (i := 8) rfl) (fun w h => (List.mem_cons_of_mem _ (List.mem_append_left _ (List.mem_append_left _ (List.mem_append_right _ h))))) qx_good_67 qx_bad_67 dX8_teach_7 dX8_teach_10 dX8_teach_11 dX8_teach_13 dX8_teach_16 (Nat.le_of_ble_eq_true rfl) (Nat.le_of_ble_eq_true rfl) (Nat.le_of_ble_eq_true rfl) (Nat.le_of_ble_eq_true rfl) (Nat.le_of_ble_eq_true rfl) (Nat.le_of_ble_eq_true rfl) ⟨rfl, Nat.le_of_ble_eq_true rfl, rfl⟩
theorem z_X8_teach : q_dsc yX8_teach 3 := ⟨by decide +kernel, by decide +kernel, by decide +kernel⟩
theorem n_X8_seed_X5 : ∀ w ∈ wsX50, w ∈ wsX8_seed := fun _ h => (List.mem_cons_of_mem _ (List.mem_append_left _ (List.mem_append_right _ h)))
theorem n_X8_seed_X8 : ∀ w ∈ wsX80, w ∈ wsX8_seed := fun _ h => (List.mem_cons_of_mem _ (List.mem_append_left _ (List.mem_append_left _ (List.mem_append_right _ h))))
def f_X8_seed_11 (S : CS) : ((Nat × Int32) × CS) := ((1, 0), S)
def f_X8_seed (a1 : Int32) (S : CS) : ((Nat × Int32) × CS) := (if a1 < (1 : Int32) then f_X8_seed_11 S else (if a1 ≤ (2147483646 : Int32) then ((0, (S.1 1 7)), (cset S 1 7 a1)) else f_X8_seed_11 S))
set_option maxRecDepth 100000 in
set_option maxHeartbeats 4000000 in
theorem w_X8_seed_11 {p : Program} {l : Launch} {e : Env} {s : State} {m : MethodId} {args : Array Value} {below : List Frame} {meth : Method} {c : Code} {D : va_G} {cc : Nat → ClassId} {N0 : Nat} {g : Nat → Nat} {E : va_W} {v : ((Nat × Int32) × CS)} (C : q_C p s m args meth c cX8_seed 3 (some .int) wsX8_seed RX8 D cc N0) (CX : q_KX N0 s) (hfl : l.stackTraces = false) (hex : ∀ x ∈ c.exceptionTable.toList, False)  (S : CS) (hf : f_X8_seed_11  S = v) : q_WA p l e (q_rm 6 140 1 6) s m args below meth c D N0 3 (vx_MQ below (q_Q D N0 (q_px v.1.1 (some (.int v.1.2)) (cw cc g v.2 ++ E))) (q_XX D N0 (q_xp v.1.1 (cw cc g v.2 ++ E))) args s 1 6 (q_A N0)) 0 0 (cw cc g S ++ E) 11 [] [] := by
  obtain rfl := hf
  exact q_throw (pc := 11) (text := "z is 1 to 2147483646") C CX hfl hex (List.mem_of_getElem? (i := 1) rfl) (List.mem_of_getElem? (i := 2) rfl) (by decide +kernel) (List.mem_of_getElem? (i := 11) rfl) (fun w h => (List.mem_cons_of_mem _ (List.mem_append_right _ h))) qx_good_67 qx_bad_67 dX8_seed_11 dX8_seed_14 dX8_seed_15 dX8_seed_17 dX8_seed_20 (Nat.le_of_ble_eq_true rfl) (Nat.le_of_ble_eq_true rfl) (Nat.le_of_ble_eq_true rfl) (Nat.le_of_ble_eq_true rfl) (Nat.le_of_ble_eq_true rfl) (Nat.le_of_ble_eq_true rfl) ⟨rfl, Nat.le_of_ble_eq_true rfl, rfl⟩
set_option maxRecDepth 100000 in
set_option maxHeartbeats 4000000 in
theorem c_X8_seed (l : Launch) (hfl : l.stackTraces = false) (D : va_G) (cc : Nat → ClassId) (N0 : Nat) (g : Nat → Nat) (E : va_W) (S : CS) (a1 : Int32) (v : ((Nat × Int32) × CS)) (hf : f_X8_seed a1 S = v) : q_MetX l yX8_seed wsX8_seed 6 140 D cc N0 (cw cc g S ++ E) [.ref (g 0), .int a1] (q_px v.1.1 (some (.int v.1.2)) (cw cc g v.2 ++ E)) (q_xp v.1.1 (cw cc g v.2 ++ E)) 1 6 := by
  refine q_ofWX (code := cX8_seed) (nL := 3) (ret := (some .int)) (by decide +kernel) rfl (Nat.le_of_ble_eq_true rfl) (fun p e s m below meth c C CX hex => ?_)
  refine q_lv (lv2 := [(0, .ref (g 0)), (1, .int a1)]) rfl ?_
  refine q_iload_n (pc := 0) C dX8_seed_0 rfl 1 rfl ?_
  refine q_iconst (pc := 1) C (1 : Int32) dX8_seed_1 q_ci_1 ?_
  refine q_icmp_lt (pc := 2) (tgt := 11) C dX8_seed_2 (by decide) (fun c1 => ?_) (fun c1 => ?_)
  · have hf := q_iteT hf c1
    refine q_sub (lvq := []) [] rfl ?_
    exact w_X8_seed_11 C CX hfl hex S hf
  · have hf := q_iteF hf c1
    refine q_iload_n (pc := 5) C dX8_seed_5 rfl 1 rfl ?_
    refine q_ldc (pc := 6) (v := (2147483646 : Int32)) C (List.mem_of_getElem? (i := 3) rfl) dX8_seed_6 ?_
    refine q_icmp_le (pc := 8) (tgt := 21) C dX8_seed_8 (by decide) (fun c2 => ?_) (fun c2 => ?_)
    · have hf := q_iteT hf c2
      refine q_aload_n (pc := 21) C dX8_seed_21 rfl 0 rfl ?_
      refine r_g_0_0 (pc := 22) C n_X8_seed_X8 (List.mem_of_getElem? (i := 4) rfl) dX8_seed_22 ?_
      refine r_n_1_7 (pc := 25) C n_X8_seed_X5 (host := "Queryschool") (List.mem_of_getElem? (i := 7) rfl) dX8_seed_25 ?_
      refine q_istore_n (pc := 28) (lvq := [(2, .int (S.1 1 7)), (0, .ref (g 0)), (1, .int a1)]) C dX8_seed_28 rfl (by decide) rfl ?_
      refine q_aload_n (pc := 29) C dX8_seed_29 rfl 1 rfl ?_
      refine r_g_0_0 (pc := 30) C n_X8_seed_X8 (List.mem_of_getElem? (i := 4) rfl) dX8_seed_30 ?_
      refine q_iload_n (pc := 33) C dX8_seed_33 rfl 2 rfl ?_
      refine r_q_1_7 (pc := 34) C n_X8_seed_X5 (host := "Queryschool") (List.mem_of_getElem? (i := 7) rfl) dX8_seed_34 ?_
      refine q_iload_n (pc := 37) C dX8_seed_37 rfl 0 rfl ?_
      obtain rfl := hf
      exact q_wid (Nat.zero_le _) (Nat.zero_le _) (q_retx (q_iret (pc := 38) C dX8_seed_38 ⟨rfl, rfl, rfl⟩))
    · have hf := q_iteF hf c2
      refine q_sub (lvq := []) [] rfl ?_
      exact w_X8_seed_11 C CX hfl hex S hf
theorem z_X8_seed : q_dsc yX8_seed 1 := ⟨by decide +kernel, by decide +kernel, by decide +kernel⟩
theorem n_X8_ask_X5 : ∀ w ∈ wsX50, w ∈ wsX8_ask := fun _ h => (List.mem_cons_of_mem _ (List.mem_append_left _ (List.mem_append_left _ (List.mem_append_left _ (List.mem_append_left _ (List.mem_append_right _ h))))))
theorem n_X8_ask_X8 : ∀ w ∈ wsX80, w ∈ wsX8_ask := fun _ h => (List.mem_cons_of_mem _ (List.mem_append_left _ (List.mem_append_left _ (List.mem_append_left _ (List.mem_append_left _ (List.mem_append_left _ (List.mem_append_right _ h)))))))
def f_X8_ask (a1 : Int32) (S : CS) : Option ((Nat × Bool) × CS) := (if (q_b (f_X1_isPoint S a1)) = 0 then some ((1, false), S) else (if (q_b (f_X5_isThere S)) = 0 then some ((2, false), S) else (if (S.1 1 6) < (40 : Int32) then ((f_X5_answer a1 S).bind fun u4 => some ((0, u4.1), u4.2)) else some ((3, false), S))))
set_option maxRecDepth 100000 in
set_option maxHeartbeats 4000000 in
theorem c_X8_ask (l : Launch) (hfl : l.stackTraces = false) (D : va_G) (cc : Nat → ClassId) (N0 : Nat) (g : Nat → Nat) (E : va_W) (S : CS) (a1 : Int32) (v : ((Nat × Bool) × CS)) (hf : f_X8_ask a1 S = some v) : q_MetX l yX8_ask wsX8_ask 6 140 D cc N0 (cw cc g S ++ E) [.ref (g 0), .int a1] (q_px v.1.1 (some (.int (q_b v.1.2))) (cw cc g v.2 ++ E)) (q_xp v.1.1 (cw cc g v.2 ++ E)) 1 6 := by
  refine q_ofWX (code := cX8_ask) (nL := 2) (ret := (some .boolean)) (by decide +kernel) rfl (Nat.le_of_ble_eq_true rfl) (fun p e s m below meth c C CX hex => ?_)
  refine q_lv (lv2 := [(0, .ref (g 0)), (1, .int a1)]) rfl ?_
  refine q_aload_n (pc := 0) C dX8_ask_0 rfl 0 rfl ?_
  refine r_g_0_1 (pc := 1) C n_X8_ask_X8 (List.mem_of_getElem? (i := 7) rfl) dX8_ask_1 ?_
  refine q_iload_n (pc := 4) C dX8_ask_4 rfl 1 rfl ?_
  refine q_callV (pc := 5) (As := [.int a1]) (rest := []) C (c_X1_isPoint l D cc N0 g E S a1 _ rfl) gX8_ask_X1_isPoint rfl rfl z_X1_isPoint ⟨Nat.le_of_ble_eq_true rfl, Nat.le_of_ble_eq_true rfl⟩ (cw_at_2 cc g E _) rfl rfl rfl (Nat.le_of_ble_eq_true rfl) dX8_ask_5 ⟨Nat.le_of_ble_eq_true rfl, Nat.le_of_ble_eq_true rfl⟩ ?_
  refine q_after (rv := (some (.int (q_b (f_X1_isPoint S a1))))) (w0 := (cw cc g S ++ E)) (st2 := [.int (q_b (f_X1_isPoint S a1))]) rfl rfl rfl ?_
  refine q_if_ne (pc := 8) (tgt := 21) C dX8_ask_8 (by decide) (fun c1 => ?_) (fun c1 => ?_)
  · have hf := q_iteF hf c1
    refine q_aload_n (pc := 21) C dX8_ask_21 rfl 0 rfl ?_
    refine r_g_0_0 (pc := 22) C n_X8_ask_X8 (List.mem_of_getElem? (i := 8) rfl) dX8_ask_22 ?_
    refine q_callV (pc := 25) (As := []) (rest := []) C (c_X5_isThere l D cc N0 g E S _ rfl) gX8_ask_X5_isThere rfl rfl z_X5_isThere ⟨Nat.le_of_ble_eq_true rfl, Nat.le_of_ble_eq_true rfl⟩ (cw_at_1 cc g E _) rfl rfl rfl (Nat.le_of_ble_eq_true rfl) dX8_ask_25 ⟨Nat.le_of_ble_eq_true rfl, Nat.le_of_ble_eq_true rfl⟩ ?_
    refine q_after (rv := (some (.int (q_b (f_X5_isThere S))))) (w0 := (cw cc g S ++ E)) (st2 := [.int (q_b (f_X5_isThere S))]) rfl rfl rfl ?_
    refine q_if_ne (pc := 28) (tgt := 41) C dX8_ask_28 (by decide) (fun c2 => ?_) (fun c2 => ?_)
    · have hf := q_iteF hf c2
      refine q_aload_n (pc := 41) C dX8_ask_41 rfl 0 rfl ?_
      refine r_g_0_0 (pc := 42) C n_X8_ask_X8 (List.mem_of_getElem? (i := 8) rfl) dX8_ask_42 ?_
      refine r_n_1_6 (pc := 45) C n_X8_ask_X5 (host := "Queryschool") (List.mem_of_getElem? (i := 6) rfl) dX8_ask_45 ?_
      refine q_bipush (pc := 48) C (40 : Int32) dX8_ask_48 q_cb_40 ?_
      refine q_icmp_lt (pc := 50) (tgt := 63) C dX8_ask_50 (by decide) (fun c3 => ?_) (fun c3 => ?_)
      · have hf := q_iteT hf c3
        refine q_aload_n (pc := 63) C dX8_ask_63 rfl 0 rfl ?_
        refine r_g_0_0 (pc := 64) C n_X8_ask_X8 (List.mem_of_getElem? (i := 8) rfl) dX8_ask_64 ?_
        refine q_iload_n (pc := 67) C dX8_ask_67 rfl 1 rfl ?_
        obtain ⟨u4, e5, hf⟩ := q_bind hf
        refine q_callV (pc := 68) (As := [.int a1]) (rest := []) C (c_X5_answer l D cc N0 g E S a1 u4 e5) gX8_ask_X5_answer rfl rfl z_X5_answer ⟨Nat.le_of_ble_eq_true rfl, Nat.le_of_ble_eq_true rfl⟩ (cw_at_1 cc g E _) rfl rfl rfl (Nat.le_of_ble_eq_true rfl) dX8_ask_68 ⟨Nat.le_of_ble_eq_true rfl, Nat.le_of_ble_eq_true rfl⟩ ?_
        refine q_after (rv := (some (.int (q_b u4.1)))) (w0 := (cw cc g u4.2 ++ E)) (st2 := [.int (q_b u4.1)]) rfl rfl rfl ?_
        obtain rfl := q_some hf
        exact q_wid (Nat.zero_le _) (Nat.zero_le _) (q_retx (q_zret (pc := 71) C (q_b_nar _) dX8_ask_71 ⟨rfl, rfl, rfl⟩))
      · have hf := q_iteF hf c3
        obtain rfl := q_some hf
        exact q_throw (pc := 53) (text := "40 answers were given") C CX hfl hex (List.mem_of_getElem? (i := 5) rfl) (List.mem_of_getElem? (i := 6) rfl) (by decide +kernel) (List.mem_of_getElem? (i := 14) rfl) (fun w h => (List.mem_cons_of_mem _ (List.mem_append_right _ h))) qx_good_105 qx_bad_105 dX8_ask_53 dX8_ask_56 dX8_ask_57 dX8_ask_59 dX8_ask_62 (Nat.le_of_ble_eq_true rfl) (Nat.le_of_ble_eq_true rfl) (Nat.le_of_ble_eq_true rfl) (Nat.le_of_ble_eq_true rfl) (Nat.le_of_ble_eq_true rfl) (Nat.le_of_ble_eq_true rfl) ⟨rfl, Nat.le_of_ble_eq_true rfl, rfl⟩
    · have hf := q_iteT hf c2
      obtain rfl := q_some hf
      exact q_throw (pc := 31) (text := "no teacher was told") C CX hfl hex (List.mem_of_getElem? (i := 3) rfl) (List.mem_of_getElem? (i := 4) rfl) (by decide +kernel) (List.mem_of_getElem? (i := 13) rfl) (fun w h => (List.mem_cons_of_mem _ (List.mem_append_left _ (List.mem_append_right _ h)))) qx_good_100 qx_bad_100 dX8_ask_31 dX8_ask_34 dX8_ask_35 dX8_ask_37 dX8_ask_40 (Nat.le_of_ble_eq_true rfl) (Nat.le_of_ble_eq_true rfl) (Nat.le_of_ble_eq_true rfl) (Nat.le_of_ble_eq_true rfl) (Nat.le_of_ble_eq_true rfl) (Nat.le_of_ble_eq_true rfl) ⟨rfl, Nat.le_of_ble_eq_true rfl, rfl⟩
  · have hf := q_iteT hf c1
    obtain rfl := q_some hf
    exact q_throw (pc := 11) (text := "there is no such point") C CX hfl hex (List.mem_of_getElem? (i := 1) rfl) (List.mem_of_getElem? (i := 2) rfl) (by decide +kernel) (List.mem_of_getElem? (i := 12) rfl) (fun w h => (List.mem_cons_of_mem _ (List.mem_append_left _ (List.mem_append_left _ (List.mem_append_right _ h))))) qx_good_67 qx_bad_67 dX8_ask_11 dX8_ask_14 dX8_ask_15 dX8_ask_17 dX8_ask_20 (Nat.le_of_ble_eq_true rfl) (Nat.le_of_ble_eq_true rfl) (Nat.le_of_ble_eq_true rfl) (Nat.le_of_ble_eq_true rfl) (Nat.le_of_ble_eq_true rfl) (Nat.le_of_ble_eq_true rfl) ⟨rfl, Nat.le_of_ble_eq_true rfl, rfl⟩
theorem z_X8_ask : q_dsc yX8_ask 1 := ⟨by decide +kernel, by decide +kernel, by decide +kernel⟩
theorem n_X8_equal_X5 : ∀ w ∈ wsX50, w ∈ wsX8_equal := fun _ h => (List.mem_cons_of_mem _ (List.mem_append_left _ (List.mem_append_left _ (List.mem_append_left _ (List.mem_append_left _ (List.mem_append_right _ h))))))
theorem n_X8_equal_X8 : ∀ w ∈ wsX80, w ∈ wsX8_equal := fun _ h => (List.mem_cons_of_mem _ (List.mem_append_left _ (List.mem_append_left _ (List.mem_append_left _ (List.mem_append_left _ (List.mem_append_left _ (List.mem_append_right _ h)))))))
def f_X8_equal (a1 : Int32) (S : CS) : Option ((Nat × Int32) × CS) := (if (q_b (f_X1_isSet S a1)) = 0 then some ((1, 0), S) else (if (q_b (f_X5_isThere S)) = 0 then some ((2, 0), S) else (if (S.1 1 6) < (40 : Int32) then ((f_X5_compare a1 S).bind fun u4 => some ((0, u4.1), u4.2)) else some ((3, 0), S))))
set_option maxRecDepth 100000 in
set_option maxHeartbeats 4000000 in
theorem c_X8_equal (l : Launch) (hfl : l.stackTraces = false) (D : va_G) (cc : Nat → ClassId) (N0 : Nat) (g : Nat → Nat) (E : va_W) (S : CS) (a1 : Int32) (v : ((Nat × Int32) × CS)) (hf : f_X8_equal a1 S = some v) : q_MetX l yX8_equal wsX8_equal 6 140 D cc N0 (cw cc g S ++ E) [.ref (g 0), .int a1] (q_px v.1.1 (some (.int v.1.2)) (cw cc g v.2 ++ E)) (q_xp v.1.1 (cw cc g v.2 ++ E)) 1 6 := by
  refine q_ofWX (code := cX8_equal) (nL := 2) (ret := (some .int)) (by decide +kernel) rfl (Nat.le_of_ble_eq_true rfl) (fun p e s m below meth c C CX hex => ?_)
  refine q_lv (lv2 := [(0, .ref (g 0)), (1, .int a1)]) rfl ?_
  refine q_aload_n (pc := 0) C dX8_equal_0 rfl 0 rfl ?_
  refine r_g_0_1 (pc := 1) C n_X8_equal_X8 (List.mem_of_getElem? (i := 7) rfl) dX8_equal_1 ?_
  refine q_iload_n (pc := 4) C dX8_equal_4 rfl 1 rfl ?_
  refine q_callV (pc := 5) (As := [.int a1]) (rest := []) C (c_X1_isSet l D cc N0 g E S a1 _ rfl) gX8_equal_X1_isSet rfl rfl z_X1_isSet ⟨Nat.le_of_ble_eq_true rfl, Nat.le_of_ble_eq_true rfl⟩ (cw_at_2 cc g E _) rfl rfl rfl (Nat.le_of_ble_eq_true rfl) dX8_equal_5 ⟨Nat.le_of_ble_eq_true rfl, Nat.le_of_ble_eq_true rfl⟩ ?_
  refine q_after (rv := (some (.int (q_b (f_X1_isSet S a1))))) (w0 := (cw cc g S ++ E)) (st2 := [.int (q_b (f_X1_isSet S a1))]) rfl rfl rfl ?_
  refine q_if_ne (pc := 8) (tgt := 21) C dX8_equal_8 (by decide) (fun c1 => ?_) (fun c1 => ?_)
  · have hf := q_iteF hf c1
    refine q_aload_n (pc := 21) C dX8_equal_21 rfl 0 rfl ?_
    refine r_g_0_0 (pc := 22) C n_X8_equal_X8 (List.mem_of_getElem? (i := 8) rfl) dX8_equal_22 ?_
    refine q_callV (pc := 25) (As := []) (rest := []) C (c_X5_isThere l D cc N0 g E S _ rfl) gX8_equal_X5_isThere rfl rfl z_X5_isThere ⟨Nat.le_of_ble_eq_true rfl, Nat.le_of_ble_eq_true rfl⟩ (cw_at_1 cc g E _) rfl rfl rfl (Nat.le_of_ble_eq_true rfl) dX8_equal_25 ⟨Nat.le_of_ble_eq_true rfl, Nat.le_of_ble_eq_true rfl⟩ ?_
    refine q_after (rv := (some (.int (q_b (f_X5_isThere S))))) (w0 := (cw cc g S ++ E)) (st2 := [.int (q_b (f_X5_isThere S))]) rfl rfl rfl ?_
    refine q_if_ne (pc := 28) (tgt := 41) C dX8_equal_28 (by decide) (fun c2 => ?_) (fun c2 => ?_)
    · have hf := q_iteF hf c2
      refine q_aload_n (pc := 41) C dX8_equal_41 rfl 0 rfl ?_
      refine r_g_0_0 (pc := 42) C n_X8_equal_X8 (List.mem_of_getElem? (i := 8) rfl) dX8_equal_42 ?_
      refine r_n_1_6 (pc := 45) C n_X8_equal_X5 (host := "Queryschool") (List.mem_of_getElem? (i := 6) rfl) dX8_equal_45 ?_
      refine q_bipush (pc := 48) C (40 : Int32) dX8_equal_48 q_cb_40 ?_
      refine q_icmp_lt (pc := 50) (tgt := 63) C dX8_equal_50 (by decide) (fun c3 => ?_) (fun c3 => ?_)
      · have hf := q_iteT hf c3
        refine q_aload_n (pc := 63) C dX8_equal_63 rfl 0 rfl ?_
        refine r_g_0_0 (pc := 64) C n_X8_equal_X8 (List.mem_of_getElem? (i := 8) rfl) dX8_equal_64 ?_
        refine q_iload_n (pc := 67) C dX8_equal_67 rfl 1 rfl ?_
        obtain ⟨u4, e5, hf⟩ := q_bind hf
        refine q_callV (pc := 68) (As := [.int a1]) (rest := []) C (c_X5_compare l D cc N0 g E S a1 u4 e5) gX8_equal_X5_compare rfl rfl z_X5_compare ⟨Nat.le_of_ble_eq_true rfl, Nat.le_of_ble_eq_true rfl⟩ (cw_at_1 cc g E _) rfl rfl rfl (Nat.le_of_ble_eq_true rfl) dX8_equal_68 ⟨Nat.le_of_ble_eq_true rfl, Nat.le_of_ble_eq_true rfl⟩ ?_
        refine q_after (rv := (some (.int u4.1))) (w0 := (cw cc g u4.2 ++ E)) (st2 := [.int u4.1]) rfl rfl rfl ?_
        obtain rfl := q_some hf
        exact q_wid (Nat.zero_le _) (Nat.zero_le _) (q_retx (q_iret (pc := 71) C dX8_equal_71 ⟨rfl, rfl, rfl⟩))
      · have hf := q_iteF hf c3
        obtain rfl := q_some hf
        exact q_throw (pc := 53) (text := "40 answers were given") C CX hfl hex (List.mem_of_getElem? (i := 5) rfl) (List.mem_of_getElem? (i := 6) rfl) (by decide +kernel) (List.mem_of_getElem? (i := 14) rfl) (fun w h => (List.mem_cons_of_mem _ (List.mem_append_right _ h))) qx_good_105 qx_bad_105 dX8_equal_53 dX8_equal_56 dX8_equal_57 dX8_equal_59 dX8_equal_62 (Nat.le_of_ble_eq_true rfl) (Nat.le_of_ble_eq_true rfl) (Nat.le_of_ble_eq_true rfl) (Nat.le_of_ble_eq_true rfl) (Nat.le_of_ble_eq_true rfl) (Nat.le_of_ble_eq_true rfl) ⟨rfl, Nat.le_of_ble_eq_true rfl, rfl⟩
    · have hf := q_iteT hf c2
      obtain rfl := q_some hf
      exact q_throw (pc := 31) (text := "no teacher was told") C CX hfl hex (List.mem_of_getElem? (i := 3) rfl) (List.mem_of_getElem? (i := 4) rfl) (by decide +kernel) (List.mem_of_getElem? (i := 13) rfl) (fun w h => (List.mem_cons_of_mem _ (List.mem_append_left _ (List.mem_append_right _ h)))) qx_good_100 qx_bad_100 dX8_equal_31 dX8_equal_34 dX8_equal_35 dX8_equal_37 dX8_equal_40 (Nat.le_of_ble_eq_true rfl) (Nat.le_of_ble_eq_true rfl) (Nat.le_of_ble_eq_true rfl) (Nat.le_of_ble_eq_true rfl) (Nat.le_of_ble_eq_true rfl) (Nat.le_of_ble_eq_true rfl) ⟨rfl, Nat.le_of_ble_eq_true rfl, rfl⟩
  · have hf := q_iteT hf c1
    obtain rfl := q_some hf
    exact q_throw (pc := 11) (text := "the set has other points") C CX hfl hex (List.mem_of_getElem? (i := 1) rfl) (List.mem_of_getElem? (i := 2) rfl) (by decide +kernel) (List.mem_of_getElem? (i := 1) rfl) (fun w h => (List.mem_cons_of_mem _ (List.mem_append_left _ (List.mem_append_left _ (List.mem_append_right _ h))))) qx_good_67 qx_bad_67 dX8_equal_11 dX8_equal_14 dX8_equal_15 dX8_equal_17 dX8_equal_20 (Nat.le_of_ble_eq_true rfl) (Nat.le_of_ble_eq_true rfl) (Nat.le_of_ble_eq_true rfl) (Nat.le_of_ble_eq_true rfl) (Nat.le_of_ble_eq_true rfl) (Nat.le_of_ble_eq_true rfl) ⟨rfl, Nat.le_of_ble_eq_true rfl, rfl⟩
theorem z_X8_equal : q_dsc yX8_equal 1 := ⟨by decide +kernel, by decide +kernel, by decide +kernel⟩
theorem n_X8_answers_X5 : ∀ w ∈ wsX50, w ∈ wsX8_answers := fun _ h => (List.mem_cons_of_mem _ (List.mem_append_right _ h))
theorem n_X8_answers_X8 : ∀ w ∈ wsX80, w ∈ wsX8_answers := fun _ h => (List.mem_cons_of_mem _ (List.mem_append_left _ (List.mem_append_right _ h)))
def f_X8_answers (S : CS) : Int32 := (S.1 1 6)
set_option maxRecDepth 100000 in
set_option maxHeartbeats 4000000 in
theorem c_X8_answers (l : Launch) (D : va_G) (cc : Nat → ClassId) (N0 : Nat) (g : Nat → Nat) (E : va_W) (S : CS) (v : Int32) (hf : f_X8_answers S = v) : q_Met l yX8_answers wsX8_answers 0 0 D cc N0 (cw cc g S ++ E) [.ref (g 0)] (q_p (some (.int v)) (cw cc g S ++ E)) 0 0 := by
  refine q_ofW (code := cX8_answers) (nL := 1) (ret := (some .int)) (by decide +kernel) rfl (Nat.le_of_ble_eq_true rfl) (fun p e s m below meth c C _ => ?_)
  refine q_lv (lv2 := [(0, .ref (g 0))]) rfl ?_
  refine q_aload_n (pc := 0) C dX8_answers_0 rfl 0 rfl ?_
  refine r_g_0_0 (pc := 1) C n_X8_answers_X8 (List.mem_of_getElem? (i := 1) rfl) dX8_answers_1 ?_
  refine r_n_1_6 (pc := 4) C n_X8_answers_X5 (host := "Queryschool") (List.mem_of_getElem? (i := 6) rfl) dX8_answers_4 ?_
  obtain rfl := hf
  exact q_iret (pc := 7) C dX8_answers_7 ⟨rfl, rfl⟩
theorem z_X8_answers : q_dsc yX8_answers 0 := ⟨by decide +kernel, by decide +kernel, by decide +kernel⟩
theorem n_X8_conflicts_X8 : ∀ w ∈ wsX80, w ∈ wsX8_conflicts := fun _ h => (List.mem_cons_of_mem _ (List.mem_append_left _ (List.mem_append_left _ (List.mem_append_left _ (List.mem_append_right _ h)))))
def f_X8_conflicts (S : CS) (a1 : Int32) : (Nat × Int32) := (if (q_b (f_X1_isNumber S a1)) = 0 then (4, 0) else (0, (f_X5_conflictsOf S a1)))
set_option maxRecDepth 100000 in
set_option maxHeartbeats 4000000 in
theorem c_X8_conflicts (l : Launch) (hfl : l.stackTraces = false) (D : va_G) (cc : Nat → ClassId) (N0 : Nat) (g : Nat → Nat) (E : va_W) (S : CS) (a1 : Int32) (v : (Nat × Int32)) (hf : f_X8_conflicts S a1 = v) : q_MetX l yX8_conflicts wsX8_conflicts 6 140 D cc N0 (cw cc g S ++ E) [.ref (g 0), .int a1] (q_px v.1 (some (.int v.2)) (cw cc g S ++ E)) (q_xp v.1 (cw cc g S ++ E)) 1 6 := by
  refine q_ofWX (code := cX8_conflicts) (nL := 2) (ret := (some .int)) (by decide +kernel) rfl (Nat.le_of_ble_eq_true rfl) (fun p e s m below meth c C CX hex => ?_)
  refine q_lv (lv2 := [(0, .ref (g 0)), (1, .int a1)]) rfl ?_
  refine q_aload_n (pc := 0) C dX8_conflicts_0 rfl 0 rfl ?_
  refine r_g_0_1 (pc := 1) C n_X8_conflicts_X8 (List.mem_of_getElem? (i := 3) rfl) dX8_conflicts_1 ?_
  refine q_iload_n (pc := 4) C dX8_conflicts_4 rfl 1 rfl ?_
  refine q_callV (pc := 5) (As := [.int a1]) (rest := []) C (c_X1_isNumber l D cc N0 g E S a1 _ rfl) gX8_conflicts_X1_isNumber rfl rfl z_X1_isNumber ⟨Nat.le_of_ble_eq_true rfl, Nat.le_of_ble_eq_true rfl⟩ (cw_at_2 cc g E _) rfl rfl rfl (Nat.le_of_ble_eq_true rfl) dX8_conflicts_5 ⟨Nat.le_of_ble_eq_true rfl, Nat.le_of_ble_eq_true rfl⟩ ?_
  refine q_after (rv := (some (.int (q_b (f_X1_isNumber S a1))))) (w0 := (cw cc g S ++ E)) (st2 := [.int (q_b (f_X1_isNumber S a1))]) rfl rfl rfl ?_
  refine q_if_ne (pc := 8) (tgt := 21) C dX8_conflicts_8 (by decide) (fun c1 => ?_) (fun c1 => ?_)
  · have hf := q_iteF hf c1
    refine q_aload_n (pc := 21) C dX8_conflicts_21 rfl 0 rfl ?_
    refine r_g_0_0 (pc := 22) C n_X8_conflicts_X8 (List.mem_of_getElem? (i := 4) rfl) dX8_conflicts_22 ?_
    refine q_iload_n (pc := 25) C dX8_conflicts_25 rfl 1 rfl ?_
    refine q_callV (pc := 26) (As := [.int a1]) (rest := []) C (c_X5_conflictsOf l D cc N0 g E S a1 _ rfl) gX8_conflicts_X5_conflictsOf rfl rfl z_X5_conflictsOf ⟨Nat.le_of_ble_eq_true rfl, Nat.le_of_ble_eq_true rfl⟩ (cw_at_1 cc g E _) rfl rfl rfl (Nat.le_of_ble_eq_true rfl) dX8_conflicts_26 ⟨Nat.le_of_ble_eq_true rfl, Nat.le_of_ble_eq_true rfl⟩ ?_
    refine q_after (rv := (some (.int (f_X5_conflictsOf S a1)))) (w0 := (cw cc g S ++ E)) (st2 := [.int (f_X5_conflictsOf S a1)]) rfl rfl rfl ?_
    obtain rfl := hf
    exact q_wid (Nat.zero_le _) (Nat.zero_le _) (q_retx (q_iret (pc := 29) C dX8_conflicts_29 ⟨rfl, rfl, rfl⟩))
  · have hf := q_iteT hf c1
    obtain rfl := hf
    exact q_throw (pc := 11) (text := "there is no such concept") C CX hfl hex (List.mem_of_getElem? (i := 1) rfl) (List.mem_of_getElem? (i := 2) rfl) (by decide +kernel) (List.mem_of_getElem? (i := 7) rfl) (fun w h => (List.mem_cons_of_mem _ (List.mem_append_right _ h))) qx_good_134 qx_bad_134 dX8_conflicts_11 dX8_conflicts_14 dX8_conflicts_15 dX8_conflicts_17 dX8_conflicts_20 (Nat.le_of_ble_eq_true rfl) (Nat.le_of_ble_eq_true rfl) (Nat.le_of_ble_eq_true rfl) (Nat.le_of_ble_eq_true rfl) (Nat.le_of_ble_eq_true rfl) (Nat.le_of_ble_eq_true rfl) ⟨rfl, Nat.le_of_ble_eq_true rfl, rfl⟩
theorem z_X8_conflicts : q_dsc yX8_conflicts 1 := ⟨by decide +kernel, by decide +kernel, by decide +kernel⟩
theorem n_X8_isAlive_X8 : ∀ w ∈ wsX80, w ∈ wsX8_isAlive := fun _ h => (List.mem_cons_of_mem _ (List.mem_append_left _ (List.mem_append_left _ (List.mem_append_left _ (List.mem_append_right _ h)))))
def f_X8_isAlive (S : CS) (a1 : Int32) : (Nat × Bool) := (if (q_b (f_X1_isNumber S a1)) = 0 then (4, false) else (0, (f_X5_isLiving S a1)))
set_option maxRecDepth 100000 in
set_option maxHeartbeats 4000000 in
theorem c_X8_isAlive (l : Launch) (hfl : l.stackTraces = false) (D : va_G) (cc : Nat → ClassId) (N0 : Nat) (g : Nat → Nat) (E : va_W) (S : CS) (a1 : Int32) (v : (Nat × Bool)) (hf : f_X8_isAlive S a1 = v) : q_MetX l yX8_isAlive wsX8_isAlive 6 140 D cc N0 (cw cc g S ++ E) [.ref (g 0), .int a1] (q_px v.1 (some (.int (q_b v.2))) (cw cc g S ++ E)) (q_xp v.1 (cw cc g S ++ E)) 1 6 := by
  refine q_ofWX (code := cX8_isAlive) (nL := 2) (ret := (some .boolean)) (by decide +kernel) rfl (Nat.le_of_ble_eq_true rfl) (fun p e s m below meth c C CX hex => ?_)
  refine q_lv (lv2 := [(0, .ref (g 0)), (1, .int a1)]) rfl ?_
  refine q_aload_n (pc := 0) C dX8_isAlive_0 rfl 0 rfl ?_
  refine r_g_0_1 (pc := 1) C n_X8_isAlive_X8 (List.mem_of_getElem? (i := 3) rfl) dX8_isAlive_1 ?_
  refine q_iload_n (pc := 4) C dX8_isAlive_4 rfl 1 rfl ?_
  refine q_callV (pc := 5) (As := [.int a1]) (rest := []) C (c_X1_isNumber l D cc N0 g E S a1 _ rfl) gX8_isAlive_X1_isNumber rfl rfl z_X1_isNumber ⟨Nat.le_of_ble_eq_true rfl, Nat.le_of_ble_eq_true rfl⟩ (cw_at_2 cc g E _) rfl rfl rfl (Nat.le_of_ble_eq_true rfl) dX8_isAlive_5 ⟨Nat.le_of_ble_eq_true rfl, Nat.le_of_ble_eq_true rfl⟩ ?_
  refine q_after (rv := (some (.int (q_b (f_X1_isNumber S a1))))) (w0 := (cw cc g S ++ E)) (st2 := [.int (q_b (f_X1_isNumber S a1))]) rfl rfl rfl ?_
  refine q_if_ne (pc := 8) (tgt := 21) C dX8_isAlive_8 (by decide) (fun c1 => ?_) (fun c1 => ?_)
  · have hf := q_iteF hf c1
    refine q_aload_n (pc := 21) C dX8_isAlive_21 rfl 0 rfl ?_
    refine r_g_0_0 (pc := 22) C n_X8_isAlive_X8 (List.mem_of_getElem? (i := 4) rfl) dX8_isAlive_22 ?_
    refine q_iload_n (pc := 25) C dX8_isAlive_25 rfl 1 rfl ?_
    refine q_callV (pc := 26) (As := [.int a1]) (rest := []) C (c_X5_isLiving l D cc N0 g E S a1 _ rfl) gX8_isAlive_X5_isLiving rfl rfl z_X5_isLiving ⟨Nat.le_of_ble_eq_true rfl, Nat.le_of_ble_eq_true rfl⟩ (cw_at_1 cc g E _) rfl rfl rfl (Nat.le_of_ble_eq_true rfl) dX8_isAlive_26 ⟨Nat.le_of_ble_eq_true rfl, Nat.le_of_ble_eq_true rfl⟩ ?_
    refine q_after (rv := (some (.int (q_b (f_X5_isLiving S a1))))) (w0 := (cw cc g S ++ E)) (st2 := [.int (q_b (f_X5_isLiving S a1))]) rfl rfl rfl ?_
    obtain rfl := hf
    exact q_wid (Nat.zero_le _) (Nat.zero_le _) (q_retx (q_zret (pc := 29) C (q_b_nar _) dX8_isAlive_29 ⟨rfl, rfl, rfl⟩))
  · have hf := q_iteT hf c1
    obtain rfl := hf
    exact q_throw (pc := 11) (text := "there is no such concept") C CX hfl hex (List.mem_of_getElem? (i := 1) rfl) (List.mem_of_getElem? (i := 2) rfl) (by decide +kernel) (List.mem_of_getElem? (i := 7) rfl) (fun w h => (List.mem_cons_of_mem _ (List.mem_append_right _ h))) qx_good_134 qx_bad_134 dX8_isAlive_11 dX8_isAlive_14 dX8_isAlive_15 dX8_isAlive_17 dX8_isAlive_20 (Nat.le_of_ble_eq_true rfl) (Nat.le_of_ble_eq_true rfl) (Nat.le_of_ble_eq_true rfl) (Nat.le_of_ble_eq_true rfl) (Nat.le_of_ble_eq_true rfl) (Nat.le_of_ble_eq_true rfl) ⟨rfl, Nat.le_of_ble_eq_true rfl, rfl⟩
theorem z_X8_isAlive : q_dsc yX8_isAlive 1 := ⟨by decide +kernel, by decide +kernel, by decide +kernel⟩
theorem n_X8_alive_X8 : ∀ w ∈ wsX80, w ∈ wsX8_alive := fun _ h => (List.mem_cons_of_mem _ (List.mem_append_left _ (List.mem_append_left _ (List.mem_append_right _ h))))
def f_X8_alive (S : CS) : Option Int32 := ((f_X5_living S).bind fun u1 => some (f_J6_bitCount_0f7a4 u1))
set_option maxRecDepth 100000 in
set_option maxHeartbeats 4000000 in
theorem c_X8_alive (l : Launch) (D : va_G) (cc : Nat → ClassId) (N0 : Nat) (g : Nat → Nat) (E : va_W) (S : CS) (v : Int32) (hf : f_X8_alive S = some v) : q_Met l yX8_alive wsX8_alive 4 85 D cc N0 (cw cc g S ++ E) [.ref (g 0)] (q_p (some (.int v)) (cw cc g S ++ E)) 0 0 := by
  refine q_ofW (code := cX8_alive) (nL := 1) (ret := (some .int)) (by decide +kernel) rfl (Nat.le_of_ble_eq_true rfl) (fun p e s m below meth c C _ => ?_)
  refine q_lv (lv2 := [(0, .ref (g 0))]) rfl ?_
  refine q_aload_n (pc := 0) C dX8_alive_0 rfl 0 rfl ?_
  refine r_g_0_0 (pc := 1) C n_X8_alive_X8 (List.mem_of_getElem? (i := 1) rfl) dX8_alive_1 ?_
  obtain ⟨u1, e2, hf⟩ := q_bind hf
  refine q_callV (pc := 4) (As := []) (rest := []) C (c_X5_living l D cc N0 g E S u1 e2) gX8_alive_X5_living rfl rfl z_X5_living ⟨Nat.le_of_ble_eq_true rfl, Nat.le_of_ble_eq_true rfl⟩ (cw_at_1 cc g E _) rfl rfl rfl (Nat.le_of_ble_eq_true rfl) dX8_alive_4 ⟨Nat.le_of_ble_eq_true rfl, Nat.le_of_ble_eq_true rfl⟩ ?_
  refine q_after (rv := (some (.int u1))) (w0 := (cw cc g S ++ E)) (st2 := [.int u1]) rfl rfl rfl ?_
  refine q_callS (pc := 7) (As := [.int u1]) (rest := []) C (c_J6_bitCount_0f7a4 l D cc N0 (cw cc g S ++ E) u1 _ rfl) gX8_alive_J6_bitCount_0f7a4 rfl z_J6_bitCount_0f7a4 ⟨Nat.le_of_ble_eq_true rfl, Nat.le_of_ble_eq_true rfl⟩ rfl rfl (Nat.le_of_ble_eq_true rfl) dX8_alive_7 ⟨Nat.le_of_ble_eq_true rfl, Nat.le_of_ble_eq_true rfl⟩ ?_
  refine q_after (rv := (some (.int (f_J6_bitCount_0f7a4 u1)))) (w0 := (cw cc g S ++ E)) (st2 := [.int (f_J6_bitCount_0f7a4 u1)]) rfl rfl rfl ?_
  obtain rfl := q_some hf
  exact q_iret (pc := 10) C dX8_alive_10 ⟨rfl, rfl⟩
theorem z_X8_alive : q_dsc yX8_alive 0 := ⟨by decide +kernel, by decide +kernel, by decide +kernel⟩
theorem n_X8_sure_X8 : ∀ w ∈ wsX80, w ∈ wsX8_sure := fun _ h => (List.mem_cons_of_mem _ (List.mem_append_left _ (List.mem_append_left _ (List.mem_append_left _ (List.mem_append_right _ h)))))
def f_X8_sure (S : CS) (a1 : Int32) : Option (Nat × Int32) := (if (q_b (f_X1_isPoint S a1)) = 0 then some (1, 0) else ((f_X5_living S).bind fun u2 => (if q_ch (f_X1_agreementOn S a1 u2) then some (0, (f_X1_agreementOn S a1 u2)) else none)))
set_option maxRecDepth 100000 in
set_option maxHeartbeats 4000000 in
theorem c_X8_sure (l : Launch) (hfl : l.stackTraces = false) (D : va_G) (cc : Nat → ClassId) (N0 : Nat) (g : Nat → Nat) (E : va_W) (S : CS) (a1 : Int32) (v : (Nat × Int32)) (hf : f_X8_sure S a1 = some v) : q_MetX l yX8_sure wsX8_sure 6 140 D cc N0 (cw cc g S ++ E) [.ref (g 0), .int a1] (q_px v.1 (some (.int v.2)) (cw cc g S ++ E)) (q_xp v.1 (cw cc g S ++ E)) 1 6 := by
  refine q_ofWX (code := cX8_sure) (nL := 2) (ret := (some .char)) (by decide +kernel) rfl (Nat.le_of_ble_eq_true rfl) (fun p e s m below meth c C CX hex => ?_)
  refine q_lv (lv2 := [(0, .ref (g 0)), (1, .int a1)]) rfl ?_
  refine q_aload_n (pc := 0) C dX8_sure_0 rfl 0 rfl ?_
  refine r_g_0_1 (pc := 1) C n_X8_sure_X8 (List.mem_of_getElem? (i := 3) rfl) dX8_sure_1 ?_
  refine q_iload_n (pc := 4) C dX8_sure_4 rfl 1 rfl ?_
  refine q_callV (pc := 5) (As := [.int a1]) (rest := []) C (c_X1_isPoint l D cc N0 g E S a1 _ rfl) gX8_sure_X1_isPoint rfl rfl z_X1_isPoint ⟨Nat.le_of_ble_eq_true rfl, Nat.le_of_ble_eq_true rfl⟩ (cw_at_2 cc g E _) rfl rfl rfl (Nat.le_of_ble_eq_true rfl) dX8_sure_5 ⟨Nat.le_of_ble_eq_true rfl, Nat.le_of_ble_eq_true rfl⟩ ?_
  refine q_after (rv := (some (.int (q_b (f_X1_isPoint S a1))))) (w0 := (cw cc g S ++ E)) (st2 := [.int (q_b (f_X1_isPoint S a1))]) rfl rfl rfl ?_
  refine q_if_ne (pc := 8) (tgt := 21) C dX8_sure_8 (by decide) (fun c1 => ?_) (fun c1 => ?_)
  · have hf := q_iteF hf c1
    refine q_aload_n (pc := 21) C dX8_sure_21 rfl 0 rfl ?_
    refine r_g_0_1 (pc := 22) C n_X8_sure_X8 (List.mem_of_getElem? (i := 3) rfl) dX8_sure_22 ?_
    refine q_iload_n (pc := 25) C dX8_sure_25 rfl 1 rfl ?_
    refine q_aload_n (pc := 26) C dX8_sure_26 rfl 0 rfl ?_
    refine r_g_0_0 (pc := 27) C n_X8_sure_X8 (List.mem_of_getElem? (i := 4) rfl) dX8_sure_27 ?_
    obtain ⟨u2, e3, hf⟩ := q_bind hf
    refine q_callV (pc := 30) (As := []) (rest := [.int a1, .ref (g 2)]) C (c_X5_living l D cc N0 g E S u2 e3) gX8_sure_X5_living rfl rfl z_X5_living ⟨Nat.le_of_ble_eq_true rfl, Nat.le_of_ble_eq_true rfl⟩ (cw_at_1 cc g E _) rfl rfl rfl (Nat.le_of_ble_eq_true rfl) dX8_sure_30 ⟨Nat.le_of_ble_eq_true rfl, Nat.le_of_ble_eq_true rfl⟩ ?_
    refine q_after (rv := (some (.int u2))) (w0 := (cw cc g S ++ E)) (st2 := [.int u2, .int a1, .ref (g 2)]) rfl rfl rfl ?_
    refine q_callV (pc := 33) (As := [.int a1, .int u2]) (rest := []) C (c_X1_agreementOn l D cc N0 g E S a1 u2 _ rfl) gX8_sure_X1_agreementOn rfl rfl z_X1_agreementOn ⟨Nat.le_of_ble_eq_true rfl, Nat.le_of_ble_eq_true rfl⟩ (cw_at_2 cc g E _) rfl rfl rfl (Nat.le_of_ble_eq_true rfl) dX8_sure_33 ⟨Nat.le_of_ble_eq_true rfl, Nat.le_of_ble_eq_true rfl⟩ ?_
    refine q_after (rv := (some (.int (f_X1_agreementOn S a1 u2)))) (w0 := (cw cc g S ++ E)) (st2 := [.int (f_X1_agreementOn S a1 u2)]) rfl rfl rfl ?_
    obtain ⟨g4, hf⟩ := q_gd hf
    obtain rfl := q_some hf
    exact q_wid (Nat.zero_le _) (Nat.zero_le _) (q_retx (q_zret (pc := 36) C g4.1 dX8_sure_36 ⟨rfl, rfl, rfl⟩))
  · have hf := q_iteT hf c1
    obtain rfl := q_some hf
    exact q_throw (pc := 11) (text := "there is no such point") C CX hfl hex (List.mem_of_getElem? (i := 1) rfl) (List.mem_of_getElem? (i := 2) rfl) (by decide +kernel) (List.mem_of_getElem? (i := 12) rfl) (fun w h => (List.mem_cons_of_mem _ (List.mem_append_right _ h))) qx_good_67 qx_bad_67 dX8_sure_11 dX8_sure_14 dX8_sure_15 dX8_sure_17 dX8_sure_20 (Nat.le_of_ble_eq_true rfl) (Nat.le_of_ble_eq_true rfl) (Nat.le_of_ble_eq_true rfl) (Nat.le_of_ble_eq_true rfl) (Nat.le_of_ble_eq_true rfl) (Nat.le_of_ble_eq_true rfl) ⟨rfl, Nat.le_of_ble_eq_true rfl, rfl⟩
theorem z_X8_sure : q_dsc yX8_sure 1 := ⟨by decide +kernel, by decide +kernel, by decide +kernel⟩
theorem n_X8_best_X8 : ∀ w ∈ wsX80, w ∈ wsX8_best := fun _ h => (List.mem_cons_of_mem _ (List.mem_append_left _ (List.mem_append_left _ (List.mem_append_left _ (List.mem_append_right _ h)))))
def f_X8_best (S : CS) : Option (Nat × Int32) := ((f_X5_living S).bind fun u1 => (if (2 : Int32) ≤ (f_J6_bitCount_0f7a4 u1) then ((f_X1_bestQuestion S u1).bind fun u4 => some (0, u4)) else some (5, 0)))
set_option maxRecDepth 100000 in
set_option maxHeartbeats 4000000 in
theorem c_X8_best (l : Launch) (hfl : l.stackTraces = false) (D : va_G) (cc : Nat → ClassId) (N0 : Nat) (g : Nat → Nat) (E : va_W) (S : CS) (v : (Nat × Int32)) (hf : f_X8_best S = some v) : q_MetX l yX8_best wsX8_best 6 140 D cc N0 (cw cc g S ++ E) [.ref (g 0)] (q_px v.1 (some (.int v.2)) (cw cc g S ++ E)) (q_xp v.1 (cw cc g S ++ E)) 1 6 := by
  refine q_ofWX (code := cX8_best) (nL := 2) (ret := (some .int)) (by decide +kernel) rfl (Nat.le_of_ble_eq_true rfl) (fun p e s m below meth c C CX hex => ?_)
  refine q_lv (lv2 := [(0, .ref (g 0))]) rfl ?_
  refine q_aload_n (pc := 0) C dX8_best_0 rfl 0 rfl ?_
  refine r_g_0_0 (pc := 1) C n_X8_best_X8 (List.mem_of_getElem? (i := 3) rfl) dX8_best_1 ?_
  obtain ⟨u1, e2, hf⟩ := q_bind hf
  refine q_callV (pc := 4) (As := []) (rest := []) C (c_X5_living l D cc N0 g E S u1 e2) gX8_best_X5_living rfl rfl z_X5_living ⟨Nat.le_of_ble_eq_true rfl, Nat.le_of_ble_eq_true rfl⟩ (cw_at_1 cc g E _) rfl rfl rfl (Nat.le_of_ble_eq_true rfl) dX8_best_4 ⟨Nat.le_of_ble_eq_true rfl, Nat.le_of_ble_eq_true rfl⟩ ?_
  refine q_after (rv := (some (.int u1))) (w0 := (cw cc g S ++ E)) (st2 := [.int u1]) rfl rfl rfl ?_
  refine q_istore_n (pc := 7) (lvq := [(1, .int u1), (0, .ref (g 0))]) C dX8_best_7 rfl (by decide) rfl ?_
  refine q_iload_n (pc := 8) C dX8_best_8 rfl 0 rfl ?_
  refine q_callS (pc := 9) (As := [.int u1]) (rest := []) C (c_J6_bitCount_0f7a4 l D cc N0 (cw cc g S ++ E) u1 _ rfl) gX8_best_J6_bitCount_0f7a4 rfl z_J6_bitCount_0f7a4 ⟨Nat.le_of_ble_eq_true rfl, Nat.le_of_ble_eq_true rfl⟩ rfl rfl (Nat.le_of_ble_eq_true rfl) dX8_best_9 ⟨Nat.le_of_ble_eq_true rfl, Nat.le_of_ble_eq_true rfl⟩ ?_
  refine q_after (rv := (some (.int (f_J6_bitCount_0f7a4 u1)))) (w0 := (cw cc g S ++ E)) (st2 := [.int (f_J6_bitCount_0f7a4 u1)]) rfl rfl rfl ?_
  refine q_iconst (pc := 12) C (2 : Int32) dX8_best_12 q_ci_2 ?_
  refine q_icmp_ge (pc := 13) (tgt := 26) C dX8_best_13 (by decide) (fun c3 => ?_) (fun c3 => ?_)
  · have hf := q_iteT hf c3
    refine q_aload_n (pc := 26) C dX8_best_26 rfl 1 rfl ?_
    refine r_g_0_1 (pc := 27) C n_X8_best_X8 (List.mem_of_getElem? (i := 4) rfl) dX8_best_27 ?_
    refine q_iload_n (pc := 30) C dX8_best_30 rfl 0 rfl ?_
    obtain ⟨u4, e5, hf⟩ := q_bind hf
    refine q_callV (pc := 31) (As := [.int u1]) (rest := []) C (c_X1_bestQuestion l D cc N0 g E S u1 u4 e5) gX8_best_X1_bestQuestion rfl rfl z_X1_bestQuestion ⟨Nat.le_of_ble_eq_true rfl, Nat.le_of_ble_eq_true rfl⟩ (cw_at_2 cc g E _) rfl rfl rfl (Nat.le_of_ble_eq_true rfl) dX8_best_31 ⟨Nat.le_of_ble_eq_true rfl, Nat.le_of_ble_eq_true rfl⟩ ?_
    refine q_after (rv := (some (.int u4))) (w0 := (cw cc g S ++ E)) (st2 := [.int u4]) rfl rfl rfl ?_
    obtain rfl := q_some hf
    exact q_wid (Nat.zero_le _) (Nat.zero_le _) (q_retx (q_iret (pc := 34) C dX8_best_34 ⟨rfl, rfl, rfl⟩))
  · have hf := q_iteF hf c3
    obtain rfl := q_some hf
    exact q_throwN (pc := 16) (text := "fewer than two concepts are alive") C CX hfl hex (List.mem_of_getElem? (i := 1) rfl) (List.mem_of_getElem? (i := 2) rfl) (List.mem_of_getElem? (i := 15) rfl) (fun w h => (List.mem_cons_of_mem _ (List.mem_append_right _ h))) dX8_best_16 dX8_best_19 dX8_best_20 dX8_best_22 dX8_best_25 (Nat.le_of_ble_eq_true rfl) (Nat.le_of_ble_eq_true rfl) (Nat.le_of_ble_eq_true rfl) (Nat.le_of_ble_eq_true rfl) (Nat.le_of_ble_eq_true rfl) (Nat.le_of_ble_eq_true rfl) ⟨rfl, Nat.le_of_ble_eq_true rfl, rfl⟩
theorem z_X8_best : q_dsc yX8_best 0 := ⟨by decide +kernel, by decide +kernel, by decide +kernel⟩
theorem n_X8_learn_X8 : ∀ w ∈ wsX80, w ∈ wsX8_learn := fun _ h => (List.mem_cons_of_mem _ (List.mem_append_left _ (List.mem_append_left _ (List.mem_append_left _ (List.mem_append_right _ h)))))
def f_X8_learn (S : CS) : Option ((Nat × Int32) × CS) := (if (q_b (f_X5_isThere S)) = 0 then some ((2, 0), S) else ((f_X5_askOn S).bind fun u2 => some ((0, u2.1), u2.2)))
set_option maxRecDepth 100000 in
set_option maxHeartbeats 4000000 in
theorem c_X8_learn (l : Launch) (hfl : l.stackTraces = false) (D : va_G) (cc : Nat → ClassId) (N0 : Nat) (g : Nat → Nat) (E : va_W) (S : CS) (v : ((Nat × Int32) × CS)) (hf : f_X8_learn S = some v) : q_MetX l yX8_learn wsX8_learn 6 140 D cc N0 (cw cc g S ++ E) [.ref (g 0)] (q_px v.1.1 (some (.int v.1.2)) (cw cc g v.2 ++ E)) (q_xp v.1.1 (cw cc g v.2 ++ E)) 1 6 := by
  refine q_ofWX (code := cX8_learn) (nL := 1) (ret := (some .int)) (by decide +kernel) rfl (Nat.le_of_ble_eq_true rfl) (fun p e s m below meth c C CX hex => ?_)
  refine q_lv (lv2 := [(0, .ref (g 0))]) rfl ?_
  refine q_aload_n (pc := 0) C dX8_learn_0 rfl 0 rfl ?_
  refine r_g_0_0 (pc := 1) C n_X8_learn_X8 (List.mem_of_getElem? (i := 3) rfl) dX8_learn_1 ?_
  refine q_callV (pc := 4) (As := []) (rest := []) C (c_X5_isThere l D cc N0 g E S _ rfl) gX8_learn_X5_isThere rfl rfl z_X5_isThere ⟨Nat.le_of_ble_eq_true rfl, Nat.le_of_ble_eq_true rfl⟩ (cw_at_1 cc g E _) rfl rfl rfl (Nat.le_of_ble_eq_true rfl) dX8_learn_4 ⟨Nat.le_of_ble_eq_true rfl, Nat.le_of_ble_eq_true rfl⟩ ?_
  refine q_after (rv := (some (.int (q_b (f_X5_isThere S))))) (w0 := (cw cc g S ++ E)) (st2 := [.int (q_b (f_X5_isThere S))]) rfl rfl rfl ?_
  refine q_if_ne (pc := 7) (tgt := 20) C dX8_learn_7 (by decide) (fun c1 => ?_) (fun c1 => ?_)
  · have hf := q_iteF hf c1
    refine q_aload_n (pc := 20) C dX8_learn_20 rfl 0 rfl ?_
    refine r_g_0_0 (pc := 21) C n_X8_learn_X8 (List.mem_of_getElem? (i := 3) rfl) dX8_learn_21 ?_
    obtain ⟨u2, e3, hf⟩ := q_bind hf
    refine q_callV (pc := 24) (As := []) (rest := []) C (c_X5_askOn l D cc N0 g E S u2 e3) gX8_learn_X5_askOn rfl rfl z_X5_askOn ⟨Nat.le_of_ble_eq_true rfl, Nat.le_of_ble_eq_true rfl⟩ (cw_at_1 cc g E _) rfl rfl rfl (Nat.le_of_ble_eq_true rfl) dX8_learn_24 ⟨Nat.le_of_ble_eq_true rfl, Nat.le_of_ble_eq_true rfl⟩ ?_
    refine q_after (rv := (some (.int u2.1))) (w0 := (cw cc g u2.2 ++ E)) (st2 := [.int u2.1]) rfl rfl rfl ?_
    obtain rfl := q_some hf
    exact q_wid (Nat.zero_le _) (Nat.zero_le _) (q_retx (q_iret (pc := 27) C dX8_learn_27 ⟨rfl, rfl, rfl⟩))
  · have hf := q_iteT hf c1
    obtain rfl := q_some hf
    exact q_throw (pc := 10) (text := "no teacher was told") C CX hfl hex (List.mem_of_getElem? (i := 1) rfl) (List.mem_of_getElem? (i := 2) rfl) (by decide +kernel) (List.mem_of_getElem? (i := 13) rfl) (fun w h => (List.mem_cons_of_mem _ (List.mem_append_right _ h))) qx_good_100 qx_bad_100 dX8_learn_10 dX8_learn_13 dX8_learn_14 dX8_learn_16 dX8_learn_19 (Nat.le_of_ble_eq_true rfl) (Nat.le_of_ble_eq_true rfl) (Nat.le_of_ble_eq_true rfl) (Nat.le_of_ble_eq_true rfl) (Nat.le_of_ble_eq_true rfl) (Nat.le_of_ble_eq_true rfl) ⟨rfl, Nat.le_of_ble_eq_true rfl, rfl⟩
theorem z_X8_learn : q_dsc yX8_learn 0 := ⟨by decide +kernel, by decide +kernel, by decide +kernel⟩
theorem n_X8_found_X8 : ∀ w ∈ wsX80, w ∈ wsX8_found := fun _ h => (List.mem_cons_of_mem _ (List.mem_append_left _ (List.mem_append_left _ (List.mem_append_left _ (List.mem_append_right _ h)))))
def f_X8_found (S : CS) : Option (Nat × Int32) := ((f_X5_living S).bind fun u1 => (if (f_J6_bitCount_0f7a4 u1) = (1 : Int32) then ((f_X8_lowestBit u1).bind fun u4 => some (0, u4)) else some (5, 0)))
set_option maxRecDepth 100000 in
set_option maxHeartbeats 4000000 in
theorem c_X8_found (l : Launch) (hfl : l.stackTraces = false) (D : va_G) (cc : Nat → ClassId) (N0 : Nat) (g : Nat → Nat) (E : va_W) (S : CS) (v : (Nat × Int32)) (hf : f_X8_found S = some v) : q_MetX l yX8_found wsX8_found 6 140 D cc N0 (cw cc g S ++ E) [.ref (g 0)] (q_px v.1 (some (.int v.2)) (cw cc g S ++ E)) (q_xp v.1 (cw cc g S ++ E)) 1 6 := by
  refine q_ofWX (code := cX8_found) (nL := 2) (ret := (some .int)) (by decide +kernel) rfl (Nat.le_of_ble_eq_true rfl) (fun p e s m below meth c C CX hex => ?_)
  refine q_lv (lv2 := [(0, .ref (g 0))]) rfl ?_
  refine q_aload_n (pc := 0) C dX8_found_0 rfl 0 rfl ?_
  refine r_g_0_0 (pc := 1) C n_X8_found_X8 (List.mem_of_getElem? (i := 3) rfl) dX8_found_1 ?_
  obtain ⟨u1, e2, hf⟩ := q_bind hf
  refine q_callV (pc := 4) (As := []) (rest := []) C (c_X5_living l D cc N0 g E S u1 e2) gX8_found_X5_living rfl rfl z_X5_living ⟨Nat.le_of_ble_eq_true rfl, Nat.le_of_ble_eq_true rfl⟩ (cw_at_1 cc g E _) rfl rfl rfl (Nat.le_of_ble_eq_true rfl) dX8_found_4 ⟨Nat.le_of_ble_eq_true rfl, Nat.le_of_ble_eq_true rfl⟩ ?_
  refine q_after (rv := (some (.int u1))) (w0 := (cw cc g S ++ E)) (st2 := [.int u1]) rfl rfl rfl ?_
  refine q_istore_n (pc := 7) (lvq := [(1, .int u1), (0, .ref (g 0))]) C dX8_found_7 rfl (by decide) rfl ?_
  refine q_iload_n (pc := 8) C dX8_found_8 rfl 0 rfl ?_
  refine q_callS (pc := 9) (As := [.int u1]) (rest := []) C (c_J6_bitCount_0f7a4 l D cc N0 (cw cc g S ++ E) u1 _ rfl) gX8_found_J6_bitCount_0f7a4 rfl z_J6_bitCount_0f7a4 ⟨Nat.le_of_ble_eq_true rfl, Nat.le_of_ble_eq_true rfl⟩ rfl rfl (Nat.le_of_ble_eq_true rfl) dX8_found_9 ⟨Nat.le_of_ble_eq_true rfl, Nat.le_of_ble_eq_true rfl⟩ ?_
  refine q_after (rv := (some (.int (f_J6_bitCount_0f7a4 u1)))) (w0 := (cw cc g S ++ E)) (st2 := [.int (f_J6_bitCount_0f7a4 u1)]) rfl rfl rfl ?_
  refine q_iconst (pc := 12) C (1 : Int32) dX8_found_12 q_ci_1 ?_
  refine q_icmp_eq (pc := 13) (tgt := 26) C dX8_found_13 (by decide) (fun c3 => ?_) (fun c3 => ?_)
  · have hf := q_iteT hf c3
    refine q_iload_n (pc := 26) C dX8_found_26 rfl 0 rfl ?_
    obtain ⟨u4, e5, hf⟩ := q_bind hf
    refine q_callS (pc := 27) (As := [.int u1]) (rest := []) C (c_X8_lowestBit l D cc N0 (cw cc g S ++ E) u1 u4 e5) gX8_found_X8_lowestBit rfl z_X8_lowestBit ⟨Nat.le_of_ble_eq_true rfl, Nat.le_of_ble_eq_true rfl⟩ rfl rfl (Nat.le_of_ble_eq_true rfl) dX8_found_27 ⟨Nat.le_of_ble_eq_true rfl, Nat.le_of_ble_eq_true rfl⟩ ?_
    refine q_after (rv := (some (.int u4))) (w0 := (cw cc g S ++ E)) (st2 := [.int u4]) rfl rfl rfl ?_
    obtain rfl := q_some hf
    exact q_wid (Nat.zero_le _) (Nat.zero_le _) (q_retx (q_iret (pc := 30) C dX8_found_30 ⟨rfl, rfl, rfl⟩))
  · have hf := q_iteF hf c3
    obtain rfl := q_some hf
    exact q_throwN (pc := 16) (text := "there is not just one concept alive") C CX hfl hex (List.mem_of_getElem? (i := 1) rfl) (List.mem_of_getElem? (i := 2) rfl) (List.mem_of_getElem? (i := 16) rfl) (fun w h => (List.mem_cons_of_mem _ (List.mem_append_right _ h))) dX8_found_16 dX8_found_19 dX8_found_20 dX8_found_22 dX8_found_25 (Nat.le_of_ble_eq_true rfl) (Nat.le_of_ble_eq_true rfl) (Nat.le_of_ble_eq_true rfl) (Nat.le_of_ble_eq_true rfl) (Nat.le_of_ble_eq_true rfl) (Nat.le_of_ble_eq_true rfl) ⟨rfl, Nat.le_of_ble_eq_true rfl, rfl⟩
theorem z_X8_found : q_dsc yX8_found 0 := ⟨by decide +kernel, by decide +kernel, by decide +kernel⟩
theorem n_X8_isShattered_X8 : ∀ w ∈ wsX80, w ∈ wsX8_isShattered := fun _ h => (List.mem_cons_of_mem _ (List.mem_append_left _ (List.mem_append_left _ (List.mem_append_right _ h))))
def f_X8_isShattered (S : CS) (a1 : Int32) : Option (Nat × Bool) := (if (q_b (f_X1_isSet S a1)) = 0 then some (1, false) else ((f_X1_shatters S a1).bind fun u2 => some (0, u2)))
set_option maxRecDepth 100000 in
set_option maxHeartbeats 4000000 in
theorem c_X8_isShattered (l : Launch) (hfl : l.stackTraces = false) (D : va_G) (cc : Nat → ClassId) (N0 : Nat) (g : Nat → Nat) (E : va_W) (S : CS) (a1 : Int32) (v : (Nat × Bool)) (hf : f_X8_isShattered S a1 = some v) : q_MetX l yX8_isShattered wsX8_isShattered 6 140 D cc N0 (cw cc g S ++ E) [.ref (g 0), .int a1] (q_px v.1 (some (.int (q_b v.2))) (cw cc g S ++ E)) (q_xp v.1 (cw cc g S ++ E)) 1 6 := by
  refine q_ofWX (code := cX8_isShattered) (nL := 2) (ret := (some .boolean)) (by decide +kernel) rfl (Nat.le_of_ble_eq_true rfl) (fun p e s m below meth c C CX hex => ?_)
  refine q_lv (lv2 := [(0, .ref (g 0)), (1, .int a1)]) rfl ?_
  refine q_aload_n (pc := 0) C dX8_isShattered_0 rfl 0 rfl ?_
  refine r_g_0_1 (pc := 1) C n_X8_isShattered_X8 (List.mem_of_getElem? (i := 3) rfl) dX8_isShattered_1 ?_
  refine q_iload_n (pc := 4) C dX8_isShattered_4 rfl 1 rfl ?_
  refine q_callV (pc := 5) (As := [.int a1]) (rest := []) C (c_X1_isSet l D cc N0 g E S a1 _ rfl) gX8_isShattered_X1_isSet rfl rfl z_X1_isSet ⟨Nat.le_of_ble_eq_true rfl, Nat.le_of_ble_eq_true rfl⟩ (cw_at_2 cc g E _) rfl rfl rfl (Nat.le_of_ble_eq_true rfl) dX8_isShattered_5 ⟨Nat.le_of_ble_eq_true rfl, Nat.le_of_ble_eq_true rfl⟩ ?_
  refine q_after (rv := (some (.int (q_b (f_X1_isSet S a1))))) (w0 := (cw cc g S ++ E)) (st2 := [.int (q_b (f_X1_isSet S a1))]) rfl rfl rfl ?_
  refine q_if_ne (pc := 8) (tgt := 21) C dX8_isShattered_8 (by decide) (fun c1 => ?_) (fun c1 => ?_)
  · have hf := q_iteF hf c1
    refine q_aload_n (pc := 21) C dX8_isShattered_21 rfl 0 rfl ?_
    refine r_g_0_1 (pc := 22) C n_X8_isShattered_X8 (List.mem_of_getElem? (i := 3) rfl) dX8_isShattered_22 ?_
    refine q_iload_n (pc := 25) C dX8_isShattered_25 rfl 1 rfl ?_
    obtain ⟨u2, e3, hf⟩ := q_bind hf
    refine q_callV (pc := 26) (As := [.int a1]) (rest := []) C (c_X1_shatters l D cc N0 g E S a1 u2 e3) gX8_isShattered_X1_shatters rfl rfl z_X1_shatters ⟨Nat.le_of_ble_eq_true rfl, Nat.le_of_ble_eq_true rfl⟩ (cw_at_2 cc g E _) rfl rfl rfl (Nat.le_of_ble_eq_true rfl) dX8_isShattered_26 ⟨Nat.le_of_ble_eq_true rfl, Nat.le_of_ble_eq_true rfl⟩ ?_
    refine q_after (rv := (some (.int (q_b u2)))) (w0 := (cw cc g S ++ E)) (st2 := [.int (q_b u2)]) rfl rfl rfl ?_
    obtain rfl := q_some hf
    exact q_wid (Nat.zero_le _) (Nat.zero_le _) (q_retx (q_zret (pc := 29) C (q_b_nar _) dX8_isShattered_29 ⟨rfl, rfl, rfl⟩))
  · have hf := q_iteT hf c1
    obtain rfl := q_some hf
    exact q_throw (pc := 11) (text := "the set has other points") C CX hfl hex (List.mem_of_getElem? (i := 1) rfl) (List.mem_of_getElem? (i := 2) rfl) (by decide +kernel) (List.mem_of_getElem? (i := 1) rfl) (fun w h => (List.mem_cons_of_mem _ (List.mem_append_right _ h))) qx_good_67 qx_bad_67 dX8_isShattered_11 dX8_isShattered_14 dX8_isShattered_15 dX8_isShattered_17 dX8_isShattered_20 (Nat.le_of_ble_eq_true rfl) (Nat.le_of_ble_eq_true rfl) (Nat.le_of_ble_eq_true rfl) (Nat.le_of_ble_eq_true rfl) (Nat.le_of_ble_eq_true rfl) (Nat.le_of_ble_eq_true rfl) ⟨rfl, Nat.le_of_ble_eq_true rfl, rfl⟩
theorem z_X8_isShattered : q_dsc yX8_isShattered 1 := ⟨by decide +kernel, by decide +kernel, by decide +kernel⟩
theorem n_X8_dimension_X8 : ∀ w ∈ wsX80, w ∈ wsX8_dimension := fun _ h => (List.mem_cons_of_mem _ (List.mem_append_left _ (List.mem_append_right _ h)))
def f_X8_dimension (S : CS) : Option Int32 := ((f_X1_greatestShattered S).bind fun u1 => some u1)
set_option maxRecDepth 100000 in
set_option maxHeartbeats 4000000 in
theorem c_X8_dimension (l : Launch) (D : va_G) (cc : Nat → ClassId) (N0 : Nat) (g : Nat → Nat) (E : va_W) (S : CS) (v : Int32) (hf : f_X8_dimension S = some v) : q_Met l yX8_dimension wsX8_dimension 4 88 D cc N0 (cw cc g S ++ E) [.ref (g 0)] (q_p (some (.int v)) (cw cc g S ++ E)) 0 0 := by
  refine q_ofW (code := cX8_dimension) (nL := 1) (ret := (some .int)) (by decide +kernel) rfl (Nat.le_of_ble_eq_true rfl) (fun p e s m below meth c C _ => ?_)
  refine q_lv (lv2 := [(0, .ref (g 0))]) rfl ?_
  refine q_aload_n (pc := 0) C dX8_dimension_0 rfl 0 rfl ?_
  refine r_g_0_1 (pc := 1) C n_X8_dimension_X8 (List.mem_of_getElem? (i := 1) rfl) dX8_dimension_1 ?_
  obtain ⟨u1, e2, hf⟩ := q_bind hf
  refine q_callV (pc := 4) (As := []) (rest := []) C (c_X1_greatestShattered l D cc N0 g E S u1 e2) gX8_dimension_X1_greatestShattered rfl rfl z_X1_greatestShattered ⟨Nat.le_of_ble_eq_true rfl, Nat.le_of_ble_eq_true rfl⟩ (cw_at_2 cc g E _) rfl rfl rfl (Nat.le_of_ble_eq_true rfl) dX8_dimension_4 ⟨Nat.le_of_ble_eq_true rfl, Nat.le_of_ble_eq_true rfl⟩ ?_
  refine q_after (rv := (some (.int u1))) (w0 := (cw cc g S ++ E)) (st2 := [.int u1]) rfl rfl rfl ?_
  obtain rfl := q_some hf
  exact q_iret (pc := 7) C dX8_dimension_7 ⟨rfl, rfl⟩
theorem z_X8_dimension : q_dsc yX8_dimension 0 := ⟨by decide +kernel, by decide +kernel, by decide +kernel⟩
theorem n_X8_lesson_X8 : ∀ w ∈ wsX80, w ∈ wsX8_lesson := fun _ h => (List.mem_cons_of_mem _ (List.mem_append_left _ (List.mem_append_left _ (List.mem_append_right _ h))))
def f_X8_lesson (S : CS) (a1 : Int32) : Option (Nat × Int32) := (if (q_b (f_X1_isNumber S a1)) = 0 then some (4, 0) else ((f_X1_leastLesson S a1).bind fun u2 => some (0, u2)))
set_option maxRecDepth 100000 in
set_option maxHeartbeats 4000000 in
theorem c_X8_lesson (l : Launch) (hfl : l.stackTraces = false) (D : va_G) (cc : Nat → ClassId) (N0 : Nat) (g : Nat → Nat) (E : va_W) (S : CS) (a1 : Int32) (v : (Nat × Int32)) (hf : f_X8_lesson S a1 = some v) : q_MetX l yX8_lesson wsX8_lesson 6 140 D cc N0 (cw cc g S ++ E) [.ref (g 0), .int a1] (q_px v.1 (some (.int v.2)) (cw cc g S ++ E)) (q_xp v.1 (cw cc g S ++ E)) 1 6 := by
  refine q_ofWX (code := cX8_lesson) (nL := 2) (ret := (some .int)) (by decide +kernel) rfl (Nat.le_of_ble_eq_true rfl) (fun p e s m below meth c C CX hex => ?_)
  refine q_lv (lv2 := [(0, .ref (g 0)), (1, .int a1)]) rfl ?_
  refine q_aload_n (pc := 0) C dX8_lesson_0 rfl 0 rfl ?_
  refine r_g_0_1 (pc := 1) C n_X8_lesson_X8 (List.mem_of_getElem? (i := 3) rfl) dX8_lesson_1 ?_
  refine q_iload_n (pc := 4) C dX8_lesson_4 rfl 1 rfl ?_
  refine q_callV (pc := 5) (As := [.int a1]) (rest := []) C (c_X1_isNumber l D cc N0 g E S a1 _ rfl) gX8_lesson_X1_isNumber rfl rfl z_X1_isNumber ⟨Nat.le_of_ble_eq_true rfl, Nat.le_of_ble_eq_true rfl⟩ (cw_at_2 cc g E _) rfl rfl rfl (Nat.le_of_ble_eq_true rfl) dX8_lesson_5 ⟨Nat.le_of_ble_eq_true rfl, Nat.le_of_ble_eq_true rfl⟩ ?_
  refine q_after (rv := (some (.int (q_b (f_X1_isNumber S a1))))) (w0 := (cw cc g S ++ E)) (st2 := [.int (q_b (f_X1_isNumber S a1))]) rfl rfl rfl ?_
  refine q_if_ne (pc := 8) (tgt := 21) C dX8_lesson_8 (by decide) (fun c1 => ?_) (fun c1 => ?_)
  · have hf := q_iteF hf c1
    refine q_aload_n (pc := 21) C dX8_lesson_21 rfl 0 rfl ?_
    refine r_g_0_1 (pc := 22) C n_X8_lesson_X8 (List.mem_of_getElem? (i := 3) rfl) dX8_lesson_22 ?_
    refine q_iload_n (pc := 25) C dX8_lesson_25 rfl 1 rfl ?_
    obtain ⟨u2, e3, hf⟩ := q_bind hf
    refine q_callV (pc := 26) (As := [.int a1]) (rest := []) C (c_X1_leastLesson l D cc N0 g E S a1 u2 e3) gX8_lesson_X1_leastLesson rfl rfl z_X1_leastLesson ⟨Nat.le_of_ble_eq_true rfl, Nat.le_of_ble_eq_true rfl⟩ (cw_at_2 cc g E _) rfl rfl rfl (Nat.le_of_ble_eq_true rfl) dX8_lesson_26 ⟨Nat.le_of_ble_eq_true rfl, Nat.le_of_ble_eq_true rfl⟩ ?_
    refine q_after (rv := (some (.int u2))) (w0 := (cw cc g S ++ E)) (st2 := [.int u2]) rfl rfl rfl ?_
    obtain rfl := q_some hf
    exact q_wid (Nat.zero_le _) (Nat.zero_le _) (q_retx (q_iret (pc := 29) C dX8_lesson_29 ⟨rfl, rfl, rfl⟩))
  · have hf := q_iteT hf c1
    obtain rfl := q_some hf
    exact q_throw (pc := 11) (text := "there is no such concept") C CX hfl hex (List.mem_of_getElem? (i := 1) rfl) (List.mem_of_getElem? (i := 2) rfl) (by decide +kernel) (List.mem_of_getElem? (i := 7) rfl) (fun w h => (List.mem_cons_of_mem _ (List.mem_append_right _ h))) qx_good_134 qx_bad_134 dX8_lesson_11 dX8_lesson_14 dX8_lesson_15 dX8_lesson_17 dX8_lesson_20 (Nat.le_of_ble_eq_true rfl) (Nat.le_of_ble_eq_true rfl) (Nat.le_of_ble_eq_true rfl) (Nat.le_of_ble_eq_true rfl) (Nat.le_of_ble_eq_true rfl) (Nat.le_of_ble_eq_true rfl) ⟨rfl, Nat.le_of_ble_eq_true rfl, rfl⟩
theorem z_X8_lesson : q_dsc yX8_lesson 1 := ⟨by decide +kernel, by decide +kernel, by decide +kernel⟩
theorem n_X8_depth_X8 : ∀ w ∈ wsX80, w ∈ wsX8_depth := fun _ h => (List.mem_cons_of_mem _ (List.mem_append_left _ (List.mem_append_left _ (List.mem_append_right _ h))))
def f_X8_depth (S : CS) : Option (Int32 × CS) := ((f_X6_leastDepth S).bind fun u1 => some (u1.1, u1.2))
set_option maxRecDepth 100000 in
set_option maxHeartbeats 4000000 in
theorem c_X8_depth (l : Launch) (D : va_G) (cc : Nat → ClassId) (N0 : Nat) (g : Nat → Nat) (E : va_W) (S : CS) (v : (Int32 × CS)) (hf : f_X8_depth S = some v) : q_Met l yX8_depth wsX8_depth 5 117 D cc N0 (cw cc g S ++ E) [.ref (g 0)] (q_p (some (.int v.1)) (cw cc g v.2 ++ E)) 0 0 := by
  refine q_ofW (code := cX8_depth) (nL := 1) (ret := (some .int)) (by decide +kernel) rfl (Nat.le_of_ble_eq_true rfl) (fun p e s m below meth c C _ => ?_)
  refine q_lv (lv2 := [(0, .ref (g 0))]) rfl ?_
  refine q_aload_n (pc := 0) C dX8_depth_0 rfl 0 rfl ?_
  refine r_g_0_2 (pc := 1) C n_X8_depth_X8 (List.mem_of_getElem? (i := 1) rfl) dX8_depth_1 ?_
  refine q_aload_n (pc := 4) C dX8_depth_4 rfl 0 rfl ?_
  refine r_g_0_1 (pc := 5) C n_X8_depth_X8 (List.mem_of_getElem? (i := 2) rfl) dX8_depth_5 ?_
  obtain ⟨u1, e2, hf⟩ := q_bind hf
  refine q_callV (pc := 8) (As := [.ref (g 2)]) (rest := []) C (c_X6_leastDepth l D cc N0 g E S u1 e2) gX8_depth_X6_leastDepth rfl rfl z_X6_leastDepth ⟨Nat.le_of_ble_eq_true rfl, Nat.le_of_ble_eq_true rfl⟩ (cw_at_3 cc g E _) rfl rfl rfl (Nat.le_of_ble_eq_true rfl) dX8_depth_8 ⟨Nat.le_of_ble_eq_true rfl, Nat.le_of_ble_eq_true rfl⟩ ?_
  refine q_after (rv := (some (.int u1.1))) (w0 := (cw cc g u1.2 ++ E)) (st2 := [.int u1.1]) rfl rfl rfl ?_
  obtain rfl := q_some hf
  exact q_iret (pc := 11) C dX8_depth_11 ⟨rfl, rfl⟩
theorem z_X8_depth : q_dsc yX8_depth 0 := ⟨by decide +kernel, by decide +kernel, by decide +kernel⟩
theorem n_X8_mistakes_X8 : ∀ w ∈ wsX80, w ∈ wsX8_mistakes := fun _ h => (List.mem_cons_of_mem _ (List.mem_append_left _ (List.mem_append_left _ (List.mem_append_right _ h))))
def f_X8_mistakes (S : CS) : Option (Int32 × CS) := ((f_X6_forcedMistakes S).bind fun u1 => some (u1.1, u1.2))
set_option maxRecDepth 100000 in
set_option maxHeartbeats 4000000 in
theorem c_X8_mistakes (l : Launch) (D : va_G) (cc : Nat → ClassId) (N0 : Nat) (g : Nat → Nat) (E : va_W) (S : CS) (v : (Int32 × CS)) (hf : f_X8_mistakes S = some v) : q_Met l yX8_mistakes wsX8_mistakes 5 117 D cc N0 (cw cc g S ++ E) [.ref (g 0)] (q_p (some (.int v.1)) (cw cc g v.2 ++ E)) 0 0 := by
  refine q_ofW (code := cX8_mistakes) (nL := 1) (ret := (some .int)) (by decide +kernel) rfl (Nat.le_of_ble_eq_true rfl) (fun p e s m below meth c C _ => ?_)
  refine q_lv (lv2 := [(0, .ref (g 0))]) rfl ?_
  refine q_aload_n (pc := 0) C dX8_mistakes_0 rfl 0 rfl ?_
  refine r_g_0_2 (pc := 1) C n_X8_mistakes_X8 (List.mem_of_getElem? (i := 1) rfl) dX8_mistakes_1 ?_
  refine q_aload_n (pc := 4) C dX8_mistakes_4 rfl 0 rfl ?_
  refine r_g_0_1 (pc := 5) C n_X8_mistakes_X8 (List.mem_of_getElem? (i := 2) rfl) dX8_mistakes_5 ?_
  obtain ⟨u1, e2, hf⟩ := q_bind hf
  refine q_callV (pc := 8) (As := [.ref (g 2)]) (rest := []) C (c_X6_forcedMistakes l D cc N0 g E S u1 e2) gX8_mistakes_X6_forcedMistakes rfl rfl z_X6_forcedMistakes ⟨Nat.le_of_ble_eq_true rfl, Nat.le_of_ble_eq_true rfl⟩ (cw_at_3 cc g E _) rfl rfl rfl (Nat.le_of_ble_eq_true rfl) dX8_mistakes_8 ⟨Nat.le_of_ble_eq_true rfl, Nat.le_of_ble_eq_true rfl⟩ ?_
  refine q_after (rv := (some (.int u1.1))) (w0 := (cw cc g u1.2 ++ E)) (st2 := [.int u1.1]) rfl rfl rfl ?_
  obtain rfl := q_some hf
  exact q_iret (pc := 11) C dX8_mistakes_11 ⟨rfl, rfl⟩
theorem z_X8_mistakes : q_dsc yX8_mistakes 0 := ⟨by decide +kernel, by decide +kernel, by decide +kernel⟩
theorem n_X8_halver_X8 : ∀ w ∈ wsX80, w ∈ wsX8_halver := fun _ h => (List.mem_cons_of_mem _ (List.mem_append_left _ (List.mem_append_left _ (List.mem_append_right _ h))))
def f_X8_halver (S : CS) (a1 : Int32) : Option (Nat × Int32) := (if (q_b (f_X1_isNumber S a1)) = 0 then some (4, 0) else ((f_X1_halvingMistakes S a1).bind fun u2 => some (0, u2)))
set_option maxRecDepth 100000 in
set_option maxHeartbeats 4000000 in
theorem c_X8_halver (l : Launch) (hfl : l.stackTraces = false) (D : va_G) (cc : Nat → ClassId) (N0 : Nat) (g : Nat → Nat) (E : va_W) (S : CS) (a1 : Int32) (v : (Nat × Int32)) (hf : f_X8_halver S a1 = some v) : q_MetX l yX8_halver wsX8_halver 6 140 D cc N0 (cw cc g S ++ E) [.ref (g 0), .int a1] (q_px v.1 (some (.int v.2)) (cw cc g S ++ E)) (q_xp v.1 (cw cc g S ++ E)) 1 6 := by
  refine q_ofWX (code := cX8_halver) (nL := 2) (ret := (some .int)) (by decide +kernel) rfl (Nat.le_of_ble_eq_true rfl) (fun p e s m below meth c C CX hex => ?_)
  refine q_lv (lv2 := [(0, .ref (g 0)), (1, .int a1)]) rfl ?_
  refine q_aload_n (pc := 0) C dX8_halver_0 rfl 0 rfl ?_
  refine r_g_0_1 (pc := 1) C n_X8_halver_X8 (List.mem_of_getElem? (i := 3) rfl) dX8_halver_1 ?_
  refine q_iload_n (pc := 4) C dX8_halver_4 rfl 1 rfl ?_
  refine q_callV (pc := 5) (As := [.int a1]) (rest := []) C (c_X1_isNumber l D cc N0 g E S a1 _ rfl) gX8_halver_X1_isNumber rfl rfl z_X1_isNumber ⟨Nat.le_of_ble_eq_true rfl, Nat.le_of_ble_eq_true rfl⟩ (cw_at_2 cc g E _) rfl rfl rfl (Nat.le_of_ble_eq_true rfl) dX8_halver_5 ⟨Nat.le_of_ble_eq_true rfl, Nat.le_of_ble_eq_true rfl⟩ ?_
  refine q_after (rv := (some (.int (q_b (f_X1_isNumber S a1))))) (w0 := (cw cc g S ++ E)) (st2 := [.int (q_b (f_X1_isNumber S a1))]) rfl rfl rfl ?_
  refine q_if_ne (pc := 8) (tgt := 21) C dX8_halver_8 (by decide) (fun c1 => ?_) (fun c1 => ?_)
  · have hf := q_iteF hf c1
    refine q_aload_n (pc := 21) C dX8_halver_21 rfl 0 rfl ?_
    refine r_g_0_1 (pc := 22) C n_X8_halver_X8 (List.mem_of_getElem? (i := 3) rfl) dX8_halver_22 ?_
    refine q_iload_n (pc := 25) C dX8_halver_25 rfl 1 rfl ?_
    obtain ⟨u2, e3, hf⟩ := q_bind hf
    refine q_callV (pc := 26) (As := [.int a1]) (rest := []) C (c_X1_halvingMistakes l D cc N0 g E S a1 u2 e3) gX8_halver_X1_halvingMistakes rfl rfl z_X1_halvingMistakes ⟨Nat.le_of_ble_eq_true rfl, Nat.le_of_ble_eq_true rfl⟩ (cw_at_2 cc g E _) rfl rfl rfl (Nat.le_of_ble_eq_true rfl) dX8_halver_26 ⟨Nat.le_of_ble_eq_true rfl, Nat.le_of_ble_eq_true rfl⟩ ?_
    refine q_after (rv := (some (.int u2))) (w0 := (cw cc g S ++ E)) (st2 := [.int u2]) rfl rfl rfl ?_
    obtain rfl := q_some hf
    exact q_wid (Nat.zero_le _) (Nat.zero_le _) (q_retx (q_iret (pc := 29) C dX8_halver_29 ⟨rfl, rfl, rfl⟩))
  · have hf := q_iteT hf c1
    obtain rfl := q_some hf
    exact q_throw (pc := 11) (text := "there is no such concept") C CX hfl hex (List.mem_of_getElem? (i := 1) rfl) (List.mem_of_getElem? (i := 2) rfl) (by decide +kernel) (List.mem_of_getElem? (i := 7) rfl) (fun w h => (List.mem_cons_of_mem _ (List.mem_append_right _ h))) qx_good_134 qx_bad_134 dX8_halver_11 dX8_halver_14 dX8_halver_15 dX8_halver_17 dX8_halver_20 (Nat.le_of_ble_eq_true rfl) (Nat.le_of_ble_eq_true rfl) (Nat.le_of_ble_eq_true rfl) (Nat.le_of_ble_eq_true rfl) (Nat.le_of_ble_eq_true rfl) (Nat.le_of_ble_eq_true rfl) ⟨rfl, Nat.le_of_ble_eq_true rfl, rfl⟩
theorem z_X8_halver : q_dsc yX8_halver 1 := ⟨by decide +kernel, by decide +kernel, by decide +kernel⟩
theorem n_X8_experts_X2 : ∀ w ∈ wsX20, w ∈ wsX8_experts := fun _ h => (List.mem_cons_of_mem _ (List.mem_append_left _ (List.mem_append_right _ h)))
theorem n_X8_experts_X8 : ∀ w ∈ wsX80, w ∈ wsX8_experts := fun _ h => (List.mem_cons_of_mem _ (List.mem_append_left _ (List.mem_append_left _ (List.mem_append_right _ h))))
def f_X8_experts_11 (S : CS) : Option ((Nat × Int32) × CS) := some ((1, 0), S)
def f_X8_experts (a1 : Int32) (S : CS) : Option ((Nat × Int32) × CS) := (if a1 < (1 : Int32) then f_X8_experts_11 S else (if a1 ≤ (6 : Int32) then ((f_X2_startAnew a1 S).bind fun u3 => some ((0, (S.1 4 2)), u3)) else f_X8_experts_11 S))
set_option maxRecDepth 100000 in
set_option maxHeartbeats 4000000 in
theorem w_X8_experts_11 {p : Program} {l : Launch} {e : Env} {s : State} {m : MethodId} {args : Array Value} {below : List Frame} {meth : Method} {c : Code} {D : va_G} {cc : Nat → ClassId} {N0 : Nat} {g : Nat → Nat} {E : va_W} {v : ((Nat × Int32) × CS)} (C : q_C p s m args meth c cX8_experts 3 (some .int) wsX8_experts RX8 D cc N0) (CX : q_KX N0 s) (hfl : l.stackTraces = false) (hex : ∀ x ∈ c.exceptionTable.toList, False)  (S : CS) (hf : f_X8_experts_11  S = some v) : q_WA p l e (q_rm 6 140 1 6) s m args below meth c D N0 3 (vx_MQ below (q_Q D N0 (q_px v.1.1 (some (.int v.1.2)) (cw cc g v.2 ++ E))) (q_XX D N0 (q_xp v.1.1 (cw cc g v.2 ++ E))) args s 1 6 (q_A N0)) 0 0 (cw cc g S ++ E) 11 [] [] := by
  obtain rfl := q_some hf
  exact q_throw (pc := 11) (text := "experts are 1 to 6") C CX hfl hex (List.mem_of_getElem? (i := 1) rfl) (List.mem_of_getElem? (i := 2) rfl) (by decide +kernel) (List.mem_of_getElem? (i := 17) rfl) (fun w h => (List.mem_cons_of_mem _ (List.mem_append_right _ h))) qx_good_67 qx_bad_67 dX8_experts_11 dX8_experts_14 dX8_experts_15 dX8_experts_17 dX8_experts_20 (Nat.le_of_ble_eq_true rfl) (Nat.le_of_ble_eq_true rfl) (Nat.le_of_ble_eq_true rfl) (Nat.le_of_ble_eq_true rfl) (Nat.le_of_ble_eq_true rfl) (Nat.le_of_ble_eq_true rfl) ⟨rfl, Nat.le_of_ble_eq_true rfl, rfl⟩
set_option maxRecDepth 100000 in
set_option maxHeartbeats 4000000 in
theorem c_X8_experts (l : Launch) (hfl : l.stackTraces = false) (D : va_G) (cc : Nat → ClassId) (N0 : Nat) (g : Nat → Nat) (E : va_W) (S : CS) (a1 : Int32) (v : ((Nat × Int32) × CS)) (hf : f_X8_experts a1 S = some v) : q_MetX l yX8_experts wsX8_experts 6 140 D cc N0 (cw cc g S ++ E) [.ref (g 0), .int a1] (q_px v.1.1 (some (.int v.1.2)) (cw cc g v.2 ++ E)) (q_xp v.1.1 (cw cc g v.2 ++ E)) 1 6 := by
  refine q_ofWX (code := cX8_experts) (nL := 3) (ret := (some .int)) (by decide +kernel) rfl (Nat.le_of_ble_eq_true rfl) (fun p e s m below meth c C CX hex => ?_)
  refine q_lv (lv2 := [(0, .ref (g 0)), (1, .int a1)]) rfl ?_
  refine q_iload_n (pc := 0) C dX8_experts_0 rfl 1 rfl ?_
  refine q_iconst (pc := 1) C (1 : Int32) dX8_experts_1 q_ci_1 ?_
  refine q_icmp_lt (pc := 2) (tgt := 11) C dX8_experts_2 (by decide) (fun c1 => ?_) (fun c1 => ?_)
  · have hf := q_iteT hf c1
    refine q_sub (lvq := []) [] rfl ?_
    exact w_X8_experts_11 C CX hfl hex S hf
  · have hf := q_iteF hf c1
    refine q_iload_n (pc := 5) C dX8_experts_5 rfl 1 rfl ?_
    refine q_bipush (pc := 6) C (6 : Int32) dX8_experts_6 q_cb_6 ?_
    refine q_icmp_le (pc := 8) (tgt := 21) C dX8_experts_8 (by decide) (fun c2 => ?_) (fun c2 => ?_)
    · have hf := q_iteT hf c2
      refine q_aload_n (pc := 21) C dX8_experts_21 rfl 0 rfl ?_
      refine r_g_0_3 (pc := 22) C n_X8_experts_X8 (List.mem_of_getElem? (i := 3) rfl) dX8_experts_22 ?_
      refine r_n_4_2 (pc := 25) C n_X8_experts_X2 (host := "Queryschool") (List.mem_of_getElem? (i := 8) rfl) dX8_experts_25 ?_
      refine q_istore_n (pc := 28) (lvq := [(2, .int (S.1 4 2)), (0, .ref (g 0)), (1, .int a1)]) C dX8_experts_28 rfl (by decide) rfl ?_
      refine q_aload_n (pc := 29) C dX8_experts_29 rfl 1 rfl ?_
      refine r_g_0_3 (pc := 30) C n_X8_experts_X8 (List.mem_of_getElem? (i := 3) rfl) dX8_experts_30 ?_
      refine q_iload_n (pc := 33) C dX8_experts_33 rfl 2 rfl ?_
      obtain ⟨u3, e4, hf⟩ := q_bind hf
      refine q_callV (pc := 34) (As := [.int a1]) (rest := []) C (c_X2_startAnew l D cc N0 g E S a1 u3 e4) gX8_experts_X2_startAnew rfl rfl z_X2_startAnew ⟨Nat.le_of_ble_eq_true rfl, Nat.le_of_ble_eq_true rfl⟩ (cw_at_4 cc g E _) rfl rfl rfl (Nat.le_of_ble_eq_true rfl) dX8_experts_34 ⟨Nat.le_of_ble_eq_true rfl, Nat.le_of_ble_eq_true rfl⟩ ?_
      refine q_after (rv := none) (w0 := (cw cc g u3 ++ E)) (st2 := []) rfl rfl rfl ?_
      refine q_iload_n (pc := 37) C dX8_experts_37 rfl 0 rfl ?_
      obtain rfl := q_some hf
      exact q_wid (Nat.zero_le _) (Nat.zero_le _) (q_retx (q_iret (pc := 38) C dX8_experts_38 ⟨rfl, rfl, rfl⟩))
    · have hf := q_iteF hf c2
      refine q_sub (lvq := []) [] rfl ?_
      exact w_X8_experts_11 C CX hfl hex S hf
theorem z_X8_experts : q_dsc yX8_experts 1 := ⟨by decide +kernel, by decide +kernel, by decide +kernel⟩
theorem n_X8_round_X2 : ∀ w ∈ wsX20, w ∈ wsX8_round := fun _ h => (List.mem_cons_of_mem _ (List.mem_append_left _ (List.mem_append_left _ (List.mem_append_right _ h))))
theorem n_X8_round_X8 : ∀ w ∈ wsX80, w ∈ wsX8_round := fun _ h => (List.mem_cons_of_mem _ (List.mem_append_left _ (List.mem_append_left _ (List.mem_append_left _ (List.mem_append_right _ h)))))
def f_X8_round (a1 : Int32) (a2 : Int32) (S : CS) : Option ((Nat × Bool) × CS) := (if (a1 >>> ((S.1 4 2) &&& 31)) = 0 then (if (S.1 4 2) = 0 then some ((2, false), S) else ((f_X2_hear a1 a2 S).bind fun u3 => some ((0, u3.1), u3.2))) else some ((1, false), S))
set_option maxRecDepth 100000 in
set_option maxHeartbeats 4000000 in
theorem c_X8_round (l : Launch) (hfl : l.stackTraces = false) (D : va_G) (cc : Nat → ClassId) (N0 : Nat) (g : Nat → Nat) (E : va_W) (S : CS) (a1 : Int32) (a2 : Int32) (v : ((Nat × Bool) × CS)) (hf : f_X8_round a1 a2 S = some v) : q_MetX l yX8_round wsX8_round 6 140 D cc N0 (cw cc g S ++ E) [.ref (g 0), .int a1, .int a2] (q_px v.1.1 (some (.int (q_b v.1.2))) (cw cc g v.2 ++ E)) (q_xp v.1.1 (cw cc g v.2 ++ E)) 1 6 := by
  refine q_ofWX (code := cX8_round) (nL := 3) (ret := (some .boolean)) (by decide +kernel) rfl (Nat.le_of_ble_eq_true rfl) (fun p e s m below meth c C CX hex => ?_)
  refine q_lv (lv2 := [(0, .ref (g 0)), (1, .int a1), (2, .int a2)]) rfl ?_
  refine q_iload_n (pc := 0) C dX8_round_0 rfl 1 rfl ?_
  refine q_aload_n (pc := 1) C dX8_round_1 rfl 0 rfl ?_
  refine r_g_0_3 (pc := 2) C n_X8_round_X8 (List.mem_of_getElem? (i := 5) rfl) dX8_round_2 ?_
  refine r_n_4_2 (pc := 5) C n_X8_round_X2 (host := "Queryschool") (List.mem_of_getElem? (i := 8) rfl) dX8_round_5 ?_
  refine q_ishr (pc := 8) C dX8_round_8 ?_
  refine q_if_eq (pc := 9) (tgt := 22) C dX8_round_9 (by decide) (fun c1 => ?_) (fun c1 => ?_)
  · have hf := q_iteT hf c1
    refine q_aload_n (pc := 22) C dX8_round_22 rfl 0 rfl ?_
    refine r_g_0_3 (pc := 23) C n_X8_round_X8 (List.mem_of_getElem? (i := 5) rfl) dX8_round_23 ?_
    refine r_n_4_2 (pc := 26) C n_X8_round_X2 (host := "Queryschool") (List.mem_of_getElem? (i := 8) rfl) dX8_round_26 ?_
    refine q_if_ne (pc := 29) (tgt := 42) C dX8_round_29 (by decide) (fun c2 => ?_) (fun c2 => ?_)
    · have hf := q_iteF hf c2
      refine q_aload_n (pc := 42) C dX8_round_42 rfl 0 rfl ?_
      refine r_g_0_3 (pc := 43) C n_X8_round_X8 (List.mem_of_getElem? (i := 5) rfl) dX8_round_43 ?_
      refine q_iload_n (pc := 46) C dX8_round_46 rfl 1 rfl ?_
      refine q_iload_n (pc := 47) C dX8_round_47 rfl 2 rfl ?_
      obtain ⟨u3, e4, hf⟩ := q_bind hf
      refine q_callV (pc := 48) (As := [.int a1, .int a2]) (rest := []) C (c_X2_hear l D cc N0 g E S a1 a2 u3 e4) gX8_round_X2_hear rfl rfl z_X2_hear ⟨Nat.le_of_ble_eq_true rfl, Nat.le_of_ble_eq_true rfl⟩ (cw_at_4 cc g E _) rfl rfl rfl (Nat.le_of_ble_eq_true rfl) dX8_round_48 ⟨Nat.le_of_ble_eq_true rfl, Nat.le_of_ble_eq_true rfl⟩ ?_
      refine q_after (rv := (some (.int (q_b u3.1)))) (w0 := (cw cc g u3.2 ++ E)) (st2 := [.int (q_b u3.1)]) rfl rfl rfl ?_
      obtain rfl := q_some hf
      exact q_wid (Nat.zero_le _) (Nat.zero_le _) (q_retx (q_zret (pc := 51) C (q_b_nar _) dX8_round_51 ⟨rfl, rfl, rfl⟩))
    · have hf := q_iteT hf c2
      obtain rfl := q_some hf
      exact q_throw (pc := 32) (text := "there are no experts") C CX hfl hex (List.mem_of_getElem? (i := 3) rfl) (List.mem_of_getElem? (i := 4) rfl) (by decide +kernel) (List.mem_of_getElem? (i := 19) rfl) (fun w h => (List.mem_cons_of_mem _ (List.mem_append_right _ h))) qx_good_100 qx_bad_100 dX8_round_32 dX8_round_35 dX8_round_36 dX8_round_38 dX8_round_41 (Nat.le_of_ble_eq_true rfl) (Nat.le_of_ble_eq_true rfl) (Nat.le_of_ble_eq_true rfl) (Nat.le_of_ble_eq_true rfl) (Nat.le_of_ble_eq_true rfl) (Nat.le_of_ble_eq_true rfl) ⟨rfl, Nat.le_of_ble_eq_true rfl, rfl⟩
  · have hf := q_iteF hf c1
    obtain rfl := q_some hf
    exact q_throw (pc := 12) (text := "there are bits of others") C CX hfl hex (List.mem_of_getElem? (i := 1) rfl) (List.mem_of_getElem? (i := 2) rfl) (by decide +kernel) (List.mem_of_getElem? (i := 18) rfl) (fun w h => (List.mem_cons_of_mem _ (List.mem_append_left _ (List.mem_append_right _ h)))) qx_good_67 qx_bad_67 dX8_round_12 dX8_round_15 dX8_round_16 dX8_round_18 dX8_round_21 (Nat.le_of_ble_eq_true rfl) (Nat.le_of_ble_eq_true rfl) (Nat.le_of_ble_eq_true rfl) (Nat.le_of_ble_eq_true rfl) (Nat.le_of_ble_eq_true rfl) (Nat.le_of_ble_eq_true rfl) ⟨rfl, Nat.le_of_ble_eq_true rfl, rfl⟩
theorem z_X8_round : q_dsc yX8_round 2 := ⟨by decide +kernel, by decide +kernel, by decide +kernel⟩
theorem n_X8_weight_X2 : ∀ w ∈ wsX20, w ∈ wsX8_weight := fun _ h => (List.mem_cons_of_mem _ (List.mem_append_left _ (List.mem_append_right _ h)))
theorem n_X8_weight_X8 : ∀ w ∈ wsX80, w ∈ wsX8_weight := fun _ h => (List.mem_cons_of_mem _ (List.mem_append_left _ (List.mem_append_left _ (List.mem_append_right _ h))))
def f_X8_weight_15 (S : CS) : (Nat × Int32) := (4, 0)
def f_X8_weight (S : CS) (a1 : Int32) : (Nat × Int32) := (if a1 < 0 then f_X8_weight_15 S else (if a1 < (S.1 4 2) then (0, (f_X2_weightOf S a1)) else f_X8_weight_15 S))
set_option maxRecDepth 100000 in
set_option maxHeartbeats 4000000 in
theorem w_X8_weight_15 {p : Program} {l : Launch} {e : Env} {s : State} {m : MethodId} {args : Array Value} {below : List Frame} {meth : Method} {c : Code} {D : va_G} {cc : Nat → ClassId} {N0 : Nat} {g : Nat → Nat} {E : va_W} {S : CS} {v : (Nat × Int32)} (C : q_C p s m args meth c cX8_weight 2 (some .int) wsX8_weight RX8 D cc N0) (CX : q_KX N0 s) (hfl : l.stackTraces = false) (hex : ∀ x ∈ c.exceptionTable.toList, False)   (hf : f_X8_weight_15 S  = v) : q_WA p l e (q_rm 6 140 1 6) s m args below meth c D N0 2 (vx_MQ below (q_Q D N0 (q_px v.1 (some (.int v.2)) (cw cc g S ++ E))) (q_XX D N0 (q_xp v.1 (cw cc g S ++ E))) args s 1 6 (q_A N0)) 0 0 (cw cc g S ++ E) 15 [] [] := by
  obtain rfl := hf
  exact q_throw (pc := 15) (text := "there is no such expert") C CX hfl hex (List.mem_of_getElem? (i := 1) rfl) (List.mem_of_getElem? (i := 2) rfl) (by decide +kernel) (List.mem_of_getElem? (i := 20) rfl) (fun w h => (List.mem_cons_of_mem _ (List.mem_append_right _ h))) qx_good_134 qx_bad_134 dX8_weight_15 dX8_weight_18 dX8_weight_19 dX8_weight_21 dX8_weight_24 (Nat.le_of_ble_eq_true rfl) (Nat.le_of_ble_eq_true rfl) (Nat.le_of_ble_eq_true rfl) (Nat.le_of_ble_eq_true rfl) (Nat.le_of_ble_eq_true rfl) (Nat.le_of_ble_eq_true rfl) ⟨rfl, Nat.le_of_ble_eq_true rfl, rfl⟩
set_option maxRecDepth 100000 in
set_option maxHeartbeats 4000000 in
theorem c_X8_weight (l : Launch) (hfl : l.stackTraces = false) (D : va_G) (cc : Nat → ClassId) (N0 : Nat) (g : Nat → Nat) (E : va_W) (S : CS) (a1 : Int32) (v : (Nat × Int32)) (hf : f_X8_weight S a1 = v) : q_MetX l yX8_weight wsX8_weight 6 140 D cc N0 (cw cc g S ++ E) [.ref (g 0), .int a1] (q_px v.1 (some (.int v.2)) (cw cc g S ++ E)) (q_xp v.1 (cw cc g S ++ E)) 1 6 := by
  refine q_ofWX (code := cX8_weight) (nL := 2) (ret := (some .int)) (by decide +kernel) rfl (Nat.le_of_ble_eq_true rfl) (fun p e s m below meth c C CX hex => ?_)
  refine q_lv (lv2 := [(0, .ref (g 0)), (1, .int a1)]) rfl ?_
  refine q_iload_n (pc := 0) C dX8_weight_0 rfl 1 rfl ?_
  refine q_if_lt (pc := 1) (tgt := 15) C dX8_weight_1 (by decide) (fun c1 => ?_) (fun c1 => ?_)
  · have hf := q_iteT hf c1
    refine q_sub (lvq := []) [] rfl ?_
    exact w_X8_weight_15 C CX hfl hex hf
  · have hf := q_iteF hf c1
    refine q_iload_n (pc := 4) C dX8_weight_4 rfl 1 rfl ?_
    refine q_aload_n (pc := 5) C dX8_weight_5 rfl 0 rfl ?_
    refine r_g_0_3 (pc := 6) C n_X8_weight_X8 (List.mem_of_getElem? (i := 3) rfl) dX8_weight_6 ?_
    refine r_n_4_2 (pc := 9) C n_X8_weight_X2 (host := "Queryschool") (List.mem_of_getElem? (i := 8) rfl) dX8_weight_9 ?_
    refine q_icmp_lt (pc := 12) (tgt := 25) C dX8_weight_12 (by decide) (fun c2 => ?_) (fun c2 => ?_)
    · have hf := q_iteT hf c2
      refine q_aload_n (pc := 25) C dX8_weight_25 rfl 0 rfl ?_
      refine r_g_0_3 (pc := 26) C n_X8_weight_X8 (List.mem_of_getElem? (i := 3) rfl) dX8_weight_26 ?_
      refine q_iload_n (pc := 29) C dX8_weight_29 rfl 1 rfl ?_
      refine q_callV (pc := 30) (As := [.int a1]) (rest := []) C (c_X2_weightOf l D cc N0 g E S a1 _ rfl) gX8_weight_X2_weightOf rfl rfl z_X2_weightOf ⟨Nat.le_of_ble_eq_true rfl, Nat.le_of_ble_eq_true rfl⟩ (cw_at_4 cc g E _) rfl rfl rfl (Nat.le_of_ble_eq_true rfl) dX8_weight_30 ⟨Nat.le_of_ble_eq_true rfl, Nat.le_of_ble_eq_true rfl⟩ ?_
      refine q_after (rv := (some (.int (f_X2_weightOf S a1)))) (w0 := (cw cc g S ++ E)) (st2 := [.int (f_X2_weightOf S a1)]) rfl rfl rfl ?_
      obtain rfl := hf
      exact q_wid (Nat.zero_le _) (Nat.zero_le _) (q_retx (q_iret (pc := 33) C dX8_weight_33 ⟨rfl, rfl, rfl⟩))
    · have hf := q_iteF hf c2
      refine q_sub (lvq := []) [] rfl ?_
      exact w_X8_weight_15 C CX hfl hex hf
theorem z_X8_weight : q_dsc yX8_weight 1 := ⟨by decide +kernel, by decide +kernel, by decide +kernel⟩
theorem n_X8_regret_X2 : ∀ w ∈ wsX20, w ∈ wsX8_regret := fun _ h => (List.mem_cons_of_mem _ (List.mem_append_left _ (List.mem_append_right _ h)))
theorem n_X8_regret_X8 : ∀ w ∈ wsX80, w ∈ wsX8_regret := fun _ h => (List.mem_cons_of_mem _ (List.mem_append_left _ (List.mem_append_left _ (List.mem_append_right _ h))))
def f_X8_regret (S : CS) : Option (Nat × Int32) := (if (S.1 4 2) = 0 then some (2, 0) else ((f_X2_leastWrong S).bind fun u2 => some (0, ((S.1 4 3) - u2))))
set_option maxRecDepth 100000 in
set_option maxHeartbeats 4000000 in
theorem c_X8_regret (l : Launch) (hfl : l.stackTraces = false) (D : va_G) (cc : Nat → ClassId) (N0 : Nat) (g : Nat → Nat) (E : va_W) (S : CS) (v : (Nat × Int32)) (hf : f_X8_regret S = some v) : q_MetX l yX8_regret wsX8_regret 6 140 D cc N0 (cw cc g S ++ E) [.ref (g 0)] (q_px v.1 (some (.int v.2)) (cw cc g S ++ E)) (q_xp v.1 (cw cc g S ++ E)) 1 6 := by
  refine q_ofWX (code := cX8_regret) (nL := 1) (ret := (some .int)) (by decide +kernel) rfl (Nat.le_of_ble_eq_true rfl) (fun p e s m below meth c C CX hex => ?_)
  refine q_lv (lv2 := [(0, .ref (g 0))]) rfl ?_
  refine q_aload_n (pc := 0) C dX8_regret_0 rfl 0 rfl ?_
  refine r_g_0_3 (pc := 1) C n_X8_regret_X8 (List.mem_of_getElem? (i := 3) rfl) dX8_regret_1 ?_
  refine r_n_4_2 (pc := 4) C n_X8_regret_X2 (host := "Queryschool") (List.mem_of_getElem? (i := 8) rfl) dX8_regret_4 ?_
  refine q_if_ne (pc := 7) (tgt := 20) C dX8_regret_7 (by decide) (fun c1 => ?_) (fun c1 => ?_)
  · have hf := q_iteF hf c1
    refine q_aload_n (pc := 20) C dX8_regret_20 rfl 0 rfl ?_
    refine r_g_0_3 (pc := 21) C n_X8_regret_X8 (List.mem_of_getElem? (i := 3) rfl) dX8_regret_21 ?_
    refine r_n_4_3 (pc := 24) C n_X8_regret_X2 (host := "Queryschool") (List.mem_of_getElem? (i := 9) rfl) dX8_regret_24 ?_
    refine q_aload_n (pc := 27) C dX8_regret_27 rfl 0 rfl ?_
    refine r_g_0_3 (pc := 28) C n_X8_regret_X8 (List.mem_of_getElem? (i := 3) rfl) dX8_regret_28 ?_
    obtain ⟨u2, e3, hf⟩ := q_bind hf
    refine q_callV (pc := 31) (As := []) (rest := [.int (S.1 4 3)]) C (c_X2_leastWrong l D cc N0 g E S u2 e3) gX8_regret_X2_leastWrong rfl rfl z_X2_leastWrong ⟨Nat.le_of_ble_eq_true rfl, Nat.le_of_ble_eq_true rfl⟩ (cw_at_4 cc g E _) rfl rfl rfl (Nat.le_of_ble_eq_true rfl) dX8_regret_31 ⟨Nat.le_of_ble_eq_true rfl, Nat.le_of_ble_eq_true rfl⟩ ?_
    refine q_after (rv := (some (.int u2))) (w0 := (cw cc g S ++ E)) (st2 := [.int u2, .int (S.1 4 3)]) rfl rfl rfl ?_
    refine q_isub (pc := 34) C dX8_regret_34 ?_
    obtain rfl := q_some hf
    exact q_wid (Nat.zero_le _) (Nat.zero_le _) (q_retx (q_iret (pc := 35) C dX8_regret_35 ⟨rfl, rfl, rfl⟩))
  · have hf := q_iteT hf c1
    obtain rfl := q_some hf
    exact q_throw (pc := 10) (text := "there are no experts") C CX hfl hex (List.mem_of_getElem? (i := 1) rfl) (List.mem_of_getElem? (i := 2) rfl) (by decide +kernel) (List.mem_of_getElem? (i := 19) rfl) (fun w h => (List.mem_cons_of_mem _ (List.mem_append_right _ h))) qx_good_100 qx_bad_100 dX8_regret_10 dX8_regret_13 dX8_regret_14 dX8_regret_16 dX8_regret_19 (Nat.le_of_ble_eq_true rfl) (Nat.le_of_ble_eq_true rfl) (Nat.le_of_ble_eq_true rfl) (Nat.le_of_ble_eq_true rfl) (Nat.le_of_ble_eq_true rfl) (Nat.le_of_ble_eq_true rfl) ⟨rfl, Nat.le_of_ble_eq_true rfl, rfl⟩
theorem z_X8_regret : q_dsc yX8_regret 0 := ⟨by decide +kernel, by decide +kernel, by decide +kernel⟩
theorem n_X8_state_X3 : ∀ w ∈ wsX30, w ∈ wsX8_state := fun _ h => (List.mem_cons_of_mem _ (List.mem_append_left _ (List.mem_append_right _ h)))
theorem n_X8_state_X8 : ∀ w ∈ wsX80, w ∈ wsX8_state := fun _ h => (List.mem_cons_of_mem _ (List.mem_append_left _ (List.mem_append_left _ (List.mem_append_right _ h))))
def f_X8_state (a1 : Int32) (S : CS) : ((Nat × Int32) × CS) := (if (S.1 5 2) < (5 : Int32) then ((0, (f_X3_add a1 S).1), (f_X3_add a1 S).2) else ((3, 0), S))
set_option maxRecDepth 100000 in
set_option maxHeartbeats 4000000 in
theorem c_X8_state (l : Launch) (hfl : l.stackTraces = false) (D : va_G) (cc : Nat → ClassId) (N0 : Nat) (g : Nat → Nat) (E : va_W) (S : CS) (a1 : Int32) (v : ((Nat × Int32) × CS)) (hf : f_X8_state a1 S = v) : q_MetX l yX8_state wsX8_state 6 140 D cc N0 (cw cc g S ++ E) [.ref (g 0), .int a1] (q_px v.1.1 (some (.int v.1.2)) (cw cc g v.2 ++ E)) (q_xp v.1.1 (cw cc g v.2 ++ E)) 1 6 := by
  refine q_ofWX (code := cX8_state) (nL := 2) (ret := (some .int)) (by decide +kernel) rfl (Nat.le_of_ble_eq_true rfl) (fun p e s m below meth c C CX hex => ?_)
  refine q_lv (lv2 := [(0, .ref (g 0)), (1, .int a1)]) rfl ?_
  refine q_aload_n (pc := 0) C dX8_state_0 rfl 0 rfl ?_
  refine r_g_0_4 (pc := 1) C n_X8_state_X8 (List.mem_of_getElem? (i := 3) rfl) dX8_state_1 ?_
  refine r_n_5_2 (pc := 4) C n_X8_state_X3 (host := "Queryschool") (List.mem_of_getElem? (i := 10) rfl) dX8_state_4 ?_
  refine q_iconst (pc := 7) C (5 : Int32) dX8_state_7 q_ci_5 ?_
  refine q_icmp_lt (pc := 8) (tgt := 21) C dX8_state_8 (by decide) (fun c1 => ?_) (fun c1 => ?_)
  · have hf := q_iteT hf c1
    refine q_aload_n (pc := 21) C dX8_state_21 rfl 0 rfl ?_
    refine r_g_0_4 (pc := 22) C n_X8_state_X8 (List.mem_of_getElem? (i := 3) rfl) dX8_state_22 ?_
    refine q_iload_n (pc := 25) C dX8_state_25 rfl 1 rfl ?_
    refine q_callV (pc := 26) (As := [.int a1]) (rest := []) C (c_X3_add l D cc N0 g E S a1 _ rfl) gX8_state_X3_add rfl rfl z_X3_add ⟨Nat.le_of_ble_eq_true rfl, Nat.le_of_ble_eq_true rfl⟩ (cw_at_5 cc g E _) rfl rfl rfl (Nat.le_of_ble_eq_true rfl) dX8_state_26 ⟨Nat.le_of_ble_eq_true rfl, Nat.le_of_ble_eq_true rfl⟩ ?_
    refine q_after (rv := (some (.int ((f_X3_add a1 S).1)))) (w0 := (cw cc g ((f_X3_add a1 S).2) ++ E)) (st2 := [.int ((f_X3_add a1 S).1)]) rfl rfl rfl ?_
    obtain rfl := hf
    exact q_wid (Nat.zero_le _) (Nat.zero_le _) (q_retx (q_iret (pc := 29) C dX8_state_29 ⟨rfl, rfl, rfl⟩))
  · have hf := q_iteF hf c1
    obtain rfl := hf
    exact q_throw (pc := 11) (text := "there are 5 states") C CX hfl hex (List.mem_of_getElem? (i := 1) rfl) (List.mem_of_getElem? (i := 2) rfl) (by decide +kernel) (List.mem_of_getElem? (i := 21) rfl) (fun w h => (List.mem_cons_of_mem _ (List.mem_append_right _ h))) qx_good_105 qx_bad_105 dX8_state_11 dX8_state_14 dX8_state_15 dX8_state_17 dX8_state_20 (Nat.le_of_ble_eq_true rfl) (Nat.le_of_ble_eq_true rfl) (Nat.le_of_ble_eq_true rfl) (Nat.le_of_ble_eq_true rfl) (Nat.le_of_ble_eq_true rfl) (Nat.le_of_ble_eq_true rfl) ⟨rfl, Nat.le_of_ble_eq_true rfl, rfl⟩
theorem z_X8_state : q_dsc yX8_state 1 := ⟨by decide +kernel, by decide +kernel, by decide +kernel⟩
theorem n_X8_go_X8 : ∀ w ∈ wsX80, w ∈ wsX8_go := fun _ h => (List.mem_cons_of_mem _ (List.mem_append_left _ (List.mem_append_left _ (List.mem_append_left _ (List.mem_append_right _ h)))))
def f_X8_go_22 (S : CS) : ((Nat × Int32) × CS) := ((4, 0), S)
def f_X8_go_72 (v3 : Int32) (t0 : Int32) (t1 : Int32) (S : CS) : ((Nat × Int32) × CS) := ((0, (f_X3_lead t1 t0 v3 S).1), (f_X3_lead t1 t0 v3 S).2)
def f_X8_go_56 (v1 : Int32) (v2 : Int32) (v3 : Int32) (S : CS) : ((Nat × Int32) × CS) := (if v2 = (97 : Int32) then f_X8_go_72 v3 (0 : Int32) v1 S else f_X8_go_72 v3 (1 : Int32) v1 S)
def f_X8_go (a1 : Int32) (a2 : Int32) (a3 : Int32) (S : CS) : ((Nat × Int32) × CS) := (if (q_b (f_X3_isState S a1)) = 0 then f_X8_go_22 S else (if (q_b (f_X3_isState S a3)) = 0 then f_X8_go_22 S else (if a2 = (97 : Int32) then f_X8_go_56 a1 a2 a3 S else (if a2 = (98 : Int32) then f_X8_go_56 a1 a2 a3 S else ((1, 0), S)))))
set_option maxRecDepth 100000 in
set_option maxHeartbeats 4000000 in
theorem w_X8_go_22 {p : Program} {l : Launch} {e : Env} {s : State} {m : MethodId} {args : Array Value} {below : List Frame} {meth : Method} {c : Code} {D : va_G} {cc : Nat → ClassId} {N0 : Nat} {g : Nat → Nat} {E : va_W} {v : ((Nat × Int32) × CS)} (C : q_C p s m args meth c cX8_go 4 (some .int) wsX8_go RX8 D cc N0) (CX : q_KX N0 s) (hfl : l.stackTraces = false) (hex : ∀ x ∈ c.exceptionTable.toList, False)  (S : CS) (hf : f_X8_go_22  S = v) : q_WA p l e (q_rm 6 140 1 6) s m args below meth c D N0 4 (vx_MQ below (q_Q D N0 (q_px v.1.1 (some (.int v.1.2)) (cw cc g v.2 ++ E))) (q_XX D N0 (q_xp v.1.1 (cw cc g v.2 ++ E))) args s 1 6 (q_A N0)) 0 0 (cw cc g S ++ E) 22 [] [] := by
  obtain rfl := hf
  exact q_throwW (pc := 22) (text := "there is no such state") C CX hfl hex (List.mem_of_getElem? (i := 1) rfl) (List.mem_of_getElem? (i := 2) rfl) (by decide +kernel) (List.mem_of_getElem? (i := 22) rfl) (fun w h => (List.mem_cons_of_mem _ (List.mem_append_left _ (List.mem_append_right _ h)))) qx_good_134 qx_bad_134 dX8_go_22 dX8_go_25 dX8_go_26 dX8_go_29 dX8_go_32 (Nat.le_of_ble_eq_true rfl) (Nat.le_of_ble_eq_true rfl) (Nat.le_of_ble_eq_true rfl) (Nat.le_of_ble_eq_true rfl) (Nat.le_of_ble_eq_true rfl) (Nat.le_of_ble_eq_true rfl) ⟨rfl, Nat.le_of_ble_eq_true rfl, rfl⟩
set_option maxRecDepth 100000 in
set_option maxHeartbeats 4000000 in
theorem w_X8_go_72 {p : Program} {l : Launch} {e : Env} {s : State} {m : MethodId} {args : Array Value} {below : List Frame} {meth : Method} {c : Code} {D : va_G} {cc : Nat → ClassId} {N0 : Nat} {g : Nat → Nat} {E : va_W} {v : ((Nat × Int32) × CS)} (C : q_C p s m args meth c cX8_go 4 (some .int) wsX8_go RX8 D cc N0) (CX : q_KX N0 s) (hfl : l.stackTraces = false) (hex : ∀ x ∈ c.exceptionTable.toList, False)  (v3 : Int32) (t0 : Int32) (t1 : Int32) (S : CS) (hf : f_X8_go_72  v3 t0 t1 S = v) : q_WA p l e (q_rm 6 140 1 6) s m args below meth c D N0 4 (vx_MQ below (q_Q D N0 (q_px v.1.1 (some (.int v.1.2)) (cw cc g v.2 ++ E))) (q_XX D N0 (q_xp v.1.1 (cw cc g v.2 ++ E))) args s 1 6 (q_A N0)) 0 0 (cw cc g S ++ E) 72 [(3, .int v3)] [.int t0, .int t1, .ref (g 5)] := by
  refine q_iload_n (pc := 72) C dX8_go_72 rfl 0 rfl ?_
  refine q_callV (pc := 73) (As := [.int t1, .int t0, .int v3]) (rest := []) C (c_X3_lead l D cc N0 g E S t1 t0 v3 _ rfl) gX8_go_X3_lead rfl rfl z_X3_lead ⟨Nat.le_of_ble_eq_true rfl, Nat.le_of_ble_eq_true rfl⟩ (cw_at_5 cc g E _) rfl rfl rfl (Nat.le_of_ble_eq_true rfl) dX8_go_73 ⟨Nat.le_of_ble_eq_true rfl, Nat.le_of_ble_eq_true rfl⟩ ?_
  refine q_after (rv := (some (.int ((f_X3_lead t1 t0 v3 S).1)))) (w0 := (cw cc g ((f_X3_lead t1 t0 v3 S).2) ++ E)) (st2 := [.int ((f_X3_lead t1 t0 v3 S).1)]) rfl rfl rfl ?_
  obtain rfl := hf
  exact q_wid (Nat.zero_le _) (Nat.zero_le _) (q_retx (q_iret (pc := 76) C dX8_go_76 ⟨rfl, rfl, rfl⟩))
set_option maxRecDepth 100000 in
set_option maxHeartbeats 4000000 in
theorem w_X8_go_56 {p : Program} {l : Launch} {e : Env} {s : State} {m : MethodId} {args : Array Value} {below : List Frame} {meth : Method} {c : Code} {D : va_G} {cc : Nat → ClassId} {N0 : Nat} {g : Nat → Nat} {E : va_W} {v : ((Nat × Int32) × CS)} (C : q_C p s m args meth c cX8_go 4 (some .int) wsX8_go RX8 D cc N0) (CX : q_KX N0 s) (hfl : l.stackTraces = false) (hex : ∀ x ∈ c.exceptionTable.toList, False)  (v1 : Int32) (v2 : Int32) (v3 : Int32) (S : CS) (hf : f_X8_go_56  v1 v2 v3 S = v) : q_WA p l e (q_rm 6 140 1 6) s m args below meth c D N0 4 (vx_MQ below (q_Q D N0 (q_px v.1.1 (some (.int v.1.2)) (cw cc g v.2 ++ E))) (q_XX D N0 (q_xp v.1.1 (cw cc g v.2 ++ E))) args s 1 6 (q_A N0)) 0 0 (cw cc g S ++ E) 56 [(0, .ref (g 0)), (1, .int v1), (2, .int v2), (3, .int v3)] [] := by
  refine q_aload_n (pc := 56) C dX8_go_56 rfl 0 rfl ?_
  refine r_g_0_4 (pc := 57) C n_X8_go_X8 (List.mem_of_getElem? (i := 5) rfl) dX8_go_57 ?_
  refine q_iload_n (pc := 60) C dX8_go_60 rfl 1 rfl ?_
  refine q_iload_n (pc := 61) C dX8_go_61 rfl 2 rfl ?_
  refine q_bipush (pc := 62) C (97 : Int32) dX8_go_62 q_cb_97 ?_
  refine q_icmp_ne (pc := 64) (tgt := 71) C dX8_go_64 (by decide) (fun c4 => ?_) (fun c4 => ?_)
  · have hf := q_iteF hf c4
    refine q_iconst (pc := 71) C (1 : Int32) dX8_go_71 q_ci_1 ?_
    refine q_sub (lvq := [(3, .int v3)]) [3] rfl ?_
    exact w_X8_go_72 C CX hfl hex v3 (1 : Int32) v1 S hf
  · have hf := q_iteT hf c4
    refine q_iconst (pc := 67) C (0 : Int32) dX8_go_67 q_ci_0 ?_
    refine q_goto (pc := 68) (tgt := 72) C dX8_go_68 (by decide) ?_
    refine q_sub (lvq := [(3, .int v3)]) [3] rfl ?_
    exact w_X8_go_72 C CX hfl hex v3 (0 : Int32) v1 S hf
set_option maxRecDepth 100000 in
set_option maxHeartbeats 4000000 in
theorem c_X8_go (l : Launch) (hfl : l.stackTraces = false) (D : va_G) (cc : Nat → ClassId) (N0 : Nat) (g : Nat → Nat) (E : va_W) (S : CS) (a1 : Int32) (a2 : Int32) (a3 : Int32) (v : ((Nat × Int32) × CS)) (hf : f_X8_go a1 a2 a3 S = v) : q_MetX l yX8_go wsX8_go 6 140 D cc N0 (cw cc g S ++ E) [.ref (g 0), .int a1, .int a2, .int a3] (q_px v.1.1 (some (.int v.1.2)) (cw cc g v.2 ++ E)) (q_xp v.1.1 (cw cc g v.2 ++ E)) 1 6 := by
  refine q_ofWX (code := cX8_go) (nL := 4) (ret := (some .int)) (by decide +kernel) rfl (Nat.le_of_ble_eq_true rfl) (fun p e s m below meth c C CX hex => ?_)
  refine q_lv (lv2 := [(0, .ref (g 0)), (1, .int a1), (2, .int a2), (3, .int a3)]) rfl ?_
  refine q_aload_n (pc := 0) C dX8_go_0 rfl 0 rfl ?_
  refine r_g_0_4 (pc := 1) C n_X8_go_X8 (List.mem_of_getElem? (i := 5) rfl) dX8_go_1 ?_
  refine q_iload_n (pc := 4) C dX8_go_4 rfl 1 rfl ?_
  refine q_callV (pc := 5) (As := [.int a1]) (rest := []) C (c_X3_isState l D cc N0 g E S a1 _ rfl) gX8_go_X3_isState rfl rfl z_X3_isState ⟨Nat.le_of_ble_eq_true rfl, Nat.le_of_ble_eq_true rfl⟩ (cw_at_5 cc g E _) rfl rfl rfl (Nat.le_of_ble_eq_true rfl) dX8_go_5 ⟨Nat.le_of_ble_eq_true rfl, Nat.le_of_ble_eq_true rfl⟩ ?_
  refine q_after (rv := (some (.int (q_b (f_X3_isState S a1))))) (w0 := (cw cc g S ++ E)) (st2 := [.int (q_b (f_X3_isState S a1))]) rfl rfl rfl ?_
  refine q_if_eq (pc := 8) (tgt := 22) C dX8_go_8 (by decide) (fun c1 => ?_) (fun c1 => ?_)
  · have hf := q_iteT hf c1
    refine q_sub (lvq := []) [] rfl ?_
    exact w_X8_go_22 C CX hfl hex S hf
  · have hf := q_iteF hf c1
    refine q_aload_n (pc := 11) C dX8_go_11 rfl 0 rfl ?_
    refine r_g_0_4 (pc := 12) C n_X8_go_X8 (List.mem_of_getElem? (i := 5) rfl) dX8_go_12 ?_
    refine q_iload_n (pc := 15) C dX8_go_15 rfl 3 rfl ?_
    refine q_callV (pc := 16) (As := [.int a3]) (rest := []) C (c_X3_isState l D cc N0 g E S a3 _ rfl) gX8_go_X3_isState rfl rfl z_X3_isState ⟨Nat.le_of_ble_eq_true rfl, Nat.le_of_ble_eq_true rfl⟩ (cw_at_5 cc g E _) rfl rfl rfl (Nat.le_of_ble_eq_true rfl) dX8_go_16 ⟨Nat.le_of_ble_eq_true rfl, Nat.le_of_ble_eq_true rfl⟩ ?_
    refine q_after (rv := (some (.int (q_b (f_X3_isState S a3))))) (w0 := (cw cc g S ++ E)) (st2 := [.int (q_b (f_X3_isState S a3))]) rfl rfl rfl ?_
    refine q_if_ne (pc := 19) (tgt := 33) C dX8_go_19 (by decide) (fun c2 => ?_) (fun c2 => ?_)
    · have hf := q_iteF hf c2
      refine q_iload_n (pc := 33) C dX8_go_33 rfl 2 rfl ?_
      refine q_bipush (pc := 34) C (97 : Int32) dX8_go_34 q_cb_97 ?_
      refine q_icmp_eq (pc := 36) (tgt := 56) C dX8_go_36 (by decide) (fun c3 => ?_) (fun c3 => ?_)
      · have hf := q_iteT hf c3
        refine q_sub (lvq := [(0, .ref (g 0)), (1, .int a1), (2, .int a2), (3, .int a3)]) [0, 1, 2, 3] rfl ?_
        exact w_X8_go_56 C CX hfl hex a1 a2 a3 S hf
      · have hf := q_iteF hf c3
        refine q_iload_n (pc := 39) C dX8_go_39 rfl 2 rfl ?_
        refine q_bipush (pc := 40) C (98 : Int32) dX8_go_40 q_cb_98 ?_
        refine q_icmp_eq (pc := 42) (tgt := 56) C dX8_go_42 (by decide) (fun c5 => ?_) (fun c5 => ?_)
        · have hf := q_iteT hf c5
          refine q_sub (lvq := [(0, .ref (g 0)), (1, .int a1), (2, .int a2), (3, .int a3)]) [0, 1, 2, 3] rfl ?_
          exact w_X8_go_56 C CX hfl hex a1 a2 a3 S hf
        · have hf := q_iteF hf c5
          obtain rfl := hf
          exact q_throwW (pc := 45) (text := "there is no such letter") C CX hfl hex (List.mem_of_getElem? (i := 3) rfl) (List.mem_of_getElem? (i := 4) rfl) (by decide +kernel) (List.mem_of_getElem? (i := 23) rfl) (fun w h => (List.mem_cons_of_mem _ (List.mem_append_right _ h))) qx_good_67 qx_bad_67 dX8_go_45 dX8_go_48 dX8_go_49 dX8_go_52 dX8_go_55 (Nat.le_of_ble_eq_true rfl) (Nat.le_of_ble_eq_true rfl) (Nat.le_of_ble_eq_true rfl) (Nat.le_of_ble_eq_true rfl) (Nat.le_of_ble_eq_true rfl) (Nat.le_of_ble_eq_true rfl) ⟨rfl, Nat.le_of_ble_eq_true rfl, rfl⟩
    · have hf := q_iteT hf c2
      refine q_sub (lvq := []) [] rfl ?_
      exact w_X8_go_22 C CX hfl hex S hf
theorem z_X8_go : q_dsc yX8_go 3 := ⟨by decide +kernel, by decide +kernel, by decide +kernel⟩
theorem n_X8_accepts_X3 : ∀ w ∈ wsX30, w ∈ wsX8_accepts := fun _ h => (List.mem_cons_of_mem _ (List.mem_append_left _ (List.mem_append_left _ (List.mem_append_right _ h))))
theorem n_X8_accepts_X8 : ∀ w ∈ wsX80, w ∈ wsX8_accepts := fun _ h => (List.mem_cons_of_mem _ (List.mem_append_left _ (List.mem_append_left _ (List.mem_append_left _ (List.mem_append_right _ h)))))
def f_X8_accepts (S : CS) (a1 : Int32) (a2 : Int32) : Option (Nat × Bool) := (if (q_b (f_X8_isWord a1 a2)) = 0 then some (1, false) else (if (S.1 5 2) = 0 then some (2, false) else ((f_X3_endsWell S (0 : Int32) a1 a2).bind fun u3 => some (0, u3))))
set_option maxRecDepth 100000 in
set_option maxHeartbeats 4000000 in
theorem c_X8_accepts (l : Launch) (hfl : l.stackTraces = false) (D : va_G) (cc : Nat → ClassId) (N0 : Nat) (g : Nat → Nat) (E : va_W) (S : CS) (a1 : Int32) (a2 : Int32) (v : (Nat × Bool)) (hf : f_X8_accepts S a1 a2 = some v) : q_MetX l yX8_accepts wsX8_accepts 6 140 D cc N0 (cw cc g S ++ E) [.ref (g 0), .int a1, .int a2] (q_px v.1 (some (.int (q_b v.2))) (cw cc g S ++ E)) (q_xp v.1 (cw cc g S ++ E)) 1 6 := by
  refine q_ofWX (code := cX8_accepts) (nL := 3) (ret := (some .boolean)) (by decide +kernel) rfl (Nat.le_of_ble_eq_true rfl) (fun p e s m below meth c C CX hex => ?_)
  refine q_lv (lv2 := [(0, .ref (g 0)), (1, .int a1), (2, .int a2)]) rfl ?_
  refine q_iload_n (pc := 0) C dX8_accepts_0 rfl 1 rfl ?_
  refine q_iload_n (pc := 1) C dX8_accepts_1 rfl 2 rfl ?_
  refine q_callS (pc := 2) (As := [.int a1, .int a2]) (rest := []) C (c_X8_isWord l D cc N0 (cw cc g S ++ E) a1 a2 _ rfl) gX8_accepts_X8_isWord rfl z_X8_isWord ⟨Nat.le_of_ble_eq_true rfl, Nat.le_of_ble_eq_true rfl⟩ rfl rfl (Nat.le_of_ble_eq_true rfl) dX8_accepts_2 ⟨Nat.le_of_ble_eq_true rfl, Nat.le_of_ble_eq_true rfl⟩ ?_
  refine q_after (rv := (some (.int (q_b (f_X8_isWord a1 a2))))) (w0 := (cw cc g S ++ E)) (st2 := [.int (q_b (f_X8_isWord a1 a2))]) rfl rfl rfl ?_
  refine q_if_ne (pc := 5) (tgt := 19) C dX8_accepts_5 (by decide) (fun c1 => ?_) (fun c1 => ?_)
  · have hf := q_iteF hf c1
    refine q_aload_n (pc := 19) C dX8_accepts_19 rfl 0 rfl ?_
    refine r_g_0_4 (pc := 20) C n_X8_accepts_X8 (List.mem_of_getElem? (i := 5) rfl) dX8_accepts_20 ?_
    refine r_n_5_2 (pc := 23) C n_X8_accepts_X3 (host := "Queryschool") (List.mem_of_getElem? (i := 10) rfl) dX8_accepts_23 ?_
    refine q_if_ne (pc := 26) (tgt := 40) C dX8_accepts_26 (by decide) (fun c2 => ?_) (fun c2 => ?_)
    · have hf := q_iteF hf c2
      refine q_aload_n (pc := 40) C dX8_accepts_40 rfl 0 rfl ?_
      refine r_g_0_4 (pc := 41) C n_X8_accepts_X8 (List.mem_of_getElem? (i := 5) rfl) dX8_accepts_41 ?_
      refine q_iconst (pc := 44) C (0 : Int32) dX8_accepts_44 q_ci_0 ?_
      refine q_iload_n (pc := 45) C dX8_accepts_45 rfl 1 rfl ?_
      refine q_iload_n (pc := 46) C dX8_accepts_46 rfl 2 rfl ?_
      obtain ⟨u3, e4, hf⟩ := q_bind hf
      refine q_callV (pc := 47) (As := [.int (0 : Int32), .int a1, .int a2]) (rest := []) C (c_X3_endsWell l D cc N0 g E S (0 : Int32) a1 a2 u3 e4) gX8_accepts_X3_endsWell rfl rfl z_X3_endsWell ⟨Nat.le_of_ble_eq_true rfl, Nat.le_of_ble_eq_true rfl⟩ (cw_at_5 cc g E _) rfl rfl rfl (Nat.le_of_ble_eq_true rfl) dX8_accepts_47 ⟨Nat.le_of_ble_eq_true rfl, Nat.le_of_ble_eq_true rfl⟩ ?_
      refine q_after (rv := (some (.int (q_b u3)))) (w0 := (cw cc g S ++ E)) (st2 := [.int (q_b u3)]) rfl rfl rfl ?_
      obtain rfl := q_some hf
      exact q_wid (Nat.zero_le _) (Nat.zero_le _) (q_retx (q_zret (pc := 50) C (q_b_nar _) dX8_accepts_50 ⟨rfl, rfl, rfl⟩))
    · have hf := q_iteT hf c2
      obtain rfl := q_some hf
      exact q_throwW (pc := 29) (text := "there is no state") C CX hfl hex (List.mem_of_getElem? (i := 3) rfl) (List.mem_of_getElem? (i := 4) rfl) (by decide +kernel) (List.mem_of_getElem? (i := 25) rfl) (fun w h => (List.mem_cons_of_mem _ (List.mem_append_right _ h))) qx_good_100 qx_bad_100 dX8_accepts_29 dX8_accepts_32 dX8_accepts_33 dX8_accepts_36 dX8_accepts_39 (Nat.le_of_ble_eq_true rfl) (Nat.le_of_ble_eq_true rfl) (Nat.le_of_ble_eq_true rfl) (Nat.le_of_ble_eq_true rfl) (Nat.le_of_ble_eq_true rfl) (Nat.le_of_ble_eq_true rfl) ⟨rfl, Nat.le_of_ble_eq_true rfl, rfl⟩
  · have hf := q_iteT hf c1
    obtain rfl := q_some hf
    exact q_throwW (pc := 8) (text := "it is no word") C CX hfl hex (List.mem_of_getElem? (i := 1) rfl) (List.mem_of_getElem? (i := 2) rfl) (by decide +kernel) (List.mem_of_getElem? (i := 24) rfl) (fun w h => (List.mem_cons_of_mem _ (List.mem_append_left _ (List.mem_append_right _ h)))) qx_good_67 qx_bad_67 dX8_accepts_8 dX8_accepts_11 dX8_accepts_12 dX8_accepts_15 dX8_accepts_18 (Nat.le_of_ble_eq_true rfl) (Nat.le_of_ble_eq_true rfl) (Nat.le_of_ble_eq_true rfl) (Nat.le_of_ble_eq_true rfl) (Nat.le_of_ble_eq_true rfl) (Nat.le_of_ble_eq_true rfl) ⟨rfl, Nat.le_of_ble_eq_true rfl, rfl⟩
theorem z_X8_accepts : q_dsc yX8_accepts 2 := ⟨by decide +kernel, by decide +kernel, by decide +kernel⟩
theorem n_X8_apart_X8 : ∀ w ∈ wsX80, w ∈ wsX8_apart := fun _ h => (List.mem_cons_of_mem _ (List.mem_append_left _ (List.mem_append_left _ (List.mem_append_left _ (List.mem_append_right _ h)))))
def f_X8_apart_22 (S : CS) : Option (Nat × Int32) := some (4, 0)
def f_X8_apart (S : CS) (a1 : Int32) (a2 : Int32) : Option (Nat × Int32) := (if (q_b (f_X3_isState S a1)) = 0 then f_X8_apart_22 S else (if (q_b (f_X3_isState S a2)) = 0 then f_X8_apart_22 S else ((f_X3_lengthApart S a1 a2).bind fun u3 => (if 0 ≤ u3 then some (0, u3) else some (5, 0)))))
set_option maxRecDepth 100000 in
set_option maxHeartbeats 4000000 in
theorem w_X8_apart_22 {p : Program} {l : Launch} {e : Env} {s : State} {m : MethodId} {args : Array Value} {below : List Frame} {meth : Method} {c : Code} {D : va_G} {cc : Nat → ClassId} {N0 : Nat} {g : Nat → Nat} {E : va_W} {S : CS} {v : (Nat × Int32)} (C : q_C p s m args meth c cX8_apart 4 (some .int) wsX8_apart RX8 D cc N0) (CX : q_KX N0 s) (hfl : l.stackTraces = false) (hex : ∀ x ∈ c.exceptionTable.toList, False)   (hf : f_X8_apart_22 S  = some v) : q_WA p l e (q_rm 6 140 1 6) s m args below meth c D N0 4 (vx_MQ below (q_Q D N0 (q_px v.1 (some (.int v.2)) (cw cc g S ++ E))) (q_XX D N0 (q_xp v.1 (cw cc g S ++ E))) args s 1 6 (q_A N0)) 0 0 (cw cc g S ++ E) 22 [] [] := by
  obtain rfl := q_some hf
  exact q_throwW (pc := 22) (text := "there is no such state") C CX hfl hex (List.mem_of_getElem? (i := 1) rfl) (List.mem_of_getElem? (i := 2) rfl) (by decide +kernel) (List.mem_of_getElem? (i := 22) rfl) (fun w h => (List.mem_cons_of_mem _ (List.mem_append_left _ (List.mem_append_right _ h)))) qx_good_134 qx_bad_134 dX8_apart_22 dX8_apart_25 dX8_apart_26 dX8_apart_29 dX8_apart_32 (Nat.le_of_ble_eq_true rfl) (Nat.le_of_ble_eq_true rfl) (Nat.le_of_ble_eq_true rfl) (Nat.le_of_ble_eq_true rfl) (Nat.le_of_ble_eq_true rfl) (Nat.le_of_ble_eq_true rfl) ⟨rfl, Nat.le_of_ble_eq_true rfl, rfl⟩
set_option maxRecDepth 100000 in
set_option maxHeartbeats 4000000 in
theorem c_X8_apart (l : Launch) (hfl : l.stackTraces = false) (D : va_G) (cc : Nat → ClassId) (N0 : Nat) (g : Nat → Nat) (E : va_W) (S : CS) (a1 : Int32) (a2 : Int32) (v : (Nat × Int32)) (hf : f_X8_apart S a1 a2 = some v) : q_MetX l yX8_apart wsX8_apart 6 140 D cc N0 (cw cc g S ++ E) [.ref (g 0), .int a1, .int a2] (q_px v.1 (some (.int v.2)) (cw cc g S ++ E)) (q_xp v.1 (cw cc g S ++ E)) 1 6 := by
  refine q_ofWX (code := cX8_apart) (nL := 4) (ret := (some .int)) (by decide +kernel) rfl (Nat.le_of_ble_eq_true rfl) (fun p e s m below meth c C CX hex => ?_)
  refine q_lv (lv2 := [(0, .ref (g 0)), (1, .int a1), (2, .int a2)]) rfl ?_
  refine q_aload_n (pc := 0) C dX8_apart_0 rfl 0 rfl ?_
  refine r_g_0_4 (pc := 1) C n_X8_apart_X8 (List.mem_of_getElem? (i := 5) rfl) dX8_apart_1 ?_
  refine q_iload_n (pc := 4) C dX8_apart_4 rfl 1 rfl ?_
  refine q_callV (pc := 5) (As := [.int a1]) (rest := []) C (c_X3_isState l D cc N0 g E S a1 _ rfl) gX8_apart_X3_isState rfl rfl z_X3_isState ⟨Nat.le_of_ble_eq_true rfl, Nat.le_of_ble_eq_true rfl⟩ (cw_at_5 cc g E _) rfl rfl rfl (Nat.le_of_ble_eq_true rfl) dX8_apart_5 ⟨Nat.le_of_ble_eq_true rfl, Nat.le_of_ble_eq_true rfl⟩ ?_
  refine q_after (rv := (some (.int (q_b (f_X3_isState S a1))))) (w0 := (cw cc g S ++ E)) (st2 := [.int (q_b (f_X3_isState S a1))]) rfl rfl rfl ?_
  refine q_if_eq (pc := 8) (tgt := 22) C dX8_apart_8 (by decide) (fun c1 => ?_) (fun c1 => ?_)
  · have hf := q_iteT hf c1
    refine q_sub (lvq := []) [] rfl ?_
    exact w_X8_apart_22 C CX hfl hex hf
  · have hf := q_iteF hf c1
    refine q_aload_n (pc := 11) C dX8_apart_11 rfl 0 rfl ?_
    refine r_g_0_4 (pc := 12) C n_X8_apart_X8 (List.mem_of_getElem? (i := 5) rfl) dX8_apart_12 ?_
    refine q_iload_n (pc := 15) C dX8_apart_15 rfl 2 rfl ?_
    refine q_callV (pc := 16) (As := [.int a2]) (rest := []) C (c_X3_isState l D cc N0 g E S a2 _ rfl) gX8_apart_X3_isState rfl rfl z_X3_isState ⟨Nat.le_of_ble_eq_true rfl, Nat.le_of_ble_eq_true rfl⟩ (cw_at_5 cc g E _) rfl rfl rfl (Nat.le_of_ble_eq_true rfl) dX8_apart_16 ⟨Nat.le_of_ble_eq_true rfl, Nat.le_of_ble_eq_true rfl⟩ ?_
    refine q_after (rv := (some (.int (q_b (f_X3_isState S a2))))) (w0 := (cw cc g S ++ E)) (st2 := [.int (q_b (f_X3_isState S a2))]) rfl rfl rfl ?_
    refine q_if_ne (pc := 19) (tgt := 33) C dX8_apart_19 (by decide) (fun c2 => ?_) (fun c2 => ?_)
    · have hf := q_iteF hf c2
      refine q_aload_n (pc := 33) C dX8_apart_33 rfl 0 rfl ?_
      refine r_g_0_4 (pc := 34) C n_X8_apart_X8 (List.mem_of_getElem? (i := 5) rfl) dX8_apart_34 ?_
      refine q_iload_n (pc := 37) C dX8_apart_37 rfl 1 rfl ?_
      refine q_iload_n (pc := 38) C dX8_apart_38 rfl 2 rfl ?_
      obtain ⟨u3, e4, hf⟩ := q_bind hf
      refine q_callV (pc := 39) (As := [.int a1, .int a2]) (rest := []) C (c_X3_lengthApart l D cc N0 g E S a1 a2 u3 e4) gX8_apart_X3_lengthApart rfl rfl z_X3_lengthApart ⟨Nat.le_of_ble_eq_true rfl, Nat.le_of_ble_eq_true rfl⟩ (cw_at_5 cc g E _) rfl rfl rfl (Nat.le_of_ble_eq_true rfl) dX8_apart_39 ⟨Nat.le_of_ble_eq_true rfl, Nat.le_of_ble_eq_true rfl⟩ ?_
      refine q_after (rv := (some (.int u3))) (w0 := (cw cc g S ++ E)) (st2 := [.int u3]) rfl rfl rfl ?_
      refine q_istore_n (pc := 42) (lvq := [(3, .int u3), (0, .ref (g 0)), (1, .int a1), (2, .int a2)]) C dX8_apart_42 rfl (by decide) rfl ?_
      refine q_iload_n (pc := 43) C dX8_apart_43 rfl 0 rfl ?_
      refine q_if_ge (pc := 44) (tgt := 58) C dX8_apart_44 (by decide) (fun c5 => ?_) (fun c5 => ?_)
      · have hf := q_iteT hf c5
        refine q_iload_n (pc := 58) C dX8_apart_58 rfl 0 rfl ?_
        obtain rfl := q_some hf
        exact q_wid (Nat.zero_le _) (Nat.zero_le _) (q_retx (q_iret (pc := 59) C dX8_apart_59 ⟨rfl, rfl, rfl⟩))
      · have hf := q_iteF hf c5
        obtain rfl := q_some hf
        exact q_throwNW (pc := 47) (text := "the states are not apart") C CX hfl hex (List.mem_of_getElem? (i := 3) rfl) (List.mem_of_getElem? (i := 4) rfl) (List.mem_of_getElem? (i := 26) rfl) (fun w h => (List.mem_cons_of_mem _ (List.mem_append_right _ h))) dX8_apart_47 dX8_apart_50 dX8_apart_51 dX8_apart_54 dX8_apart_57 (Nat.le_of_ble_eq_true rfl) (Nat.le_of_ble_eq_true rfl) (Nat.le_of_ble_eq_true rfl) (Nat.le_of_ble_eq_true rfl) (Nat.le_of_ble_eq_true rfl) (Nat.le_of_ble_eq_true rfl) ⟨rfl, Nat.le_of_ble_eq_true rfl, rfl⟩
    · have hf := q_iteT hf c2
      refine q_sub (lvq := []) [] rfl ?_
      exact w_X8_apart_22 C CX hfl hex hf
theorem z_X8_apart : q_dsc yX8_apart 2 := ⟨by decide +kernel, by decide +kernel, by decide +kernel⟩
theorem n_X8_leastStates_X3 : ∀ w ∈ wsX30, w ∈ wsX8_leastStates := fun _ h => (List.mem_cons_of_mem _ (List.mem_append_left _ (List.mem_append_right _ h)))
theorem n_X8_leastStates_X8 : ∀ w ∈ wsX80, w ∈ wsX8_leastStates := fun _ h => (List.mem_cons_of_mem _ (List.mem_append_left _ (List.mem_append_left _ (List.mem_append_right _ h))))
def f_X8_leastStates (S : CS) : Option (Nat × Int32) := (if (S.1 5 2) = 0 then some (2, 0) else ((f_X3_reachedKinds S).bind fun u2 => some (0, u2)))
set_option maxRecDepth 100000 in
set_option maxHeartbeats 4000000 in
theorem c_X8_leastStates (l : Launch) (hfl : l.stackTraces = false) (D : va_G) (cc : Nat → ClassId) (N0 : Nat) (g : Nat → Nat) (E : va_W) (S : CS) (v : (Nat × Int32)) (hf : f_X8_leastStates S = some v) : q_MetX l yX8_leastStates wsX8_leastStates 6 140 D cc N0 (cw cc g S ++ E) [.ref (g 0)] (q_px v.1 (some (.int v.2)) (cw cc g S ++ E)) (q_xp v.1 (cw cc g S ++ E)) 1 6 := by
  refine q_ofWX (code := cX8_leastStates) (nL := 1) (ret := (some .int)) (by decide +kernel) rfl (Nat.le_of_ble_eq_true rfl) (fun p e s m below meth c C CX hex => ?_)
  refine q_lv (lv2 := [(0, .ref (g 0))]) rfl ?_
  refine q_aload_n (pc := 0) C dX8_leastStates_0 rfl 0 rfl ?_
  refine r_g_0_4 (pc := 1) C n_X8_leastStates_X8 (List.mem_of_getElem? (i := 3) rfl) dX8_leastStates_1 ?_
  refine r_n_5_2 (pc := 4) C n_X8_leastStates_X3 (host := "Queryschool") (List.mem_of_getElem? (i := 10) rfl) dX8_leastStates_4 ?_
  refine q_if_ne (pc := 7) (tgt := 21) C dX8_leastStates_7 (by decide) (fun c1 => ?_) (fun c1 => ?_)
  · have hf := q_iteF hf c1
    refine q_aload_n (pc := 21) C dX8_leastStates_21 rfl 0 rfl ?_
    refine r_g_0_4 (pc := 22) C n_X8_leastStates_X8 (List.mem_of_getElem? (i := 3) rfl) dX8_leastStates_22 ?_
    obtain ⟨u2, e3, hf⟩ := q_bind hf
    refine q_callV (pc := 25) (As := []) (rest := []) C (c_X3_reachedKinds l D cc N0 g E S u2 e3) gX8_leastStates_X3_reachedKinds rfl rfl z_X3_reachedKinds ⟨Nat.le_of_ble_eq_true rfl, Nat.le_of_ble_eq_true rfl⟩ (cw_at_5 cc g E _) rfl rfl rfl (Nat.le_of_ble_eq_true rfl) dX8_leastStates_25 ⟨Nat.le_of_ble_eq_true rfl, Nat.le_of_ble_eq_true rfl⟩ ?_
    refine q_after (rv := (some (.int u2))) (w0 := (cw cc g S ++ E)) (st2 := [.int u2]) rfl rfl rfl ?_
    obtain rfl := q_some hf
    exact q_wid (Nat.zero_le _) (Nat.zero_le _) (q_retx (q_iret (pc := 28) C dX8_leastStates_28 ⟨rfl, rfl, rfl⟩))
  · have hf := q_iteT hf c1
    obtain rfl := q_some hf
    exact q_throwW (pc := 10) (text := "there is no state") C CX hfl hex (List.mem_of_getElem? (i := 1) rfl) (List.mem_of_getElem? (i := 2) rfl) (by decide +kernel) (List.mem_of_getElem? (i := 25) rfl) (fun w h => (List.mem_cons_of_mem _ (List.mem_append_right _ h))) qx_good_100 qx_bad_100 dX8_leastStates_10 dX8_leastStates_13 dX8_leastStates_14 dX8_leastStates_17 dX8_leastStates_20 (Nat.le_of_ble_eq_true rfl) (Nat.le_of_ble_eq_true rfl) (Nat.le_of_ble_eq_true rfl) (Nat.le_of_ble_eq_true rfl) (Nat.le_of_ble_eq_true rfl) (Nat.le_of_ble_eq_true rfl) ⟨rfl, Nat.le_of_ble_eq_true rfl, rfl⟩
theorem z_X8_leastStates : q_dsc yX8_leastStates 0 := ⟨by decide +kernel, by decide +kernel, by decide +kernel⟩
theorem n_X8_sample_X7 : ∀ w ∈ wsX70, w ∈ wsX8_sample := fun _ h => (List.mem_cons_of_mem _ (List.mem_append_left _ (List.mem_append_left _ (List.mem_append_left _ (List.mem_append_right _ h)))))
theorem n_X8_sample_X8 : ∀ w ∈ wsX80, w ∈ wsX8_sample := fun _ h => (List.mem_cons_of_mem _ (List.mem_append_left _ (List.mem_append_left _ (List.mem_append_left _ (List.mem_append_left _ (List.mem_append_right _ h))))))
def f_X8_sample (a1 : Int32) (a2 : Int32) (a3 : Int32) (S : CS) : Option ((Nat × Int32) × CS) := (if (q_b (f_X8_isWord a1 a2)) = 0 then some ((1, 0), S) else ((f_X7_has S a1 a2).bind fun u2 => (if (q_b u2) = 0 then (if (S.1 6 5) < (12 : Int32) then some ((0, (f_X7_add a1 a2 a3 S).1), (f_X7_add a1 a2 a3 S).2) else some ((3, 0), S)) else some ((2, 0), S))))
set_option maxRecDepth 100000 in
set_option maxHeartbeats 4000000 in
theorem c_X8_sample (l : Launch) (hfl : l.stackTraces = false) (D : va_G) (cc : Nat → ClassId) (N0 : Nat) (g : Nat → Nat) (E : va_W) (S : CS) (a1 : Int32) (a2 : Int32) (a3 : Int32) (v : ((Nat × Int32) × CS)) (hf : f_X8_sample a1 a2 a3 S = some v) : q_MetX l yX8_sample wsX8_sample 6 140 D cc N0 (cw cc g S ++ E) [.ref (g 0), .int a1, .int a2, .int a3] (q_px v.1.1 (some (.int v.1.2)) (cw cc g v.2 ++ E)) (q_xp v.1.1 (cw cc g v.2 ++ E)) 1 6 := by
  refine q_ofWX (code := cX8_sample) (nL := 4) (ret := (some .int)) (by decide +kernel) rfl (Nat.le_of_ble_eq_true rfl) (fun p e s m below meth c C CX hex => ?_)
  refine q_lv (lv2 := [(0, .ref (g 0)), (1, .int a1), (2, .int a2), (3, .int a3)]) rfl ?_
  refine q_iload_n (pc := 0) C dX8_sample_0 rfl 1 rfl ?_
  refine q_iload_n (pc := 1) C dX8_sample_1 rfl 2 rfl ?_
  refine q_callS (pc := 2) (As := [.int a1, .int a2]) (rest := []) C (c_X8_isWord l D cc N0 (cw cc g S ++ E) a1 a2 _ rfl) gX8_sample_X8_isWord rfl z_X8_isWord ⟨Nat.le_of_ble_eq_true rfl, Nat.le_of_ble_eq_true rfl⟩ rfl rfl (Nat.le_of_ble_eq_true rfl) dX8_sample_2 ⟨Nat.le_of_ble_eq_true rfl, Nat.le_of_ble_eq_true rfl⟩ ?_
  refine q_after (rv := (some (.int (q_b (f_X8_isWord a1 a2))))) (w0 := (cw cc g S ++ E)) (st2 := [.int (q_b (f_X8_isWord a1 a2))]) rfl rfl rfl ?_
  refine q_if_ne (pc := 5) (tgt := 19) C dX8_sample_5 (by decide) (fun c1 => ?_) (fun c1 => ?_)
  · have hf := q_iteF hf c1
    refine q_aload_n (pc := 19) C dX8_sample_19 rfl 0 rfl ?_
    refine r_g_0_5 (pc := 20) C n_X8_sample_X8 (List.mem_of_getElem? (i := 7) rfl) dX8_sample_20 ?_
    refine q_iload_n (pc := 23) C dX8_sample_23 rfl 1 rfl ?_
    refine q_iload_n (pc := 24) C dX8_sample_24 rfl 2 rfl ?_
    obtain ⟨u2, e3, hf⟩ := q_bind hf
    refine q_callV (pc := 25) (As := [.int a1, .int a2]) (rest := []) C (c_X7_has l D cc N0 g E S a1 a2 u2 e3) gX8_sample_X7_has rfl rfl z_X7_has ⟨Nat.le_of_ble_eq_true rfl, Nat.le_of_ble_eq_true rfl⟩ (cw_at_6 cc g E _) rfl rfl rfl (Nat.le_of_ble_eq_true rfl) dX8_sample_25 ⟨Nat.le_of_ble_eq_true rfl, Nat.le_of_ble_eq_true rfl⟩ ?_
    refine q_after (rv := (some (.int (q_b u2)))) (w0 := (cw cc g S ++ E)) (st2 := [.int (q_b u2)]) rfl rfl rfl ?_
    refine q_if_eq (pc := 28) (tgt := 42) C dX8_sample_28 (by decide) (fun c4 => ?_) (fun c4 => ?_)
    · have hf := q_iteT hf c4
      refine q_aload_n (pc := 42) C dX8_sample_42 rfl 0 rfl ?_
      refine r_g_0_5 (pc := 43) C n_X8_sample_X8 (List.mem_of_getElem? (i := 7) rfl) dX8_sample_43 ?_
      refine r_n_6_5 (pc := 46) C n_X8_sample_X7 (host := "Queryschool") (List.mem_of_getElem? (i := 11) rfl) dX8_sample_46 ?_
      refine q_bipush (pc := 49) C (12 : Int32) dX8_sample_49 q_cb_12 ?_
      refine q_icmp_lt (pc := 51) (tgt := 65) C dX8_sample_51 (by decide) (fun c5 => ?_) (fun c5 => ?_)
      · have hf := q_iteT hf c5
        refine q_aload_n (pc := 65) C dX8_sample_65 rfl 0 rfl ?_
        refine r_g_0_5 (pc := 66) C n_X8_sample_X8 (List.mem_of_getElem? (i := 7) rfl) dX8_sample_66 ?_
        refine q_iload_n (pc := 69) C dX8_sample_69 rfl 1 rfl ?_
        refine q_iload_n (pc := 70) C dX8_sample_70 rfl 2 rfl ?_
        refine q_iload_n (pc := 71) C dX8_sample_71 rfl 3 rfl ?_
        refine q_callV (pc := 72) (As := [.int a1, .int a2, .int a3]) (rest := []) C (c_X7_add l D cc N0 g E S a1 a2 a3 _ rfl) gX8_sample_X7_add rfl rfl z_X7_add ⟨Nat.le_of_ble_eq_true rfl, Nat.le_of_ble_eq_true rfl⟩ (cw_at_6 cc g E _) rfl rfl rfl (Nat.le_of_ble_eq_true rfl) dX8_sample_72 ⟨Nat.le_of_ble_eq_true rfl, Nat.le_of_ble_eq_true rfl⟩ ?_
        refine q_after (rv := (some (.int ((f_X7_add a1 a2 a3 S).1)))) (w0 := (cw cc g ((f_X7_add a1 a2 a3 S).2) ++ E)) (st2 := [.int ((f_X7_add a1 a2 a3 S).1)]) rfl rfl rfl ?_
        obtain rfl := q_some hf
        exact q_wid (Nat.zero_le _) (Nat.zero_le _) (q_retx (q_iret (pc := 75) C dX8_sample_75 ⟨rfl, rfl, rfl⟩))
      · have hf := q_iteF hf c5
        obtain rfl := q_some hf
        exact q_throwW (pc := 54) (text := "there are 12 words") C CX hfl hex (List.mem_of_getElem? (i := 5) rfl) (List.mem_of_getElem? (i := 6) rfl) (by decide +kernel) (List.mem_of_getElem? (i := 28) rfl) (fun w h => (List.mem_cons_of_mem _ (List.mem_append_right _ h))) qx_good_105 qx_bad_105 dX8_sample_54 dX8_sample_57 dX8_sample_58 dX8_sample_61 dX8_sample_64 (Nat.le_of_ble_eq_true rfl) (Nat.le_of_ble_eq_true rfl) (Nat.le_of_ble_eq_true rfl) (Nat.le_of_ble_eq_true rfl) (Nat.le_of_ble_eq_true rfl) (Nat.le_of_ble_eq_true rfl) ⟨rfl, Nat.le_of_ble_eq_true rfl, rfl⟩
    · have hf := q_iteF hf c4
      obtain rfl := q_some hf
      exact q_throwW (pc := 31) (text := "the word is there") C CX hfl hex (List.mem_of_getElem? (i := 3) rfl) (List.mem_of_getElem? (i := 4) rfl) (by decide +kernel) (List.mem_of_getElem? (i := 27) rfl) (fun w h => (List.mem_cons_of_mem _ (List.mem_append_left _ (List.mem_append_right _ h)))) qx_good_100 qx_bad_100 dX8_sample_31 dX8_sample_34 dX8_sample_35 dX8_sample_38 dX8_sample_41 (Nat.le_of_ble_eq_true rfl) (Nat.le_of_ble_eq_true rfl) (Nat.le_of_ble_eq_true rfl) (Nat.le_of_ble_eq_true rfl) (Nat.le_of_ble_eq_true rfl) (Nat.le_of_ble_eq_true rfl) ⟨rfl, Nat.le_of_ble_eq_true rfl, rfl⟩
  · have hf := q_iteT hf c1
    obtain rfl := q_some hf
    exact q_throwW (pc := 8) (text := "it is no word") C CX hfl hex (List.mem_of_getElem? (i := 1) rfl) (List.mem_of_getElem? (i := 2) rfl) (by decide +kernel) (List.mem_of_getElem? (i := 24) rfl) (fun w h => (List.mem_cons_of_mem _ (List.mem_append_left _ (List.mem_append_left _ (List.mem_append_right _ h))))) qx_good_67 qx_bad_67 dX8_sample_8 dX8_sample_11 dX8_sample_12 dX8_sample_15 dX8_sample_18 (Nat.le_of_ble_eq_true rfl) (Nat.le_of_ble_eq_true rfl) (Nat.le_of_ble_eq_true rfl) (Nat.le_of_ble_eq_true rfl) (Nat.le_of_ble_eq_true rfl) (Nat.le_of_ble_eq_true rfl) ⟨rfl, Nat.le_of_ble_eq_true rfl, rfl⟩
theorem z_X8_sample : q_dsc yX8_sample 3 := ⟨by decide +kernel, by decide +kernel, by decide +kernel⟩
theorem n_X8_fits_X3 : ∀ w ∈ wsX30, w ∈ wsX8_fits := fun _ h => (List.mem_cons_of_mem _ (List.mem_append_left _ (List.mem_append_left _ (List.mem_append_right _ h))))
theorem n_X8_fits_X8 : ∀ w ∈ wsX80, w ∈ wsX8_fits := fun _ h => (List.mem_cons_of_mem _ (List.mem_append_left _ (List.mem_append_left _ (List.mem_append_left _ (List.mem_append_right _ h)))))
def f_X8_fits (S : CS) : Option (Nat × Bool) := (if (S.1 5 2) = 0 then some (2, false) else ((f_X7_areToldBy S).bind fun u2 => some (0, u2)))
set_option maxRecDepth 100000 in
set_option maxHeartbeats 4000000 in
theorem c_X8_fits (l : Launch) (hfl : l.stackTraces = false) (D : va_G) (cc : Nat → ClassId) (N0 : Nat) (g : Nat → Nat) (E : va_W) (S : CS) (v : (Nat × Bool)) (hf : f_X8_fits S = some v) : q_MetX l yX8_fits wsX8_fits 6 140 D cc N0 (cw cc g S ++ E) [.ref (g 0)] (q_px v.1 (some (.int (q_b v.2))) (cw cc g S ++ E)) (q_xp v.1 (cw cc g S ++ E)) 1 6 := by
  refine q_ofWX (code := cX8_fits) (nL := 1) (ret := (some .boolean)) (by decide +kernel) rfl (Nat.le_of_ble_eq_true rfl) (fun p e s m below meth c C CX hex => ?_)
  refine q_lv (lv2 := [(0, .ref (g 0))]) rfl ?_
  refine q_aload_n (pc := 0) C dX8_fits_0 rfl 0 rfl ?_
  refine r_g_0_4 (pc := 1) C n_X8_fits_X8 (List.mem_of_getElem? (i := 3) rfl) dX8_fits_1 ?_
  refine r_n_5_2 (pc := 4) C n_X8_fits_X3 (host := "Queryschool") (List.mem_of_getElem? (i := 10) rfl) dX8_fits_4 ?_
  refine q_if_ne (pc := 7) (tgt := 21) C dX8_fits_7 (by decide) (fun c1 => ?_) (fun c1 => ?_)
  · have hf := q_iteF hf c1
    refine q_aload_n (pc := 21) C dX8_fits_21 rfl 0 rfl ?_
    refine r_g_0_5 (pc := 22) C n_X8_fits_X8 (List.mem_of_getElem? (i := 4) rfl) dX8_fits_22 ?_
    refine q_aload_n (pc := 25) C dX8_fits_25 rfl 0 rfl ?_
    refine r_g_0_4 (pc := 26) C n_X8_fits_X8 (List.mem_of_getElem? (i := 3) rfl) dX8_fits_26 ?_
    obtain ⟨u2, e3, hf⟩ := q_bind hf
    refine q_callV (pc := 29) (As := [.ref (g 5)]) (rest := []) C (c_X7_areToldBy l D cc N0 g E S u2 e3) gX8_fits_X7_areToldBy rfl rfl z_X7_areToldBy ⟨Nat.le_of_ble_eq_true rfl, Nat.le_of_ble_eq_true rfl⟩ (cw_at_6 cc g E _) rfl rfl rfl (Nat.le_of_ble_eq_true rfl) dX8_fits_29 ⟨Nat.le_of_ble_eq_true rfl, Nat.le_of_ble_eq_true rfl⟩ ?_
    refine q_after (rv := (some (.int (q_b u2)))) (w0 := (cw cc g S ++ E)) (st2 := [.int (q_b u2)]) rfl rfl rfl ?_
    obtain rfl := q_some hf
    exact q_wid (Nat.zero_le _) (Nat.zero_le _) (q_retx (q_zret (pc := 32) C (q_b_nar _) dX8_fits_32 ⟨rfl, rfl, rfl⟩))
  · have hf := q_iteT hf c1
    obtain rfl := q_some hf
    exact q_throwW (pc := 10) (text := "there is no state") C CX hfl hex (List.mem_of_getElem? (i := 1) rfl) (List.mem_of_getElem? (i := 2) rfl) (by decide +kernel) (List.mem_of_getElem? (i := 25) rfl) (fun w h => (List.mem_cons_of_mem _ (List.mem_append_right _ h))) qx_good_100 qx_bad_100 dX8_fits_10 dX8_fits_13 dX8_fits_14 dX8_fits_17 dX8_fits_20 (Nat.le_of_ble_eq_true rfl) (Nat.le_of_ble_eq_true rfl) (Nat.le_of_ble_eq_true rfl) (Nat.le_of_ble_eq_true rfl) (Nat.le_of_ble_eq_true rfl) (Nat.le_of_ble_eq_true rfl) ⟨rfl, Nat.le_of_ble_eq_true rfl, rfl⟩
theorem z_X8_fits : q_dsc yX8_fits 0 := ⟨by decide +kernel, by decide +kernel, by decide +kernel⟩
theorem n_X8_fewest_X8 : ∀ w ∈ wsX80, w ∈ wsX8_fewest := fun _ h => (List.mem_cons_of_mem _ (List.mem_append_left _ (List.mem_append_left _ (List.mem_append_right _ h))))
def f_X8_fewest (S : CS) : Option ((Nat × Int32) × CS) := ((f_X7_fewestStates S).bind fun u1 => (if u1.1 ≤ (3 : Int32) then some ((0, u1.1), u1.2) else some ((5, 0), u1.2)))
set_option maxRecDepth 100000 in
set_option maxHeartbeats 4000000 in
theorem c_X8_fewest (l : Launch) (hfl : l.stackTraces = false) (D : va_G) (cc : Nat → ClassId) (N0 : Nat) (g : Nat → Nat) (E : va_W) (S : CS) (v : ((Nat × Int32) × CS)) (hf : f_X8_fewest S = some v) : q_MetX l yX8_fewest wsX8_fewest 6 140 D cc N0 (cw cc g S ++ E) [.ref (g 0)] (q_px v.1.1 (some (.int v.1.2)) (cw cc g v.2 ++ E)) (q_xp v.1.1 (cw cc g v.2 ++ E)) 1 6 := by
  refine q_ofWX (code := cX8_fewest) (nL := 2) (ret := (some .int)) (by decide +kernel) rfl (Nat.le_of_ble_eq_true rfl) (fun p e s m below meth c C CX hex => ?_)
  refine q_lv (lv2 := [(0, .ref (g 0))]) rfl ?_
  refine q_aload_n (pc := 0) C dX8_fewest_0 rfl 0 rfl ?_
  refine r_g_0_5 (pc := 1) C n_X8_fewest_X8 (List.mem_of_getElem? (i := 3) rfl) dX8_fewest_1 ?_
  obtain ⟨u1, e2, hf⟩ := q_bind hf
  refine q_callV (pc := 4) (As := []) (rest := []) C (c_X7_fewestStates l D cc N0 g E S u1 e2) gX8_fewest_X7_fewestStates rfl rfl z_X7_fewestStates ⟨Nat.le_of_ble_eq_true rfl, Nat.le_of_ble_eq_true rfl⟩ (cw_at_6 cc g E _) rfl rfl rfl (Nat.le_of_ble_eq_true rfl) dX8_fewest_4 ⟨Nat.le_of_ble_eq_true rfl, Nat.le_of_ble_eq_true rfl⟩ ?_
  refine q_after (rv := (some (.int u1.1))) (w0 := (cw cc g u1.2 ++ E)) (st2 := [.int u1.1]) rfl rfl rfl ?_
  refine q_istore_n (pc := 7) (lvq := [(1, .int u1.1), (0, .ref (g 0))]) C dX8_fewest_7 rfl (by decide) rfl ?_
  refine q_iload_n (pc := 8) C dX8_fewest_8 rfl 0 rfl ?_
  refine q_iconst (pc := 9) C (3 : Int32) dX8_fewest_9 q_ci_3 ?_
  refine q_icmp_le (pc := 10) (tgt := 24) C dX8_fewest_10 (by decide) (fun c3 => ?_) (fun c3 => ?_)
  · have hf := q_iteT hf c3
    refine q_iload_n (pc := 24) C dX8_fewest_24 rfl 0 rfl ?_
    obtain rfl := q_some hf
    exact q_wid (Nat.zero_le _) (Nat.zero_le _) (q_retx (q_iret (pc := 25) C dX8_fewest_25 ⟨rfl, rfl, rfl⟩))
  · have hf := q_iteF hf c3
    obtain rfl := q_some hf
    exact q_throwNW (pc := 13) (text := "it needs more than 3 states") C CX hfl hex (List.mem_of_getElem? (i := 1) rfl) (List.mem_of_getElem? (i := 2) rfl) (List.mem_of_getElem? (i := 29) rfl) (fun w h => (List.mem_cons_of_mem _ (List.mem_append_right _ h))) dX8_fewest_13 dX8_fewest_16 dX8_fewest_17 dX8_fewest_20 dX8_fewest_23 (Nat.le_of_ble_eq_true rfl) (Nat.le_of_ble_eq_true rfl) (Nat.le_of_ble_eq_true rfl) (Nat.le_of_ble_eq_true rfl) (Nat.le_of_ble_eq_true rfl) (Nat.le_of_ble_eq_true rfl) ⟨rfl, Nat.le_of_ble_eq_true rfl, rfl⟩
theorem z_X8_fewest : q_dsc yX8_fewest 0 := ⟨by decide +kernel, by decide +kernel, by decide +kernel⟩
theorem n_X8_secret_X0 : ∀ w ∈ wsX00, w ∈ wsX8_secret := fun _ h => (List.mem_cons_of_mem _ (List.mem_append_left _ (List.mem_append_right _ h)))
theorem n_X8_secret_X8 : ∀ w ∈ wsX80, w ∈ wsX8_secret := fun _ h => (List.mem_cons_of_mem _ (List.mem_append_left _ (List.mem_append_left _ (List.mem_append_right _ h))))
def f_X8_secret (a1 : Int32) (S : CS) : ((Nat × Int32) × CS) := (if (q_b (f_X0_isCode a1)) = 0 then ((1, 0), S) else ((0, (S.1 7 1)), (f_X0_startAnew a1 S)))
set_option maxRecDepth 100000 in
set_option maxHeartbeats 4000000 in
theorem c_X8_secret (l : Launch) (hfl : l.stackTraces = false) (D : va_G) (cc : Nat → ClassId) (N0 : Nat) (g : Nat → Nat) (E : va_W) (S : CS) (a1 : Int32) (v : ((Nat × Int32) × CS)) (hf : f_X8_secret a1 S = v) : q_MetX l yX8_secret wsX8_secret 6 140 D cc N0 (cw cc g S ++ E) [.ref (g 0), .int a1] (q_px v.1.1 (some (.int v.1.2)) (cw cc g v.2 ++ E)) (q_xp v.1.1 (cw cc g v.2 ++ E)) 1 6 := by
  refine q_ofWX (code := cX8_secret) (nL := 3) (ret := (some .int)) (by decide +kernel) rfl (Nat.le_of_ble_eq_true rfl) (fun p e s m below meth c C CX hex => ?_)
  refine q_lv (lv2 := [(0, .ref (g 0)), (1, .int a1)]) rfl ?_
  refine q_iload_n (pc := 0) C dX8_secret_0 rfl 1 rfl ?_
  refine q_callS (pc := 1) (As := [.int a1]) (rest := []) C (c_X0_isCode l D cc N0 (cw cc g S ++ E) a1 _ rfl) gX8_secret_X0_isCode rfl z_X0_isCode ⟨Nat.le_of_ble_eq_true rfl, Nat.le_of_ble_eq_true rfl⟩ rfl rfl (Nat.le_of_ble_eq_true rfl) dX8_secret_1 ⟨Nat.le_of_ble_eq_true rfl, Nat.le_of_ble_eq_true rfl⟩ ?_
  refine q_after (rv := (some (.int (q_b (f_X0_isCode a1))))) (w0 := (cw cc g S ++ E)) (st2 := [.int (q_b (f_X0_isCode a1))]) rfl rfl rfl ?_
  refine q_if_ne (pc := 4) (tgt := 18) C dX8_secret_4 (by decide) (fun c1 => ?_) (fun c1 => ?_)
  · have hf := q_iteF hf c1
    refine q_aload_n (pc := 18) C dX8_secret_18 rfl 0 rfl ?_
    refine r_g_0_6 (pc := 19) C n_X8_secret_X8 (List.mem_of_getElem? (i := 3) rfl) dX8_secret_19 ?_
    refine r_n_7_1 (pc := 22) C n_X8_secret_X0 (host := "Queryschool") (List.mem_of_getElem? (i := 13) rfl) dX8_secret_22 ?_
    refine q_istore_n (pc := 25) (lvq := [(2, .int (S.1 7 1)), (0, .ref (g 0)), (1, .int a1)]) C dX8_secret_25 rfl (by decide) rfl ?_
    refine q_aload_n (pc := 26) C dX8_secret_26 rfl 1 rfl ?_
    refine r_g_0_6 (pc := 27) C n_X8_secret_X8 (List.mem_of_getElem? (i := 3) rfl) dX8_secret_27 ?_
    refine q_iload_n (pc := 30) C dX8_secret_30 rfl 2 rfl ?_
    refine q_callV (pc := 31) (As := [.int a1]) (rest := []) C (c_X0_startAnew l D cc N0 g E S a1 _ rfl) gX8_secret_X0_startAnew rfl rfl z_X0_startAnew ⟨Nat.le_of_ble_eq_true rfl, Nat.le_of_ble_eq_true rfl⟩ (cw_at_7 cc g E _) rfl rfl rfl (Nat.le_of_ble_eq_true rfl) dX8_secret_31 ⟨Nat.le_of_ble_eq_true rfl, Nat.le_of_ble_eq_true rfl⟩ ?_
    refine q_after (rv := none) (w0 := (cw cc g (f_X0_startAnew a1 S) ++ E)) (st2 := []) rfl rfl rfl ?_
    refine q_iload_n (pc := 34) C dX8_secret_34 rfl 0 rfl ?_
    obtain rfl := hf
    exact q_wid (Nat.zero_le _) (Nat.zero_le _) (q_retx (q_iret (pc := 35) C dX8_secret_35 ⟨rfl, rfl, rfl⟩))
  · have hf := q_iteT hf c1
    obtain rfl := hf
    exact q_throwW (pc := 7) (text := "it is no code") C CX hfl hex (List.mem_of_getElem? (i := 1) rfl) (List.mem_of_getElem? (i := 2) rfl) (by decide +kernel) (List.mem_of_getElem? (i := 30) rfl) (fun w h => (List.mem_cons_of_mem _ (List.mem_append_right _ h))) qx_good_67 qx_bad_67 dX8_secret_7 dX8_secret_10 dX8_secret_11 dX8_secret_14 dX8_secret_17 (Nat.le_of_ble_eq_true rfl) (Nat.le_of_ble_eq_true rfl) (Nat.le_of_ble_eq_true rfl) (Nat.le_of_ble_eq_true rfl) (Nat.le_of_ble_eq_true rfl) (Nat.le_of_ble_eq_true rfl) ⟨rfl, Nat.le_of_ble_eq_true rfl, rfl⟩
theorem z_X8_secret : q_dsc yX8_secret 1 := ⟨by decide +kernel, by decide +kernel, by decide +kernel⟩
theorem n_X8_guess_X0 : ∀ w ∈ wsX00, w ∈ wsX8_guess := fun _ h => (List.mem_cons_of_mem _ (List.mem_append_left _ (List.mem_append_left _ (List.mem_append_right _ h))))
theorem n_X8_guess_X8 : ∀ w ∈ wsX80, w ∈ wsX8_guess := fun _ h => (List.mem_cons_of_mem _ (List.mem_append_left _ (List.mem_append_left _ (List.mem_append_left _ (List.mem_append_right _ h)))))
def f_X8_guess (a1 : Int32) (S : CS) : Option ((Nat × Int32) × CS) := (if (q_b (f_X0_isCode a1)) = 0 then some ((1, 0), S) else (if (S.1 7 1) < (20 : Int32) then ((f_X0_giveHint a1 S).bind fun u3 => some ((0, u3.1), u3.2)) else some ((3, 0), S)))
set_option maxRecDepth 100000 in
set_option maxHeartbeats 4000000 in
theorem c_X8_guess (l : Launch) (hfl : l.stackTraces = false) (D : va_G) (cc : Nat → ClassId) (N0 : Nat) (g : Nat → Nat) (E : va_W) (S : CS) (a1 : Int32) (v : ((Nat × Int32) × CS)) (hf : f_X8_guess a1 S = some v) : q_MetX l yX8_guess wsX8_guess 6 140 D cc N0 (cw cc g S ++ E) [.ref (g 0), .int a1] (q_px v.1.1 (some (.int v.1.2)) (cw cc g v.2 ++ E)) (q_xp v.1.1 (cw cc g v.2 ++ E)) 1 6 := by
  refine q_ofWX (code := cX8_guess) (nL := 2) (ret := (some .int)) (by decide +kernel) rfl (Nat.le_of_ble_eq_true rfl) (fun p e s m below meth c C CX hex => ?_)
  refine q_lv (lv2 := [(0, .ref (g 0)), (1, .int a1)]) rfl ?_
  refine q_iload_n (pc := 0) C dX8_guess_0 rfl 1 rfl ?_
  refine q_callS (pc := 1) (As := [.int a1]) (rest := []) C (c_X0_isCode l D cc N0 (cw cc g S ++ E) a1 _ rfl) gX8_guess_X0_isCode rfl z_X0_isCode ⟨Nat.le_of_ble_eq_true rfl, Nat.le_of_ble_eq_true rfl⟩ rfl rfl (Nat.le_of_ble_eq_true rfl) dX8_guess_1 ⟨Nat.le_of_ble_eq_true rfl, Nat.le_of_ble_eq_true rfl⟩ ?_
  refine q_after (rv := (some (.int (q_b (f_X0_isCode a1))))) (w0 := (cw cc g S ++ E)) (st2 := [.int (q_b (f_X0_isCode a1))]) rfl rfl rfl ?_
  refine q_if_ne (pc := 4) (tgt := 18) C dX8_guess_4 (by decide) (fun c1 => ?_) (fun c1 => ?_)
  · have hf := q_iteF hf c1
    refine q_aload_n (pc := 18) C dX8_guess_18 rfl 0 rfl ?_
    refine r_g_0_6 (pc := 19) C n_X8_guess_X8 (List.mem_of_getElem? (i := 5) rfl) dX8_guess_19 ?_
    refine r_n_7_1 (pc := 22) C n_X8_guess_X0 (host := "Queryschool") (List.mem_of_getElem? (i := 13) rfl) dX8_guess_22 ?_
    refine q_bipush (pc := 25) C (20 : Int32) dX8_guess_25 q_cb_20 ?_
    refine q_icmp_lt (pc := 27) (tgt := 41) C dX8_guess_27 (by decide) (fun c2 => ?_) (fun c2 => ?_)
    · have hf := q_iteT hf c2
      refine q_aload_n (pc := 41) C dX8_guess_41 rfl 0 rfl ?_
      refine r_g_0_6 (pc := 42) C n_X8_guess_X8 (List.mem_of_getElem? (i := 5) rfl) dX8_guess_42 ?_
      refine q_iload_n (pc := 45) C dX8_guess_45 rfl 1 rfl ?_
      obtain ⟨u3, e4, hf⟩ := q_bind hf
      refine q_callV (pc := 46) (As := [.int a1]) (rest := []) C (c_X0_giveHint l D cc N0 g E S a1 u3 e4) gX8_guess_X0_giveHint rfl rfl z_X0_giveHint ⟨Nat.le_of_ble_eq_true rfl, Nat.le_of_ble_eq_true rfl⟩ (cw_at_7 cc g E _) rfl rfl rfl (Nat.le_of_ble_eq_true rfl) dX8_guess_46 ⟨Nat.le_of_ble_eq_true rfl, Nat.le_of_ble_eq_true rfl⟩ ?_
      refine q_after (rv := (some (.int u3.1))) (w0 := (cw cc g u3.2 ++ E)) (st2 := [.int u3.1]) rfl rfl rfl ?_
      obtain rfl := q_some hf
      exact q_wid (Nat.zero_le _) (Nat.zero_le _) (q_retx (q_iret (pc := 49) C dX8_guess_49 ⟨rfl, rfl, rfl⟩))
    · have hf := q_iteF hf c2
      obtain rfl := q_some hf
      exact q_throwW (pc := 30) (text := "20 hints were given") C CX hfl hex (List.mem_of_getElem? (i := 3) rfl) (List.mem_of_getElem? (i := 4) rfl) (by decide +kernel) (List.mem_of_getElem? (i := 31) rfl) (fun w h => (List.mem_cons_of_mem _ (List.mem_append_right _ h))) qx_good_105 qx_bad_105 dX8_guess_30 dX8_guess_33 dX8_guess_34 dX8_guess_37 dX8_guess_40 (Nat.le_of_ble_eq_true rfl) (Nat.le_of_ble_eq_true rfl) (Nat.le_of_ble_eq_true rfl) (Nat.le_of_ble_eq_true rfl) (Nat.le_of_ble_eq_true rfl) (Nat.le_of_ble_eq_true rfl) ⟨rfl, Nat.le_of_ble_eq_true rfl, rfl⟩
  · have hf := q_iteT hf c1
    obtain rfl := q_some hf
    exact q_throwW (pc := 7) (text := "it is no code") C CX hfl hex (List.mem_of_getElem? (i := 1) rfl) (List.mem_of_getElem? (i := 2) rfl) (by decide +kernel) (List.mem_of_getElem? (i := 30) rfl) (fun w h => (List.mem_cons_of_mem _ (List.mem_append_left _ (List.mem_append_right _ h)))) qx_good_67 qx_bad_67 dX8_guess_7 dX8_guess_10 dX8_guess_11 dX8_guess_14 dX8_guess_17 (Nat.le_of_ble_eq_true rfl) (Nat.le_of_ble_eq_true rfl) (Nat.le_of_ble_eq_true rfl) (Nat.le_of_ble_eq_true rfl) (Nat.le_of_ble_eq_true rfl) (Nat.le_of_ble_eq_true rfl) ⟨rfl, Nat.le_of_ble_eq_true rfl, rfl⟩
theorem z_X8_guess : q_dsc yX8_guess 1 := ⟨by decide +kernel, by decide +kernel, by decide +kernel⟩
theorem n_X8_possible_X0 : ∀ w ∈ wsX00, w ∈ wsX8_possible := fun _ h => (List.mem_cons_of_mem _ (List.mem_append_right _ h))
theorem n_X8_possible_X8 : ∀ w ∈ wsX80, w ∈ wsX8_possible := fun _ h => (List.mem_cons_of_mem _ (List.mem_append_left _ (List.mem_append_right _ h)))
def f_X8_possible (S : CS) : Int32 := (f_J13_bitCount_95d88 S.2)
set_option maxRecDepth 100000 in
set_option maxHeartbeats 4000000 in
theorem c_X8_possible (l : Launch) (D : va_G) (cc : Nat → ClassId) (N0 : Nat) (g : Nat → Nat) (E : va_W) (S : CS) (v : Int32) (hf : f_X8_possible S = v) : q_Met l yX8_possible wsX8_possible 1 21 D cc N0 (cw cc g S ++ E) [.ref (g 0)] (q_p (some (.int v)) (cw cc g S ++ E)) 0 0 := by
  refine q_ofW (code := cX8_possible) (nL := 1) (ret := (some .int)) (by decide +kernel) rfl (Nat.le_of_ble_eq_true rfl) (fun p e s m below meth c C _ => ?_)
  refine q_lv (lv2 := [(0, .ref (g 0))]) rfl ?_
  refine q_aload_n (pc := 0) C dX8_possible_0 rfl 0 rfl ?_
  refine r_g_0_6 (pc := 1) C n_X8_possible_X8 (List.mem_of_getElem? (i := 1) rfl) dX8_possible_1 ?_
  refine r_n_7_2 (pc := 4) C n_X8_possible_X0 (host := "Queryschool") (List.mem_of_getElem? (i := 14) rfl) dX8_possible_4 ?_
  refine q_callS (pc := 7) (As := [.long S.2]) (rest := []) C (c_J13_bitCount_95d88 l D cc N0 (cw cc g S ++ E) S.2 _ rfl) gX8_possible_J13_bitCount_95d88 rfl z_J13_bitCount_95d88 ⟨Nat.le_of_ble_eq_true rfl, Nat.le_of_ble_eq_true rfl⟩ rfl rfl (Nat.le_of_ble_eq_true rfl) dX8_possible_7 ⟨Nat.le_of_ble_eq_true rfl, Nat.le_of_ble_eq_true rfl⟩ ?_
  refine q_after (rv := (some (.int (f_J13_bitCount_95d88 S.2)))) (w0 := (cw cc g S ++ E)) (st2 := [.int (f_J13_bitCount_95d88 S.2)]) rfl rfl rfl ?_
  obtain rfl := hf
  exact q_iret (pc := 10) C dX8_possible_10 ⟨rfl, rfl⟩
theorem z_X8_possible : q_dsc yX8_possible 0 := ⟨by decide +kernel, by decide +kernel, by decide +kernel⟩
theorem n_X8_nextCode_X8 : ∀ w ∈ wsX80, w ∈ wsX8_nextCode := fun _ h => (List.mem_cons_of_mem _ (List.mem_append_left _ (List.mem_append_right _ h)))
def f_X8_nextCode (S : CS) : Option Int32 := ((f_X0_leastLeft S).bind fun u1 => some u1)
set_option maxRecDepth 100000 in
set_option maxHeartbeats 4000000 in
theorem c_X8_nextCode (l : Launch) (D : va_G) (cc : Nat → ClassId) (N0 : Nat) (g : Nat → Nat) (E : va_W) (S : CS) (v : Int32) (hf : f_X8_nextCode S = some v) : q_Met l yX8_nextCode wsX8_nextCode 2 42 D cc N0 (cw cc g S ++ E) [.ref (g 0)] (q_p (some (.int v)) (cw cc g S ++ E)) 0 0 := by
  refine q_ofW (code := cX8_nextCode) (nL := 1) (ret := (some .int)) (by decide +kernel) rfl (Nat.le_of_ble_eq_true rfl) (fun p e s m below meth c C _ => ?_)
  refine q_lv (lv2 := [(0, .ref (g 0))]) rfl ?_
  refine q_aload_n (pc := 0) C dX8_nextCode_0 rfl 0 rfl ?_
  refine r_g_0_6 (pc := 1) C n_X8_nextCode_X8 (List.mem_of_getElem? (i := 1) rfl) dX8_nextCode_1 ?_
  obtain ⟨u1, e2, hf⟩ := q_bind hf
  refine q_callV (pc := 4) (As := []) (rest := []) C (c_X0_leastLeft l D cc N0 g E S u1 e2) gX8_nextCode_X0_leastLeft rfl rfl z_X0_leastLeft ⟨Nat.le_of_ble_eq_true rfl, Nat.le_of_ble_eq_true rfl⟩ (cw_at_7 cc g E _) rfl rfl rfl (Nat.le_of_ble_eq_true rfl) dX8_nextCode_4 ⟨Nat.le_of_ble_eq_true rfl, Nat.le_of_ble_eq_true rfl⟩ ?_
  refine q_after (rv := (some (.int u1))) (w0 := (cw cc g S ++ E)) (st2 := [.int u1]) rfl rfl rfl ?_
  obtain rfl := q_some hf
  exact q_iret (pc := 7) C dX8_nextCode_7 ⟨rfl, rfl⟩
theorem z_X8_nextCode : q_dsc yX8_nextCode 0 := ⟨by decide +kernel, by decide +kernel, by decide +kernel⟩
theorem n_X8_things_X4 : ∀ w ∈ wsX40, w ∈ wsX8_things := fun _ h => (List.mem_cons_of_mem _ (List.mem_append_left _ (List.mem_append_right _ h)))
theorem n_X8_things_X8 : ∀ w ∈ wsX80, w ∈ wsX8_things := fun _ h => (List.mem_cons_of_mem _ (List.mem_append_left _ (List.mem_append_left _ (List.mem_append_right _ h))))
def f_X8_things_10 (S : CS) : Option ((Nat × Int32) × CS) := some ((1, 0), S)
def f_X8_things (a1 : Int32) (S : CS) : Option ((Nat × Int32) × CS) := (if a1 < (2 : Int32) then f_X8_things_10 S else (if a1 ≤ (5 : Int32) then ((f_X4_startAnew a1 S).bind fun u3 => some ((0, (S.1 8 2)), u3)) else f_X8_things_10 S))
set_option maxRecDepth 100000 in
set_option maxHeartbeats 4000000 in
theorem w_X8_things_10 {p : Program} {l : Launch} {e : Env} {s : State} {m : MethodId} {args : Array Value} {below : List Frame} {meth : Method} {c : Code} {D : va_G} {cc : Nat → ClassId} {N0 : Nat} {g : Nat → Nat} {E : va_W} {v : ((Nat × Int32) × CS)} (C : q_C p s m args meth c cX8_things 3 (some .int) wsX8_things RX8 D cc N0) (CX : q_KX N0 s) (hfl : l.stackTraces = false) (hex : ∀ x ∈ c.exceptionTable.toList, False)  (S : CS) (hf : f_X8_things_10  S = some v) : q_WA p l e (q_rm 6 140 1 6) s m args below meth c D N0 3 (vx_MQ below (q_Q D N0 (q_px v.1.1 (some (.int v.1.2)) (cw cc g v.2 ++ E))) (q_XX D N0 (q_xp v.1.1 (cw cc g v.2 ++ E))) args s 1 6 (q_A N0)) 0 0 (cw cc g S ++ E) 10 [] [] := by
  obtain rfl := q_some hf
  exact q_throwW (pc := 10) (text := "things are 2 to 5") C CX hfl hex (List.mem_of_getElem? (i := 1) rfl) (List.mem_of_getElem? (i := 2) rfl) (by decide +kernel) (List.mem_of_getElem? (i := 32) rfl) (fun w h => (List.mem_cons_of_mem _ (List.mem_append_right _ h))) qx_good_67 qx_bad_67 dX8_things_10 dX8_things_13 dX8_things_14 dX8_things_17 dX8_things_20 (Nat.le_of_ble_eq_true rfl) (Nat.le_of_ble_eq_true rfl) (Nat.le_of_ble_eq_true rfl) (Nat.le_of_ble_eq_true rfl) (Nat.le_of_ble_eq_true rfl) (Nat.le_of_ble_eq_true rfl) ⟨rfl, Nat.le_of_ble_eq_true rfl, rfl⟩
set_option maxRecDepth 100000 in
set_option maxHeartbeats 4000000 in
theorem c_X8_things (l : Launch) (hfl : l.stackTraces = false) (D : va_G) (cc : Nat → ClassId) (N0 : Nat) (g : Nat → Nat) (E : va_W) (S : CS) (a1 : Int32) (v : ((Nat × Int32) × CS)) (hf : f_X8_things a1 S = some v) : q_MetX l yX8_things wsX8_things 6 140 D cc N0 (cw cc g S ++ E) [.ref (g 0), .int a1] (q_px v.1.1 (some (.int v.1.2)) (cw cc g v.2 ++ E)) (q_xp v.1.1 (cw cc g v.2 ++ E)) 1 6 := by
  refine q_ofWX (code := cX8_things) (nL := 3) (ret := (some .int)) (by decide +kernel) rfl (Nat.le_of_ble_eq_true rfl) (fun p e s m below meth c C CX hex => ?_)
  refine q_lv (lv2 := [(0, .ref (g 0)), (1, .int a1)]) rfl ?_
  refine q_iload_n (pc := 0) C dX8_things_0 rfl 1 rfl ?_
  refine q_iconst (pc := 1) C (2 : Int32) dX8_things_1 q_ci_2 ?_
  refine q_icmp_lt (pc := 2) (tgt := 10) C dX8_things_2 (by decide) (fun c1 => ?_) (fun c1 => ?_)
  · have hf := q_iteT hf c1
    refine q_sub (lvq := []) [] rfl ?_
    exact w_X8_things_10 C CX hfl hex S hf
  · have hf := q_iteF hf c1
    refine q_iload_n (pc := 5) C dX8_things_5 rfl 1 rfl ?_
    refine q_iconst (pc := 6) C (5 : Int32) dX8_things_6 q_ci_5 ?_
    refine q_icmp_le (pc := 7) (tgt := 21) C dX8_things_7 (by decide) (fun c2 => ?_) (fun c2 => ?_)
    · have hf := q_iteT hf c2
      refine q_aload_n (pc := 21) C dX8_things_21 rfl 0 rfl ?_
      refine r_g_0_7 (pc := 22) C n_X8_things_X8 (List.mem_of_getElem? (i := 3) rfl) dX8_things_22 ?_
      refine r_n_8_2 (pc := 25) C n_X8_things_X4 (host := "Queryschool") (List.mem_of_getElem? (i := 15) rfl) dX8_things_25 ?_
      refine q_istore_n (pc := 28) (lvq := [(2, .int (S.1 8 2)), (0, .ref (g 0)), (1, .int a1)]) C dX8_things_28 rfl (by decide) rfl ?_
      refine q_aload_n (pc := 29) C dX8_things_29 rfl 1 rfl ?_
      refine r_g_0_7 (pc := 30) C n_X8_things_X8 (List.mem_of_getElem? (i := 3) rfl) dX8_things_30 ?_
      refine q_iload_n (pc := 33) C dX8_things_33 rfl 2 rfl ?_
      obtain ⟨u3, e4, hf⟩ := q_bind hf
      refine q_callV (pc := 34) (As := [.int a1]) (rest := []) C (c_X4_startAnew l D cc N0 g E S a1 u3 e4) gX8_things_X4_startAnew rfl rfl z_X4_startAnew ⟨Nat.le_of_ble_eq_true rfl, Nat.le_of_ble_eq_true rfl⟩ (cw_at_8 cc g E _) rfl rfl rfl (Nat.le_of_ble_eq_true rfl) dX8_things_34 ⟨Nat.le_of_ble_eq_true rfl, Nat.le_of_ble_eq_true rfl⟩ ?_
      refine q_after (rv := none) (w0 := (cw cc g u3 ++ E)) (st2 := []) rfl rfl rfl ?_
      refine q_iload_n (pc := 37) C dX8_things_37 rfl 0 rfl ?_
      obtain rfl := q_some hf
      exact q_wid (Nat.zero_le _) (Nat.zero_le _) (q_retx (q_iret (pc := 38) C dX8_things_38 ⟨rfl, rfl, rfl⟩))
    · have hf := q_iteF hf c2
      refine q_sub (lvq := []) [] rfl ?_
      exact w_X8_things_10 C CX hfl hex S hf
theorem z_X8_things : q_dsc yX8_things 1 := ⟨by decide +kernel, by decide +kernel, by decide +kernel⟩
theorem n_X8_ahead_X8 : ∀ w ∈ wsX80, w ∈ wsX8_ahead := fun _ h => (List.mem_cons_of_mem _ (List.mem_append_left _ (List.mem_append_left _ (List.mem_append_left _ (List.mem_append_right _ h)))))
def f_X8_ahead_27 (S : CS) : Option ((Nat × Int32) × CS) := some ((1, 0), S)
def f_X8_ahead (a1 : Int32) (a2 : Int32) (S : CS) : Option ((Nat × Int32) × CS) := (if (q_b (f_X4_isThing S a1)) = 0 then f_X8_ahead_27 S else (if (q_b (f_X4_isThing S a2)) = 0 then f_X8_ahead_27 S else (if a1 = a2 then f_X8_ahead_27 S else ((f_X4_ways a1 a2 S).bind fun u4 => (if u4.1 = 0 then some ((2, 0), u4.2) else some ((0, u4.1), (f_X4_line a1 a2 u4.2)))))))
set_option maxRecDepth 100000 in
set_option maxHeartbeats 4000000 in
theorem w_X8_ahead_27 {p : Program} {l : Launch} {e : Env} {s : State} {m : MethodId} {args : Array Value} {below : List Frame} {meth : Method} {c : Code} {D : va_G} {cc : Nat → ClassId} {N0 : Nat} {g : Nat → Nat} {E : va_W} {v : ((Nat × Int32) × CS)} (C : q_C p s m args meth c cX8_ahead 4 (some .int) wsX8_ahead RX8 D cc N0) (CX : q_KX N0 s) (hfl : l.stackTraces = false) (hex : ∀ x ∈ c.exceptionTable.toList, False)  (S : CS) (hf : f_X8_ahead_27  S = some v) : q_WA p l e (q_rm 6 140 1 6) s m args below meth c D N0 4 (vx_MQ below (q_Q D N0 (q_px v.1.1 (some (.int v.1.2)) (cw cc g v.2 ++ E))) (q_XX D N0 (q_xp v.1.1 (cw cc g v.2 ++ E))) args s 1 6 (q_A N0)) 0 0 (cw cc g S ++ E) 27 [] [] := by
  obtain rfl := q_some hf
  exact q_throwW (pc := 27) (text := "there is no such thing, or both are the same") C CX hfl hex (List.mem_of_getElem? (i := 1) rfl) (List.mem_of_getElem? (i := 2) rfl) (by decide +kernel) (List.mem_of_getElem? (i := 33) rfl) (fun w h => (List.mem_cons_of_mem _ (List.mem_append_left _ (List.mem_append_right _ h)))) qx_good_67 qx_bad_67 dX8_ahead_27 dX8_ahead_30 dX8_ahead_31 dX8_ahead_34 dX8_ahead_37 (Nat.le_of_ble_eq_true rfl) (Nat.le_of_ble_eq_true rfl) (Nat.le_of_ble_eq_true rfl) (Nat.le_of_ble_eq_true rfl) (Nat.le_of_ble_eq_true rfl) (Nat.le_of_ble_eq_true rfl) ⟨rfl, Nat.le_of_ble_eq_true rfl, rfl⟩
set_option maxRecDepth 100000 in
set_option maxHeartbeats 4000000 in
theorem c_X8_ahead (l : Launch) (hfl : l.stackTraces = false) (D : va_G) (cc : Nat → ClassId) (N0 : Nat) (g : Nat → Nat) (E : va_W) (S : CS) (a1 : Int32) (a2 : Int32) (v : ((Nat × Int32) × CS)) (hf : f_X8_ahead a1 a2 S = some v) : q_MetX l yX8_ahead wsX8_ahead 6 140 D cc N0 (cw cc g S ++ E) [.ref (g 0), .int a1, .int a2] (q_px v.1.1 (some (.int v.1.2)) (cw cc g v.2 ++ E)) (q_xp v.1.1 (cw cc g v.2 ++ E)) 1 6 := by
  refine q_ofWX (code := cX8_ahead) (nL := 4) (ret := (some .int)) (by decide +kernel) rfl (Nat.le_of_ble_eq_true rfl) (fun p e s m below meth c C CX hex => ?_)
  refine q_lv (lv2 := [(0, .ref (g 0)), (1, .int a1), (2, .int a2)]) rfl ?_
  refine q_aload_n (pc := 0) C dX8_ahead_0 rfl 0 rfl ?_
  refine r_g_0_7 (pc := 1) C n_X8_ahead_X8 (List.mem_of_getElem? (i := 5) rfl) dX8_ahead_1 ?_
  refine q_iload_n (pc := 4) C dX8_ahead_4 rfl 1 rfl ?_
  refine q_callV (pc := 5) (As := [.int a1]) (rest := []) C (c_X4_isThing l D cc N0 g E S a1 _ rfl) gX8_ahead_X4_isThing rfl rfl z_X4_isThing ⟨Nat.le_of_ble_eq_true rfl, Nat.le_of_ble_eq_true rfl⟩ (cw_at_8 cc g E _) rfl rfl rfl (Nat.le_of_ble_eq_true rfl) dX8_ahead_5 ⟨Nat.le_of_ble_eq_true rfl, Nat.le_of_ble_eq_true rfl⟩ ?_
  refine q_after (rv := (some (.int (q_b (f_X4_isThing S a1))))) (w0 := (cw cc g S ++ E)) (st2 := [.int (q_b (f_X4_isThing S a1))]) rfl rfl rfl ?_
  refine q_if_eq (pc := 8) (tgt := 27) C dX8_ahead_8 (by decide) (fun c1 => ?_) (fun c1 => ?_)
  · have hf := q_iteT hf c1
    refine q_sub (lvq := []) [] rfl ?_
    exact w_X8_ahead_27 C CX hfl hex S hf
  · have hf := q_iteF hf c1
    refine q_aload_n (pc := 11) C dX8_ahead_11 rfl 0 rfl ?_
    refine r_g_0_7 (pc := 12) C n_X8_ahead_X8 (List.mem_of_getElem? (i := 5) rfl) dX8_ahead_12 ?_
    refine q_iload_n (pc := 15) C dX8_ahead_15 rfl 2 rfl ?_
    refine q_callV (pc := 16) (As := [.int a2]) (rest := []) C (c_X4_isThing l D cc N0 g E S a2 _ rfl) gX8_ahead_X4_isThing rfl rfl z_X4_isThing ⟨Nat.le_of_ble_eq_true rfl, Nat.le_of_ble_eq_true rfl⟩ (cw_at_8 cc g E _) rfl rfl rfl (Nat.le_of_ble_eq_true rfl) dX8_ahead_16 ⟨Nat.le_of_ble_eq_true rfl, Nat.le_of_ble_eq_true rfl⟩ ?_
    refine q_after (rv := (some (.int (q_b (f_X4_isThing S a2))))) (w0 := (cw cc g S ++ E)) (st2 := [.int (q_b (f_X4_isThing S a2))]) rfl rfl rfl ?_
    refine q_if_eq (pc := 19) (tgt := 27) C dX8_ahead_19 (by decide) (fun c2 => ?_) (fun c2 => ?_)
    · have hf := q_iteT hf c2
      refine q_sub (lvq := []) [] rfl ?_
      exact w_X8_ahead_27 C CX hfl hex S hf
    · have hf := q_iteF hf c2
      refine q_iload_n (pc := 22) C dX8_ahead_22 rfl 1 rfl ?_
      refine q_iload_n (pc := 23) C dX8_ahead_23 rfl 2 rfl ?_
      refine q_icmp_ne (pc := 24) (tgt := 38) C dX8_ahead_24 (by decide) (fun c3 => ?_) (fun c3 => ?_)
      · have hf := q_iteF hf c3
        refine q_aload_n (pc := 38) C dX8_ahead_38 rfl 0 rfl ?_
        refine r_g_0_7 (pc := 39) C n_X8_ahead_X8 (List.mem_of_getElem? (i := 5) rfl) dX8_ahead_39 ?_
        refine q_iload_n (pc := 42) C dX8_ahead_42 rfl 1 rfl ?_
        refine q_iload_n (pc := 43) C dX8_ahead_43 rfl 2 rfl ?_
        obtain ⟨u4, e5, hf⟩ := q_bind hf
        refine q_callV (pc := 44) (As := [.int a1, .int a2]) (rest := []) C (c_X4_ways l D cc N0 g E S a1 a2 u4 e5) gX8_ahead_X4_ways rfl rfl z_X4_ways ⟨Nat.le_of_ble_eq_true rfl, Nat.le_of_ble_eq_true rfl⟩ (cw_at_8 cc g E _) rfl rfl rfl (Nat.le_of_ble_eq_true rfl) dX8_ahead_44 ⟨Nat.le_of_ble_eq_true rfl, Nat.le_of_ble_eq_true rfl⟩ ?_
        refine q_after (rv := (some (.int u4.1))) (w0 := (cw cc g u4.2 ++ E)) (st2 := [.int u4.1]) rfl rfl rfl ?_
        refine q_istore_n (pc := 47) (lvq := [(3, .int u4.1), (0, .ref (g 0)), (1, .int a1), (2, .int a2)]) C dX8_ahead_47 rfl (by decide) rfl ?_
        refine q_iload_n (pc := 48) C dX8_ahead_48 rfl 0 rfl ?_
        refine q_if_ne (pc := 49) (tgt := 63) C dX8_ahead_49 (by decide) (fun c6 => ?_) (fun c6 => ?_)
        · have hf := q_iteF hf c6
          refine q_aload_n (pc := 63) C dX8_ahead_63 rfl 1 rfl ?_
          refine r_g_0_7 (pc := 64) C n_X8_ahead_X8 (List.mem_of_getElem? (i := 5) rfl) dX8_ahead_64 ?_
          refine q_iload_n (pc := 67) C dX8_ahead_67 rfl 2 rfl ?_
          refine q_iload_n (pc := 68) C dX8_ahead_68 rfl 3 rfl ?_
          refine q_callV (pc := 69) (As := [.int a1, .int a2]) (rest := []) C (c_X4_line l D cc N0 g E u4.2 a1 a2 _ rfl) gX8_ahead_X4_line rfl rfl z_X4_line ⟨Nat.le_of_ble_eq_true rfl, Nat.le_of_ble_eq_true rfl⟩ (cw_at_8 cc g E _) rfl rfl rfl (Nat.le_of_ble_eq_true rfl) dX8_ahead_69 ⟨Nat.le_of_ble_eq_true rfl, Nat.le_of_ble_eq_true rfl⟩ ?_
          refine q_after (rv := none) (w0 := (cw cc g (f_X4_line a1 a2 u4.2) ++ E)) (st2 := []) rfl rfl rfl ?_
          refine q_iload_n (pc := 72) C dX8_ahead_72 rfl 0 rfl ?_
          obtain rfl := q_some hf
          exact q_wid (Nat.zero_le _) (Nat.zero_le _) (q_retx (q_iret (pc := 73) C dX8_ahead_73 ⟨rfl, rfl, rfl⟩))
        · have hf := q_iteT hf c6
          obtain rfl := q_some hf
          exact q_throwW (pc := 52) (text := "no order would be left") C CX hfl hex (List.mem_of_getElem? (i := 3) rfl) (List.mem_of_getElem? (i := 4) rfl) (by decide +kernel) (List.mem_of_getElem? (i := 34) rfl) (fun w h => (List.mem_cons_of_mem _ (List.mem_append_right _ h))) qx_good_100 qx_bad_100 dX8_ahead_52 dX8_ahead_55 dX8_ahead_56 dX8_ahead_59 dX8_ahead_62 (Nat.le_of_ble_eq_true rfl) (Nat.le_of_ble_eq_true rfl) (Nat.le_of_ble_eq_true rfl) (Nat.le_of_ble_eq_true rfl) (Nat.le_of_ble_eq_true rfl) (Nat.le_of_ble_eq_true rfl) ⟨rfl, Nat.le_of_ble_eq_true rfl, rfl⟩
      · have hf := q_iteT hf c3
        refine q_sub (lvq := []) [] rfl ?_
        exact w_X8_ahead_27 C CX hfl hex S hf
theorem z_X8_ahead : q_dsc yX8_ahead 2 := ⟨by decide +kernel, by decide +kernel, by decide +kernel⟩
theorem n_X8_orders_X8 : ∀ w ∈ wsX80, w ∈ wsX8_orders := fun _ h => (List.mem_cons_of_mem _ (List.mem_append_left _ (List.mem_append_right _ h)))
def f_X8_orders (S : CS) : Option (Int32 × CS) := ((f_X4_allWays S).bind fun u1 => some (u1.1, u1.2))
set_option maxRecDepth 100000 in
set_option maxHeartbeats 4000000 in
theorem c_X8_orders (l : Launch) (D : va_G) (cc : Nat → ClassId) (N0 : Nat) (g : Nat → Nat) (E : va_W) (S : CS) (v : (Int32 × CS)) (hf : f_X8_orders S = some v) : q_Met l yX8_orders wsX8_orders 3 66 D cc N0 (cw cc g S ++ E) [.ref (g 0)] (q_p (some (.int v.1)) (cw cc g v.2 ++ E)) 0 0 := by
  refine q_ofW (code := cX8_orders) (nL := 1) (ret := (some .int)) (by decide +kernel) rfl (Nat.le_of_ble_eq_true rfl) (fun p e s m below meth c C _ => ?_)
  refine q_lv (lv2 := [(0, .ref (g 0))]) rfl ?_
  refine q_aload_n (pc := 0) C dX8_orders_0 rfl 0 rfl ?_
  refine r_g_0_7 (pc := 1) C n_X8_orders_X8 (List.mem_of_getElem? (i := 1) rfl) dX8_orders_1 ?_
  obtain ⟨u1, e2, hf⟩ := q_bind hf
  refine q_callV (pc := 4) (As := []) (rest := []) C (c_X4_allWays l D cc N0 g E S u1 e2) gX8_orders_X4_allWays rfl rfl z_X4_allWays ⟨Nat.le_of_ble_eq_true rfl, Nat.le_of_ble_eq_true rfl⟩ (cw_at_8 cc g E _) rfl rfl rfl (Nat.le_of_ble_eq_true rfl) dX8_orders_4 ⟨Nat.le_of_ble_eq_true rfl, Nat.le_of_ble_eq_true rfl⟩ ?_
  refine q_after (rv := (some (.int u1.1))) (w0 := (cw cc g u1.2 ++ E)) (st2 := [.int u1.1]) rfl rfl rfl ?_
  obtain rfl := q_some hf
  exact q_iret (pc := 7) C dX8_orders_7 ⟨rfl, rfl⟩
theorem z_X8_orders : q_dsc yX8_orders 0 := ⟨by decide +kernel, by decide +kernel, by decide +kernel⟩
theorem n_X8_pair_X8 : ∀ w ∈ wsX80, w ∈ wsX8_pair := fun _ h => (List.mem_cons_of_mem _ (List.mem_append_left _ (List.mem_append_left _ (List.mem_append_right _ h))))
def f_X8_pair (S : CS) : Option ((Nat × Int32) × CS) := ((f_X4_allWays S).bind fun u1 => (if u1.1 = (1 : Int32) then some ((5, 0), u1.2) else ((f_X4_bestPair u1.2).bind fun u4 => some ((0, u4.1), u4.2))))
set_option maxRecDepth 100000 in
set_option maxHeartbeats 4000000 in
theorem c_X8_pair (l : Launch) (hfl : l.stackTraces = false) (D : va_G) (cc : Nat → ClassId) (N0 : Nat) (g : Nat → Nat) (E : va_W) (S : CS) (v : ((Nat × Int32) × CS)) (hf : f_X8_pair S = some v) : q_MetX l yX8_pair wsX8_pair 6 140 D cc N0 (cw cc g S ++ E) [.ref (g 0)] (q_px v.1.1 (some (.int v.1.2)) (cw cc g v.2 ++ E)) (q_xp v.1.1 (cw cc g v.2 ++ E)) 1 6 := by
  refine q_ofWX (code := cX8_pair) (nL := 1) (ret := (some .int)) (by decide +kernel) rfl (Nat.le_of_ble_eq_true rfl) (fun p e s m below meth c C CX hex => ?_)
  refine q_lv (lv2 := [(0, .ref (g 0))]) rfl ?_
  refine q_aload_n (pc := 0) C dX8_pair_0 rfl 0 rfl ?_
  refine r_g_0_7 (pc := 1) C n_X8_pair_X8 (List.mem_of_getElem? (i := 3) rfl) dX8_pair_1 ?_
  obtain ⟨u1, e2, hf⟩ := q_bind hf
  refine q_callV (pc := 4) (As := []) (rest := []) C (c_X4_allWays l D cc N0 g E S u1 e2) gX8_pair_X4_allWays rfl rfl z_X4_allWays ⟨Nat.le_of_ble_eq_true rfl, Nat.le_of_ble_eq_true rfl⟩ (cw_at_8 cc g E _) rfl rfl rfl (Nat.le_of_ble_eq_true rfl) dX8_pair_4 ⟨Nat.le_of_ble_eq_true rfl, Nat.le_of_ble_eq_true rfl⟩ ?_
  refine q_after (rv := (some (.int u1.1))) (w0 := (cw cc g u1.2 ++ E)) (st2 := [.int u1.1]) rfl rfl rfl ?_
  refine q_iconst (pc := 7) C (1 : Int32) dX8_pair_7 q_ci_1 ?_
  refine q_icmp_ne (pc := 8) (tgt := 22) C dX8_pair_8 (by decide) (fun c3 => ?_) (fun c3 => ?_)
  · have hf := q_iteF hf c3
    refine q_aload_n (pc := 22) C dX8_pair_22 rfl 0 rfl ?_
    refine r_g_0_7 (pc := 23) C n_X8_pair_X8 (List.mem_of_getElem? (i := 3) rfl) dX8_pair_23 ?_
    obtain ⟨u4, e5, hf⟩ := q_bind hf
    refine q_callV (pc := 26) (As := []) (rest := []) C (c_X4_bestPair l D cc N0 g E u1.2 u4 e5) gX8_pair_X4_bestPair rfl rfl z_X4_bestPair ⟨Nat.le_of_ble_eq_true rfl, Nat.le_of_ble_eq_true rfl⟩ (cw_at_8 cc g E _) rfl rfl rfl (Nat.le_of_ble_eq_true rfl) dX8_pair_26 ⟨Nat.le_of_ble_eq_true rfl, Nat.le_of_ble_eq_true rfl⟩ ?_
    refine q_after (rv := (some (.int u4.1))) (w0 := (cw cc g u4.2 ++ E)) (st2 := [.int u4.1]) rfl rfl rfl ?_
    obtain rfl := q_some hf
    exact q_wid (Nat.zero_le _) (Nat.zero_le _) (q_retx (q_iret (pc := 29) C dX8_pair_29 ⟨rfl, rfl, rfl⟩))
  · have hf := q_iteT hf c3
    obtain rfl := q_some hf
    exact q_throwNW (pc := 11) (text := "there is one order alone") C CX hfl hex (List.mem_of_getElem? (i := 1) rfl) (List.mem_of_getElem? (i := 2) rfl) (List.mem_of_getElem? (i := 35) rfl) (fun w h => (List.mem_cons_of_mem _ (List.mem_append_right _ h))) dX8_pair_11 dX8_pair_14 dX8_pair_15 dX8_pair_18 dX8_pair_21 (Nat.le_of_ble_eq_true rfl) (Nat.le_of_ble_eq_true rfl) (Nat.le_of_ble_eq_true rfl) (Nat.le_of_ble_eq_true rfl) (Nat.le_of_ble_eq_true rfl) (Nat.le_of_ble_eq_true rfl) ⟨rfl, Nat.le_of_ble_eq_true rfl, rfl⟩
theorem z_X8_pair : q_dsc yX8_pair 0 := ⟨by decide +kernel, by decide +kernel, by decide +kernel⟩
theorem n_X8_checksum_X0 : ∀ w ∈ wsX00, w ∈ wsX8_checksum := fun _ h => (List.mem_cons_of_mem _ (List.mem_append_left _ (List.mem_append_left _ (List.mem_append_right _ h))))
theorem n_X8_checksum_X1 : ∀ w ∈ wsX10, w ∈ wsX8_checksum := fun _ h => (List.mem_cons_of_mem _ (List.mem_append_left _ (List.mem_append_left _ (List.mem_append_left _ (List.mem_append_left _ (List.mem_append_right _ h))))))
theorem n_X8_checksum_X2 : ∀ w ∈ wsX20, w ∈ wsX8_checksum := fun _ h => (List.mem_cons_of_mem _ (List.mem_append_left _ (List.mem_append_left _ (List.mem_append_left _ (List.mem_append_right _ h)))))
theorem n_X8_checksum_X8 : ∀ w ∈ wsX80, w ∈ wsX8_checksum := fun _ h => (List.mem_cons_of_mem _ (List.mem_append_left _ (List.mem_append_left _ (List.mem_append_left _ (List.mem_append_left _ (List.mem_append_left _ (List.mem_append_right _ h)))))))
def f_X8_checksum_57b (k57 : Int64 → Int32 → CS → Option (Int64 × CS)) (v1 : Int64) (v3 : Int32) (S : CS) : Option (Int64 × CS) := (if (S.1 4 2) ≤ v3 then ((f_X4_allWays S).bind fun u3 => some ((((31 : Int64) * (((31 : Int64) * v1) + (f_J13_bitCount_95d88 S.2).toInt64)) + u3.1.toInt64), u3.2)) else k57 (((31 : Int64) * v1) + (f_X2_weightOf S v3).toInt64) (v3 + (1 : Int32)) S)
def f_X8_checksum_57 : Nat → Int64 → Int32 → CS → Option (Int64 × CS)
  | 0, _, _, _ => none
  | n + 1, v1, v3, S => f_X8_checksum_57b  (f_X8_checksum_57  n) v1 v3 S
def f_X8_checksum_6b (k6 : Int64 → Int32 → CS → Option (Int64 × CS)) (v1 : Int64) (v3 : Int32) (S : CS) : Option (Int64 × CS) := (if (S.1 2 3) ≤ v3 then f_X8_checksum_57 1000 v1 (0 : Int32) S else k6 (((31 : Int64) * (((31 : Int64) * v1) + (f_X1_setAt S v3).toInt64)) + (f_X5_conflictsOf S v3).toInt64) (v3 + (1 : Int32)) S)
def f_X8_checksum_6 : Nat → Int64 → Int32 → CS → Option (Int64 × CS)
  | 0, _, _, _ => none
  | n + 1, v1, v3, S => f_X8_checksum_6b  (f_X8_checksum_6  n) v1 v3 S
def f_X8_checksum (S : CS) : Option (Int64 × CS) := f_X8_checksum_6 1000 (7 : Int64) (0 : Int32) S
set_option maxRecDepth 100000 in
set_option maxHeartbeats 4000000 in
theorem w_X8_checksum_57 {p : Program} {l : Launch} {e : Env} {s : State} {m : MethodId} {args : Array Value} {below : List Frame} {meth : Method} {c : Code} {D : va_G} {cc : Nat → ClassId} {N0 : Nat} {g : Nat → Nat} {E : va_W} {v : (Int64 × CS)} (C : q_C p s m args meth c cX8_checksum 4 (some .long) wsX8_checksum RX8 D cc N0)  : ∀ (n : Nat) (v1 : Int64) (v3 : Int32) (S : CS), f_X8_checksum_57  n v1 v3 S = some v → q_WA p l e (q_rm 3 66 0 0) s m args below meth c D N0 4 (MQ below (q_Q D N0 (q_p (some (.long v.1)) (cw cc g v.2 ++ E))) args s 0 0 (q_A N0)) 0 0 (cw cc g S ++ E) 57 [(0, .ref (g 0)), (1, .long v1), (3, .int v3)] [] := by
  intro n
  induction n with
  | zero => intro v1 v3 S hf; cases hf
  | succ n ih =>
    intro v1 v3 S hf
    have hk57 : ∀ (v1 : Int64) (v3 : Int32) (S : CS), f_X8_checksum_57  n v1 v3 S = some v → q_WA p l e (q_rm 3 66 0 0) s m args below meth c D N0 4 (MQ below (q_Q D N0 (q_p (some (.long v.1)) (cw cc g v.2 ++ E))) args s 0 0 (q_A N0)) 0 0 (cw cc g S ++ E) 57 [(0, .ref (g 0)), (1, .long v1), (3, .int v3)] [] := ih
    have hf : f_X8_checksum_57b  (f_X8_checksum_57  n) v1 v3 S = some v := hf
    refine q_iload_n (pc := 57) C dX8_checksum_57 rfl 2 rfl ?_
    refine q_aload_n (pc := 58) C dX8_checksum_58 rfl 0 rfl ?_
    refine r_g_0_3 (pc := 59) C n_X8_checksum_X8 (List.mem_of_getElem? (i := 5) rfl) dX8_checksum_59 ?_
    refine r_n_4_2 (pc := 62) C n_X8_checksum_X2 (host := "Queryschool") (List.mem_of_getElem? (i := 8) rfl) dX8_checksum_62 ?_
    refine q_icmp_ge (pc := 65) (tgt := 90) C dX8_checksum_65 (by decide) (fun c2 => ?_) (fun c2 => ?_)
    · have hf := q_iteT hf c2
      refine q_ldc2 (pc := 90) (v := (31 : Int64)) C (List.mem_of_getElem? (i := 3) rfl) dX8_checksum_90 ?_
      refine q_lload_n (pc := 93) C dX8_checksum_93 rfl 1 rfl ?_
      refine q_lmul (pc := 94) C dX8_checksum_94 ?_
      refine q_aload_n (pc := 95) C dX8_checksum_95 rfl 0 rfl ?_
      refine r_g_0_6 (pc := 96) C n_X8_checksum_X8 (List.mem_of_getElem? (i := 6) rfl) dX8_checksum_96 ?_
      refine r_n_7_2 (pc := 99) C n_X8_checksum_X0 (host := "Queryschool") (List.mem_of_getElem? (i := 14) rfl) dX8_checksum_99 ?_
      refine q_callS (pc := 102) (As := [.long S.2]) (rest := [.long ((31 : Int64) * v1)]) C (c_J13_bitCount_95d88 l D cc N0 (cw cc g S ++ E) S.2 _ rfl) gX8_checksum_J13_bitCount_95d88 rfl z_J13_bitCount_95d88 ⟨Nat.le_of_ble_eq_true rfl, Nat.le_of_ble_eq_true rfl⟩ rfl rfl (Nat.le_of_ble_eq_true rfl) dX8_checksum_102 ⟨Nat.le_of_ble_eq_true rfl, Nat.le_of_ble_eq_true rfl⟩ ?_
      refine q_after (rv := (some (.int (f_J13_bitCount_95d88 S.2)))) (w0 := (cw cc g S ++ E)) (st2 := [.int (f_J13_bitCount_95d88 S.2), .long ((31 : Int64) * v1)]) rfl rfl rfl ?_
      refine q_i2l (pc := 105) C dX8_checksum_105 rfl ?_
      refine q_ladd (pc := 106) C dX8_checksum_106 ?_
      refine q_lstore_n (pc := 107) (lvq := [(1, .long (((31 : Int64) * v1) + (f_J13_bitCount_95d88 S.2).toInt64)), (0, .ref (g 0)), (3, .int v3)]) C dX8_checksum_107 rfl (by decide) rfl ?_
      refine q_ldc2 (pc := 108) (v := (31 : Int64)) C (List.mem_of_getElem? (i := 3) rfl) dX8_checksum_108 ?_
      refine q_lload_n (pc := 111) C dX8_checksum_111 rfl 0 rfl ?_
      refine q_lmul (pc := 112) C dX8_checksum_112 ?_
      refine q_aload_n (pc := 113) C dX8_checksum_113 rfl 1 rfl ?_
      refine r_g_0_7 (pc := 114) C n_X8_checksum_X8 (List.mem_of_getElem? (i := 7) rfl) dX8_checksum_114 ?_
      obtain ⟨u3, e4, hf⟩ := q_bind hf
      refine q_callV (pc := 117) (As := []) (rest := [.long ((31 : Int64) * (((31 : Int64) * v1) + (f_J13_bitCount_95d88 S.2).toInt64))]) C (c_X4_allWays l D cc N0 g E S u3 e4) gX8_checksum_X4_allWays rfl rfl z_X4_allWays ⟨Nat.le_of_ble_eq_true rfl, Nat.le_of_ble_eq_true rfl⟩ (cw_at_8 cc g E _) rfl rfl rfl (Nat.le_of_ble_eq_true rfl) dX8_checksum_117 ⟨Nat.le_of_ble_eq_true rfl, Nat.le_of_ble_eq_true rfl⟩ ?_
      refine q_after (rv := (some (.int u3.1))) (w0 := (cw cc g u3.2 ++ E)) (st2 := [.int u3.1, .long ((31 : Int64) * (((31 : Int64) * v1) + (f_J13_bitCount_95d88 S.2).toInt64))]) rfl rfl rfl ?_
      refine q_i2l (pc := 120) C dX8_checksum_120 rfl ?_
      refine q_ladd (pc := 121) C dX8_checksum_121 ?_
      obtain rfl := q_some hf
      exact q_lret (pc := 122) C dX8_checksum_122 ⟨rfl, rfl⟩
    · have hf := q_iteF hf c2
      refine q_ldc2 (pc := 68) (v := (31 : Int64)) C (List.mem_of_getElem? (i := 3) rfl) dX8_checksum_68 ?_
      refine q_lload_n (pc := 71) C dX8_checksum_71 rfl 1 rfl ?_
      refine q_lmul (pc := 72) C dX8_checksum_72 ?_
      refine q_aload_n (pc := 73) C dX8_checksum_73 rfl 0 rfl ?_
      refine r_g_0_3 (pc := 74) C n_X8_checksum_X8 (List.mem_of_getElem? (i := 5) rfl) dX8_checksum_74 ?_
      refine q_iload_n (pc := 77) C dX8_checksum_77 rfl 2 rfl ?_
      refine q_callV (pc := 78) (As := [.int v3]) (rest := [.long ((31 : Int64) * v1)]) C (c_X2_weightOf l D cc N0 g E S v3 _ rfl) gX8_checksum_X2_weightOf rfl rfl z_X2_weightOf ⟨Nat.le_of_ble_eq_true rfl, Nat.le_of_ble_eq_true rfl⟩ (cw_at_4 cc g E _) rfl rfl rfl (Nat.le_of_ble_eq_true rfl) dX8_checksum_78 ⟨Nat.le_of_ble_eq_true rfl, Nat.le_of_ble_eq_true rfl⟩ ?_
      refine q_after (rv := (some (.int (f_X2_weightOf S v3)))) (w0 := (cw cc g S ++ E)) (st2 := [.int (f_X2_weightOf S v3), .long ((31 : Int64) * v1)]) rfl rfl rfl ?_
      refine q_i2l (pc := 81) C dX8_checksum_81 rfl ?_
      refine q_ladd (pc := 82) C dX8_checksum_82 ?_
      refine q_lstore_n (pc := 83) (lvq := [(1, .long (((31 : Int64) * v1) + (f_X2_weightOf S v3).toInt64)), (0, .ref (g 0)), (3, .int v3)]) C dX8_checksum_83 rfl (by decide) rfl ?_
      refine q_iinc (pc := 84) (lvq := [(3, .int (v3 + (1 : Int32))), (1, .long (((31 : Int64) * v1) + (f_X2_weightOf S v3).toInt64)), (0, .ref (g 0))]) C (v3 + (1 : Int32)) dX8_checksum_84 2 rfl q_ca_1 (by decide) rfl ?_
      refine q_goto (pc := 87) (tgt := 57) C dX8_checksum_87 (by decide) ?_
      refine q_sub (lvq := [(0, .ref (g 0)), (1, .long (((31 : Int64) * v1) + (f_X2_weightOf S v3).toInt64)), (3, .int (v3 + (1 : Int32)))]) [2, 1, 0] rfl ?_
      exact hk57 (((31 : Int64) * v1) + (f_X2_weightOf S v3).toInt64) (v3 + (1 : Int32)) S hf
set_option maxRecDepth 100000 in
set_option maxHeartbeats 4000000 in
theorem w_X8_checksum_6 {p : Program} {l : Launch} {e : Env} {s : State} {m : MethodId} {args : Array Value} {below : List Frame} {meth : Method} {c : Code} {D : va_G} {cc : Nat → ClassId} {N0 : Nat} {g : Nat → Nat} {E : va_W} {v : (Int64 × CS)} (C : q_C p s m args meth c cX8_checksum 4 (some .long) wsX8_checksum RX8 D cc N0)  : ∀ (n : Nat) (v1 : Int64) (v3 : Int32) (S : CS), f_X8_checksum_6  n v1 v3 S = some v → q_WA p l e (q_rm 3 66 0 0) s m args below meth c D N0 4 (MQ below (q_Q D N0 (q_p (some (.long v.1)) (cw cc g v.2 ++ E))) args s 0 0 (q_A N0)) 0 0 (cw cc g S ++ E) 6 [(0, .ref (g 0)), (1, .long v1), (3, .int v3)] [] := by
  intro n
  induction n with
  | zero => intro v1 v3 S hf; cases hf
  | succ n ih =>
    intro v1 v3 S hf
    have hk6 : ∀ (v1 : Int64) (v3 : Int32) (S : CS), f_X8_checksum_6  n v1 v3 S = some v → q_WA p l e (q_rm 3 66 0 0) s m args below meth c D N0 4 (MQ below (q_Q D N0 (q_p (some (.long v.1)) (cw cc g v.2 ++ E))) args s 0 0 (q_A N0)) 0 0 (cw cc g S ++ E) 6 [(0, .ref (g 0)), (1, .long v1), (3, .int v3)] [] := ih
    have hf : f_X8_checksum_6b  (f_X8_checksum_6  n) v1 v3 S = some v := hf
    refine q_iload_n (pc := 6) C dX8_checksum_6 rfl 2 rfl ?_
    refine q_aload_n (pc := 7) C dX8_checksum_7 rfl 0 rfl ?_
    refine r_g_0_1 (pc := 8) C n_X8_checksum_X8 (List.mem_of_getElem? (i := 2) rfl) dX8_checksum_8 ?_
    refine r_n_2_3 (pc := 11) C n_X8_checksum_X1 (host := "Queryschool") (List.mem_of_getElem? (i := 3) rfl) dX8_checksum_11 ?_
    refine q_icmp_ge (pc := 14) (tgt := 55) C dX8_checksum_14 (by decide) (fun c1 => ?_) (fun c1 => ?_)
    · have hf := q_iteT hf c1
      refine q_iconst (pc := 55) C (0 : Int32) dX8_checksum_55 q_ci_0 ?_
      refine q_istore_n (pc := 56) (lvq := [(3, .int (0 : Int32)), (0, .ref (g 0)), (1, .long v1)]) C dX8_checksum_56 rfl (by decide) rfl ?_
      refine q_sub (lvq := [(0, .ref (g 0)), (1, .long v1), (3, .int (0 : Int32))]) [1, 2, 0] rfl ?_
      exact w_X8_checksum_57 C 1000 v1 (0 : Int32) S hf
    · have hf := q_iteF hf c1
      refine q_ldc2 (pc := 17) (v := (31 : Int64)) C (List.mem_of_getElem? (i := 3) rfl) dX8_checksum_17 ?_
      refine q_lload_n (pc := 20) C dX8_checksum_20 rfl 1 rfl ?_
      refine q_lmul (pc := 21) C dX8_checksum_21 ?_
      refine q_aload_n (pc := 22) C dX8_checksum_22 rfl 0 rfl ?_
      refine r_g_0_1 (pc := 23) C n_X8_checksum_X8 (List.mem_of_getElem? (i := 2) rfl) dX8_checksum_23 ?_
      refine q_iload_n (pc := 26) C dX8_checksum_26 rfl 2 rfl ?_
      refine q_callV (pc := 27) (As := [.int v3]) (rest := [.long ((31 : Int64) * v1)]) C (c_X1_setAt l D cc N0 g E S v3 _ rfl) gX8_checksum_X1_setAt rfl rfl z_X1_setAt ⟨Nat.le_of_ble_eq_true rfl, Nat.le_of_ble_eq_true rfl⟩ (cw_at_2 cc g E _) rfl rfl rfl (Nat.le_of_ble_eq_true rfl) dX8_checksum_27 ⟨Nat.le_of_ble_eq_true rfl, Nat.le_of_ble_eq_true rfl⟩ ?_
      refine q_after (rv := (some (.int (f_X1_setAt S v3)))) (w0 := (cw cc g S ++ E)) (st2 := [.int (f_X1_setAt S v3), .long ((31 : Int64) * v1)]) rfl rfl rfl ?_
      refine q_i2l (pc := 30) C dX8_checksum_30 rfl ?_
      refine q_ladd (pc := 31) C dX8_checksum_31 ?_
      refine q_lstore_n (pc := 32) (lvq := [(1, .long (((31 : Int64) * v1) + (f_X1_setAt S v3).toInt64)), (0, .ref (g 0)), (3, .int v3)]) C dX8_checksum_32 rfl (by decide) rfl ?_
      refine q_ldc2 (pc := 33) (v := (31 : Int64)) C (List.mem_of_getElem? (i := 3) rfl) dX8_checksum_33 ?_
      refine q_lload_n (pc := 36) C dX8_checksum_36 rfl 0 rfl ?_
      refine q_lmul (pc := 37) C dX8_checksum_37 ?_
      refine q_aload_n (pc := 38) C dX8_checksum_38 rfl 1 rfl ?_
      refine r_g_0_0 (pc := 39) C n_X8_checksum_X8 (List.mem_of_getElem? (i := 4) rfl) dX8_checksum_39 ?_
      refine q_iload_n (pc := 42) C dX8_checksum_42 rfl 2 rfl ?_
      refine q_callV (pc := 43) (As := [.int v3]) (rest := [.long ((31 : Int64) * (((31 : Int64) * v1) + (f_X1_setAt S v3).toInt64))]) C (c_X5_conflictsOf l D cc N0 g E S v3 _ rfl) gX8_checksum_X5_conflictsOf rfl rfl z_X5_conflictsOf ⟨Nat.le_of_ble_eq_true rfl, Nat.le_of_ble_eq_true rfl⟩ (cw_at_1 cc g E _) rfl rfl rfl (Nat.le_of_ble_eq_true rfl) dX8_checksum_43 ⟨Nat.le_of_ble_eq_true rfl, Nat.le_of_ble_eq_true rfl⟩ ?_
      refine q_after (rv := (some (.int (f_X5_conflictsOf S v3)))) (w0 := (cw cc g S ++ E)) (st2 := [.int (f_X5_conflictsOf S v3), .long ((31 : Int64) * (((31 : Int64) * v1) + (f_X1_setAt S v3).toInt64))]) rfl rfl rfl ?_
      refine q_i2l (pc := 46) C dX8_checksum_46 rfl ?_
      refine q_ladd (pc := 47) C dX8_checksum_47 ?_
      refine q_lstore_n (pc := 48) (lvq := [(1, .long (((31 : Int64) * (((31 : Int64) * v1) + (f_X1_setAt S v3).toInt64)) + (f_X5_conflictsOf S v3).toInt64)), (0, .ref (g 0)), (3, .int v3)]) C dX8_checksum_48 rfl (by decide) rfl ?_
      refine q_iinc (pc := 49) (lvq := [(3, .int (v3 + (1 : Int32))), (1, .long (((31 : Int64) * (((31 : Int64) * v1) + (f_X1_setAt S v3).toInt64)) + (f_X5_conflictsOf S v3).toInt64)), (0, .ref (g 0))]) C (v3 + (1 : Int32)) dX8_checksum_49 2 rfl q_ca_1 (by decide) rfl ?_
      refine q_goto (pc := 52) (tgt := 6) C dX8_checksum_52 (by decide) ?_
      refine q_sub (lvq := [(0, .ref (g 0)), (1, .long (((31 : Int64) * (((31 : Int64) * v1) + (f_X1_setAt S v3).toInt64)) + (f_X5_conflictsOf S v3).toInt64)), (3, .int (v3 + (1 : Int32)))]) [2, 1, 0] rfl ?_
      exact hk6 (((31 : Int64) * (((31 : Int64) * v1) + (f_X1_setAt S v3).toInt64)) + (f_X5_conflictsOf S v3).toInt64) (v3 + (1 : Int32)) S hf
set_option maxRecDepth 100000 in
set_option maxHeartbeats 4000000 in
theorem c_X8_checksum (l : Launch) (D : va_G) (cc : Nat → ClassId) (N0 : Nat) (g : Nat → Nat) (E : va_W) (S : CS) (v : (Int64 × CS)) (hf : f_X8_checksum S = some v) : q_Met l yX8_checksum wsX8_checksum 3 66 D cc N0 (cw cc g S ++ E) [.ref (g 0)] (q_p (some (.long v.1)) (cw cc g v.2 ++ E)) 0 0 := by
  refine q_ofW (code := cX8_checksum) (nL := 4) (ret := (some .long)) (by decide +kernel) rfl (Nat.le_of_ble_eq_true rfl) (fun p e s m below meth c C _ => ?_)
  refine q_lv (lv2 := [(0, .ref (g 0))]) rfl ?_
  refine q_ldc2 (pc := 0) (v := (7 : Int64)) C (List.mem_of_getElem? (i := 1) rfl) dX8_checksum_0 ?_
  refine q_lstore_n (pc := 3) (lvq := [(1, .long (7 : Int64)), (0, .ref (g 0))]) C dX8_checksum_3 rfl (by decide) rfl ?_
  refine q_iconst (pc := 4) C (0 : Int32) dX8_checksum_4 q_ci_0 ?_
  refine q_istore_n (pc := 5) (lvq := [(3, .int (0 : Int32)), (1, .long (7 : Int64)), (0, .ref (g 0))]) C dX8_checksum_5 rfl (by decide) rfl ?_
  refine q_sub (lvq := [(0, .ref (g 0)), (1, .long (7 : Int64)), (3, .int (0 : Int32))]) [2, 1, 0] rfl ?_
  exact w_X8_checksum_6 C 1000 (7 : Int64) (0 : Int32) S hf
theorem z_X8_checksum : q_dsc yX8_checksum 0 := ⟨by decide +kernel, by decide +kernel, by decide +kernel⟩
theorem n_X8_aliveShare_X1 : ∀ w ∈ wsX10, w ∈ wsX8_aliveShare := fun _ h => (List.mem_cons_of_mem _ (List.mem_append_left _ (List.mem_append_left _ (List.mem_append_right _ h))))
theorem n_X8_aliveShare_X8 : ∀ w ∈ wsX80, w ∈ wsX8_aliveShare := fun _ h => (List.mem_cons_of_mem _ (List.mem_append_left _ (List.mem_append_left _ (List.mem_append_left _ (List.mem_append_right _ h)))))
def f_X8_aliveShare (S : CS) : Option (Nat × UInt32) := (if (S.1 2 3) = 0 then some (5, 0) else ((f_X5_living S).bind fun u2 => (if q_n32 (FP.fdiv (FP.i2f (f_J6_bitCount_0f7a4 u2)) (FP.i2f (S.1 2 3))) then some (0, (FP.fdiv (FP.i2f (f_J6_bitCount_0f7a4 u2)) (FP.i2f (S.1 2 3)))) else none)))
set_option maxRecDepth 100000 in
set_option maxHeartbeats 4000000 in
theorem c_X8_aliveShare (l : Launch) (hfl : l.stackTraces = false) (D : va_G) (cc : Nat → ClassId) (N0 : Nat) (g : Nat → Nat) (E : va_W) (S : CS) (v : (Nat × UInt32)) (hf : f_X8_aliveShare S = some v) : q_MetX l yX8_aliveShare wsX8_aliveShare 6 140 D cc N0 (cw cc g S ++ E) [.ref (g 0)] (q_px v.1 (some (.float v.2)) (cw cc g S ++ E)) (q_xp v.1 (cw cc g S ++ E)) 1 6 := by
  refine q_ofWX (code := cX8_aliveShare) (nL := 1) (ret := (some .float)) (by decide +kernel) rfl (Nat.le_of_ble_eq_true rfl) (fun p e s m below meth c C CX hex => ?_)
  refine q_lv (lv2 := [(0, .ref (g 0))]) rfl ?_
  refine q_aload_n (pc := 0) C dX8_aliveShare_0 rfl 0 rfl ?_
  refine r_g_0_1 (pc := 1) C n_X8_aliveShare_X8 (List.mem_of_getElem? (i := 3) rfl) dX8_aliveShare_1 ?_
  refine r_n_2_3 (pc := 4) C n_X8_aliveShare_X1 (host := "Queryschool") (List.mem_of_getElem? (i := 3) rfl) dX8_aliveShare_4 ?_
  refine q_if_ne (pc := 7) (tgt := 20) C dX8_aliveShare_7 (by decide) (fun c1 => ?_) (fun c1 => ?_)
  · have hf := q_iteF hf c1
    refine q_aload_n (pc := 20) C dX8_aliveShare_20 rfl 0 rfl ?_
    refine r_g_0_0 (pc := 21) C n_X8_aliveShare_X8 (List.mem_of_getElem? (i := 4) rfl) dX8_aliveShare_21 ?_
    obtain ⟨u2, e3, hf⟩ := q_bind hf
    refine q_callV (pc := 24) (As := []) (rest := []) C (c_X5_living l D cc N0 g E S u2 e3) gX8_aliveShare_X5_living rfl rfl z_X5_living ⟨Nat.le_of_ble_eq_true rfl, Nat.le_of_ble_eq_true rfl⟩ (cw_at_1 cc g E _) rfl rfl rfl (Nat.le_of_ble_eq_true rfl) dX8_aliveShare_24 ⟨Nat.le_of_ble_eq_true rfl, Nat.le_of_ble_eq_true rfl⟩ ?_
    refine q_after (rv := (some (.int u2))) (w0 := (cw cc g S ++ E)) (st2 := [.int u2]) rfl rfl rfl ?_
    refine q_callS (pc := 27) (As := [.int u2]) (rest := []) C (c_J6_bitCount_0f7a4 l D cc N0 (cw cc g S ++ E) u2 _ rfl) gX8_aliveShare_J6_bitCount_0f7a4 rfl z_J6_bitCount_0f7a4 ⟨Nat.le_of_ble_eq_true rfl, Nat.le_of_ble_eq_true rfl⟩ rfl rfl (Nat.le_of_ble_eq_true rfl) dX8_aliveShare_27 ⟨Nat.le_of_ble_eq_true rfl, Nat.le_of_ble_eq_true rfl⟩ ?_
    refine q_after (rv := (some (.int (f_J6_bitCount_0f7a4 u2)))) (w0 := (cw cc g S ++ E)) (st2 := [.int (f_J6_bitCount_0f7a4 u2)]) rfl rfl rfl ?_
    refine q_i2f (pc := 30) C dX8_aliveShare_30 ?_
    refine q_aload_n (pc := 31) C dX8_aliveShare_31 rfl 0 rfl ?_
    refine r_g_0_1 (pc := 32) C n_X8_aliveShare_X8 (List.mem_of_getElem? (i := 3) rfl) dX8_aliveShare_32 ?_
    refine r_n_2_3 (pc := 35) C n_X8_aliveShare_X1 (host := "Queryschool") (List.mem_of_getElem? (i := 3) rfl) dX8_aliveShare_35 ?_
    refine q_i2f (pc := 38) C dX8_aliveShare_38 ?_
    obtain ⟨g4, hf⟩ := q_gd hf
    refine q_fdiv (pc := 39) C dX8_aliveShare_39 g4 ?_
    obtain rfl := q_some hf
    exact q_wid (Nat.zero_le _) (Nat.zero_le _) (q_retx (q_fret (pc := 40) C dX8_aliveShare_40 ⟨rfl, rfl, rfl⟩))
  · have hf := q_iteT hf c1
    obtain rfl := q_some hf
    exact q_throwN (pc := 10) (text := "there are no concepts") C CX hfl hex (List.mem_of_getElem? (i := 1) rfl) (List.mem_of_getElem? (i := 2) rfl) (List.mem_of_getElem? (i := 10) rfl) (fun w h => (List.mem_cons_of_mem _ (List.mem_append_right _ h))) dX8_aliveShare_10 dX8_aliveShare_13 dX8_aliveShare_14 dX8_aliveShare_16 dX8_aliveShare_19 (Nat.le_of_ble_eq_true rfl) (Nat.le_of_ble_eq_true rfl) (Nat.le_of_ble_eq_true rfl) (Nat.le_of_ble_eq_true rfl) (Nat.le_of_ble_eq_true rfl) (Nat.le_of_ble_eq_true rfl) ⟨rfl, Nat.le_of_ble_eq_true rfl, rfl⟩
theorem z_X8_aliveShare : q_dsc yX8_aliveShare 0 := ⟨by decide +kernel, by decide +kernel, by decide +kernel⟩
theorem n_X8_meanLesson_X1 : ∀ w ∈ wsX10, w ∈ wsX8_meanLesson := fun _ h => (List.mem_cons_of_mem _ (List.mem_append_left _ (List.mem_append_right _ h)))
theorem n_X8_meanLesson_X8 : ∀ w ∈ wsX80, w ∈ wsX8_meanLesson := fun _ h => (List.mem_cons_of_mem _ (List.mem_append_left _ (List.mem_append_left _ (List.mem_append_right _ h))))
def f_X8_meanLesson (S : CS) : Option (Nat × UInt64) := (if (S.1 2 3) = 0 then some (5, 0) else ((f_X1_lessonSum S).bind fun u2 => (if q_n64 (FP.ddiv (FP.i2d u2) (FP.i2d (S.1 2 3))) then some (0, (FP.ddiv (FP.i2d u2) (FP.i2d (S.1 2 3)))) else none)))
set_option maxRecDepth 100000 in
set_option maxHeartbeats 4000000 in
theorem c_X8_meanLesson (l : Launch) (hfl : l.stackTraces = false) (D : va_G) (cc : Nat → ClassId) (N0 : Nat) (g : Nat → Nat) (E : va_W) (S : CS) (v : (Nat × UInt64)) (hf : f_X8_meanLesson S = some v) : q_MetX l yX8_meanLesson wsX8_meanLesson 6 140 D cc N0 (cw cc g S ++ E) [.ref (g 0)] (q_px v.1 (some (.double v.2)) (cw cc g S ++ E)) (q_xp v.1 (cw cc g S ++ E)) 1 6 := by
  refine q_ofWX (code := cX8_meanLesson) (nL := 1) (ret := (some .double)) (by decide +kernel) rfl (Nat.le_of_ble_eq_true rfl) (fun p e s m below meth c C CX hex => ?_)
  refine q_lv (lv2 := [(0, .ref (g 0))]) rfl ?_
  refine q_aload_n (pc := 0) C dX8_meanLesson_0 rfl 0 rfl ?_
  refine r_g_0_1 (pc := 1) C n_X8_meanLesson_X8 (List.mem_of_getElem? (i := 3) rfl) dX8_meanLesson_1 ?_
  refine r_n_2_3 (pc := 4) C n_X8_meanLesson_X1 (host := "Queryschool") (List.mem_of_getElem? (i := 3) rfl) dX8_meanLesson_4 ?_
  refine q_if_ne (pc := 7) (tgt := 20) C dX8_meanLesson_7 (by decide) (fun c1 => ?_) (fun c1 => ?_)
  · have hf := q_iteF hf c1
    refine q_aload_n (pc := 20) C dX8_meanLesson_20 rfl 0 rfl ?_
    refine r_g_0_1 (pc := 21) C n_X8_meanLesson_X8 (List.mem_of_getElem? (i := 3) rfl) dX8_meanLesson_21 ?_
    obtain ⟨u2, e3, hf⟩ := q_bind hf
    refine q_callV (pc := 24) (As := []) (rest := []) C (c_X1_lessonSum l D cc N0 g E S u2 e3) gX8_meanLesson_X1_lessonSum rfl rfl z_X1_lessonSum ⟨Nat.le_of_ble_eq_true rfl, Nat.le_of_ble_eq_true rfl⟩ (cw_at_2 cc g E _) rfl rfl rfl (Nat.le_of_ble_eq_true rfl) dX8_meanLesson_24 ⟨Nat.le_of_ble_eq_true rfl, Nat.le_of_ble_eq_true rfl⟩ ?_
    refine q_after (rv := (some (.int u2))) (w0 := (cw cc g S ++ E)) (st2 := [.int u2]) rfl rfl rfl ?_
    refine q_i2d (pc := 27) C dX8_meanLesson_27 ?_
    refine q_aload_n (pc := 28) C dX8_meanLesson_28 rfl 0 rfl ?_
    refine r_g_0_1 (pc := 29) C n_X8_meanLesson_X8 (List.mem_of_getElem? (i := 3) rfl) dX8_meanLesson_29 ?_
    refine r_n_2_3 (pc := 32) C n_X8_meanLesson_X1 (host := "Queryschool") (List.mem_of_getElem? (i := 3) rfl) dX8_meanLesson_32 ?_
    refine q_i2d (pc := 35) C dX8_meanLesson_35 ?_
    obtain ⟨g4, hf⟩ := q_gd hf
    refine q_ddiv (pc := 36) C dX8_meanLesson_36 g4 ?_
    obtain rfl := q_some hf
    exact q_wid (Nat.zero_le _) (Nat.zero_le _) (q_retx (q_dret (pc := 37) C dX8_meanLesson_37 ⟨rfl, rfl, rfl⟩))
  · have hf := q_iteT hf c1
    obtain rfl := q_some hf
    exact q_throwN (pc := 10) (text := "there are no concepts") C CX hfl hex (List.mem_of_getElem? (i := 1) rfl) (List.mem_of_getElem? (i := 2) rfl) (List.mem_of_getElem? (i := 10) rfl) (fun w h => (List.mem_cons_of_mem _ (List.mem_append_right _ h))) dX8_meanLesson_10 dX8_meanLesson_13 dX8_meanLesson_14 dX8_meanLesson_16 dX8_meanLesson_19 (Nat.le_of_ble_eq_true rfl) (Nat.le_of_ble_eq_true rfl) (Nat.le_of_ble_eq_true rfl) (Nat.le_of_ble_eq_true rfl) (Nat.le_of_ble_eq_true rfl) (Nat.le_of_ble_eq_true rfl) ⟨rfl, Nat.le_of_ble_eq_true rfl, rfl⟩
theorem z_X8_meanLesson : q_dsc yX8_meanLesson 0 := ⟨by decide +kernel, by decide +kernel, by decide +kernel⟩
theorem n_X8_isSound_X0 : ∀ w ∈ wsX00, w ∈ wsX8_isSound := fun _ h => (List.mem_cons_of_mem _ (List.mem_append_left _ (List.mem_append_left _ (List.mem_append_left _ (List.mem_append_right _ h)))))
theorem n_X8_isSound_X8 : ∀ w ∈ wsX80, w ∈ wsX8_isSound := fun _ h => (List.mem_cons_of_mem _ (List.mem_append_left _ (List.mem_append_left _ (List.mem_append_left _ (List.mem_append_left _ (List.mem_append_right _ h))))))
def f_X8_isSound (S : CS) : Option (Bool × CS) := ((f_X6_areOrdered S).bind fun u1 => (if (q_b u1.1) = 0 then some (false, u1.2) else (if (q_b (f_X5_isHonoured u1.2)) = 0 then some (false, u1.2) else (if (q_b (f_X0_isLeft u1.2 (u1.2.1 7 0))) = 0 then some (false, u1.2) else some (true, u1.2)))))
set_option maxRecDepth 100000 in
set_option maxHeartbeats 4000000 in
theorem c_X8_isSound (l : Launch) (D : va_G) (cc : Nat → ClassId) (N0 : Nat) (g : Nat → Nat) (E : va_W) (S : CS) (v : (Bool × CS)) (hf : f_X8_isSound S = some v) : q_Met l yX8_isSound wsX8_isSound 6 139 D cc N0 (cw cc g S ++ E) [.ref (g 0)] (q_p (some (.int (q_b v.1))) (cw cc g v.2 ++ E)) 0 0 := by
  refine q_ofW (code := cX8_isSound) (nL := 1) (ret := (some .boolean)) (by decide +kernel) rfl (Nat.le_of_ble_eq_true rfl) (fun p e s m below meth c C _ => ?_)
  refine q_lv (lv2 := [(0, .ref (g 0))]) rfl ?_
  refine q_aload_n (pc := 0) C dX8_isSound_0 rfl 0 rfl ?_
  refine r_g_0_2 (pc := 1) C n_X8_isSound_X8 (List.mem_of_getElem? (i := 1) rfl) dX8_isSound_1 ?_
  refine q_aload_n (pc := 4) C dX8_isSound_4 rfl 0 rfl ?_
  refine r_g_0_1 (pc := 5) C n_X8_isSound_X8 (List.mem_of_getElem? (i := 2) rfl) dX8_isSound_5 ?_
  obtain ⟨u1, e2, hf⟩ := q_bind hf
  refine q_callV (pc := 8) (As := [.ref (g 2)]) (rest := []) C (c_X6_areOrdered l D cc N0 g E S u1 e2) gX8_isSound_X6_areOrdered rfl rfl z_X6_areOrdered ⟨Nat.le_of_ble_eq_true rfl, Nat.le_of_ble_eq_true rfl⟩ (cw_at_3 cc g E _) rfl rfl rfl (Nat.le_of_ble_eq_true rfl) dX8_isSound_8 ⟨Nat.le_of_ble_eq_true rfl, Nat.le_of_ble_eq_true rfl⟩ ?_
  refine q_after (rv := (some (.int (q_b u1.1)))) (w0 := (cw cc g u1.2 ++ E)) (st2 := [.int (q_b u1.1)]) rfl rfl rfl ?_
  refine q_if_eq (pc := 11) (tgt := 45) C dX8_isSound_11 (by decide) (fun c3 => ?_) (fun c3 => ?_)
  · have hf := q_iteT hf c3
    refine q_iconst (pc := 45) C (0 : Int32) dX8_isSound_45 q_ci_0 ?_
    obtain rfl := q_some hf
    exact q_zret (pc := 46) C (by decide +kernel) dX8_isSound_46 ⟨rfl, rfl⟩
  · have hf := q_iteF hf c3
    refine q_aload_n (pc := 14) C dX8_isSound_14 rfl 0 rfl ?_
    refine r_g_0_0 (pc := 15) C n_X8_isSound_X8 (List.mem_of_getElem? (i := 3) rfl) dX8_isSound_15 ?_
    refine q_callV (pc := 18) (As := []) (rest := []) C (c_X5_isHonoured l D cc N0 g E u1.2 _ rfl) gX8_isSound_X5_isHonoured rfl rfl z_X5_isHonoured ⟨Nat.le_of_ble_eq_true rfl, Nat.le_of_ble_eq_true rfl⟩ (cw_at_1 cc g E _) rfl rfl rfl (Nat.le_of_ble_eq_true rfl) dX8_isSound_18 ⟨Nat.le_of_ble_eq_true rfl, Nat.le_of_ble_eq_true rfl⟩ ?_
    refine q_after (rv := (some (.int (q_b (f_X5_isHonoured u1.2))))) (w0 := (cw cc g u1.2 ++ E)) (st2 := [.int (q_b (f_X5_isHonoured u1.2))]) rfl rfl rfl ?_
    refine q_if_eq (pc := 21) (tgt := 45) C dX8_isSound_21 (by decide) (fun c4 => ?_) (fun c4 => ?_)
    · have hf := q_iteT hf c4
      refine q_iconst (pc := 45) C (0 : Int32) dX8_isSound_45 q_ci_0 ?_
      obtain rfl := q_some hf
      exact q_zret (pc := 46) C (by decide +kernel) dX8_isSound_46 ⟨rfl, rfl⟩
    · have hf := q_iteF hf c4
      refine q_aload_n (pc := 24) C dX8_isSound_24 rfl 0 rfl ?_
      refine r_g_0_6 (pc := 25) C n_X8_isSound_X8 (List.mem_of_getElem? (i := 4) rfl) dX8_isSound_25 ?_
      refine q_aload_n (pc := 28) C dX8_isSound_28 rfl 0 rfl ?_
      refine r_g_0_6 (pc := 29) C n_X8_isSound_X8 (List.mem_of_getElem? (i := 4) rfl) dX8_isSound_29 ?_
      refine r_n_7_0 (pc := 32) C n_X8_isSound_X0 (host := "Queryschool") (List.mem_of_getElem? (i := 12) rfl) dX8_isSound_32 ?_
      refine q_callV (pc := 35) (As := [.int (u1.2.1 7 0)]) (rest := []) C (c_X0_isLeft l D cc N0 g E u1.2 (u1.2.1 7 0) _ rfl) gX8_isSound_X0_isLeft rfl rfl z_X0_isLeft ⟨Nat.le_of_ble_eq_true rfl, Nat.le_of_ble_eq_true rfl⟩ (cw_at_7 cc g E _) rfl rfl rfl (Nat.le_of_ble_eq_true rfl) dX8_isSound_35 ⟨Nat.le_of_ble_eq_true rfl, Nat.le_of_ble_eq_true rfl⟩ ?_
      refine q_after (rv := (some (.int (q_b (f_X0_isLeft u1.2 (u1.2.1 7 0)))))) (w0 := (cw cc g u1.2 ++ E)) (st2 := [.int (q_b (f_X0_isLeft u1.2 (u1.2.1 7 0)))]) rfl rfl rfl ?_
      refine q_if_eq (pc := 38) (tgt := 45) C dX8_isSound_38 (by decide) (fun c5 => ?_) (fun c5 => ?_)
      · have hf := q_iteT hf c5
        refine q_iconst (pc := 45) C (0 : Int32) dX8_isSound_45 q_ci_0 ?_
        obtain rfl := q_some hf
        exact q_zret (pc := 46) C (by decide +kernel) dX8_isSound_46 ⟨rfl, rfl⟩
      · have hf := q_iteF hf c5
        refine q_iconst (pc := 41) C (1 : Int32) dX8_isSound_41 q_ci_1 ?_
        refine q_goto (pc := 42) (tgt := 46) C dX8_isSound_42 (by decide) ?_
        obtain rfl := q_some hf
        exact q_zret (pc := 46) C (by decide +kernel) dX8_isSound_46 ⟨rfl, rfl⟩
theorem z_X8_isSound : q_dsc yX8_isSound 0 := ⟨by decide +kernel, by decide +kernel, by decide +kernel⟩
