def f_X0_isCode (a1 : Int32) : Bool := (if a1 < 0 then false else (if (333 : Int32) < a1 then false else (if (4 : Int32) ≤ ((a1 / (10 : Int32)) - (a1 / (10 : Int32)) / (10 : Int32) * (10 : Int32)) then false else (if (4 : Int32) ≤ (a1 - a1 / (10 : Int32) * (10 : Int32)) then false else true))))
set_option maxRecDepth 100000 in
set_option maxHeartbeats 4000000 in
theorem c_X0_isCode (l : Launch) (D : va_G) (cc : Nat → ClassId) (N0 : Nat) (ws : va_W) (a1 : Int32) (v : Bool) (hf : f_X0_isCode a1 = v) : q_Met l yX0_isCode wsX0_isCode 0 0 D cc N0 ws [.int a1] (q_p (some (.int (q_b v))) ws) 0 0 := by
  refine q_ofW (code := cX0_isCode) (nL := 1) (ret := (some .boolean)) (by decide +kernel) rfl (Nat.le_of_ble_eq_true rfl) (fun p e s m below meth c C _ => ?_)
  refine q_lv (lv2 := [(0, .int a1)]) rfl ?_
  refine q_iload_n (pc := 0) C dX0_isCode_0 rfl 0 rfl ?_
  refine q_if_lt (pc := 1) (tgt := 34) C dX0_isCode_1 (by decide) (fun c1 => ?_) (fun c1 => ?_)
  · have hf := q_iteT hf c1
    refine q_iconst (pc := 34) C (0 : Int32) dX0_isCode_34 q_ci_0 ?_
    obtain rfl := hf
    exact q_zret (pc := 35) C (by decide +kernel) dX0_isCode_35 ⟨rfl, rfl⟩
  · have hf := q_iteF hf c1
    refine q_iload_n (pc := 4) C dX0_isCode_4 rfl 0 rfl ?_
    refine q_sipush (pc := 5) C (333 : Int32) dX0_isCode_5 q_cs_333 ?_
    refine q_icmp_gt (pc := 8) (tgt := 34) C dX0_isCode_8 (by decide) (fun c2 => ?_) (fun c2 => ?_)
    · have hf := q_iteT hf c2
      refine q_iconst (pc := 34) C (0 : Int32) dX0_isCode_34 q_ci_0 ?_
      obtain rfl := hf
      exact q_zret (pc := 35) C (by decide +kernel) dX0_isCode_35 ⟨rfl, rfl⟩
    · have hf := q_iteF hf c2
      refine q_iload_n (pc := 11) C dX0_isCode_11 rfl 0 rfl ?_
      refine q_bipush (pc := 12) C (10 : Int32) dX0_isCode_12 q_cb_10 ?_
      refine q_idiv (pc := 14) C dX0_isCode_14 (by decide +kernel) ?_
      refine q_bipush (pc := 15) C (10 : Int32) dX0_isCode_15 q_cb_10 ?_
      refine q_irem (pc := 17) C dX0_isCode_17 (by decide +kernel) ?_
      refine q_iconst (pc := 18) C (4 : Int32) dX0_isCode_18 q_ci_4 ?_
      refine q_icmp_ge (pc := 19) (tgt := 34) C dX0_isCode_19 (by decide) (fun c3 => ?_) (fun c3 => ?_)
      · have hf := q_iteT hf c3
        refine q_iconst (pc := 34) C (0 : Int32) dX0_isCode_34 q_ci_0 ?_
        obtain rfl := hf
        exact q_zret (pc := 35) C (by decide +kernel) dX0_isCode_35 ⟨rfl, rfl⟩
      · have hf := q_iteF hf c3
        refine q_iload_n (pc := 22) C dX0_isCode_22 rfl 0 rfl ?_
        refine q_bipush (pc := 23) C (10 : Int32) dX0_isCode_23 q_cb_10 ?_
        refine q_irem (pc := 25) C dX0_isCode_25 (by decide +kernel) ?_
        refine q_iconst (pc := 26) C (4 : Int32) dX0_isCode_26 q_ci_4 ?_
        refine q_icmp_ge (pc := 27) (tgt := 34) C dX0_isCode_27 (by decide) (fun c4 => ?_) (fun c4 => ?_)
        · have hf := q_iteT hf c4
          refine q_iconst (pc := 34) C (0 : Int32) dX0_isCode_34 q_ci_0 ?_
          obtain rfl := hf
          exact q_zret (pc := 35) C (by decide +kernel) dX0_isCode_35 ⟨rfl, rfl⟩
        · have hf := q_iteF hf c4
          refine q_iconst (pc := 30) C (1 : Int32) dX0_isCode_30 q_ci_1 ?_
          refine q_goto (pc := 31) (tgt := 35) C dX0_isCode_31 (by decide) ?_
          obtain rfl := hf
          exact q_zret (pc := 35) C (by decide +kernel) dX0_isCode_35 ⟨rfl, rfl⟩
theorem z_X0_isCode : q_dsc yX0_isCode 1 := ⟨by decide +kernel, by decide +kernel, by decide +kernel⟩
def f_X0_packed (a1 : Int32) : Int32 := ((((a1 / (100 : Int32)) <<< ((4 : Int32) &&& 31)) ||| (((a1 / (10 : Int32)) - (a1 / (10 : Int32)) / (10 : Int32) * (10 : Int32)) <<< ((2 : Int32) &&& 31))) ||| (a1 - a1 / (10 : Int32) * (10 : Int32)))
set_option maxRecDepth 100000 in
set_option maxHeartbeats 4000000 in
theorem c_X0_packed (l : Launch) (D : va_G) (cc : Nat → ClassId) (N0 : Nat) (ws : va_W) (a1 : Int32) (v : Int32) (hf : f_X0_packed a1 = v) : q_Met l yX0_packed wsX0_packed 0 0 D cc N0 ws [.int a1] (q_p (some (.int v)) ws) 0 0 := by
  refine q_ofW (code := cX0_packed) (nL := 1) (ret := (some .int)) (by decide +kernel) rfl (Nat.le_of_ble_eq_true rfl) (fun p e s m below meth c C _ => ?_)
  refine q_lv (lv2 := [(0, .int a1)]) rfl ?_
  refine q_iload_n (pc := 0) C dX0_packed_0 rfl 0 rfl ?_
  refine q_bipush (pc := 1) C (100 : Int32) dX0_packed_1 q_cb_100 ?_
  refine q_idiv (pc := 3) C dX0_packed_3 (by decide +kernel) ?_
  refine q_iconst (pc := 4) C (4 : Int32) dX0_packed_4 q_ci_4 ?_
  refine q_ishl (pc := 5) C dX0_packed_5 ?_
  refine q_iload_n (pc := 6) C dX0_packed_6 rfl 0 rfl ?_
  refine q_bipush (pc := 7) C (10 : Int32) dX0_packed_7 q_cb_10 ?_
  refine q_idiv (pc := 9) C dX0_packed_9 (by decide +kernel) ?_
  refine q_bipush (pc := 10) C (10 : Int32) dX0_packed_10 q_cb_10 ?_
  refine q_irem (pc := 12) C dX0_packed_12 (by decide +kernel) ?_
  refine q_iconst (pc := 13) C (2 : Int32) dX0_packed_13 q_ci_2 ?_
  refine q_ishl (pc := 14) C dX0_packed_14 ?_
  refine q_ior (pc := 15) C dX0_packed_15 ?_
  refine q_iload_n (pc := 16) C dX0_packed_16 rfl 0 rfl ?_
  refine q_bipush (pc := 17) C (10 : Int32) dX0_packed_17 q_cb_10 ?_
  refine q_irem (pc := 19) C dX0_packed_19 (by decide +kernel) ?_
  refine q_ior (pc := 20) C dX0_packed_20 ?_
  obtain rfl := hf
  exact q_iret (pc := 21) C dX0_packed_21 ⟨rfl, rfl⟩
theorem z_X0_packed : q_dsc yX0_packed 1 := ⟨by decide +kernel, by decide +kernel, by decide +kernel⟩
def f_X0_digit (a1 : Int32) (a2 : Int32) : Int32 := ((a1 >>> (((2 : Int32) * a2) &&& 31)) &&& (3 : Int32))
set_option maxRecDepth 100000 in
set_option maxHeartbeats 4000000 in
theorem c_X0_digit (l : Launch) (D : va_G) (cc : Nat → ClassId) (N0 : Nat) (ws : va_W) (a1 : Int32) (a2 : Int32) (v : Int32) (hf : f_X0_digit a1 a2 = v) : q_Met l yX0_digit wsX0_digit 0 0 D cc N0 ws [.int a1, .int a2] (q_p (some (.int v)) ws) 0 0 := by
  refine q_ofW (code := cX0_digit) (nL := 2) (ret := (some .int)) (by decide +kernel) rfl (Nat.le_of_ble_eq_true rfl) (fun p e s m below meth c C _ => ?_)
  refine q_lv (lv2 := [(0, .int a1), (1, .int a2)]) rfl ?_
  refine q_iload_n (pc := 0) C dX0_digit_0 rfl 0 rfl ?_
  refine q_iconst (pc := 1) C (2 : Int32) dX0_digit_1 q_ci_2 ?_
  refine q_iload_n (pc := 2) C dX0_digit_2 rfl 1 rfl ?_
  refine q_imul (pc := 3) C dX0_digit_3 ?_
  refine q_ishr (pc := 4) C dX0_digit_4 ?_
  refine q_iconst (pc := 5) C (3 : Int32) dX0_digit_5 q_ci_3 ?_
  refine q_iand (pc := 6) C dX0_digit_6 ?_
  obtain rfl := hf
  exact q_iret (pc := 7) C dX0_digit_7 ⟨rfl, rfl⟩
theorem z_X0_digit : q_dsc yX0_digit 2 := ⟨by decide +kernel, by decide +kernel, by decide +kernel⟩
theorem n_X0_startAnew_X0 : ∀ w ∈ wsX00, w ∈ wsX0_startAnew := fun _ h => (List.mem_cons_of_mem _ (List.mem_append_right _ h))
def f_X0_startAnew (a1 : Int32) (S : CS) : CS := (csetL (cset (cset S 7 0 (f_X0_packed a1)) 7 1 (0 : Int32)) (-1 : Int64))
set_option maxRecDepth 100000 in
set_option maxHeartbeats 4000000 in
theorem c_X0_startAnew (l : Launch) (D : va_G) (cc : Nat → ClassId) (N0 : Nat) (g : Nat → Nat) (E : va_W) (S : CS) (a1 : Int32) (v : CS) (hf : f_X0_startAnew a1 S = v) : q_Met l yX0_startAnew wsX0_startAnew 1 20 D cc N0 (cw cc g S ++ E) [.ref (g 7), .int a1] (q_p (none) (cw cc g v ++ E)) 0 0 := by
  refine q_ofW (code := cX0_startAnew) (nL := 2) (ret := none) (by decide +kernel) rfl (Nat.le_of_ble_eq_true rfl) (fun p e s m below meth c C _ => ?_)
  refine q_lv (lv2 := [(0, .ref (g 7)), (1, .int a1)]) rfl ?_
  refine q_aload_n (pc := 0) C dX0_startAnew_0 rfl 0 rfl ?_
  refine q_iload_n (pc := 1) C dX0_startAnew_1 rfl 1 rfl ?_
  refine q_callS (pc := 2) (As := [.int a1]) (rest := [.ref (g 7)]) C (c_X0_packed l D cc N0 (cw cc g S ++ E) a1 _ rfl) gX0_startAnew_X0_packed rfl z_X0_packed ⟨Nat.le_of_ble_eq_true rfl, Nat.le_of_ble_eq_true rfl⟩ rfl rfl (Nat.le_of_ble_eq_true rfl) dX0_startAnew_2 ⟨Nat.le_of_ble_eq_true rfl, Nat.le_of_ble_eq_true rfl⟩ ?_
  refine q_after (rv := (some (.int (f_X0_packed a1)))) (w0 := (cw cc g S ++ E)) (st2 := [.int (f_X0_packed a1), .ref (g 7)]) rfl rfl rfl ?_
  refine r_p_7_0 (pc := 5) C n_X0_startAnew_X0 (List.mem_of_getElem? (i := 1) rfl) dX0_startAnew_5 ?_
  refine q_aload_n (pc := 8) C dX0_startAnew_8 rfl 0 rfl ?_
  refine q_iconst (pc := 9) C (0 : Int32) dX0_startAnew_9 q_ci_0 ?_
  refine r_p_7_1 (pc := 10) C n_X0_startAnew_X0 (List.mem_of_getElem? (i := 2) rfl) dX0_startAnew_10 ?_
  refine q_aload_n (pc := 13) C dX0_startAnew_13 rfl 0 rfl ?_
  refine q_ldc2 (pc := 14) (v := (-1 : Int64)) C (List.mem_of_getElem? (i := 3) rfl) dX0_startAnew_14 ?_
  refine r_p_7_2 (pc := 17) C n_X0_startAnew_X0 (List.mem_of_getElem? (i := 4) rfl) dX0_startAnew_17 ?_
  obtain rfl := hf
  exact q_vret (pc := 20) C dX0_startAnew_20 ⟨rfl, rfl⟩
theorem z_X0_startAnew : q_dsc yX0_startAnew 1 := ⟨by decide +kernel, by decide +kernel, by decide +kernel⟩
theorem n_X0_isLeft_X0 : ∀ w ∈ wsX00, w ∈ wsX0_isLeft := fun _ h => (List.mem_cons_of_mem _ (List.mem_append_right _ h))
def f_X0_isLeft (S : CS) (a1 : Int32) : Bool := (if (lg_cmp ((S.2 >>> (a1.toInt64 &&& 63)) &&& (1 : Int64)) (0 : Int64)) = 0 then false else true)
set_option maxRecDepth 100000 in
set_option maxHeartbeats 4000000 in
theorem c_X0_isLeft (l : Launch) (D : va_G) (cc : Nat → ClassId) (N0 : Nat) (g : Nat → Nat) (E : va_W) (S : CS) (a1 : Int32) (v : Bool) (hf : f_X0_isLeft S a1 = v) : q_Met l yX0_isLeft wsX0_isLeft 0 0 D cc N0 (cw cc g S ++ E) [.ref (g 7), .int a1] (q_p (some (.int (q_b v))) (cw cc g S ++ E)) 0 0 := by
  refine q_ofW (code := cX0_isLeft) (nL := 2) (ret := (some .boolean)) (by decide +kernel) rfl (Nat.le_of_ble_eq_true rfl) (fun p e s m below meth c C _ => ?_)
  refine q_lv (lv2 := [(0, .ref (g 7)), (1, .int a1)]) rfl ?_
  refine q_aload_n (pc := 0) C dX0_isLeft_0 rfl 0 rfl ?_
  refine r_g_7_2 (pc := 1) C n_X0_isLeft_X0 (List.mem_of_getElem? (i := 1) rfl) dX0_isLeft_1 ?_
  refine q_iload_n (pc := 4) C dX0_isLeft_4 rfl 1 rfl ?_
  refine q_lshr (pc := 5) C dX0_isLeft_5 rfl ?_
  refine q_lconst (pc := 6) C (1 : Int64) dX0_isLeft_6 q_cl_1 ?_
  refine q_land (pc := 7) C dX0_isLeft_7 ?_
  refine q_lconst (pc := 8) C (0 : Int64) dX0_isLeft_8 q_cl_0 ?_
  refine q_lcmp (pc := 9) C dX0_isLeft_9 ?_
  refine q_if_eq (pc := 10) (tgt := 17) C dX0_isLeft_10 (by decide) (fun c1 => ?_) (fun c1 => ?_)
  · have hf := q_iteT hf c1
    refine q_iconst (pc := 17) C (0 : Int32) dX0_isLeft_17 q_ci_0 ?_
    obtain rfl := hf
    exact q_zret (pc := 18) C (by decide +kernel) dX0_isLeft_18 ⟨rfl, rfl⟩
  · have hf := q_iteF hf c1
    refine q_iconst (pc := 13) C (1 : Int32) dX0_isLeft_13 q_ci_1 ?_
    refine q_goto (pc := 14) (tgt := 18) C dX0_isLeft_14 (by decide) ?_
    obtain rfl := hf
    exact q_zret (pc := 18) C (by decide +kernel) dX0_isLeft_18 ⟨rfl, rfl⟩
theorem z_X0_isLeft : q_dsc yX0_isLeft 1 := ⟨by decide +kernel, by decide +kernel, by decide +kernel⟩
def f_X0_leastLeft_2b (S : CS) (k2 : Int32 → Option Int32) (v1 : Int32) : Option Int32 := (if (64 : Int32) ≤ v1 then some (0 : Int32) else (if (q_b (f_X0_isLeft S v1)) = 0 then k2 (v1 + (1 : Int32)) else some ((((100 : Int32) * (f_X0_digit v1 (2 : Int32))) + ((10 : Int32) * (f_X0_digit v1 (1 : Int32)))) + (f_X0_digit v1 (0 : Int32)))))
def f_X0_leastLeft_2 (S : CS) : Nat → Int32 → Option Int32
  | 0, _ => none
  | n + 1, v1 => f_X0_leastLeft_2b S (f_X0_leastLeft_2 S n) v1
def f_X0_leastLeft (S : CS) : Option Int32 := f_X0_leastLeft_2 S 1000 (0 : Int32)
set_option maxRecDepth 100000 in
set_option maxHeartbeats 4000000 in
theorem w_X0_leastLeft_2 {p : Program} {l : Launch} {e : Env} {s : State} {m : MethodId} {args : Array Value} {below : List Frame} {meth : Method} {c : Code} {D : va_G} {cc : Nat → ClassId} {N0 : Nat} {g : Nat → Nat} {E : va_W} {S : CS} {v : Int32} (C : q_C p s m args meth c cX0_leastLeft 2 (some .int) wsX0_leastLeft RX0 D cc N0)  : ∀ (n : Nat) (v1 : Int32), f_X0_leastLeft_2 S n v1 = some v → q_WA p l e (q_rm 1 21 0 0) s m args below meth c D N0 2 (MQ below (q_Q D N0 (q_p (some (.int v)) (cw cc g S ++ E))) args s 0 0 (q_A N0)) 0 0 (cw cc g S ++ E) 2 [(0, .ref (g 7)), (1, .int v1)] [] := by
  intro n
  induction n with
  | zero => intro v1 hf; cases hf
  | succ n ih =>
    intro v1 hf
    have hk2 : ∀ (v1 : Int32), f_X0_leastLeft_2 S n v1 = some v → q_WA p l e (q_rm 1 21 0 0) s m args below meth c D N0 2 (MQ below (q_Q D N0 (q_p (some (.int v)) (cw cc g S ++ E))) args s 0 0 (q_A N0)) 0 0 (cw cc g S ++ E) 2 [(0, .ref (g 7)), (1, .int v1)] [] := ih
    have hf : f_X0_leastLeft_2b S (f_X0_leastLeft_2 S n) v1 = some v := hf
    refine q_iload_n (pc := 2) C dX0_leastLeft_2 rfl 1 rfl ?_
    refine q_bipush (pc := 3) C (64 : Int32) dX0_leastLeft_3 q_cb_64 ?_
    refine q_icmp_ge (pc := 5) (tgt := 46) C dX0_leastLeft_5 (by decide) (fun c1 => ?_) (fun c1 => ?_)
    · have hf := q_iteT hf c1
      refine q_iconst (pc := 46) C (0 : Int32) dX0_leastLeft_46 q_ci_0 ?_
      obtain rfl := q_some hf
      exact q_iret (pc := 47) C dX0_leastLeft_47 ⟨rfl, rfl⟩
    · have hf := q_iteF hf c1
      refine q_aload_n (pc := 8) C dX0_leastLeft_8 rfl 0 rfl ?_
      refine q_iload_n (pc := 9) C dX0_leastLeft_9 rfl 1 rfl ?_
      refine q_callV (pc := 10) (As := [.int v1]) (rest := []) C (c_X0_isLeft l D cc N0 g E S v1 _ rfl) gX0_leastLeft_X0_isLeft rfl rfl z_X0_isLeft ⟨Nat.le_of_ble_eq_true rfl, Nat.le_of_ble_eq_true rfl⟩ (cw_at_7 cc g E _) rfl rfl rfl (Nat.le_of_ble_eq_true rfl) dX0_leastLeft_10 ⟨Nat.le_of_ble_eq_true rfl, Nat.le_of_ble_eq_true rfl⟩ ?_
      refine q_after (rv := (some (.int (q_b (f_X0_isLeft S v1))))) (w0 := (cw cc g S ++ E)) (st2 := [.int (q_b (f_X0_isLeft S v1))]) rfl rfl rfl ?_
      refine q_if_eq (pc := 13) (tgt := 40) C dX0_leastLeft_13 (by decide) (fun c2 => ?_) (fun c2 => ?_)
      · have hf := q_iteT hf c2
        refine q_iinc (pc := 40) (lvq := [(1, .int (v1 + (1 : Int32))), (0, .ref (g 7))]) C (v1 + (1 : Int32)) dX0_leastLeft_40 1 rfl q_ca_1 (by decide) rfl ?_
        refine q_goto (pc := 43) (tgt := 2) C dX0_leastLeft_43 (by decide) ?_
        refine q_sub (lvq := [(0, .ref (g 7)), (1, .int (v1 + (1 : Int32)))]) [1, 0] rfl ?_
        exact hk2 (v1 + (1 : Int32)) hf
      · have hf := q_iteF hf c2
        refine q_bipush (pc := 16) C (100 : Int32) dX0_leastLeft_16 q_cb_100 ?_
        refine q_iload_n (pc := 18) C dX0_leastLeft_18 rfl 1 rfl ?_
        refine q_iconst (pc := 19) C (2 : Int32) dX0_leastLeft_19 q_ci_2 ?_
        refine q_callS (pc := 20) (As := [.int v1, .int (2 : Int32)]) (rest := [.int (100 : Int32)]) C (c_X0_digit l D cc N0 (cw cc g S ++ E) v1 (2 : Int32) _ rfl) gX0_leastLeft_X0_digit rfl z_X0_digit ⟨Nat.le_of_ble_eq_true rfl, Nat.le_of_ble_eq_true rfl⟩ rfl rfl (Nat.le_of_ble_eq_true rfl) dX0_leastLeft_20 ⟨Nat.le_of_ble_eq_true rfl, Nat.le_of_ble_eq_true rfl⟩ ?_
        refine q_after (rv := (some (.int (f_X0_digit v1 (2 : Int32))))) (w0 := (cw cc g S ++ E)) (st2 := [.int (f_X0_digit v1 (2 : Int32)), .int (100 : Int32)]) rfl rfl rfl ?_
        refine q_imul (pc := 23) C dX0_leastLeft_23 ?_
        refine q_bipush (pc := 24) C (10 : Int32) dX0_leastLeft_24 q_cb_10 ?_
        refine q_iload_n (pc := 26) C dX0_leastLeft_26 rfl 1 rfl ?_
        refine q_iconst (pc := 27) C (1 : Int32) dX0_leastLeft_27 q_ci_1 ?_
        refine q_callS (pc := 28) (As := [.int v1, .int (1 : Int32)]) (rest := [.int (10 : Int32), .int ((100 : Int32) * (f_X0_digit v1 (2 : Int32)))]) C (c_X0_digit l D cc N0 (cw cc g S ++ E) v1 (1 : Int32) _ rfl) gX0_leastLeft_X0_digit rfl z_X0_digit ⟨Nat.le_of_ble_eq_true rfl, Nat.le_of_ble_eq_true rfl⟩ rfl rfl (Nat.le_of_ble_eq_true rfl) dX0_leastLeft_28 ⟨Nat.le_of_ble_eq_true rfl, Nat.le_of_ble_eq_true rfl⟩ ?_
        refine q_after (rv := (some (.int (f_X0_digit v1 (1 : Int32))))) (w0 := (cw cc g S ++ E)) (st2 := [.int (f_X0_digit v1 (1 : Int32)), .int (10 : Int32), .int ((100 : Int32) * (f_X0_digit v1 (2 : Int32)))]) rfl rfl rfl ?_
        refine q_imul (pc := 31) C dX0_leastLeft_31 ?_
        refine q_iadd (pc := 32) C dX0_leastLeft_32 ?_
        refine q_iload_n (pc := 33) C dX0_leastLeft_33 rfl 1 rfl ?_
        refine q_iconst (pc := 34) C (0 : Int32) dX0_leastLeft_34 q_ci_0 ?_
        refine q_callS (pc := 35) (As := [.int v1, .int (0 : Int32)]) (rest := [.int (((100 : Int32) * (f_X0_digit v1 (2 : Int32))) + ((10 : Int32) * (f_X0_digit v1 (1 : Int32))))]) C (c_X0_digit l D cc N0 (cw cc g S ++ E) v1 (0 : Int32) _ rfl) gX0_leastLeft_X0_digit rfl z_X0_digit ⟨Nat.le_of_ble_eq_true rfl, Nat.le_of_ble_eq_true rfl⟩ rfl rfl (Nat.le_of_ble_eq_true rfl) dX0_leastLeft_35 ⟨Nat.le_of_ble_eq_true rfl, Nat.le_of_ble_eq_true rfl⟩ ?_
        refine q_after (rv := (some (.int (f_X0_digit v1 (0 : Int32))))) (w0 := (cw cc g S ++ E)) (st2 := [.int (f_X0_digit v1 (0 : Int32)), .int (((100 : Int32) * (f_X0_digit v1 (2 : Int32))) + ((10 : Int32) * (f_X0_digit v1 (1 : Int32))))]) rfl rfl rfl ?_
        refine q_iadd (pc := 38) C dX0_leastLeft_38 ?_
        obtain rfl := q_some hf
        exact q_iret (pc := 39) C dX0_leastLeft_39 ⟨rfl, rfl⟩
set_option maxRecDepth 100000 in
set_option maxHeartbeats 4000000 in
theorem c_X0_leastLeft (l : Launch) (D : va_G) (cc : Nat → ClassId) (N0 : Nat) (g : Nat → Nat) (E : va_W) (S : CS) (v : Int32) (hf : f_X0_leastLeft S = some v) : q_Met l yX0_leastLeft wsX0_leastLeft 1 21 D cc N0 (cw cc g S ++ E) [.ref (g 7)] (q_p (some (.int v)) (cw cc g S ++ E)) 0 0 := by
  refine q_ofW (code := cX0_leastLeft) (nL := 2) (ret := (some .int)) (by decide +kernel) rfl (Nat.le_of_ble_eq_true rfl) (fun p e s m below meth c C _ => ?_)
  refine q_lv (lv2 := [(0, .ref (g 7))]) rfl ?_
  refine q_iconst (pc := 0) C (0 : Int32) dX0_leastLeft_0 q_ci_0 ?_
  refine q_istore_n (pc := 1) (lvq := [(1, .int (0 : Int32)), (0, .ref (g 7))]) C dX0_leastLeft_1 rfl (by decide) rfl ?_
  refine q_sub (lvq := [(0, .ref (g 7)), (1, .int (0 : Int32))]) [1, 0] rfl ?_
  exact w_X0_leastLeft_2 C 1000 (0 : Int32) hf
theorem z_X0_leastLeft : q_dsc yX0_leastLeft 0 := ⟨by decide +kernel, by decide +kernel, by decide +kernel⟩
def f_X0_times_21 (k4 : Int32 → Int32 → Int32 → Int32 → Option Int32) (v0 : Int32) (v1 : Int32) (v2 : Int32) (v3 : Int32) : Option Int32 := k4 v0 v1 v2 (v3 + (1 : Int32))
def f_X0_times_4b (k4 : Int32 → Int32 → Int32 → Int32 → Option Int32) (v0 : Int32) (v1 : Int32) (v2 : Int32) (v3 : Int32) : Option Int32 := (if (3 : Int32) ≤ v3 then some v2 else (if (f_X0_digit v0 v3) = v1 then f_X0_times_21 k4 v0 v1 (v2 + (1 : Int32)) v3 else f_X0_times_21 k4 v0 v1 v2 v3))
def f_X0_times_4 : Nat → Int32 → Int32 → Int32 → Int32 → Option Int32
  | 0, _, _, _, _ => none
  | n + 1, v0, v1, v2, v3 => f_X0_times_4b  (f_X0_times_4  n) v0 v1 v2 v3
def f_X0_times (a1 : Int32) (a2 : Int32) : Option Int32 := f_X0_times_4 1000 a1 a2 (0 : Int32) (0 : Int32)
set_option maxRecDepth 100000 in
set_option maxHeartbeats 4000000 in
theorem w_X0_times_21 {p : Program} {l : Launch} {e : Env} {s : State} {m : MethodId} {args : Array Value} {below : List Frame} {meth : Method} {c : Code} {D : va_G} {cc : Nat → ClassId} {N0 : Nat} {ws : va_W} {k4 : Int32 → Int32 → Int32 → Int32 → Option Int32} {v : Int32} (C : q_C p s m args meth c cX0_times 4 (some .int) wsX0_times RX0 D cc N0) (hk4 : ∀ (v0 : Int32) (v1 : Int32) (v2 : Int32) (v3 : Int32), k4 v0 v1 v2 v3 = some v → q_WA p l e (q_rm 1 21 0 0) s m args below meth c D N0 4 (MQ below (q_Q D N0 (q_p (some (.int v)) ws)) args s 0 0 (q_A N0)) 0 0 ws 4 [(0, .int v0), (1, .int v1), (2, .int v2), (3, .int v3)] []) (v0 : Int32) (v1 : Int32) (v2 : Int32) (v3 : Int32) (hf : f_X0_times_21 k4 v0 v1 v2 v3 = some v) : q_WA p l e (q_rm 1 21 0 0) s m args below meth c D N0 4 (MQ below (q_Q D N0 (q_p (some (.int v)) ws)) args s 0 0 (q_A N0)) 0 0 ws 21 [(0, .int v0), (1, .int v1), (2, .int v2), (3, .int v3)] [] := by
  refine q_iinc (pc := 21) (lvq := [(3, .int (v3 + (1 : Int32))), (0, .int v0), (1, .int v1), (2, .int v2)]) C (v3 + (1 : Int32)) dX0_times_21 3 rfl q_ca_1 (by decide) rfl ?_
  refine q_goto (pc := 24) (tgt := 4) C dX0_times_24 (by decide) ?_
  refine q_sub (lvq := [(0, .int v0), (1, .int v1), (2, .int v2), (3, .int (v3 + (1 : Int32)))]) [1, 2, 3, 0] rfl ?_
  exact hk4 v0 v1 v2 (v3 + (1 : Int32)) hf
set_option maxRecDepth 100000 in
set_option maxHeartbeats 4000000 in
theorem w_X0_times_4 {p : Program} {l : Launch} {e : Env} {s : State} {m : MethodId} {args : Array Value} {below : List Frame} {meth : Method} {c : Code} {D : va_G} {cc : Nat → ClassId} {N0 : Nat} {ws : va_W} {v : Int32} (C : q_C p s m args meth c cX0_times 4 (some .int) wsX0_times RX0 D cc N0)  : ∀ (n : Nat) (v0 : Int32) (v1 : Int32) (v2 : Int32) (v3 : Int32), f_X0_times_4  n v0 v1 v2 v3 = some v → q_WA p l e (q_rm 1 21 0 0) s m args below meth c D N0 4 (MQ below (q_Q D N0 (q_p (some (.int v)) ws)) args s 0 0 (q_A N0)) 0 0 ws 4 [(0, .int v0), (1, .int v1), (2, .int v2), (3, .int v3)] [] := by
  intro n
  induction n with
  | zero => intro v0 v1 v2 v3 hf; cases hf
  | succ n ih =>
    intro v0 v1 v2 v3 hf
    have hk4 : ∀ (v0 : Int32) (v1 : Int32) (v2 : Int32) (v3 : Int32), f_X0_times_4  n v0 v1 v2 v3 = some v → q_WA p l e (q_rm 1 21 0 0) s m args below meth c D N0 4 (MQ below (q_Q D N0 (q_p (some (.int v)) ws)) args s 0 0 (q_A N0)) 0 0 ws 4 [(0, .int v0), (1, .int v1), (2, .int v2), (3, .int v3)] [] := ih
    have hf : f_X0_times_4b  (f_X0_times_4  n) v0 v1 v2 v3 = some v := hf
    refine q_iload_n (pc := 4) C dX0_times_4 rfl 3 rfl ?_
    refine q_iconst (pc := 5) C (3 : Int32) dX0_times_5 q_ci_3 ?_
    refine q_icmp_ge (pc := 6) (tgt := 27) C dX0_times_6 (by decide) (fun c1 => ?_) (fun c1 => ?_)
    · have hf := q_iteT hf c1
      refine q_iload_n (pc := 27) C dX0_times_27 rfl 2 rfl ?_
      obtain rfl := q_some hf
      exact q_iret (pc := 28) C dX0_times_28 ⟨rfl, rfl⟩
    · have hf := q_iteF hf c1
      refine q_iload_n (pc := 9) C dX0_times_9 rfl 0 rfl ?_
      refine q_iload_n (pc := 10) C dX0_times_10 rfl 3 rfl ?_
      refine q_callS (pc := 11) (As := [.int v0, .int v3]) (rest := []) C (c_X0_digit l D cc N0 ws v0 v3 _ rfl) gX0_times_X0_digit rfl z_X0_digit ⟨Nat.le_of_ble_eq_true rfl, Nat.le_of_ble_eq_true rfl⟩ rfl rfl (Nat.le_of_ble_eq_true rfl) dX0_times_11 ⟨Nat.le_of_ble_eq_true rfl, Nat.le_of_ble_eq_true rfl⟩ ?_
      refine q_after (rv := (some (.int (f_X0_digit v0 v3)))) (w0 := ws) (st2 := [.int (f_X0_digit v0 v3)]) rfl rfl rfl ?_
      refine q_iload_n (pc := 14) C dX0_times_14 rfl 1 rfl ?_
      refine q_icmp_ne (pc := 15) (tgt := 21) C dX0_times_15 (by decide) (fun c2 => ?_) (fun c2 => ?_)
      · have hf := q_iteF hf c2
        refine q_sub (lvq := [(0, .int v0), (1, .int v1), (2, .int v2), (3, .int v3)]) [0, 1, 2, 3] rfl ?_
        exact w_X0_times_21 C hk4 v0 v1 v2 v3 hf
      · have hf := q_iteT hf c2
        refine q_iinc (pc := 18) (lvq := [(2, .int (v2 + (1 : Int32))), (0, .int v0), (1, .int v1), (3, .int v3)]) C (v2 + (1 : Int32)) dX0_times_18 2 rfl q_ca_1 (by decide) rfl ?_
        refine q_sub (lvq := [(0, .int v0), (1, .int v1), (2, .int (v2 + (1 : Int32))), (3, .int v3)]) [1, 2, 0, 3] rfl ?_
        exact w_X0_times_21 C hk4 v0 v1 (v2 + (1 : Int32)) v3 hf
set_option maxRecDepth 100000 in
set_option maxHeartbeats 4000000 in
theorem c_X0_times (l : Launch) (D : va_G) (cc : Nat → ClassId) (N0 : Nat) (ws : va_W) (a1 : Int32) (a2 : Int32) (v : Int32) (hf : f_X0_times a1 a2 = some v) : q_Met l yX0_times wsX0_times 1 21 D cc N0 ws [.int a1, .int a2] (q_p (some (.int v)) ws) 0 0 := by
  refine q_ofW (code := cX0_times) (nL := 4) (ret := (some .int)) (by decide +kernel) rfl (Nat.le_of_ble_eq_true rfl) (fun p e s m below meth c C _ => ?_)
  refine q_lv (lv2 := [(0, .int a1), (1, .int a2)]) rfl ?_
  refine q_iconst (pc := 0) C (0 : Int32) dX0_times_0 q_ci_0 ?_
  refine q_istore_n (pc := 1) (lvq := [(2, .int (0 : Int32)), (0, .int a1), (1, .int a2)]) C dX0_times_1 rfl (by decide) rfl ?_
  refine q_iconst (pc := 2) C (0 : Int32) dX0_times_2 q_ci_0 ?_
  refine q_istore_n (pc := 3) (lvq := [(3, .int (0 : Int32)), (2, .int (0 : Int32)), (0, .int a1), (1, .int a2)]) C dX0_times_3 rfl (by decide) rfl ?_
  refine q_sub (lvq := [(0, .int a1), (1, .int a2), (2, .int (0 : Int32)), (3, .int (0 : Int32))]) [2, 3, 1, 0] rfl ?_
  exact w_X0_times_4 C 1000 a1 a2 (0 : Int32) (0 : Int32) hf
theorem z_X0_times : q_dsc yX0_times 2 := ⟨by decide +kernel, by decide +kernel, by decide +kernel⟩
def f_X0_hint_33b (k33 : Int32 → Int32 → Int32 → Int32 → Option Int32) (v0 : Int32) (v1 : Int32) (v2 : Int32) (v3 : Int32) : Option Int32 := (if (4 : Int32) ≤ v3 then some v2 else ((f_X0_times v0 v3).bind fun u3 => ((f_X0_times v1 v3).bind fun u5 => k33 v0 v1 (v2 + (q_min u3 u5)) (v3 + (1 : Int32)))))
def f_X0_hint_33 : Nat → Int32 → Int32 → Int32 → Int32 → Option Int32
  | 0, _, _, _, _ => none
  | n + 1, v0, v1, v2, v3 => f_X0_hint_33b  (f_X0_hint_33  n) v0 v1 v2 v3
def f_X0_hint_25 (k4 : Int32 → Int32 → Int32 → Int32 → Option Int32) (v0 : Int32) (v1 : Int32) (v2 : Int32) (v3 : Int32) : Option Int32 := k4 v0 v1 v2 (v3 + (1 : Int32))
def f_X0_hint_4b (k4 : Int32 → Int32 → Int32 → Int32 → Option Int32) (v0 : Int32) (v1 : Int32) (v2 : Int32) (v3 : Int32) : Option Int32 := (if (3 : Int32) ≤ v3 then f_X0_hint_33 1000 v0 v1 v2 (0 : Int32) else (if (f_X0_digit v0 v3) = (f_X0_digit v1 v3) then f_X0_hint_25 k4 v0 v1 (v2 + (9 : Int32)) v3 else f_X0_hint_25 k4 v0 v1 v2 v3))
def f_X0_hint_4 : Nat → Int32 → Int32 → Int32 → Int32 → Option Int32
  | 0, _, _, _, _ => none
  | n + 1, v0, v1, v2, v3 => f_X0_hint_4b  (f_X0_hint_4  n) v0 v1 v2 v3
def f_X0_hint (a1 : Int32) (a2 : Int32) : Option Int32 := f_X0_hint_4 1000 a1 a2 (0 : Int32) (0 : Int32)
set_option maxRecDepth 100000 in
set_option maxHeartbeats 4000000 in
theorem w_X0_hint_33 {p : Program} {l : Launch} {e : Env} {s : State} {m : MethodId} {args : Array Value} {below : List Frame} {meth : Method} {c : Code} {D : va_G} {cc : Nat → ClassId} {N0 : Nat} {ws : va_W} {v : Int32} (C : q_C p s m args meth c cX0_hint 4 (some .int) wsX0_hint RX0 D cc N0)  : ∀ (n : Nat) (v0 : Int32) (v1 : Int32) (v2 : Int32) (v3 : Int32), f_X0_hint_33  n v0 v1 v2 v3 = some v → q_WA p l e (q_rm 2 44 0 0) s m args below meth c D N0 4 (MQ below (q_Q D N0 (q_p (some (.int v)) ws)) args s 0 0 (q_A N0)) 0 0 ws 33 [(0, .int v0), (1, .int v1), (2, .int v2), (3, .int v3)] [] := by
  intro n
  induction n with
  | zero => intro v0 v1 v2 v3 hf; cases hf
  | succ n ih =>
    intro v0 v1 v2 v3 hf
    have hk33 : ∀ (v0 : Int32) (v1 : Int32) (v2 : Int32) (v3 : Int32), f_X0_hint_33  n v0 v1 v2 v3 = some v → q_WA p l e (q_rm 2 44 0 0) s m args below meth c D N0 4 (MQ below (q_Q D N0 (q_p (some (.int v)) ws)) args s 0 0 (q_A N0)) 0 0 ws 33 [(0, .int v0), (1, .int v1), (2, .int v2), (3, .int v3)] [] := ih
    have hf : f_X0_hint_33b  (f_X0_hint_33  n) v0 v1 v2 v3 = some v := hf
    refine q_iload_n (pc := 33) C dX0_hint_33 rfl 3 rfl ?_
    refine q_iconst (pc := 34) C (4 : Int32) dX0_hint_34 q_ci_4 ?_
    refine q_icmp_ge (pc := 35) (tgt := 60) C dX0_hint_35 (by decide) (fun c2 => ?_) (fun c2 => ?_)
    · have hf := q_iteT hf c2
      refine q_iload_n (pc := 60) C dX0_hint_60 rfl 2 rfl ?_
      obtain rfl := q_some hf
      exact q_iret (pc := 61) C dX0_hint_61 ⟨rfl, rfl⟩
    · have hf := q_iteF hf c2
      refine q_iload_n (pc := 38) C dX0_hint_38 rfl 2 rfl ?_
      refine q_iload_n (pc := 39) C dX0_hint_39 rfl 0 rfl ?_
      refine q_iload_n (pc := 40) C dX0_hint_40 rfl 3 rfl ?_
      obtain ⟨u3, e4, hf⟩ := q_bind hf
      refine q_callS (pc := 41) (As := [.int v0, .int v3]) (rest := [.int v2]) C (c_X0_times l D cc N0 ws v0 v3 u3 e4) gX0_hint_X0_times rfl z_X0_times ⟨Nat.le_of_ble_eq_true rfl, Nat.le_of_ble_eq_true rfl⟩ rfl rfl (Nat.le_of_ble_eq_true rfl) dX0_hint_41 ⟨Nat.le_of_ble_eq_true rfl, Nat.le_of_ble_eq_true rfl⟩ ?_
      refine q_after (rv := (some (.int u3))) (w0 := ws) (st2 := [.int u3, .int v2]) rfl rfl rfl ?_
      refine q_iload_n (pc := 44) C dX0_hint_44 rfl 1 rfl ?_
      refine q_iload_n (pc := 45) C dX0_hint_45 rfl 3 rfl ?_
      obtain ⟨u5, e6, hf⟩ := q_bind hf
      refine q_callS (pc := 46) (As := [.int v1, .int v3]) (rest := [.int u3, .int v2]) C (c_X0_times l D cc N0 ws v1 v3 u5 e6) gX0_hint_X0_times rfl z_X0_times ⟨Nat.le_of_ble_eq_true rfl, Nat.le_of_ble_eq_true rfl⟩ rfl rfl (Nat.le_of_ble_eq_true rfl) dX0_hint_46 ⟨Nat.le_of_ble_eq_true rfl, Nat.le_of_ble_eq_true rfl⟩ ?_
      refine q_after (rv := (some (.int u5))) (w0 := ws) (st2 := [.int u5, .int u3, .int v2]) rfl rfl rfl ?_
      refine q_mmin (pc := 49) C (List.mem_of_getElem? (i := 1) rfl) (List.mem_of_getElem? (i := 2) rfl) (List.mem_of_getElem? (i := 3) rfl) (List.mem_of_getElem? (i := 4) rfl) (Nat.le_of_ble_eq_true rfl) (Nat.le_of_ble_eq_true rfl) ⟨Nat.le_of_ble_eq_true rfl, Nat.le_of_ble_eq_true rfl⟩ dX0_hint_49 ?_
      refine q_iadd (pc := 52) C dX0_hint_52 ?_
      refine q_istore_n (pc := 53) (lvq := [(2, .int (v2 + (q_min u3 u5))), (0, .int v0), (1, .int v1), (3, .int v3)]) C dX0_hint_53 rfl (by decide) rfl ?_
      refine q_iinc (pc := 54) (lvq := [(3, .int (v3 + (1 : Int32))), (2, .int (v2 + (q_min u3 u5))), (0, .int v0), (1, .int v1)]) C (v3 + (1 : Int32)) dX0_hint_54 3 rfl q_ca_1 (by decide) rfl ?_
      refine q_goto (pc := 57) (tgt := 33) C dX0_hint_57 (by decide) ?_
      refine q_sub (lvq := [(0, .int v0), (1, .int v1), (2, .int (v2 + (q_min u3 u5))), (3, .int (v3 + (1 : Int32)))]) [2, 3, 1, 0] rfl ?_
      exact hk33 v0 v1 (v2 + (q_min u3 u5)) (v3 + (1 : Int32)) hf
set_option maxRecDepth 100000 in
set_option maxHeartbeats 4000000 in
theorem w_X0_hint_25 {p : Program} {l : Launch} {e : Env} {s : State} {m : MethodId} {args : Array Value} {below : List Frame} {meth : Method} {c : Code} {D : va_G} {cc : Nat → ClassId} {N0 : Nat} {ws : va_W} {k4 : Int32 → Int32 → Int32 → Int32 → Option Int32} {v : Int32} (C : q_C p s m args meth c cX0_hint 4 (some .int) wsX0_hint RX0 D cc N0) (hk4 : ∀ (v0 : Int32) (v1 : Int32) (v2 : Int32) (v3 : Int32), k4 v0 v1 v2 v3 = some v → q_WA p l e (q_rm 2 44 0 0) s m args below meth c D N0 4 (MQ below (q_Q D N0 (q_p (some (.int v)) ws)) args s 0 0 (q_A N0)) 0 0 ws 4 [(0, .int v0), (1, .int v1), (2, .int v2), (3, .int v3)] []) (v0 : Int32) (v1 : Int32) (v2 : Int32) (v3 : Int32) (hf : f_X0_hint_25 k4 v0 v1 v2 v3 = some v) : q_WA p l e (q_rm 2 44 0 0) s m args below meth c D N0 4 (MQ below (q_Q D N0 (q_p (some (.int v)) ws)) args s 0 0 (q_A N0)) 0 0 ws 25 [(0, .int v0), (1, .int v1), (2, .int v2), (3, .int v3)] [] := by
  refine q_iinc (pc := 25) (lvq := [(3, .int (v3 + (1 : Int32))), (0, .int v0), (1, .int v1), (2, .int v2)]) C (v3 + (1 : Int32)) dX0_hint_25 3 rfl q_ca_1 (by decide) rfl ?_
  refine q_goto (pc := 28) (tgt := 4) C dX0_hint_28 (by decide) ?_
  refine q_sub (lvq := [(0, .int v0), (1, .int v1), (2, .int v2), (3, .int (v3 + (1 : Int32)))]) [1, 2, 3, 0] rfl ?_
  exact hk4 v0 v1 v2 (v3 + (1 : Int32)) hf
set_option maxRecDepth 100000 in
set_option maxHeartbeats 4000000 in
theorem w_X0_hint_4 {p : Program} {l : Launch} {e : Env} {s : State} {m : MethodId} {args : Array Value} {below : List Frame} {meth : Method} {c : Code} {D : va_G} {cc : Nat → ClassId} {N0 : Nat} {ws : va_W} {v : Int32} (C : q_C p s m args meth c cX0_hint 4 (some .int) wsX0_hint RX0 D cc N0)  : ∀ (n : Nat) (v0 : Int32) (v1 : Int32) (v2 : Int32) (v3 : Int32), f_X0_hint_4  n v0 v1 v2 v3 = some v → q_WA p l e (q_rm 2 44 0 0) s m args below meth c D N0 4 (MQ below (q_Q D N0 (q_p (some (.int v)) ws)) args s 0 0 (q_A N0)) 0 0 ws 4 [(0, .int v0), (1, .int v1), (2, .int v2), (3, .int v3)] [] := by
  intro n
  induction n with
  | zero => intro v0 v1 v2 v3 hf; cases hf
  | succ n ih =>
    intro v0 v1 v2 v3 hf
    have hk4 : ∀ (v0 : Int32) (v1 : Int32) (v2 : Int32) (v3 : Int32), f_X0_hint_4  n v0 v1 v2 v3 = some v → q_WA p l e (q_rm 2 44 0 0) s m args below meth c D N0 4 (MQ below (q_Q D N0 (q_p (some (.int v)) ws)) args s 0 0 (q_A N0)) 0 0 ws 4 [(0, .int v0), (1, .int v1), (2, .int v2), (3, .int v3)] [] := ih
    have hf : f_X0_hint_4b  (f_X0_hint_4  n) v0 v1 v2 v3 = some v := hf
    refine q_iload_n (pc := 4) C dX0_hint_4 rfl 3 rfl ?_
    refine q_iconst (pc := 5) C (3 : Int32) dX0_hint_5 q_ci_3 ?_
    refine q_icmp_ge (pc := 6) (tgt := 31) C dX0_hint_6 (by decide) (fun c1 => ?_) (fun c1 => ?_)
    · have hf := q_iteT hf c1
      refine q_iconst (pc := 31) C (0 : Int32) dX0_hint_31 q_ci_0 ?_
      refine q_istore_n (pc := 32) (lvq := [(3, .int (0 : Int32)), (0, .int v0), (1, .int v1), (2, .int v2)]) C dX0_hint_32 rfl (by decide) rfl ?_
      refine q_sub (lvq := [(0, .int v0), (1, .int v1), (2, .int v2), (3, .int (0 : Int32))]) [1, 2, 3, 0] rfl ?_
      exact w_X0_hint_33 C 1000 v0 v1 v2 (0 : Int32) hf
    · have hf := q_iteF hf c1
      refine q_iload_n (pc := 9) C dX0_hint_9 rfl 0 rfl ?_
      refine q_iload_n (pc := 10) C dX0_hint_10 rfl 3 rfl ?_
      refine q_callS (pc := 11) (As := [.int v0, .int v3]) (rest := []) C (c_X0_digit l D cc N0 ws v0 v3 _ rfl) gX0_hint_X0_digit rfl z_X0_digit ⟨Nat.le_of_ble_eq_true rfl, Nat.le_of_ble_eq_true rfl⟩ rfl rfl (Nat.le_of_ble_eq_true rfl) dX0_hint_11 ⟨Nat.le_of_ble_eq_true rfl, Nat.le_of_ble_eq_true rfl⟩ ?_
      refine q_after (rv := (some (.int (f_X0_digit v0 v3)))) (w0 := ws) (st2 := [.int (f_X0_digit v0 v3)]) rfl rfl rfl ?_
      refine q_iload_n (pc := 14) C dX0_hint_14 rfl 1 rfl ?_
      refine q_iload_n (pc := 15) C dX0_hint_15 rfl 3 rfl ?_
      refine q_callS (pc := 16) (As := [.int v1, .int v3]) (rest := [.int (f_X0_digit v0 v3)]) C (c_X0_digit l D cc N0 ws v1 v3 _ rfl) gX0_hint_X0_digit rfl z_X0_digit ⟨Nat.le_of_ble_eq_true rfl, Nat.le_of_ble_eq_true rfl⟩ rfl rfl (Nat.le_of_ble_eq_true rfl) dX0_hint_16 ⟨Nat.le_of_ble_eq_true rfl, Nat.le_of_ble_eq_true rfl⟩ ?_
      refine q_after (rv := (some (.int (f_X0_digit v1 v3)))) (w0 := ws) (st2 := [.int (f_X0_digit v1 v3), .int (f_X0_digit v0 v3)]) rfl rfl rfl ?_
      refine q_icmp_ne (pc := 19) (tgt := 25) C dX0_hint_19 (by decide) (fun c7 => ?_) (fun c7 => ?_)
      · have hf := q_iteF hf c7
        refine q_sub (lvq := [(0, .int v0), (1, .int v1), (2, .int v2), (3, .int v3)]) [0, 1, 2, 3] rfl ?_
        exact w_X0_hint_25 C hk4 v0 v1 v2 v3 hf
      · have hf := q_iteT hf c7
        refine q_iinc (pc := 22) (lvq := [(2, .int (v2 + (9 : Int32))), (0, .int v0), (1, .int v1), (3, .int v3)]) C (v2 + (9 : Int32)) dX0_hint_22 2 rfl q_ca_9 (by decide) rfl ?_
        refine q_sub (lvq := [(0, .int v0), (1, .int v1), (2, .int (v2 + (9 : Int32))), (3, .int v3)]) [1, 2, 0, 3] rfl ?_
        exact w_X0_hint_25 C hk4 v0 v1 (v2 + (9 : Int32)) v3 hf
set_option maxRecDepth 100000 in
set_option maxHeartbeats 4000000 in
theorem c_X0_hint (l : Launch) (D : va_G) (cc : Nat → ClassId) (N0 : Nat) (ws : va_W) (a1 : Int32) (a2 : Int32) (v : Int32) (hf : f_X0_hint a1 a2 = some v) : q_Met l yX0_hint wsX0_hint 2 44 D cc N0 ws [.int a1, .int a2] (q_p (some (.int v)) ws) 0 0 := by
  refine q_ofW (code := cX0_hint) (nL := 4) (ret := (some .int)) (by decide +kernel) rfl (Nat.le_of_ble_eq_true rfl) (fun p e s m below meth c C _ => ?_)
  refine q_lv (lv2 := [(0, .int a1), (1, .int a2)]) rfl ?_
  refine q_iconst (pc := 0) C (0 : Int32) dX0_hint_0 q_ci_0 ?_
  refine q_istore_n (pc := 1) (lvq := [(2, .int (0 : Int32)), (0, .int a1), (1, .int a2)]) C dX0_hint_1 rfl (by decide) rfl ?_
  refine q_iconst (pc := 2) C (0 : Int32) dX0_hint_2 q_ci_0 ?_
  refine q_istore_n (pc := 3) (lvq := [(3, .int (0 : Int32)), (2, .int (0 : Int32)), (0, .int a1), (1, .int a2)]) C dX0_hint_3 rfl (by decide) rfl ?_
  refine q_sub (lvq := [(0, .int a1), (1, .int a2), (2, .int (0 : Int32)), (3, .int (0 : Int32))]) [2, 3, 1, 0] rfl ?_
  exact w_X0_hint_4 C 1000 a1 a2 (0 : Int32) (0 : Int32) hf
theorem z_X0_hint : q_dsc yX0_hint 2 := ⟨by decide +kernel, by decide +kernel, by decide +kernel⟩
theorem n_X0_giveHint_X0 : ∀ w ∈ wsX00, w ∈ wsX0_giveHint := fun _ h => (List.mem_cons_of_mem _ (List.mem_append_right _ h))
def f_X0_giveHint_51 (k17 : Int32 → Int32 → Int32 → CS → Option (Int32 × CS)) (v2 : Int32) (v3 : Int32) (v4 : Int32) (S : CS) : Option (Int32 × CS) := k17 v2 v3 (v4 + (1 : Int32)) S
def f_X0_giveHint_17b (k17 : Int32 → Int32 → Int32 → CS → Option (Int32 × CS)) (v2 : Int32) (v3 : Int32) (v4 : Int32) (S : CS) : Option (Int32 × CS) := (if (64 : Int32) ≤ v4 then some (v3, (cset S 7 1 ((S.1 7 1) + (1 : Int32)))) else ((f_X0_hint v4 v2).bind fun u4 => (if u4 = v3 then f_X0_giveHint_51 k17 v2 v3 v4 S else f_X0_giveHint_51 k17 v2 v3 v4 (csetL S (S.2 &&& (((1 : Int64) <<< (v4.toInt64 &&& 63)) ^^^ (-1 : Int64)))))))
def f_X0_giveHint_17 : Nat → Int32 → Int32 → Int32 → CS → Option (Int32 × CS)
  | 0, _, _, _, _ => none
  | n + 1, v2, v3, v4, S => f_X0_giveHint_17b  (f_X0_giveHint_17  n) v2 v3 v4 S
def f_X0_giveHint (a1 : Int32) (S : CS) : Option (Int32 × CS) := ((f_X0_hint (S.1 7 0) (f_X0_packed a1)).bind fun u1 => f_X0_giveHint_17 1000 (f_X0_packed a1) u1 (0 : Int32) S)
set_option maxRecDepth 100000 in
set_option maxHeartbeats 4000000 in
theorem w_X0_giveHint_51 {p : Program} {l : Launch} {e : Env} {s : State} {m : MethodId} {args : Array Value} {below : List Frame} {meth : Method} {c : Code} {D : va_G} {cc : Nat → ClassId} {N0 : Nat} {g : Nat → Nat} {E : va_W} {k17 : Int32 → Int32 → Int32 → CS → Option (Int32 × CS)} {v : (Int32 × CS)} (C : q_C p s m args meth c cX0_giveHint 5 (some .int) wsX0_giveHint RX0 D cc N0) (hk17 : ∀ (v2 : Int32) (v3 : Int32) (v4 : Int32) (S : CS), k17 v2 v3 v4 S = some v → q_WA p l e (q_rm 3 67 0 0) s m args below meth c D N0 5 (MQ below (q_Q D N0 (q_p (some (.int v.1)) (cw cc g v.2 ++ E))) args s 0 0 (q_A N0)) 0 0 (cw cc g S ++ E) 17 [(0, .ref (g 7)), (2, .int v2), (3, .int v3), (4, .int v4)] []) (v2 : Int32) (v3 : Int32) (v4 : Int32) (S : CS) (hf : f_X0_giveHint_51 k17 v2 v3 v4 S = some v) : q_WA p l e (q_rm 3 67 0 0) s m args below meth c D N0 5 (MQ below (q_Q D N0 (q_p (some (.int v.1)) (cw cc g v.2 ++ E))) args s 0 0 (q_A N0)) 0 0 (cw cc g S ++ E) 51 [(0, .ref (g 7)), (2, .int v2), (3, .int v3), (4, .int v4)] [] := by
  refine q_iinc (pc := 51) (lvq := [(4, .int (v4 + (1 : Int32))), (0, .ref (g 7)), (2, .int v2), (3, .int v3)]) C (v4 + (1 : Int32)) dX0_giveHint_51 3 rfl q_ca_1 (by decide) rfl ?_
  refine q_goto (pc := 54) (tgt := 17) C dX0_giveHint_54 (by decide) ?_
  refine q_sub (lvq := [(0, .ref (g 7)), (2, .int v2), (3, .int v3), (4, .int (v4 + (1 : Int32)))]) [1, 2, 3, 0] rfl ?_
  exact hk17 v2 v3 (v4 + (1 : Int32)) S hf
set_option maxRecDepth 100000 in
set_option maxHeartbeats 4000000 in
theorem w_X0_giveHint_17 {p : Program} {l : Launch} {e : Env} {s : State} {m : MethodId} {args : Array Value} {below : List Frame} {meth : Method} {c : Code} {D : va_G} {cc : Nat → ClassId} {N0 : Nat} {g : Nat → Nat} {E : va_W} {v : (Int32 × CS)} (C : q_C p s m args meth c cX0_giveHint 5 (some .int) wsX0_giveHint RX0 D cc N0)  : ∀ (n : Nat) (v2 : Int32) (v3 : Int32) (v4 : Int32) (S : CS), f_X0_giveHint_17  n v2 v3 v4 S = some v → q_WA p l e (q_rm 3 67 0 0) s m args below meth c D N0 5 (MQ below (q_Q D N0 (q_p (some (.int v.1)) (cw cc g v.2 ++ E))) args s 0 0 (q_A N0)) 0 0 (cw cc g S ++ E) 17 [(0, .ref (g 7)), (2, .int v2), (3, .int v3), (4, .int v4)] [] := by
  intro n
  induction n with
  | zero => intro v2 v3 v4 S hf; cases hf
  | succ n ih =>
    intro v2 v3 v4 S hf
    have hk17 : ∀ (v2 : Int32) (v3 : Int32) (v4 : Int32) (S : CS), f_X0_giveHint_17  n v2 v3 v4 S = some v → q_WA p l e (q_rm 3 67 0 0) s m args below meth c D N0 5 (MQ below (q_Q D N0 (q_p (some (.int v.1)) (cw cc g v.2 ++ E))) args s 0 0 (q_A N0)) 0 0 (cw cc g S ++ E) 17 [(0, .ref (g 7)), (2, .int v2), (3, .int v3), (4, .int v4)] [] := ih
    have hf : f_X0_giveHint_17b  (f_X0_giveHint_17  n) v2 v3 v4 S = some v := hf
    refine q_iload (pc := 17) C dX0_giveHint_17 3 rfl ?_
    refine q_bipush (pc := 19) C (64 : Int32) dX0_giveHint_19 q_cb_64 ?_
    refine q_icmp_ge (pc := 21) (tgt := 57) C dX0_giveHint_21 (by decide) (fun c3 => ?_) (fun c3 => ?_)
    · have hf := q_iteT hf c3
      refine q_aload_n (pc := 57) C dX0_giveHint_57 rfl 0 rfl ?_
      refine q_dup (pc := 58) C dX0_giveHint_58 rfl ?_
      refine r_g_7_1 (pc := 59) C n_X0_giveHint_X0 (List.mem_of_getElem? (i := 4) rfl) dX0_giveHint_59 ?_
      refine q_iconst (pc := 62) C (1 : Int32) dX0_giveHint_62 q_ci_1 ?_
      refine q_iadd (pc := 63) C dX0_giveHint_63 ?_
      refine r_p_7_1 (pc := 64) C n_X0_giveHint_X0 (List.mem_of_getElem? (i := 4) rfl) dX0_giveHint_64 ?_
      refine q_iload_n (pc := 67) C dX0_giveHint_67 rfl 2 rfl ?_
      obtain rfl := q_some hf
      exact q_iret (pc := 68) C dX0_giveHint_68 ⟨rfl, rfl⟩
    · have hf := q_iteF hf c3
      refine q_iload (pc := 24) C dX0_giveHint_24 3 rfl ?_
      refine q_iload_n (pc := 26) C dX0_giveHint_26 rfl 1 rfl ?_
      obtain ⟨u4, e5, hf⟩ := q_bind hf
      refine q_callS (pc := 27) (As := [.int v4, .int v2]) (rest := []) C (c_X0_hint l D cc N0 (cw cc g S ++ E) v4 v2 u4 e5) gX0_giveHint_X0_hint rfl z_X0_hint ⟨Nat.le_of_ble_eq_true rfl, Nat.le_of_ble_eq_true rfl⟩ rfl rfl (Nat.le_of_ble_eq_true rfl) dX0_giveHint_27 ⟨Nat.le_of_ble_eq_true rfl, Nat.le_of_ble_eq_true rfl⟩ ?_
      refine q_after (rv := (some (.int u4))) (w0 := (cw cc g S ++ E)) (st2 := [.int u4]) rfl rfl rfl ?_
      refine q_iload_n (pc := 30) C dX0_giveHint_30 rfl 2 rfl ?_
      refine q_icmp_eq (pc := 31) (tgt := 51) C dX0_giveHint_31 (by decide) (fun c6 => ?_) (fun c6 => ?_)
      · have hf := q_iteT hf c6
        refine q_sub (lvq := [(0, .ref (g 7)), (2, .int v2), (3, .int v3), (4, .int v4)]) [0, 1, 2, 3] rfl ?_
        exact w_X0_giveHint_51 C hk17 v2 v3 v4 S hf
      · have hf := q_iteF hf c6
        refine q_aload_n (pc := 34) C dX0_giveHint_34 rfl 0 rfl ?_
        refine q_dup (pc := 35) C dX0_giveHint_35 rfl ?_
        refine r_g_7_2 (pc := 36) C n_X0_giveHint_X0 (List.mem_of_getElem? (i := 2) rfl) dX0_giveHint_36 ?_
        refine q_lconst (pc := 39) C (1 : Int64) dX0_giveHint_39 q_cl_1 ?_
        refine q_iload (pc := 40) C dX0_giveHint_40 3 rfl ?_
        refine q_lshl (pc := 42) C dX0_giveHint_42 rfl ?_
        refine q_ldc2 (pc := 43) (v := (-1 : Int64)) C (List.mem_of_getElem? (i := 3) rfl) dX0_giveHint_43 ?_
        refine q_lxor (pc := 46) C dX0_giveHint_46 ?_
        refine q_land (pc := 47) C dX0_giveHint_47 ?_
        refine r_p_7_2 (pc := 48) C n_X0_giveHint_X0 (List.mem_of_getElem? (i := 2) rfl) dX0_giveHint_48 ?_
        refine q_sub (lvq := [(0, .ref (g 7)), (2, .int v2), (3, .int v3), (4, .int v4)]) [0, 1, 2, 3] rfl ?_
        exact w_X0_giveHint_51 C hk17 v2 v3 v4 (csetL S (S.2 &&& (((1 : Int64) <<< (v4.toInt64 &&& 63)) ^^^ (-1 : Int64)))) hf
set_option maxRecDepth 100000 in
set_option maxHeartbeats 4000000 in
theorem c_X0_giveHint (l : Launch) (D : va_G) (cc : Nat → ClassId) (N0 : Nat) (g : Nat → Nat) (E : va_W) (S : CS) (a1 : Int32) (v : (Int32 × CS)) (hf : f_X0_giveHint a1 S = some v) : q_Met l yX0_giveHint wsX0_giveHint 3 67 D cc N0 (cw cc g S ++ E) [.ref (g 7), .int a1] (q_p (some (.int v.1)) (cw cc g v.2 ++ E)) 0 0 := by
  refine q_ofW (code := cX0_giveHint) (nL := 5) (ret := (some .int)) (by decide +kernel) rfl (Nat.le_of_ble_eq_true rfl) (fun p e s m below meth c C _ => ?_)
  refine q_lv (lv2 := [(0, .ref (g 7)), (1, .int a1)]) rfl ?_
  refine q_iload_n (pc := 0) C dX0_giveHint_0 rfl 1 rfl ?_
  refine q_callS (pc := 1) (As := [.int a1]) (rest := []) C (c_X0_packed l D cc N0 (cw cc g S ++ E) a1 _ rfl) gX0_giveHint_X0_packed rfl z_X0_packed ⟨Nat.le_of_ble_eq_true rfl, Nat.le_of_ble_eq_true rfl⟩ rfl rfl (Nat.le_of_ble_eq_true rfl) dX0_giveHint_1 ⟨Nat.le_of_ble_eq_true rfl, Nat.le_of_ble_eq_true rfl⟩ ?_
  refine q_after (rv := (some (.int (f_X0_packed a1)))) (w0 := (cw cc g S ++ E)) (st2 := [.int (f_X0_packed a1)]) rfl rfl rfl ?_
  refine q_istore_n (pc := 4) (lvq := [(2, .int (f_X0_packed a1)), (0, .ref (g 7)), (1, .int a1)]) C dX0_giveHint_4 rfl (by decide) rfl ?_
  refine q_aload_n (pc := 5) C dX0_giveHint_5 rfl 1 rfl ?_
  refine r_g_7_0 (pc := 6) C n_X0_giveHint_X0 (List.mem_of_getElem? (i := 1) rfl) dX0_giveHint_6 ?_
  refine q_iload_n (pc := 9) C dX0_giveHint_9 rfl 0 rfl ?_
  obtain ⟨u1, e2, hf⟩ := q_bind hf
  refine q_callS (pc := 10) (As := [.int (S.1 7 0), .int (f_X0_packed a1)]) (rest := []) C (c_X0_hint l D cc N0 (cw cc g S ++ E) (S.1 7 0) (f_X0_packed a1) u1 e2) gX0_giveHint_X0_hint rfl z_X0_hint ⟨Nat.le_of_ble_eq_true rfl, Nat.le_of_ble_eq_true rfl⟩ rfl rfl (Nat.le_of_ble_eq_true rfl) dX0_giveHint_10 ⟨Nat.le_of_ble_eq_true rfl, Nat.le_of_ble_eq_true rfl⟩ ?_
  refine q_after (rv := (some (.int u1))) (w0 := (cw cc g S ++ E)) (st2 := [.int u1]) rfl rfl rfl ?_
  refine q_istore_n (pc := 13) (lvq := [(3, .int u1), (2, .int (f_X0_packed a1)), (0, .ref (g 7)), (1, .int a1)]) C dX0_giveHint_13 rfl (by decide) rfl ?_
  refine q_iconst (pc := 14) C (0 : Int32) dX0_giveHint_14 q_ci_0 ?_
  refine q_istore (pc := 15) (lvq := [(4, .int (0 : Int32)), (3, .int u1), (2, .int (f_X0_packed a1)), (0, .ref (g 7)), (1, .int a1)]) C dX0_giveHint_15 (by decide) rfl ?_
  refine q_sub (lvq := [(0, .ref (g 7)), (2, .int (f_X0_packed a1)), (3, .int u1), (4, .int (0 : Int32))]) [3, 2, 1, 0] rfl ?_
  exact w_X0_giveHint_17 C 1000 (f_X0_packed a1) u1 (0 : Int32) S hf
theorem z_X0_giveHint : q_dsc yX0_giveHint 1 := ⟨by decide +kernel, by decide +kernel, by decide +kernel⟩
theorem n_X2_startAnew_X2 : ∀ w ∈ wsX20, w ∈ wsX2_startAnew := fun _ h => (List.mem_cons_of_mem _ (List.mem_append_right _ h))
def f_X2_startAnew_12b (k12 : Int32 → Int32 → CS → Option CS) (v1 : Int32) (v2 : Int32) (S : CS) : Option CS := (if v1 ≤ v2 then some S else k12 v1 (v2 + (1 : Int32)) (cfun (cfun S 14 (q_pu 6 (S.1 14) v2 (1024 : Int32))) 15 (q_pu 6 ((cfun S 14 (q_pu 6 (S.1 14) v2 (1024 : Int32))).1 15) v2 (0 : Int32))))
def f_X2_startAnew_12 : Nat → Int32 → Int32 → CS → Option CS
  | 0, _, _, _ => none
  | n + 1, v1, v2, S => f_X2_startAnew_12b  (f_X2_startAnew_12  n) v1 v2 S
def f_X2_startAnew (a1 : Int32) (S : CS) : Option CS := f_X2_startAnew_12 1000 a1 (0 : Int32) (cset (cset S 4 2 a1) 4 3 (0 : Int32))
set_option maxRecDepth 100000 in
set_option maxHeartbeats 4000000 in
theorem w_X2_startAnew_12 {p : Program} {l : Launch} {e : Env} {s : State} {m : MethodId} {args : Array Value} {below : List Frame} {meth : Method} {c : Code} {D : va_G} {cc : Nat → ClassId} {N0 : Nat} {g : Nat → Nat} {E : va_W} {v : CS} (C : q_C p s m args meth c cX2_startAnew 3 none wsX2_startAnew RX2 D cc N0)  : ∀ (n : Nat) (v1 : Int32) (v2 : Int32) (S : CS), f_X2_startAnew_12  n v1 v2 S = some v → q_WA p l e (q_rm 1 22 0 0) s m args below meth c D N0 3 (MQ below (q_Q D N0 (q_p (none) (cw cc g v ++ E))) args s 0 0 (q_A N0)) 0 0 (cw cc g S ++ E) 12 [(0, .ref (g 4)), (1, .int v1), (2, .int v2)] [] := by
  intro n
  induction n with
  | zero => intro v1 v2 S hf; cases hf
  | succ n ih =>
    intro v1 v2 S hf
    have hk12 : ∀ (v1 : Int32) (v2 : Int32) (S : CS), f_X2_startAnew_12  n v1 v2 S = some v → q_WA p l e (q_rm 1 22 0 0) s m args below meth c D N0 3 (MQ below (q_Q D N0 (q_p (none) (cw cc g v ++ E))) args s 0 0 (q_A N0)) 0 0 (cw cc g S ++ E) 12 [(0, .ref (g 4)), (1, .int v1), (2, .int v2)] [] := ih
    have hf : f_X2_startAnew_12b  (f_X2_startAnew_12  n) v1 v2 S = some v := hf
    refine q_iload_n (pc := 12) C dX2_startAnew_12 rfl 2 rfl ?_
    refine q_iload_n (pc := 13) C dX2_startAnew_13 rfl 1 rfl ?_
    refine q_icmp_ge (pc := 14) (tgt := 43) C dX2_startAnew_14 (by decide) (fun c1 => ?_) (fun c1 => ?_)
    · have hf := q_iteT hf c1
      obtain rfl := q_some hf
      exact q_vret (pc := 43) C dX2_startAnew_43 ⟨rfl, rfl⟩
    · have hf := q_iteF hf c1
      refine q_aload_n (pc := 17) C dX2_startAnew_17 rfl 0 rfl ?_
      refine r_g_4_0 (pc := 18) C n_X2_startAnew_X2 (List.mem_of_getElem? (i := 3) rfl) dX2_startAnew_18 ?_
      refine q_iload_n (pc := 21) C dX2_startAnew_21 rfl 2 rfl ?_
      refine q_sipush (pc := 22) C (1024 : Int32) dX2_startAnew_22 q_cs_1024 ?_
      refine q_callSN (pc := 25) (host := "Queryschool") (As := [.ref (g 14), .int v2, .int (1024 : Int32)]) (rest := []) C (c_X8_put l D cc N0 (cw cc g S ++ E) 14 (g 14) 6 (S.1 14) (by decide) (cw_at_14 cc g E S) v2 (1024 : Int32)) gX2_startAnew_X8_put_n25 rfl (List.mem_of_getElem? (i := 20) rfl) (List.mem_of_getElem? (i := 6) rfl) (List.mem_of_getElem? (i := 5) rfl) z_X8_put ⟨Nat.le_of_ble_eq_true rfl, Nat.le_of_ble_eq_true rfl⟩ rfl rfl (Nat.le_of_ble_eq_true rfl) dX2_startAnew_25 ⟨Nat.le_of_ble_eq_true rfl, Nat.le_of_ble_eq_true rfl⟩ ?_
      refine q_after (rv := none) (w0 := (cw cc g (cfun S 14 (q_pu 6 (S.1 14) v2 (1024 : Int32))) ++ E)) (st2 := []) (cw_fun_14 cc g E _ _) rfl rfl ?_
      refine q_aload_n (pc := 28) C dX2_startAnew_28 rfl 0 rfl ?_
      refine r_g_4_1 (pc := 29) C n_X2_startAnew_X2 (List.mem_of_getElem? (i := 4) rfl) dX2_startAnew_29 ?_
      refine q_iload_n (pc := 32) C dX2_startAnew_32 rfl 2 rfl ?_
      refine q_iconst (pc := 33) C (0 : Int32) dX2_startAnew_33 q_ci_0 ?_
      refine q_callSN (pc := 34) (host := "Queryschool") (As := [.ref (g 15), .int v2, .int (0 : Int32)]) (rest := []) C (c_X8_put l D cc N0 (cw cc g (cfun S 14 (q_pu 6 (S.1 14) v2 (1024 : Int32))) ++ E) 15 (g 15) 6 ((cfun S 14 (q_pu 6 (S.1 14) v2 (1024 : Int32))).1 15) (by decide) (cw_at_15 cc g E (cfun S 14 (q_pu 6 (S.1 14) v2 (1024 : Int32)))) v2 (0 : Int32)) gX2_startAnew_X8_put_n25 rfl (List.mem_of_getElem? (i := 20) rfl) (List.mem_of_getElem? (i := 6) rfl) (List.mem_of_getElem? (i := 5) rfl) z_X8_put ⟨Nat.le_of_ble_eq_true rfl, Nat.le_of_ble_eq_true rfl⟩ rfl rfl (Nat.le_of_ble_eq_true rfl) dX2_startAnew_34 ⟨Nat.le_of_ble_eq_true rfl, Nat.le_of_ble_eq_true rfl⟩ ?_
      refine q_after (rv := none) (w0 := (cw cc g (cfun (cfun S 14 (q_pu 6 (S.1 14) v2 (1024 : Int32))) 15 (q_pu 6 ((cfun S 14 (q_pu 6 (S.1 14) v2 (1024 : Int32))).1 15) v2 (0 : Int32))) ++ E)) (st2 := []) (cw_fun_15 cc g E _ _) rfl rfl ?_
      refine q_iinc (pc := 37) (lvq := [(2, .int (v2 + (1 : Int32))), (0, .ref (g 4)), (1, .int v1)]) C (v2 + (1 : Int32)) dX2_startAnew_37 2 rfl q_ca_1 (by decide) rfl ?_
      refine q_goto (pc := 40) (tgt := 12) C dX2_startAnew_40 (by decide) ?_
      refine q_sub (lvq := [(0, .ref (g 4)), (1, .int v1), (2, .int (v2 + (1 : Int32)))]) [1, 2, 0] rfl ?_
      exact hk12 v1 (v2 + (1 : Int32)) (cfun (cfun S 14 (q_pu 6 (S.1 14) v2 (1024 : Int32))) 15 (q_pu 6 ((cfun S 14 (q_pu 6 (S.1 14) v2 (1024 : Int32))).1 15) v2 (0 : Int32))) hf
set_option maxRecDepth 100000 in
set_option maxHeartbeats 4000000 in
theorem c_X2_startAnew (l : Launch) (D : va_G) (cc : Nat → ClassId) (N0 : Nat) (g : Nat → Nat) (E : va_W) (S : CS) (a1 : Int32) (v : CS) (hf : f_X2_startAnew a1 S = some v) : q_Met l yX2_startAnew wsX2_startAnew 1 22 D cc N0 (cw cc g S ++ E) [.ref (g 4), .int a1] (q_p (none) (cw cc g v ++ E)) 0 0 := by
  refine q_ofW (code := cX2_startAnew) (nL := 3) (ret := none) (by decide +kernel) rfl (Nat.le_of_ble_eq_true rfl) (fun p e s m below meth c C _ => ?_)
  refine q_lv (lv2 := [(0, .ref (g 4)), (1, .int a1)]) rfl ?_
  refine q_aload_n (pc := 0) C dX2_startAnew_0 rfl 0 rfl ?_
  refine q_iload_n (pc := 1) C dX2_startAnew_1 rfl 1 rfl ?_
  refine r_p_4_2 (pc := 2) C n_X2_startAnew_X2 (List.mem_of_getElem? (i := 1) rfl) dX2_startAnew_2 ?_
  refine q_aload_n (pc := 5) C dX2_startAnew_5 rfl 0 rfl ?_
  refine q_iconst (pc := 6) C (0 : Int32) dX2_startAnew_6 q_ci_0 ?_
  refine r_p_4_3 (pc := 7) C n_X2_startAnew_X2 (List.mem_of_getElem? (i := 2) rfl) dX2_startAnew_7 ?_
  refine q_iconst (pc := 10) C (0 : Int32) dX2_startAnew_10 q_ci_0 ?_
  refine q_istore_n (pc := 11) (lvq := [(2, .int (0 : Int32)), (0, .ref (g 4)), (1, .int a1)]) C dX2_startAnew_11 rfl (by decide) rfl ?_
  refine q_sub (lvq := [(0, .ref (g 4)), (1, .int a1), (2, .int (0 : Int32))]) [1, 2, 0] rfl ?_
  exact w_X2_startAnew_12 C 1000 a1 (0 : Int32) (cset (cset S 4 2 a1) 4 3 (0 : Int32)) hf
theorem z_X2_startAnew : q_dsc yX2_startAnew 1 := ⟨by decide +kernel, by decide +kernel, by decide +kernel⟩
theorem n_X2_weightOf_X2 : ∀ w ∈ wsX20, w ∈ wsX2_weightOf := fun _ h => (List.mem_cons_of_mem _ (List.mem_append_right _ h))
def f_X2_weightOf (S : CS) (a1 : Int32) : Int32 := (q_at 6 (S.1 14) a1)
set_option maxRecDepth 100000 in
set_option maxHeartbeats 4000000 in
theorem c_X2_weightOf (l : Launch) (D : va_G) (cc : Nat → ClassId) (N0 : Nat) (g : Nat → Nat) (E : va_W) (S : CS) (a1 : Int32) (v : Int32) (hf : f_X2_weightOf S a1 = v) : q_Met l yX2_weightOf wsX2_weightOf 1 21 D cc N0 (cw cc g S ++ E) [.ref (g 4), .int a1] (q_p (some (.int v)) (cw cc g S ++ E)) 0 0 := by
  refine q_ofW (code := cX2_weightOf) (nL := 2) (ret := (some .int)) (by decide +kernel) rfl (Nat.le_of_ble_eq_true rfl) (fun p e s m below meth c C _ => ?_)
  refine q_lv (lv2 := [(0, .ref (g 4)), (1, .int a1)]) rfl ?_
  refine q_aload_n (pc := 0) C dX2_weightOf_0 rfl 0 rfl ?_
  refine r_g_4_0 (pc := 1) C n_X2_weightOf_X2 (List.mem_of_getElem? (i := 1) rfl) dX2_weightOf_1 ?_
  refine q_iload_n (pc := 4) C dX2_weightOf_4 rfl 1 rfl ?_
  refine q_callSN (pc := 5) (host := "Queryschool") (As := [.ref (g 14), .int a1]) (rest := []) C (c_X8_at l D cc N0 (cw cc g S ++ E) 14 (g 14) 6 (S.1 14) (by decide) (cw_at_14 cc g E S) a1) gX2_weightOf_X8_at_n29 rfl (List.mem_of_getElem? (i := 14) rfl) (List.mem_of_getElem? (i := 3) rfl) (List.mem_of_getElem? (i := 2) rfl) z_X8_at ⟨Nat.le_of_ble_eq_true rfl, Nat.le_of_ble_eq_true rfl⟩ rfl rfl (Nat.le_of_ble_eq_true rfl) dX2_weightOf_5 ⟨Nat.le_of_ble_eq_true rfl, Nat.le_of_ble_eq_true rfl⟩ ?_
  refine q_after (rv := (some (.int (q_at 6 (S.1 14) a1)))) (w0 := (cw cc g S ++ E)) (st2 := [.int (q_at 6 (S.1 14) a1)]) rfl rfl rfl ?_
  obtain rfl := hf
  exact q_iret (pc := 8) C dX2_weightOf_8 ⟨rfl, rfl⟩
theorem z_X2_weightOf : q_dsc yX2_weightOf 1 := ⟨by decide +kernel, by decide +kernel, by decide +kernel⟩
theorem n_X2_leastWrong_X2 : ∀ w ∈ wsX20, w ∈ wsX2_leastWrong := fun _ h => (List.mem_cons_of_mem _ (List.mem_append_right _ h))
def f_X2_leastWrong_11b (S : CS) (k11 : Int32 → Int32 → Option Int32) (v1 : Int32) (v2 : Int32) : Option Int32 := (if (S.1 4 2) ≤ v2 then some v1 else k11 (q_min v1 (q_at 6 (S.1 15) v2)) (v2 + (1 : Int32)))
def f_X2_leastWrong_11 (S : CS) : Nat → Int32 → Int32 → Option Int32
  | 0, _, _ => none
  | n + 1, v1, v2 => f_X2_leastWrong_11b S (f_X2_leastWrong_11 S n) v1 v2
def f_X2_leastWrong (S : CS) : Option Int32 := f_X2_leastWrong_11 S 1000 (q_at 6 (S.1 15) (0 : Int32)) (1 : Int32)
set_option maxRecDepth 100000 in
set_option maxHeartbeats 4000000 in
theorem w_X2_leastWrong_11 {p : Program} {l : Launch} {e : Env} {s : State} {m : MethodId} {args : Array Value} {below : List Frame} {meth : Method} {c : Code} {D : va_G} {cc : Nat → ClassId} {N0 : Nat} {g : Nat → Nat} {E : va_W} {S : CS} {v : Int32} (C : q_C p s m args meth c cX2_leastWrong 3 (some .int) wsX2_leastWrong RX2 D cc N0)  : ∀ (n : Nat) (v1 : Int32) (v2 : Int32), f_X2_leastWrong_11 S n v1 v2 = some v → q_WA p l e (q_rm 1 21 0 0) s m args below meth c D N0 3 (MQ below (q_Q D N0 (q_p (some (.int v)) (cw cc g S ++ E))) args s 0 0 (q_A N0)) 0 0 (cw cc g S ++ E) 11 [(0, .ref (g 4)), (1, .int v1), (2, .int v2)] [] := by
  intro n
  induction n with
  | zero => intro v1 v2 hf; cases hf
  | succ n ih =>
    intro v1 v2 hf
    have hk11 : ∀ (v1 : Int32) (v2 : Int32), f_X2_leastWrong_11 S n v1 v2 = some v → q_WA p l e (q_rm 1 21 0 0) s m args below meth c D N0 3 (MQ below (q_Q D N0 (q_p (some (.int v)) (cw cc g S ++ E))) args s 0 0 (q_A N0)) 0 0 (cw cc g S ++ E) 11 [(0, .ref (g 4)), (1, .int v1), (2, .int v2)] [] := ih
    have hf : f_X2_leastWrong_11b S (f_X2_leastWrong_11 S n) v1 v2 = some v := hf
    refine q_iload_n (pc := 11) C dX2_leastWrong_11 rfl 2 rfl ?_
    refine q_aload_n (pc := 12) C dX2_leastWrong_12 rfl 0 rfl ?_
    refine r_g_4_2 (pc := 13) C n_X2_leastWrong_X2 (List.mem_of_getElem? (i := 2) rfl) dX2_leastWrong_13 ?_
    refine q_icmp_ge (pc := 16) (tgt := 38) C dX2_leastWrong_16 (by decide) (fun c1 => ?_) (fun c1 => ?_)
    · have hf := q_iteT hf c1
      refine q_iload_n (pc := 38) C dX2_leastWrong_38 rfl 1 rfl ?_
      obtain rfl := q_some hf
      exact q_iret (pc := 39) C dX2_leastWrong_39 ⟨rfl, rfl⟩
    · have hf := q_iteF hf c1
      refine q_iload_n (pc := 19) C dX2_leastWrong_19 rfl 1 rfl ?_
      refine q_aload_n (pc := 20) C dX2_leastWrong_20 rfl 0 rfl ?_
      refine r_g_4_1 (pc := 21) C n_X2_leastWrong_X2 (List.mem_of_getElem? (i := 1) rfl) dX2_leastWrong_21 ?_
      refine q_iload_n (pc := 24) C dX2_leastWrong_24 rfl 2 rfl ?_
      refine q_callSN (pc := 25) (host := "Queryschool") (As := [.ref (g 15), .int v2]) (rest := [.int v1]) C (c_X8_at l D cc N0 (cw cc g S ++ E) 15 (g 15) 6 (S.1 15) (by decide) (cw_at_15 cc g E S) v2) gX2_leastWrong_X8_at_n29 rfl (List.mem_of_getElem? (i := 14) rfl) (List.mem_of_getElem? (i := 8) rfl) (List.mem_of_getElem? (i := 7) rfl) z_X8_at ⟨Nat.le_of_ble_eq_true rfl, Nat.le_of_ble_eq_true rfl⟩ rfl rfl (Nat.le_of_ble_eq_true rfl) dX2_leastWrong_25 ⟨Nat.le_of_ble_eq_true rfl, Nat.le_of_ble_eq_true rfl⟩ ?_
      refine q_after (rv := (some (.int (q_at 6 (S.1 15) v2)))) (w0 := (cw cc g S ++ E)) (st2 := [.int (q_at 6 (S.1 15) v2), .int v1]) rfl rfl rfl ?_
      refine q_mmin (pc := 28) C (List.mem_of_getElem? (i := 3) rfl) (List.mem_of_getElem? (i := 4) rfl) (List.mem_of_getElem? (i := 5) rfl) (List.mem_of_getElem? (i := 6) rfl) (Nat.le_of_ble_eq_true rfl) (Nat.le_of_ble_eq_true rfl) ⟨Nat.le_of_ble_eq_true rfl, Nat.le_of_ble_eq_true rfl⟩ dX2_leastWrong_28 ?_
      refine q_istore_n (pc := 31) (lvq := [(1, .int (q_min v1 (q_at 6 (S.1 15) v2))), (0, .ref (g 4)), (2, .int v2)]) C dX2_leastWrong_31 rfl (by decide) rfl ?_
      refine q_iinc (pc := 32) (lvq := [(2, .int (v2 + (1 : Int32))), (1, .int (q_min v1 (q_at 6 (S.1 15) v2))), (0, .ref (g 4))]) C (v2 + (1 : Int32)) dX2_leastWrong_32 2 rfl q_ca_1 (by decide) rfl ?_
      refine q_goto (pc := 35) (tgt := 11) C dX2_leastWrong_35 (by decide) ?_
      refine q_sub (lvq := [(0, .ref (g 4)), (1, .int (q_min v1 (q_at 6 (S.1 15) v2))), (2, .int (v2 + (1 : Int32)))]) [2, 1, 0] rfl ?_
      exact hk11 (q_min v1 (q_at 6 (S.1 15) v2)) (v2 + (1 : Int32)) hf
set_option maxRecDepth 100000 in
set_option maxHeartbeats 4000000 in
theorem c_X2_leastWrong (l : Launch) (D : va_G) (cc : Nat → ClassId) (N0 : Nat) (g : Nat → Nat) (E : va_W) (S : CS) (v : Int32) (hf : f_X2_leastWrong S = some v) : q_Met l yX2_leastWrong wsX2_leastWrong 1 21 D cc N0 (cw cc g S ++ E) [.ref (g 4)] (q_p (some (.int v)) (cw cc g S ++ E)) 0 0 := by
  refine q_ofW (code := cX2_leastWrong) (nL := 3) (ret := (some .int)) (by decide +kernel) rfl (Nat.le_of_ble_eq_true rfl) (fun p e s m below meth c C _ => ?_)
  refine q_lv (lv2 := [(0, .ref (g 4))]) rfl ?_
  refine q_aload_n (pc := 0) C dX2_leastWrong_0 rfl 0 rfl ?_
  refine r_g_4_1 (pc := 1) C n_X2_leastWrong_X2 (List.mem_of_getElem? (i := 1) rfl) dX2_leastWrong_1 ?_
  refine q_iconst (pc := 4) C (0 : Int32) dX2_leastWrong_4 q_ci_0 ?_
  refine q_callSN (pc := 5) (host := "Queryschool") (As := [.ref (g 15), .int (0 : Int32)]) (rest := []) C (c_X8_at l D cc N0 (cw cc g S ++ E) 15 (g 15) 6 (S.1 15) (by decide) (cw_at_15 cc g E S) (0 : Int32)) gX2_leastWrong_X8_at_n29 rfl (List.mem_of_getElem? (i := 14) rfl) (List.mem_of_getElem? (i := 8) rfl) (List.mem_of_getElem? (i := 7) rfl) z_X8_at ⟨Nat.le_of_ble_eq_true rfl, Nat.le_of_ble_eq_true rfl⟩ rfl rfl (Nat.le_of_ble_eq_true rfl) dX2_leastWrong_5 ⟨Nat.le_of_ble_eq_true rfl, Nat.le_of_ble_eq_true rfl⟩ ?_
  refine q_after (rv := (some (.int (q_at 6 (S.1 15) (0 : Int32))))) (w0 := (cw cc g S ++ E)) (st2 := [.int (q_at 6 (S.1 15) (0 : Int32))]) rfl rfl rfl ?_
  refine q_istore_n (pc := 8) (lvq := [(1, .int (q_at 6 (S.1 15) (0 : Int32))), (0, .ref (g 4))]) C dX2_leastWrong_8 rfl (by decide) rfl ?_
  refine q_iconst (pc := 9) C (1 : Int32) dX2_leastWrong_9 q_ci_1 ?_
  refine q_istore_n (pc := 10) (lvq := [(2, .int (1 : Int32)), (1, .int (q_at 6 (S.1 15) (0 : Int32))), (0, .ref (g 4))]) C dX2_leastWrong_10 rfl (by decide) rfl ?_
  refine q_sub (lvq := [(0, .ref (g 4)), (1, .int (q_at 6 (S.1 15) (0 : Int32))), (2, .int (1 : Int32))]) [2, 1, 0] rfl ?_
  exact w_X2_leastWrong_11 C 1000 (q_at 6 (S.1 15) (0 : Int32)) (1 : Int32) hf
theorem z_X2_leastWrong : q_dsc yX2_leastWrong 0 := ⟨by decide +kernel, by decide +kernel, by decide +kernel⟩
theorem n_X2_lead_X2 : ∀ w ∈ wsX20, w ∈ wsX2_lead := fun _ h => (List.mem_cons_of_mem _ (List.mem_append_right _ h))
def f_X2_lead_35 (S : CS) (k4 : Int32 → Int32 → Int32 → Option Int32) (v1 : Int32) (v3 : Int32) (t0 : Int32) (t1 : Int32) : Option Int32 := k4 v1 (t1 + t0) (v3 + (1 : Int32))
def f_X2_lead_4b (S : CS) (k4 : Int32 → Int32 → Int32 → Option Int32) (v1 : Int32) (v2 : Int32) (v3 : Int32) : Option Int32 := (if (S.1 4 2) ≤ v3 then some v2 else (if (q_b (f_X8_hasBit v1 v3)) = 0 then f_X2_lead_35 S k4 v1 v3 (-(f_X2_weightOf S v3)) v2 else f_X2_lead_35 S k4 v1 v3 (f_X2_weightOf S v3) v2))
def f_X2_lead_4 (S : CS) : Nat → Int32 → Int32 → Int32 → Option Int32
  | 0, _, _, _ => none
  | n + 1, v1, v2, v3 => f_X2_lead_4b S (f_X2_lead_4 S n) v1 v2 v3
def f_X2_lead (S : CS) (a1 : Int32) : Option Int32 := f_X2_lead_4 S 1000 a1 (0 : Int32) (0 : Int32)
set_option maxRecDepth 100000 in
set_option maxHeartbeats 4000000 in
theorem w_X2_lead_35 {p : Program} {l : Launch} {e : Env} {s : State} {m : MethodId} {args : Array Value} {below : List Frame} {meth : Method} {c : Code} {D : va_G} {cc : Nat → ClassId} {N0 : Nat} {g : Nat → Nat} {E : va_W} {S : CS} {k4 : Int32 → Int32 → Int32 → Option Int32} {v : Int32} (C : q_C p s m args meth c cX2_lead 4 (some .int) wsX2_lead RX2 D cc N0) (hk4 : ∀ (v1 : Int32) (v2 : Int32) (v3 : Int32), k4 v1 v2 v3 = some v → q_WA p l e (q_rm 2 42 0 0) s m args below meth c D N0 4 (MQ below (q_Q D N0 (q_p (some (.int v)) (cw cc g S ++ E))) args s 0 0 (q_A N0)) 0 0 (cw cc g S ++ E) 4 [(0, .ref (g 4)), (1, .int v1), (2, .int v2), (3, .int v3)] []) (v1 : Int32) (v3 : Int32) (t0 : Int32) (t1 : Int32) (hf : f_X2_lead_35 S k4 v1 v3 t0 t1 = some v) : q_WA p l e (q_rm 2 42 0 0) s m args below meth c D N0 4 (MQ below (q_Q D N0 (q_p (some (.int v)) (cw cc g S ++ E))) args s 0 0 (q_A N0)) 0 0 (cw cc g S ++ E) 35 [(0, .ref (g 4)), (1, .int v1), (3, .int v3)] [.int t0, .int t1] := by
  refine q_iadd (pc := 35) C dX2_lead_35 ?_
  refine q_istore_n (pc := 36) (lvq := [(2, .int (t1 + t0)), (0, .ref (g 4)), (1, .int v1), (3, .int v3)]) C dX2_lead_36 rfl (by decide) rfl ?_
  refine q_iinc (pc := 37) (lvq := [(3, .int (v3 + (1 : Int32))), (2, .int (t1 + t0)), (0, .ref (g 4)), (1, .int v1)]) C (v3 + (1 : Int32)) dX2_lead_37 3 rfl q_ca_1 (by decide) rfl ?_
  refine q_goto (pc := 40) (tgt := 4) C dX2_lead_40 (by decide) ?_
  refine q_sub (lvq := [(0, .ref (g 4)), (1, .int v1), (2, .int (t1 + t0)), (3, .int (v3 + (1 : Int32)))]) [2, 3, 1, 0] rfl ?_
  exact hk4 v1 (t1 + t0) (v3 + (1 : Int32)) hf
set_option maxRecDepth 100000 in
set_option maxHeartbeats 4000000 in
theorem w_X2_lead_4 {p : Program} {l : Launch} {e : Env} {s : State} {m : MethodId} {args : Array Value} {below : List Frame} {meth : Method} {c : Code} {D : va_G} {cc : Nat → ClassId} {N0 : Nat} {g : Nat → Nat} {E : va_W} {S : CS} {v : Int32} (C : q_C p s m args meth c cX2_lead 4 (some .int) wsX2_lead RX2 D cc N0)  : ∀ (n : Nat) (v1 : Int32) (v2 : Int32) (v3 : Int32), f_X2_lead_4 S n v1 v2 v3 = some v → q_WA p l e (q_rm 2 42 0 0) s m args below meth c D N0 4 (MQ below (q_Q D N0 (q_p (some (.int v)) (cw cc g S ++ E))) args s 0 0 (q_A N0)) 0 0 (cw cc g S ++ E) 4 [(0, .ref (g 4)), (1, .int v1), (2, .int v2), (3, .int v3)] [] := by
  intro n
  induction n with
  | zero => intro v1 v2 v3 hf; cases hf
  | succ n ih =>
    intro v1 v2 v3 hf
    have hk4 : ∀ (v1 : Int32) (v2 : Int32) (v3 : Int32), f_X2_lead_4 S n v1 v2 v3 = some v → q_WA p l e (q_rm 2 42 0 0) s m args below meth c D N0 4 (MQ below (q_Q D N0 (q_p (some (.int v)) (cw cc g S ++ E))) args s 0 0 (q_A N0)) 0 0 (cw cc g S ++ E) 4 [(0, .ref (g 4)), (1, .int v1), (2, .int v2), (3, .int v3)] [] := ih
    have hf : f_X2_lead_4b S (f_X2_lead_4 S n) v1 v2 v3 = some v := hf
    refine q_iload_n (pc := 4) C dX2_lead_4 rfl 3 rfl ?_
    refine q_aload_n (pc := 5) C dX2_lead_5 rfl 0 rfl ?_
    refine r_g_4_2 (pc := 6) C n_X2_lead_X2 (List.mem_of_getElem? (i := 1) rfl) dX2_lead_6 ?_
    refine q_icmp_ge (pc := 9) (tgt := 43) C dX2_lead_9 (by decide) (fun c1 => ?_) (fun c1 => ?_)
    · have hf := q_iteT hf c1
      refine q_iload_n (pc := 43) C dX2_lead_43 rfl 2 rfl ?_
      obtain rfl := q_some hf
      exact q_iret (pc := 44) C dX2_lead_44 ⟨rfl, rfl⟩
    · have hf := q_iteF hf c1
      refine q_iload_n (pc := 12) C dX2_lead_12 rfl 2 rfl ?_
      refine q_iload_n (pc := 13) C dX2_lead_13 rfl 1 rfl ?_
      refine q_iload_n (pc := 14) C dX2_lead_14 rfl 3 rfl ?_
      refine q_callSN (pc := 15) (host := "Queryschool") (As := [.int v1, .int v3]) (rest := [.int v2]) C (c_X8_hasBit l D cc N0 (cw cc g S ++ E) v1 v3 _ rfl) gX2_lead_X8_hasBit_n43 rfl (List.mem_of_getElem? (i := 21) rfl) (List.mem_of_getElem? (i := 3) rfl) (List.mem_of_getElem? (i := 2) rfl) z_X8_hasBit ⟨Nat.le_of_ble_eq_true rfl, Nat.le_of_ble_eq_true rfl⟩ rfl rfl (Nat.le_of_ble_eq_true rfl) dX2_lead_15 ⟨Nat.le_of_ble_eq_true rfl, Nat.le_of_ble_eq_true rfl⟩ ?_
      refine q_after (rv := (some (.int (q_b (f_X8_hasBit v1 v3))))) (w0 := (cw cc g S ++ E)) (st2 := [.int (q_b (f_X8_hasBit v1 v3)), .int v2]) rfl rfl rfl ?_
      refine q_if_eq (pc := 18) (tgt := 29) C dX2_lead_18 (by decide) (fun c2 => ?_) (fun c2 => ?_)
      · have hf := q_iteT hf c2
        refine q_aload_n (pc := 29) C dX2_lead_29 rfl 0 rfl ?_
        refine q_iload_n (pc := 30) C dX2_lead_30 rfl 3 rfl ?_
        refine q_callV (pc := 31) (As := [.int v3]) (rest := [.int v2]) C (c_X2_weightOf l D cc N0 g E S v3 _ rfl) gX2_lead_X2_weightOf rfl rfl z_X2_weightOf ⟨Nat.le_of_ble_eq_true rfl, Nat.le_of_ble_eq_true rfl⟩ (cw_at_4 cc g E _) rfl rfl rfl (Nat.le_of_ble_eq_true rfl) dX2_lead_31 ⟨Nat.le_of_ble_eq_true rfl, Nat.le_of_ble_eq_true rfl⟩ ?_
        refine q_after (rv := (some (.int (f_X2_weightOf S v3)))) (w0 := (cw cc g S ++ E)) (st2 := [.int (f_X2_weightOf S v3), .int v2]) rfl rfl rfl ?_
        refine q_ineg (pc := 34) C dX2_lead_34 ?_
        refine q_sub (lvq := [(0, .ref (g 4)), (1, .int v1), (3, .int v3)]) [0, 1, 3] rfl ?_
        exact w_X2_lead_35 C hk4 v1 v3 (-(f_X2_weightOf S v3)) v2 hf
      · have hf := q_iteF hf c2
        refine q_aload_n (pc := 21) C dX2_lead_21 rfl 0 rfl ?_
        refine q_iload_n (pc := 22) C dX2_lead_22 rfl 3 rfl ?_
        refine q_callV (pc := 23) (As := [.int v3]) (rest := [.int v2]) C (c_X2_weightOf l D cc N0 g E S v3 _ rfl) gX2_lead_X2_weightOf rfl rfl z_X2_weightOf ⟨Nat.le_of_ble_eq_true rfl, Nat.le_of_ble_eq_true rfl⟩ (cw_at_4 cc g E _) rfl rfl rfl (Nat.le_of_ble_eq_true rfl) dX2_lead_23 ⟨Nat.le_of_ble_eq_true rfl, Nat.le_of_ble_eq_true rfl⟩ ?_
        refine q_after (rv := (some (.int (f_X2_weightOf S v3)))) (w0 := (cw cc g S ++ E)) (st2 := [.int (f_X2_weightOf S v3), .int v2]) rfl rfl rfl ?_
        refine q_goto (pc := 26) (tgt := 35) C dX2_lead_26 (by decide) ?_
        refine q_sub (lvq := [(0, .ref (g 4)), (1, .int v1), (3, .int v3)]) [0, 1, 3] rfl ?_
        exact w_X2_lead_35 C hk4 v1 v3 (f_X2_weightOf S v3) v2 hf
set_option maxRecDepth 100000 in
set_option maxHeartbeats 4000000 in
theorem c_X2_lead (l : Launch) (D : va_G) (cc : Nat → ClassId) (N0 : Nat) (g : Nat → Nat) (E : va_W) (S : CS) (a1 : Int32) (v : Int32) (hf : f_X2_lead S a1 = some v) : q_Met l yX2_lead wsX2_lead 2 42 D cc N0 (cw cc g S ++ E) [.ref (g 4), .int a1] (q_p (some (.int v)) (cw cc g S ++ E)) 0 0 := by
  refine q_ofW (code := cX2_lead) (nL := 4) (ret := (some .int)) (by decide +kernel) rfl (Nat.le_of_ble_eq_true rfl) (fun p e s m below meth c C _ => ?_)
  refine q_lv (lv2 := [(0, .ref (g 4)), (1, .int a1)]) rfl ?_
  refine q_iconst (pc := 0) C (0 : Int32) dX2_lead_0 q_ci_0 ?_
  refine q_istore_n (pc := 1) (lvq := [(2, .int (0 : Int32)), (0, .ref (g 4)), (1, .int a1)]) C dX2_lead_1 rfl (by decide) rfl ?_
  refine q_iconst (pc := 2) C (0 : Int32) dX2_lead_2 q_ci_0 ?_
  refine q_istore_n (pc := 3) (lvq := [(3, .int (0 : Int32)), (2, .int (0 : Int32)), (0, .ref (g 4)), (1, .int a1)]) C dX2_lead_3 rfl (by decide) rfl ?_
  refine q_sub (lvq := [(0, .ref (g 4)), (1, .int a1), (2, .int (0 : Int32)), (3, .int (0 : Int32))]) [2, 3, 1, 0] rfl ?_
  exact w_X2_lead_4 C 1000 a1 (0 : Int32) (0 : Int32) hf
theorem z_X2_lead : q_dsc yX2_lead 1 := ⟨by decide +kernel, by decide +kernel, by decide +kernel⟩
theorem n_X2_hear_X2 : ∀ w ∈ wsX20, w ∈ wsX2_hear := fun _ h => (List.mem_cons_of_mem _ (List.mem_append_right _ h))
def f_X2_hear_92 (k32 : Int32 → Int32 → Int32 → Int32 → CS → Option (Bool × CS)) (v1 : Int32) (v2 : Int32) (v3 : Int32) (v4 : Int32) (S : CS) : Option (Bool × CS) := k32 v1 v2 v3 (v4 + (1 : Int32)) S
def f_X2_hear_32b (k32 : Int32 → Int32 → Int32 → Int32 → CS → Option (Bool × CS)) (v1 : Int32) (v2 : Int32) (v3 : Int32) (v4 : Int32) (S : CS) : Option (Bool × CS) := (if (S.1 4 2) ≤ v4 then (if v3 = 0 then some (false, S) else if v3 = 1 then some (true, S) else none) else (if (q_b (f_X8_hasBit v1 v4)) = v2 then f_X2_hear_92 k32 v1 v2 v3 v4 S else f_X2_hear_92 k32 v1 v2 v3 v4 (cfun (cfun S 14 (q_pu 6 (S.1 14) v4 (q_max (1 : Int32) ((f_X2_weightOf S v4) / (2 : Int32))))) 15 (q_pu 6 ((cfun S 14 (q_pu 6 (S.1 14) v4 (q_max (1 : Int32) ((f_X2_weightOf S v4) / (2 : Int32))))).1 15) v4 ((q_at 6 ((cfun S 14 (q_pu 6 (S.1 14) v4 (q_max (1 : Int32) ((f_X2_weightOf S v4) / (2 : Int32))))).1 15) v4) + (1 : Int32))))))
def f_X2_hear_32 : Nat → Int32 → Int32 → Int32 → Int32 → CS → Option (Bool × CS)
  | 0, _, _, _, _, _ => none
  | n + 1, v1, v2, v3, v4, S => f_X2_hear_32b  (f_X2_hear_32  n) v1 v2 v3 v4 S
def f_X2_hear_29 (v1 : Int32) (v2 : Int32) (v3 : Int32) (S : CS) : Option (Bool × CS) := f_X2_hear_32 1000 v1 v2 v3 (0 : Int32) S
def f_X2_hear_13 (v1 : Int32) (v2 : Int32) (t0 : Int32) (S : CS) : Option (Bool × CS) := (if t0 = v2 then f_X2_hear_29 v1 v2 t0 S else f_X2_hear_29 v1 v2 t0 (cset S 4 3 ((S.1 4 3) + (1 : Int32))))
def f_X2_hear (a1 : Int32) (a2 : Int32) (S : CS) : Option (Bool × CS) := ((f_X2_lead S a1).bind fun u1 => (if u1 < 0 then f_X2_hear_13 a1 a2 (0 : Int32) S else f_X2_hear_13 a1 a2 (1 : Int32) S))
set_option maxRecDepth 100000 in
set_option maxHeartbeats 4000000 in
theorem w_X2_hear_92 {p : Program} {l : Launch} {e : Env} {s : State} {m : MethodId} {args : Array Value} {below : List Frame} {meth : Method} {c : Code} {D : va_G} {cc : Nat → ClassId} {N0 : Nat} {g : Nat → Nat} {E : va_W} {k32 : Int32 → Int32 → Int32 → Int32 → CS → Option (Bool × CS)} {v : (Bool × CS)} (C : q_C p s m args meth c cX2_hear 5 (some .boolean) wsX2_hear RX2 D cc N0) (hk32 : ∀ (v1 : Int32) (v2 : Int32) (v3 : Int32) (v4 : Int32) (S : CS), k32 v1 v2 v3 v4 S = some v → q_WA p l e (q_rm 3 65 0 0) s m args below meth c D N0 5 (MQ below (q_Q D N0 (q_p (some (.int (q_b v.1))) (cw cc g v.2 ++ E))) args s 0 0 (q_A N0)) 0 0 (cw cc g S ++ E) 32 [(0, .ref (g 4)), (1, .int v1), (2, .int v2), (3, .int v3), (4, .int v4)] []) (v1 : Int32) (v2 : Int32) (v3 : Int32) (v4 : Int32) (S : CS) (hf : f_X2_hear_92 k32 v1 v2 v3 v4 S = some v) : q_WA p l e (q_rm 3 65 0 0) s m args below meth c D N0 5 (MQ below (q_Q D N0 (q_p (some (.int (q_b v.1))) (cw cc g v.2 ++ E))) args s 0 0 (q_A N0)) 0 0 (cw cc g S ++ E) 92 [(0, .ref (g 4)), (1, .int v1), (2, .int v2), (3, .int v3), (4, .int v4)] [] := by
  refine q_iinc (pc := 92) (lvq := [(4, .int (v4 + (1 : Int32))), (0, .ref (g 4)), (1, .int v1), (2, .int v2), (3, .int v3)]) C (v4 + (1 : Int32)) dX2_hear_92 4 rfl q_ca_1 (by decide) rfl ?_
  refine q_goto (pc := 95) (tgt := 32) C dX2_hear_95 (by decide) ?_
  refine q_sub (lvq := [(0, .ref (g 4)), (1, .int v1), (2, .int v2), (3, .int v3), (4, .int (v4 + (1 : Int32)))]) [1, 2, 3, 4, 0] rfl ?_
  exact hk32 v1 v2 v3 (v4 + (1 : Int32)) S hf
set_option maxRecDepth 100000 in
set_option maxHeartbeats 4000000 in
theorem w_X2_hear_32 {p : Program} {l : Launch} {e : Env} {s : State} {m : MethodId} {args : Array Value} {below : List Frame} {meth : Method} {c : Code} {D : va_G} {cc : Nat → ClassId} {N0 : Nat} {g : Nat → Nat} {E : va_W} {v : (Bool × CS)} (C : q_C p s m args meth c cX2_hear 5 (some .boolean) wsX2_hear RX2 D cc N0)  : ∀ (n : Nat) (v1 : Int32) (v2 : Int32) (v3 : Int32) (v4 : Int32) (S : CS), f_X2_hear_32  n v1 v2 v3 v4 S = some v → q_WA p l e (q_rm 3 65 0 0) s m args below meth c D N0 5 (MQ below (q_Q D N0 (q_p (some (.int (q_b v.1))) (cw cc g v.2 ++ E))) args s 0 0 (q_A N0)) 0 0 (cw cc g S ++ E) 32 [(0, .ref (g 4)), (1, .int v1), (2, .int v2), (3, .int v3), (4, .int v4)] [] := by
  intro n
  induction n with
  | zero => intro v1 v2 v3 v4 S hf; cases hf
  | succ n ih =>
    intro v1 v2 v3 v4 S hf
    have hk32 : ∀ (v1 : Int32) (v2 : Int32) (v3 : Int32) (v4 : Int32) (S : CS), f_X2_hear_32  n v1 v2 v3 v4 S = some v → q_WA p l e (q_rm 3 65 0 0) s m args below meth c D N0 5 (MQ below (q_Q D N0 (q_p (some (.int (q_b v.1))) (cw cc g v.2 ++ E))) args s 0 0 (q_A N0)) 0 0 (cw cc g S ++ E) 32 [(0, .ref (g 4)), (1, .int v1), (2, .int v2), (3, .int v3), (4, .int v4)] [] := ih
    have hf : f_X2_hear_32b  (f_X2_hear_32  n) v1 v2 v3 v4 S = some v := hf
    refine q_iload (pc := 32) C dX2_hear_32 4 rfl ?_
    refine q_aload_n (pc := 34) C dX2_hear_34 rfl 0 rfl ?_
    refine r_g_4_2 (pc := 35) C n_X2_hear_X2 (List.mem_of_getElem? (i := 2) rfl) dX2_hear_35 ?_
    refine q_icmp_ge (pc := 38) (tgt := 98) C dX2_hear_38 (by decide) (fun c5 => ?_) (fun c5 => ?_)
    · have hf := q_iteT hf c5
      refine q_iload_n (pc := 98) C dX2_hear_98 rfl 3 rfl ?_
      have hz := q_z01 hf
      rcases hz with ⟨c6, hf⟩ | ⟨c6, hf⟩
      · obtain rfl := q_some hf
        rw [c6]
        exact q_zret (pc := 99) C (by decide +kernel) dX2_hear_99 ⟨rfl, rfl⟩
      · obtain rfl := q_some hf
        rw [c6]
        exact q_zret (pc := 99) C (by decide +kernel) dX2_hear_99 ⟨rfl, rfl⟩
    · have hf := q_iteF hf c5
      refine q_iload_n (pc := 41) C dX2_hear_41 rfl 1 rfl ?_
      refine q_iload (pc := 42) C dX2_hear_42 4 rfl ?_
      refine q_callSN (pc := 44) (host := "Queryschool") (As := [.int v1, .int v4]) (rest := []) C (c_X8_hasBit l D cc N0 (cw cc g S ++ E) v1 v4 _ rfl) gX2_hear_X8_hasBit_n43 rfl (List.mem_of_getElem? (i := 21) rfl) (List.mem_of_getElem? (i := 15) rfl) (List.mem_of_getElem? (i := 14) rfl) z_X8_hasBit ⟨Nat.le_of_ble_eq_true rfl, Nat.le_of_ble_eq_true rfl⟩ rfl rfl (Nat.le_of_ble_eq_true rfl) dX2_hear_44 ⟨Nat.le_of_ble_eq_true rfl, Nat.le_of_ble_eq_true rfl⟩ ?_
      refine q_after (rv := (some (.int (q_b (f_X8_hasBit v1 v4))))) (w0 := (cw cc g S ++ E)) (st2 := [.int (q_b (f_X8_hasBit v1 v4))]) rfl rfl rfl ?_
      refine q_iload_n (pc := 47) C dX2_hear_47 rfl 2 rfl ?_
      refine q_icmp_eq (pc := 48) (tgt := 92) C dX2_hear_48 (by decide) (fun c7 => ?_) (fun c7 => ?_)
      · have hf := q_iteT hf c7
        refine q_sub (lvq := [(0, .ref (g 4)), (1, .int v1), (2, .int v2), (3, .int v3), (4, .int v4)]) [0, 1, 2, 3, 4] rfl ?_
        exact w_X2_hear_92 C hk32 v1 v2 v3 v4 S hf
      · have hf := q_iteF hf c7
        refine q_aload_n (pc := 51) C dX2_hear_51 rfl 0 rfl ?_
        refine r_g_4_0 (pc := 52) C n_X2_hear_X2 (List.mem_of_getElem? (i := 3) rfl) dX2_hear_52 ?_
        refine q_iload (pc := 55) C dX2_hear_55 4 rfl ?_
        refine q_iconst (pc := 57) C (1 : Int32) dX2_hear_57 q_ci_1 ?_
        refine q_aload_n (pc := 58) C dX2_hear_58 rfl 0 rfl ?_
        refine q_iload (pc := 59) C dX2_hear_59 4 rfl ?_
        refine q_callV (pc := 61) (As := [.int v4]) (rest := [.int (1 : Int32), .int v4, .ref (g 14)]) C (c_X2_weightOf l D cc N0 g E S v4 _ rfl) gX2_hear_X2_weightOf rfl rfl z_X2_weightOf ⟨Nat.le_of_ble_eq_true rfl, Nat.le_of_ble_eq_true rfl⟩ (cw_at_4 cc g E _) rfl rfl rfl (Nat.le_of_ble_eq_true rfl) dX2_hear_61 ⟨Nat.le_of_ble_eq_true rfl, Nat.le_of_ble_eq_true rfl⟩ ?_
        refine q_after (rv := (some (.int (f_X2_weightOf S v4)))) (w0 := (cw cc g S ++ E)) (st2 := [.int (f_X2_weightOf S v4), .int (1 : Int32), .int v4, .ref (g 14)]) rfl rfl rfl ?_
        refine q_iconst (pc := 64) C (2 : Int32) dX2_hear_64 q_ci_2 ?_
        refine q_idiv (pc := 65) C dX2_hear_65 (by decide +kernel) ?_
        refine q_mmax (pc := 66) C (List.mem_of_getElem? (i := 4) rfl) (List.mem_of_getElem? (i := 5) rfl) (List.mem_of_getElem? (i := 6) rfl) (List.mem_of_getElem? (i := 7) rfl) (Nat.le_of_ble_eq_true rfl) (Nat.le_of_ble_eq_true rfl) ⟨Nat.le_of_ble_eq_true rfl, Nat.le_of_ble_eq_true rfl⟩ dX2_hear_66 ?_
        refine q_callSN (pc := 69) (host := "Queryschool") (As := [.ref (g 14), .int v4, .int (q_max (1 : Int32) ((f_X2_weightOf S v4) / (2 : Int32)))]) (rest := []) C (c_X8_put l D cc N0 (cw cc g S ++ E) 14 (g 14) 6 (S.1 14) (by decide) (cw_at_14 cc g E S) v4 (q_max (1 : Int32) ((f_X2_weightOf S v4) / (2 : Int32)))) gX2_hear_X8_put_n25 rfl (List.mem_of_getElem? (i := 20) rfl) (List.mem_of_getElem? (i := 15) rfl) (List.mem_of_getElem? (i := 23) rfl) z_X8_put ⟨Nat.le_of_ble_eq_true rfl, Nat.le_of_ble_eq_true rfl⟩ rfl rfl (Nat.le_of_ble_eq_true rfl) dX2_hear_69 ⟨Nat.le_of_ble_eq_true rfl, Nat.le_of_ble_eq_true rfl⟩ ?_
        refine q_after (rv := none) (w0 := (cw cc g (cfun S 14 (q_pu 6 (S.1 14) v4 (q_max (1 : Int32) ((f_X2_weightOf S v4) / (2 : Int32))))) ++ E)) (st2 := []) (cw_fun_14 cc g E _ _) rfl rfl ?_
        refine q_aload_n (pc := 72) C dX2_hear_72 rfl 0 rfl ?_
        refine r_g_4_1 (pc := 73) C n_X2_hear_X2 (List.mem_of_getElem? (i := 8) rfl) dX2_hear_73 ?_
        refine q_iload (pc := 76) C dX2_hear_76 4 rfl ?_
        refine q_aload_n (pc := 78) C dX2_hear_78 rfl 0 rfl ?_
        refine r_g_4_1 (pc := 79) C n_X2_hear_X2 (List.mem_of_getElem? (i := 8) rfl) dX2_hear_79 ?_
        refine q_iload (pc := 82) C dX2_hear_82 4 rfl ?_
        refine q_callSN (pc := 84) (host := "Queryschool") (As := [.ref (g 15), .int v4]) (rest := [.int v4, .ref (g 15)]) C (c_X8_at l D cc N0 (cw cc g (cfun S 14 (q_pu 6 (S.1 14) v4 (q_max (1 : Int32) ((f_X2_weightOf S v4) / (2 : Int32))))) ++ E) 15 (g 15) 6 ((cfun S 14 (q_pu 6 (S.1 14) v4 (q_max (1 : Int32) ((f_X2_weightOf S v4) / (2 : Int32))))).1 15) (by decide) (cw_at_15 cc g E (cfun S 14 (q_pu 6 (S.1 14) v4 (q_max (1 : Int32) ((f_X2_weightOf S v4) / (2 : Int32)))))) v4) gX2_hear_X8_at_n29 rfl (List.mem_of_getElem? (i := 14) rfl) (List.mem_of_getElem? (i := 15) rfl) (List.mem_of_getElem? (i := 21) rfl) z_X8_at ⟨Nat.le_of_ble_eq_true rfl, Nat.le_of_ble_eq_true rfl⟩ rfl rfl (Nat.le_of_ble_eq_true rfl) dX2_hear_84 ⟨Nat.le_of_ble_eq_true rfl, Nat.le_of_ble_eq_true rfl⟩ ?_
        refine q_after (rv := (some (.int (q_at 6 ((cfun S 14 (q_pu 6 (S.1 14) v4 (q_max (1 : Int32) ((f_X2_weightOf S v4) / (2 : Int32))))).1 15) v4)))) (w0 := (cw cc g (cfun S 14 (q_pu 6 (S.1 14) v4 (q_max (1 : Int32) ((f_X2_weightOf S v4) / (2 : Int32))))) ++ E)) (st2 := [.int (q_at 6 ((cfun S 14 (q_pu 6 (S.1 14) v4 (q_max (1 : Int32) ((f_X2_weightOf S v4) / (2 : Int32))))).1 15) v4), .int v4, .ref (g 15)]) rfl rfl rfl ?_
        refine q_iconst (pc := 87) C (1 : Int32) dX2_hear_87 q_ci_1 ?_
        refine q_iadd (pc := 88) C dX2_hear_88 ?_
        refine q_callSN (pc := 89) (host := "Queryschool") (As := [.ref (g 15), .int v4, .int ((q_at 6 ((cfun S 14 (q_pu 6 (S.1 14) v4 (q_max (1 : Int32) ((f_X2_weightOf S v4) / (2 : Int32))))).1 15) v4) + (1 : Int32))]) (rest := []) C (c_X8_put l D cc N0 (cw cc g (cfun S 14 (q_pu 6 (S.1 14) v4 (q_max (1 : Int32) ((f_X2_weightOf S v4) / (2 : Int32))))) ++ E) 15 (g 15) 6 ((cfun S 14 (q_pu 6 (S.1 14) v4 (q_max (1 : Int32) ((f_X2_weightOf S v4) / (2 : Int32))))).1 15) (by decide) (cw_at_15 cc g E (cfun S 14 (q_pu 6 (S.1 14) v4 (q_max (1 : Int32) ((f_X2_weightOf S v4) / (2 : Int32)))))) v4 ((q_at 6 ((cfun S 14 (q_pu 6 (S.1 14) v4 (q_max (1 : Int32) ((f_X2_weightOf S v4) / (2 : Int32))))).1 15) v4) + (1 : Int32))) gX2_hear_X8_put_n25 rfl (List.mem_of_getElem? (i := 20) rfl) (List.mem_of_getElem? (i := 15) rfl) (List.mem_of_getElem? (i := 23) rfl) z_X8_put ⟨Nat.le_of_ble_eq_true rfl, Nat.le_of_ble_eq_true rfl⟩ rfl rfl (Nat.le_of_ble_eq_true rfl) dX2_hear_89 ⟨Nat.le_of_ble_eq_true rfl, Nat.le_of_ble_eq_true rfl⟩ ?_
        refine q_after (rv := none) (w0 := (cw cc g (cfun (cfun S 14 (q_pu 6 (S.1 14) v4 (q_max (1 : Int32) ((f_X2_weightOf S v4) / (2 : Int32))))) 15 (q_pu 6 ((cfun S 14 (q_pu 6 (S.1 14) v4 (q_max (1 : Int32) ((f_X2_weightOf S v4) / (2 : Int32))))).1 15) v4 ((q_at 6 ((cfun S 14 (q_pu 6 (S.1 14) v4 (q_max (1 : Int32) ((f_X2_weightOf S v4) / (2 : Int32))))).1 15) v4) + (1 : Int32)))) ++ E)) (st2 := []) (cw_fun_15 cc g E _ _) rfl rfl ?_
        refine q_sub (lvq := [(0, .ref (g 4)), (1, .int v1), (2, .int v2), (3, .int v3), (4, .int v4)]) [0, 1, 2, 3, 4] rfl ?_
        exact w_X2_hear_92 C hk32 v1 v2 v3 v4 (cfun (cfun S 14 (q_pu 6 (S.1 14) v4 (q_max (1 : Int32) ((f_X2_weightOf S v4) / (2 : Int32))))) 15 (q_pu 6 ((cfun S 14 (q_pu 6 (S.1 14) v4 (q_max (1 : Int32) ((f_X2_weightOf S v4) / (2 : Int32))))).1 15) v4 ((q_at 6 ((cfun S 14 (q_pu 6 (S.1 14) v4 (q_max (1 : Int32) ((f_X2_weightOf S v4) / (2 : Int32))))).1 15) v4) + (1 : Int32)))) hf
set_option maxRecDepth 100000 in
set_option maxHeartbeats 4000000 in
theorem w_X2_hear_29 {p : Program} {l : Launch} {e : Env} {s : State} {m : MethodId} {args : Array Value} {below : List Frame} {meth : Method} {c : Code} {D : va_G} {cc : Nat → ClassId} {N0 : Nat} {g : Nat → Nat} {E : va_W} {v : (Bool × CS)} (C : q_C p s m args meth c cX2_hear 5 (some .boolean) wsX2_hear RX2 D cc N0)  (v1 : Int32) (v2 : Int32) (v3 : Int32) (S : CS) (hf : f_X2_hear_29  v1 v2 v3 S = some v) : q_WA p l e (q_rm 3 65 0 0) s m args below meth c D N0 5 (MQ below (q_Q D N0 (q_p (some (.int (q_b v.1))) (cw cc g v.2 ++ E))) args s 0 0 (q_A N0)) 0 0 (cw cc g S ++ E) 29 [(0, .ref (g 4)), (1, .int v1), (2, .int v2), (3, .int v3)] [] := by
  refine q_iconst (pc := 29) C (0 : Int32) dX2_hear_29 q_ci_0 ?_
  refine q_istore (pc := 30) (lvq := [(4, .int (0 : Int32)), (0, .ref (g 4)), (1, .int v1), (2, .int v2), (3, .int v3)]) C dX2_hear_30 (by decide) rfl ?_
  refine q_sub (lvq := [(0, .ref (g 4)), (1, .int v1), (2, .int v2), (3, .int v3), (4, .int (0 : Int32))]) [1, 2, 3, 4, 0] rfl ?_
  exact w_X2_hear_32 C 1000 v1 v2 v3 (0 : Int32) S hf
set_option maxRecDepth 100000 in
set_option maxHeartbeats 4000000 in
theorem w_X2_hear_13 {p : Program} {l : Launch} {e : Env} {s : State} {m : MethodId} {args : Array Value} {below : List Frame} {meth : Method} {c : Code} {D : va_G} {cc : Nat → ClassId} {N0 : Nat} {g : Nat → Nat} {E : va_W} {v : (Bool × CS)} (C : q_C p s m args meth c cX2_hear 5 (some .boolean) wsX2_hear RX2 D cc N0)  (v1 : Int32) (v2 : Int32) (t0 : Int32) (S : CS) (hf : f_X2_hear_13  v1 v2 t0 S = some v) : q_WA p l e (q_rm 3 65 0 0) s m args below meth c D N0 5 (MQ below (q_Q D N0 (q_p (some (.int (q_b v.1))) (cw cc g v.2 ++ E))) args s 0 0 (q_A N0)) 0 0 (cw cc g S ++ E) 13 [(0, .ref (g 4)), (1, .int v1), (2, .int v2)] [.int t0] := by
  refine q_istore_n (pc := 13) (lvq := [(3, .int t0), (0, .ref (g 4)), (1, .int v1), (2, .int v2)]) C dX2_hear_13 rfl (by decide) rfl ?_
  refine q_iload_n (pc := 14) C dX2_hear_14 rfl 0 rfl ?_
  refine q_iload_n (pc := 15) C dX2_hear_15 rfl 3 rfl ?_
  refine q_icmp_eq (pc := 16) (tgt := 29) C dX2_hear_16 (by decide) (fun c4 => ?_) (fun c4 => ?_)
  · have hf := q_iteT hf c4
    refine q_sub (lvq := [(0, .ref (g 4)), (1, .int v1), (2, .int v2), (3, .int t0)]) [1, 2, 3, 0] rfl ?_
    exact w_X2_hear_29 C v1 v2 t0 S hf
  · have hf := q_iteF hf c4
    refine q_aload_n (pc := 19) C dX2_hear_19 rfl 1 rfl ?_
    refine q_dup (pc := 20) C dX2_hear_20 rfl ?_
    refine r_g_4_3 (pc := 21) C n_X2_hear_X2 (List.mem_of_getElem? (i := 1) rfl) dX2_hear_21 ?_
    refine q_iconst (pc := 24) C (1 : Int32) dX2_hear_24 q_ci_1 ?_
    refine q_iadd (pc := 25) C dX2_hear_25 ?_
    refine r_p_4_3 (pc := 26) C n_X2_hear_X2 (List.mem_of_getElem? (i := 1) rfl) dX2_hear_26 ?_
    refine q_sub (lvq := [(0, .ref (g 4)), (1, .int v1), (2, .int v2), (3, .int t0)]) [1, 2, 3, 0] rfl ?_
    exact w_X2_hear_29 C v1 v2 t0 (cset S 4 3 ((S.1 4 3) + (1 : Int32))) hf
set_option maxRecDepth 100000 in
set_option maxHeartbeats 4000000 in
theorem c_X2_hear (l : Launch) (D : va_G) (cc : Nat → ClassId) (N0 : Nat) (g : Nat → Nat) (E : va_W) (S : CS) (a1 : Int32) (a2 : Int32) (v : (Bool × CS)) (hf : f_X2_hear a1 a2 S = some v) : q_Met l yX2_hear wsX2_hear 3 65 D cc N0 (cw cc g S ++ E) [.ref (g 4), .int a1, .int a2] (q_p (some (.int (q_b v.1))) (cw cc g v.2 ++ E)) 0 0 := by
  refine q_ofW (code := cX2_hear) (nL := 5) (ret := (some .boolean)) (by decide +kernel) rfl (Nat.le_of_ble_eq_true rfl) (fun p e s m below meth c C _ => ?_)
  refine q_lv (lv2 := [(0, .ref (g 4)), (1, .int a1), (2, .int a2)]) rfl ?_
  refine q_aload_n (pc := 0) C dX2_hear_0 rfl 0 rfl ?_
  refine q_iload_n (pc := 1) C dX2_hear_1 rfl 1 rfl ?_
  obtain ⟨u1, e2, hf⟩ := q_bind hf
  refine q_callV (pc := 2) (As := [.int a1]) (rest := []) C (c_X2_lead l D cc N0 g E S a1 u1 e2) gX2_hear_X2_lead rfl rfl z_X2_lead ⟨Nat.le_of_ble_eq_true rfl, Nat.le_of_ble_eq_true rfl⟩ (cw_at_4 cc g E _) rfl rfl rfl (Nat.le_of_ble_eq_true rfl) dX2_hear_2 ⟨Nat.le_of_ble_eq_true rfl, Nat.le_of_ble_eq_true rfl⟩ ?_
  refine q_after (rv := (some (.int u1))) (w0 := (cw cc g S ++ E)) (st2 := [.int u1]) rfl rfl rfl ?_
  refine q_if_lt (pc := 5) (tgt := 12) C dX2_hear_5 (by decide) (fun c3 => ?_) (fun c3 => ?_)
  · have hf := q_iteT hf c3
    refine q_iconst (pc := 12) C (0 : Int32) dX2_hear_12 q_ci_0 ?_
    refine q_sub (lvq := [(0, .ref (g 4)), (1, .int a1), (2, .int a2)]) [0, 1, 2] rfl ?_
    exact w_X2_hear_13 C a1 a2 (0 : Int32) S hf
  · have hf := q_iteF hf c3
    refine q_iconst (pc := 8) C (1 : Int32) dX2_hear_8 q_ci_1 ?_
    refine q_goto (pc := 9) (tgt := 13) C dX2_hear_9 (by decide) ?_
    refine q_sub (lvq := [(0, .ref (g 4)), (1, .int a1), (2, .int a2)]) [0, 1, 2] rfl ?_
    exact w_X2_hear_13 C a1 a2 (1 : Int32) S hf
theorem z_X2_hear : q_dsc yX2_hear 2 := ⟨by decide +kernel, by decide +kernel, by decide +kernel⟩
theorem n_X3_isState_X3 : ∀ w ∈ wsX30, w ∈ wsX3_isState := fun _ h => (List.mem_cons_of_mem _ (List.mem_append_right _ h))
def f_X3_isState (S : CS) (a1 : Int32) : Bool := (if a1 < 0 then false else (if (S.1 5 2) ≤ a1 then false else true))
set_option maxRecDepth 100000 in
set_option maxHeartbeats 4000000 in
theorem c_X3_isState (l : Launch) (D : va_G) (cc : Nat → ClassId) (N0 : Nat) (g : Nat → Nat) (E : va_W) (S : CS) (a1 : Int32) (v : Bool) (hf : f_X3_isState S a1 = v) : q_Met l yX3_isState wsX3_isState 0 0 D cc N0 (cw cc g S ++ E) [.ref (g 5), .int a1] (q_p (some (.int (q_b v))) (cw cc g S ++ E)) 0 0 := by
  refine q_ofW (code := cX3_isState) (nL := 2) (ret := (some .boolean)) (by decide +kernel) rfl (Nat.le_of_ble_eq_true rfl) (fun p e s m below meth c C _ => ?_)
  refine q_lv (lv2 := [(0, .ref (g 5)), (1, .int a1)]) rfl ?_
  refine q_iload_n (pc := 0) C dX3_isState_0 rfl 1 rfl ?_
  refine q_if_lt (pc := 1) (tgt := 16) C dX3_isState_1 (by decide) (fun c1 => ?_) (fun c1 => ?_)
  · have hf := q_iteT hf c1
    refine q_iconst (pc := 16) C (0 : Int32) dX3_isState_16 q_ci_0 ?_
    obtain rfl := hf
    exact q_zret (pc := 17) C (by decide +kernel) dX3_isState_17 ⟨rfl, rfl⟩
  · have hf := q_iteF hf c1
    refine q_iload_n (pc := 4) C dX3_isState_4 rfl 1 rfl ?_
    refine q_aload_n (pc := 5) C dX3_isState_5 rfl 0 rfl ?_
    refine r_g_5_2 (pc := 6) C n_X3_isState_X3 (List.mem_of_getElem? (i := 1) rfl) dX3_isState_6 ?_
    refine q_icmp_ge (pc := 9) (tgt := 16) C dX3_isState_9 (by decide) (fun c2 => ?_) (fun c2 => ?_)
    · have hf := q_iteT hf c2
      refine q_iconst (pc := 16) C (0 : Int32) dX3_isState_16 q_ci_0 ?_
      obtain rfl := hf
      exact q_zret (pc := 17) C (by decide +kernel) dX3_isState_17 ⟨rfl, rfl⟩
    · have hf := q_iteF hf c2
      refine q_iconst (pc := 12) C (1 : Int32) dX3_isState_12 q_ci_1 ?_
      refine q_goto (pc := 13) (tgt := 17) C dX3_isState_13 (by decide) ?_
      obtain rfl := hf
      exact q_zret (pc := 17) C (by decide +kernel) dX3_isState_17 ⟨rfl, rfl⟩
theorem z_X3_isState : q_dsc yX3_isState 1 := ⟨by decide +kernel, by decide +kernel, by decide +kernel⟩
theorem n_X3_add_X3 : ∀ w ∈ wsX30, w ∈ wsX3_add := fun _ h => (List.mem_cons_of_mem _ (List.mem_append_right _ h))
def f_X3_add_45 (v2 : Int32) (S : CS) : (Int32 × CS) := (v2, (cset S 5 2 ((S.1 5 2) + (1 : Int32))))
def f_X3_add (a1 : Int32) (S : CS) : (Int32 × CS) := (if a1 = 0 then f_X3_add_45 (S.1 5 2) (cfun (cfun S 16 (q_pu 10 (S.1 16) ((2 : Int32) * (S.1 5 2)) (S.1 5 2))) 16 (q_pu 10 ((cfun S 16 (q_pu 10 (S.1 16) ((2 : Int32) * (S.1 5 2)) (S.1 5 2))).1 16) (((2 : Int32) * (S.1 5 2)) + (1 : Int32)) (S.1 5 2))) else f_X3_add_45 (S.1 5 2) (cset (cfun (cfun S 16 (q_pu 10 (S.1 16) ((2 : Int32) * (S.1 5 2)) (S.1 5 2))) 16 (q_pu 10 ((cfun S 16 (q_pu 10 (S.1 16) ((2 : Int32) * (S.1 5 2)) (S.1 5 2))).1 16) (((2 : Int32) * (S.1 5 2)) + (1 : Int32)) (S.1 5 2))) 5 1 (((cfun (cfun S 16 (q_pu 10 (S.1 16) ((2 : Int32) * (S.1 5 2)) (S.1 5 2))) 16 (q_pu 10 ((cfun S 16 (q_pu 10 (S.1 16) ((2 : Int32) * (S.1 5 2)) (S.1 5 2))).1 16) (((2 : Int32) * (S.1 5 2)) + (1 : Int32)) (S.1 5 2))).1 5 1) ||| ((1 : Int32) <<< ((S.1 5 2) &&& 31)))))
set_option maxRecDepth 100000 in
set_option maxHeartbeats 4000000 in
theorem w_X3_add_45 {p : Program} {l : Launch} {e : Env} {s : State} {m : MethodId} {args : Array Value} {below : List Frame} {meth : Method} {c : Code} {D : va_G} {cc : Nat → ClassId} {N0 : Nat} {g : Nat → Nat} {E : va_W} {v : (Int32 × CS)} (C : q_C p s m args meth c cX3_add 3 (some .int) wsX3_add RX3 D cc N0)  (v2 : Int32) (S : CS) (hf : f_X3_add_45  v2 S = v) : q_WA p l e (q_rm 1 22 0 0) s m args below meth c D N0 3 (MQ below (q_Q D N0 (q_p (some (.int v.1)) (cw cc g v.2 ++ E))) args s 0 0 (q_A N0)) 0 0 (cw cc g S ++ E) 45 [(0, .ref (g 5)), (2, .int v2)] [] := by
  refine q_aload_n (pc := 45) C dX3_add_45 rfl 0 rfl ?_
  refine q_dup (pc := 46) C dX3_add_46 rfl ?_
  refine r_g_5_2 (pc := 47) C n_X3_add_X3 (List.mem_of_getElem? (i := 1) rfl) dX3_add_47 ?_
  refine q_iconst (pc := 50) C (1 : Int32) dX3_add_50 q_ci_1 ?_
  refine q_iadd (pc := 51) C dX3_add_51 ?_
  refine r_p_5_2 (pc := 52) C n_X3_add_X3 (List.mem_of_getElem? (i := 1) rfl) dX3_add_52 ?_
  refine q_iload_n (pc := 55) C dX3_add_55 rfl 1 rfl ?_
  obtain rfl := hf
  exact q_iret (pc := 56) C dX3_add_56 ⟨rfl, rfl⟩
set_option maxRecDepth 100000 in
set_option maxHeartbeats 4000000 in
theorem c_X3_add (l : Launch) (D : va_G) (cc : Nat → ClassId) (N0 : Nat) (g : Nat → Nat) (E : va_W) (S : CS) (a1 : Int32) (v : (Int32 × CS)) (hf : f_X3_add a1 S = v) : q_Met l yX3_add wsX3_add 1 22 D cc N0 (cw cc g S ++ E) [.ref (g 5), .int a1] (q_p (some (.int v.1)) (cw cc g v.2 ++ E)) 0 0 := by
  refine q_ofW (code := cX3_add) (nL := 3) (ret := (some .int)) (by decide +kernel) rfl (Nat.le_of_ble_eq_true rfl) (fun p e s m below meth c C _ => ?_)
  refine q_lv (lv2 := [(0, .ref (g 5)), (1, .int a1)]) rfl ?_
  refine q_aload_n (pc := 0) C dX3_add_0 rfl 0 rfl ?_
  refine r_g_5_2 (pc := 1) C n_X3_add_X3 (List.mem_of_getElem? (i := 1) rfl) dX3_add_1 ?_
  refine q_istore_n (pc := 4) (lvq := [(2, .int (S.1 5 2)), (0, .ref (g 5)), (1, .int a1)]) C dX3_add_4 rfl (by decide) rfl ?_
  refine q_aload_n (pc := 5) C dX3_add_5 rfl 1 rfl ?_
  refine r_g_5_0 (pc := 6) C n_X3_add_X3 (List.mem_of_getElem? (i := 2) rfl) dX3_add_6 ?_
  refine q_iconst (pc := 9) C (2 : Int32) dX3_add_9 q_ci_2 ?_
  refine q_iload_n (pc := 10) C dX3_add_10 rfl 0 rfl ?_
  refine q_imul (pc := 11) C dX3_add_11 ?_
  refine q_iload_n (pc := 12) C dX3_add_12 rfl 0 rfl ?_
  refine q_callSN (pc := 13) (host := "Queryschool") (As := [.ref (g 16), .int ((2 : Int32) * (S.1 5 2)), .int (S.1 5 2)]) (rest := []) C (c_X8_put l D cc N0 (cw cc g S ++ E) 16 (g 16) 10 (S.1 16) (by decide) (cw_at_16 cc g E S) ((2 : Int32) * (S.1 5 2)) (S.1 5 2)) gX3_add_X8_put_n19 rfl (List.mem_of_getElem? (i := 22) rfl) (List.mem_of_getElem? (i := 5) rfl) (List.mem_of_getElem? (i := 4) rfl) z_X8_put ⟨Nat.le_of_ble_eq_true rfl, Nat.le_of_ble_eq_true rfl⟩ rfl rfl (Nat.le_of_ble_eq_true rfl) dX3_add_13 ⟨Nat.le_of_ble_eq_true rfl, Nat.le_of_ble_eq_true rfl⟩ ?_
  refine q_after (rv := none) (w0 := (cw cc g (cfun S 16 (q_pu 10 (S.1 16) ((2 : Int32) * (S.1 5 2)) (S.1 5 2))) ++ E)) (st2 := []) (cw_fun_16 cc g E _ _) rfl rfl ?_
  refine q_aload_n (pc := 16) C dX3_add_16 rfl 1 rfl ?_
  refine r_g_5_0 (pc := 17) C n_X3_add_X3 (List.mem_of_getElem? (i := 2) rfl) dX3_add_17 ?_
  refine q_iconst (pc := 20) C (2 : Int32) dX3_add_20 q_ci_2 ?_
  refine q_iload_n (pc := 21) C dX3_add_21 rfl 0 rfl ?_
  refine q_imul (pc := 22) C dX3_add_22 ?_
  refine q_iconst (pc := 23) C (1 : Int32) dX3_add_23 q_ci_1 ?_
  refine q_iadd (pc := 24) C dX3_add_24 ?_
  refine q_iload_n (pc := 25) C dX3_add_25 rfl 0 rfl ?_
  refine q_callSN (pc := 26) (host := "Queryschool") (As := [.ref (g 16), .int (((2 : Int32) * (S.1 5 2)) + (1 : Int32)), .int (S.1 5 2)]) (rest := []) C (c_X8_put l D cc N0 (cw cc g (cfun S 16 (q_pu 10 (S.1 16) ((2 : Int32) * (S.1 5 2)) (S.1 5 2))) ++ E) 16 (g 16) 10 ((cfun S 16 (q_pu 10 (S.1 16) ((2 : Int32) * (S.1 5 2)) (S.1 5 2))).1 16) (by decide) (cw_at_16 cc g E (cfun S 16 (q_pu 10 (S.1 16) ((2 : Int32) * (S.1 5 2)) (S.1 5 2)))) (((2 : Int32) * (S.1 5 2)) + (1 : Int32)) (S.1 5 2)) gX3_add_X8_put_n19 rfl (List.mem_of_getElem? (i := 22) rfl) (List.mem_of_getElem? (i := 5) rfl) (List.mem_of_getElem? (i := 4) rfl) z_X8_put ⟨Nat.le_of_ble_eq_true rfl, Nat.le_of_ble_eq_true rfl⟩ rfl rfl (Nat.le_of_ble_eq_true rfl) dX3_add_26 ⟨Nat.le_of_ble_eq_true rfl, Nat.le_of_ble_eq_true rfl⟩ ?_
  refine q_after (rv := none) (w0 := (cw cc g (cfun (cfun S 16 (q_pu 10 (S.1 16) ((2 : Int32) * (S.1 5 2)) (S.1 5 2))) 16 (q_pu 10 ((cfun S 16 (q_pu 10 (S.1 16) ((2 : Int32) * (S.1 5 2)) (S.1 5 2))).1 16) (((2 : Int32) * (S.1 5 2)) + (1 : Int32)) (S.1 5 2))) ++ E)) (st2 := []) (cw_fun_16 cc g E _ _) rfl rfl ?_
  refine q_iload_n (pc := 29) C dX3_add_29 rfl 2 rfl ?_
  refine q_if_eq (pc := 30) (tgt := 45) C dX3_add_30 (by decide) (fun c1 => ?_) (fun c1 => ?_)
  · have hf := q_iteT hf c1
    refine q_sub (lvq := [(0, .ref (g 5)), (2, .int (S.1 5 2))]) [1, 0] rfl ?_
    exact w_X3_add_45 C (S.1 5 2) (cfun (cfun S 16 (q_pu 10 (S.1 16) ((2 : Int32) * (S.1 5 2)) (S.1 5 2))) 16 (q_pu 10 ((cfun S 16 (q_pu 10 (S.1 16) ((2 : Int32) * (S.1 5 2)) (S.1 5 2))).1 16) (((2 : Int32) * (S.1 5 2)) + (1 : Int32)) (S.1 5 2))) hf
  · have hf := q_iteF hf c1
    refine q_aload_n (pc := 33) C dX3_add_33 rfl 1 rfl ?_
    refine q_dup (pc := 34) C dX3_add_34 rfl ?_
    refine r_g_5_1 (pc := 35) C n_X3_add_X3 (List.mem_of_getElem? (i := 3) rfl) dX3_add_35 ?_
    refine q_iconst (pc := 38) C (1 : Int32) dX3_add_38 q_ci_1 ?_
    refine q_iload_n (pc := 39) C dX3_add_39 rfl 0 rfl ?_
    refine q_ishl (pc := 40) C dX3_add_40 ?_
    refine q_ior (pc := 41) C dX3_add_41 ?_
    refine r_p_5_1 (pc := 42) C n_X3_add_X3 (List.mem_of_getElem? (i := 3) rfl) dX3_add_42 ?_
    refine q_sub (lvq := [(0, .ref (g 5)), (2, .int (S.1 5 2))]) [1, 0] rfl ?_
    exact w_X3_add_45 C (S.1 5 2) (cset (cfun (cfun S 16 (q_pu 10 (S.1 16) ((2 : Int32) * (S.1 5 2)) (S.1 5 2))) 16 (q_pu 10 ((cfun S 16 (q_pu 10 (S.1 16) ((2 : Int32) * (S.1 5 2)) (S.1 5 2))).1 16) (((2 : Int32) * (S.1 5 2)) + (1 : Int32)) (S.1 5 2))) 5 1 (((cfun (cfun S 16 (q_pu 10 (S.1 16) ((2 : Int32) * (S.1 5 2)) (S.1 5 2))) 16 (q_pu 10 ((cfun S 16 (q_pu 10 (S.1 16) ((2 : Int32) * (S.1 5 2)) (S.1 5 2))).1 16) (((2 : Int32) * (S.1 5 2)) + (1 : Int32)) (S.1 5 2))).1 5 1) ||| ((1 : Int32) <<< ((S.1 5 2) &&& 31)))) hf
theorem z_X3_add : q_dsc yX3_add 1 := ⟨by decide +kernel, by decide +kernel, by decide +kernel⟩
theorem n_X3_lead_X3 : ∀ w ∈ wsX30, w ∈ wsX3_lead := fun _ h => (List.mem_cons_of_mem _ (List.mem_append_right _ h))
def f_X3_lead (a1 : Int32) (a2 : Int32) (a3 : Int32) (S : CS) : (Int32 × CS) := ((q_at 10 (S.1 16) (((2 : Int32) * a1) + a2)), (cfun S 16 (q_pu 10 (S.1 16) (((2 : Int32) * a1) + a2) a3)))
set_option maxRecDepth 100000 in
set_option maxHeartbeats 4000000 in
theorem c_X3_lead (l : Launch) (D : va_G) (cc : Nat → ClassId) (N0 : Nat) (g : Nat → Nat) (E : va_W) (S : CS) (a1 : Int32) (a2 : Int32) (a3 : Int32) (v : (Int32 × CS)) (hf : f_X3_lead a1 a2 a3 S = v) : q_Met l yX3_lead wsX3_lead 1 22 D cc N0 (cw cc g S ++ E) [.ref (g 5), .int a1, .int a2, .int a3] (q_p (some (.int v.1)) (cw cc g v.2 ++ E)) 0 0 := by
  refine q_ofW (code := cX3_lead) (nL := 5) (ret := (some .int)) (by decide +kernel) rfl (Nat.le_of_ble_eq_true rfl) (fun p e s m below meth c C _ => ?_)
  refine q_lv (lv2 := [(0, .ref (g 5)), (1, .int a1), (2, .int a2), (3, .int a3)]) rfl ?_
  refine q_aload_n (pc := 0) C dX3_lead_0 rfl 0 rfl ?_
  refine r_g_5_0 (pc := 1) C n_X3_lead_X3 (List.mem_of_getElem? (i := 1) rfl) dX3_lead_1 ?_
  refine q_iconst (pc := 4) C (2 : Int32) dX3_lead_4 q_ci_2 ?_
  refine q_iload_n (pc := 5) C dX3_lead_5 rfl 1 rfl ?_
  refine q_imul (pc := 6) C dX3_lead_6 ?_
  refine q_iload_n (pc := 7) C dX3_lead_7 rfl 2 rfl ?_
  refine q_iadd (pc := 8) C dX3_lead_8 ?_
  refine q_callSN (pc := 9) (host := "Queryschool") (As := [.ref (g 16), .int (((2 : Int32) * a1) + a2)]) (rest := []) C (c_X8_at l D cc N0 (cw cc g S ++ E) 16 (g 16) 10 (S.1 16) (by decide) (cw_at_16 cc g E S) (((2 : Int32) * a1) + a2)) gX3_lead_X8_at_n26 rfl (List.mem_of_getElem? (i := 23) rfl) (List.mem_of_getElem? (i := 3) rfl) (List.mem_of_getElem? (i := 2) rfl) z_X8_at ⟨Nat.le_of_ble_eq_true rfl, Nat.le_of_ble_eq_true rfl⟩ rfl rfl (Nat.le_of_ble_eq_true rfl) dX3_lead_9 ⟨Nat.le_of_ble_eq_true rfl, Nat.le_of_ble_eq_true rfl⟩ ?_
  refine q_after (rv := (some (.int (q_at 10 (S.1 16) (((2 : Int32) * a1) + a2))))) (w0 := (cw cc g S ++ E)) (st2 := [.int (q_at 10 (S.1 16) (((2 : Int32) * a1) + a2))]) rfl rfl rfl ?_
  refine q_istore (pc := 12) (lvq := [(4, .int (q_at 10 (S.1 16) (((2 : Int32) * a1) + a2))), (0, .ref (g 5)), (1, .int a1), (2, .int a2), (3, .int a3)]) C dX3_lead_12 (by decide) rfl ?_
  refine q_aload_n (pc := 14) C dX3_lead_14 rfl 1 rfl ?_
  refine r_g_5_0 (pc := 15) C n_X3_lead_X3 (List.mem_of_getElem? (i := 1) rfl) dX3_lead_15 ?_
  refine q_iconst (pc := 18) C (2 : Int32) dX3_lead_18 q_ci_2 ?_
  refine q_iload_n (pc := 19) C dX3_lead_19 rfl 2 rfl ?_
  refine q_imul (pc := 20) C dX3_lead_20 ?_
  refine q_iload_n (pc := 21) C dX3_lead_21 rfl 3 rfl ?_
  refine q_iadd (pc := 22) C dX3_lead_22 ?_
  refine q_iload_n (pc := 23) C dX3_lead_23 rfl 4 rfl ?_
  refine q_callSN (pc := 24) (host := "Queryschool") (As := [.ref (g 16), .int (((2 : Int32) * a1) + a2), .int a3]) (rest := []) C (c_X8_put l D cc N0 (cw cc g S ++ E) 16 (g 16) 10 (S.1 16) (by decide) (cw_at_16 cc g E S) (((2 : Int32) * a1) + a2) a3) gX3_lead_X8_put_n19 rfl (List.mem_of_getElem? (i := 22) rfl) (List.mem_of_getElem? (i := 3) rfl) (List.mem_of_getElem? (i := 5) rfl) z_X8_put ⟨Nat.le_of_ble_eq_true rfl, Nat.le_of_ble_eq_true rfl⟩ rfl rfl (Nat.le_of_ble_eq_true rfl) dX3_lead_24 ⟨Nat.le_of_ble_eq_true rfl, Nat.le_of_ble_eq_true rfl⟩ ?_
  refine q_after (rv := none) (w0 := (cw cc g (cfun S 16 (q_pu 10 (S.1 16) (((2 : Int32) * a1) + a2) a3)) ++ E)) (st2 := []) (cw_fun_16 cc g E _ _) rfl rfl ?_
  refine q_iload (pc := 27) C dX3_lead_27 0 rfl ?_
  obtain rfl := hf
  exact q_iret (pc := 29) C dX3_lead_29 ⟨rfl, rfl⟩
theorem z_X3_lead : q_dsc yX3_lead 3 := ⟨by decide +kernel, by decide +kernel, by decide +kernel⟩
def f_X3_end_6b (xn : Nat) (xf : Nat → Int32) (k6 : Int32 → Int32 → Int32 → Int32 → Option Int32) (v2 : Int32) (v3 : Int32) (v4 : Int32) (v5 : Int32) : Option Int32 := (if v2 ≤ v5 then some v4 else k6 v2 v3 (q_at xn xf (((2 : Int32) * v4) + ((v3 >>> (v5 &&& 31)) &&& (1 : Int32)))) (v5 + (1 : Int32)))
def f_X3_end_6 (xn : Nat) (xf : Nat → Int32) : Nat → Int32 → Int32 → Int32 → Int32 → Option Int32
  | 0, _, _, _, _ => none
  | n + 1, v2, v3, v4, v5 => f_X3_end_6b xn xf (f_X3_end_6 xn xf n) v2 v3 v4 v5
def f_X3_end (xn : Nat) (xf : Nat → Int32) (a2 : Int32) (a3 : Int32) (a4 : Int32) : Option Int32 := f_X3_end_6 xn xf 1000 a3 a4 a2 (0 : Int32)
set_option maxRecDepth 100000 in
set_option maxHeartbeats 4000000 in
theorem w_X3_end_6 {p : Program} {l : Launch} {e : Env} {s : State} {m : MethodId} {args : Array Value} {below : List Frame} {meth : Method} {c : Code} {D : va_G} {cc : Nat → ClassId} {N0 : Nat} {ws : va_W} {xq xa xn : Nat} {xf : Nat → Int32} {v : Int32} (hxn : xn < 2 ^ 31) (hxa : ws[xq]? = some (xa, .inl (cc 0, xn, .inl xf))) (C : q_C p s m args meth c cX3_end 6 (some .int) wsX3_end RX3 D cc N0)  : ∀ (n : Nat) (v2 : Int32) (v3 : Int32) (v4 : Int32) (v5 : Int32), f_X3_end_6 xn xf n v2 v3 v4 v5 = some v → q_WA p l e (q_rm 1 21 0 0) s m args below meth c D N0 6 (MQ below (q_Q D N0 (q_p (some (.int v)) ws)) args s 0 0 (q_A N0)) 0 0 ws 6 [(0, .ref xa), (2, .int v2), (3, .int v3), (4, .int v4), (5, .int v5)] [] := by
  intro n
  induction n with
  | zero => intro v2 v3 v4 v5 hf; cases hf
  | succ n ih =>
    intro v2 v3 v4 v5 hf
    have hk6 : ∀ (v2 : Int32) (v3 : Int32) (v4 : Int32) (v5 : Int32), f_X3_end_6 xn xf n v2 v3 v4 v5 = some v → q_WA p l e (q_rm 1 21 0 0) s m args below meth c D N0 6 (MQ below (q_Q D N0 (q_p (some (.int v)) ws)) args s 0 0 (q_A N0)) 0 0 ws 6 [(0, .ref xa), (2, .int v2), (3, .int v3), (4, .int v4), (5, .int v5)] [] := ih
    have hf : f_X3_end_6b xn xf (f_X3_end_6 xn xf n) v2 v3 v4 v5 = some v := hf
    refine q_iload (pc := 6) C dX3_end_6 4 rfl ?_
    refine q_iload_n (pc := 8) C dX3_end_8 rfl 1 rfl ?_
    refine q_icmp_ge (pc := 9) (tgt := 35) C dX3_end_9 (by decide) (fun c1 => ?_) (fun c1 => ?_)
    · have hf := q_iteT hf c1
      refine q_iload (pc := 35) C dX3_end_35 3 rfl ?_
      obtain rfl := q_some hf
      exact q_iret (pc := 37) C dX3_end_37 ⟨rfl, rfl⟩
    · have hf := q_iteF hf c1
      refine q_aload_n (pc := 12) C dX3_end_12 rfl 0 rfl ?_
      refine q_iconst (pc := 13) C (2 : Int32) dX3_end_13 q_ci_2 ?_
      refine q_iload (pc := 14) C dX3_end_14 3 rfl ?_
      refine q_imul (pc := 16) C dX3_end_16 ?_
      refine q_iload_n (pc := 17) C dX3_end_17 rfl 2 rfl ?_
      refine q_iload (pc := 18) C dX3_end_18 4 rfl ?_
      refine q_ishr (pc := 20) C dX3_end_20 ?_
      refine q_iconst (pc := 21) C (1 : Int32) dX3_end_21 q_ci_1 ?_
      refine q_iand (pc := 22) C dX3_end_22 ?_
      refine q_iadd (pc := 23) C dX3_end_23 ?_
      refine q_callSN (pc := 24) (host := "Queryschool") (As := [.ref xa, .int (((2 : Int32) * v4) + ((v3 >>> (v5 &&& 31)) &&& (1 : Int32)))]) (rest := []) C (c_X8_at l D cc N0 ws xq xa xn xf hxn hxa (((2 : Int32) * v4) + ((v3 >>> (v5 &&& 31)) &&& (1 : Int32)))) gX3_end_X8_at_n26 rfl (List.mem_of_getElem? (i := 23) rfl) (List.mem_of_getElem? (i := 2) rfl) (List.mem_of_getElem? (i := 1) rfl) z_X8_at ⟨Nat.le_of_ble_eq_true rfl, Nat.le_of_ble_eq_true rfl⟩ rfl rfl (Nat.le_of_ble_eq_true rfl) dX3_end_24 ⟨Nat.le_of_ble_eq_true rfl, Nat.le_of_ble_eq_true rfl⟩ ?_
      refine q_after (rv := (some (.int (q_at xn xf (((2 : Int32) * v4) + ((v3 >>> (v5 &&& 31)) &&& (1 : Int32))))))) (w0 := ws) (st2 := [.int (q_at xn xf (((2 : Int32) * v4) + ((v3 >>> (v5 &&& 31)) &&& (1 : Int32))))]) rfl rfl rfl ?_
      refine q_istore (pc := 27) (lvq := [(4, .int (q_at xn xf (((2 : Int32) * v4) + ((v3 >>> (v5 &&& 31)) &&& (1 : Int32))))), (0, .ref xa), (2, .int v2), (3, .int v3), (5, .int v5)]) C dX3_end_27 (by decide) rfl ?_
      refine q_iinc (pc := 29) (lvq := [(5, .int (v5 + (1 : Int32))), (4, .int (q_at xn xf (((2 : Int32) * v4) + ((v3 >>> (v5 &&& 31)) &&& (1 : Int32))))), (0, .ref xa), (2, .int v2), (3, .int v3)]) C (v5 + (1 : Int32)) dX3_end_29 4 rfl q_ca_1 (by decide) rfl ?_
      refine q_goto (pc := 32) (tgt := 6) C dX3_end_32 (by decide) ?_
      refine q_sub (lvq := [(0, .ref xa), (2, .int v2), (3, .int v3), (4, .int (q_at xn xf (((2 : Int32) * v4) + ((v3 >>> (v5 &&& 31)) &&& (1 : Int32))))), (5, .int (v5 + (1 : Int32)))]) [2, 3, 4, 1, 0] rfl ?_
      exact hk6 v2 v3 (q_at xn xf (((2 : Int32) * v4) + ((v3 >>> (v5 &&& 31)) &&& (1 : Int32)))) (v5 + (1 : Int32)) hf
set_option maxRecDepth 100000 in
set_option maxHeartbeats 4000000 in
theorem c_X3_end (l : Launch) (D : va_G) (cc : Nat → ClassId) (N0 : Nat) (ws : va_W) (xq xa xn : Nat) (xf : Nat → Int32) (hxn : xn < 2 ^ 31) (hxa : ws[xq]? = some (xa, .inl (cc 0, xn, .inl xf))) (a2 : Int32) (a3 : Int32) (a4 : Int32) (v : Int32) (hf : f_X3_end xn xf a2 a3 a4 = some v) : q_Met l yX3_end wsX3_end 1 21 D cc N0 ws [.ref xa, .int a2, .int a3, .int a4] (q_p (some (.int v)) ws) 0 0 := by
  refine q_ofW (code := cX3_end) (nL := 6) (ret := (some .int)) (by decide +kernel) rfl (Nat.le_of_ble_eq_true rfl) (fun p e s m below meth c C _ => ?_)
  refine q_lv (lv2 := [(0, .ref xa), (1, .int a2), (2, .int a3), (3, .int a4)]) rfl ?_
  refine q_iload_n (pc := 0) C dX3_end_0 rfl 1 rfl ?_
  refine q_istore (pc := 1) (lvq := [(4, .int a2), (0, .ref xa), (1, .int a2), (2, .int a3), (3, .int a4)]) C dX3_end_1 (by decide) rfl ?_
  refine q_iconst (pc := 3) C (0 : Int32) dX3_end_3 q_ci_0 ?_
  refine q_istore (pc := 4) (lvq := [(5, .int (0 : Int32)), (4, .int a2), (0, .ref xa), (1, .int a2), (2, .int a3), (3, .int a4)]) C dX3_end_4 (by decide) rfl ?_
  refine q_sub (lvq := [(0, .ref xa), (2, .int a3), (3, .int a4), (4, .int a2), (5, .int (0 : Int32))]) [2, 4, 5, 1, 0] rfl ?_
  exact w_X3_end_6 hxn hxa C 1000 a3 a4 a2 (0 : Int32) hf
theorem z_X3_end : q_dsc yX3_end 4 := ⟨by decide +kernel, by decide +kernel, by decide +kernel⟩
theorem n_X3_endsWell_X3 : ∀ w ∈ wsX30, w ∈ wsX3_endsWell := fun _ h => (List.mem_cons_of_mem _ (List.mem_append_right _ h))
def f_X3_endsWell (S : CS) (a1 : Int32) (a2 : Int32) (a3 : Int32) : Option Bool := ((f_X3_end 10 (S.1 16) a1 a2 a3).bind fun u1 => some (f_X8_hasBit (S.1 5 1) u1))
set_option maxRecDepth 100000 in
set_option maxHeartbeats 4000000 in
theorem c_X3_endsWell (l : Launch) (D : va_G) (cc : Nat → ClassId) (N0 : Nat) (g : Nat → Nat) (E : va_W) (S : CS) (a1 : Int32) (a2 : Int32) (a3 : Int32) (v : Bool) (hf : f_X3_endsWell S a1 a2 a3 = some v) : q_Met l yX3_endsWell wsX3_endsWell 2 46 D cc N0 (cw cc g S ++ E) [.ref (g 5), .int a1, .int a2, .int a3] (q_p (some (.int (q_b v))) (cw cc g S ++ E)) 0 0 := by
  refine q_ofW (code := cX3_endsWell) (nL := 4) (ret := (some .boolean)) (by decide +kernel) rfl (Nat.le_of_ble_eq_true rfl) (fun p e s m below meth c C _ => ?_)
  refine q_lv (lv2 := [(0, .ref (g 5)), (1, .int a1), (2, .int a2), (3, .int a3)]) rfl ?_
  refine q_aload_n (pc := 0) C dX3_endsWell_0 rfl 0 rfl ?_
  refine r_g_5_1 (pc := 1) C n_X3_endsWell_X3 (List.mem_of_getElem? (i := 1) rfl) dX3_endsWell_1 ?_
  refine q_aload_n (pc := 4) C dX3_endsWell_4 rfl 0 rfl ?_
  refine r_g_5_0 (pc := 5) C n_X3_endsWell_X3 (List.mem_of_getElem? (i := 2) rfl) dX3_endsWell_5 ?_
  refine q_iload_n (pc := 8) C dX3_endsWell_8 rfl 1 rfl ?_
  refine q_iload_n (pc := 9) C dX3_endsWell_9 rfl 2 rfl ?_
  refine q_iload_n (pc := 10) C dX3_endsWell_10 rfl 3 rfl ?_
  obtain ⟨u1, e2, hf⟩ := q_bind hf
  refine q_callS (pc := 11) (As := [.ref (g 16), .int a1, .int a2, .int a3]) (rest := [.int (S.1 5 1)]) C (c_X3_end l D cc N0 (cw cc g S ++ E) 16 (g 16) 10 (S.1 16) (by decide) (cw_at_16 cc g E S) a1 a2 a3 u1 e2) gX3_endsWell_X3_end rfl z_X3_end ⟨Nat.le_of_ble_eq_true rfl, Nat.le_of_ble_eq_true rfl⟩ rfl rfl (Nat.le_of_ble_eq_true rfl) dX3_endsWell_11 ⟨Nat.le_of_ble_eq_true rfl, Nat.le_of_ble_eq_true rfl⟩ ?_
  refine q_after (rv := (some (.int u1))) (w0 := (cw cc g S ++ E)) (st2 := [.int u1, .int (S.1 5 1)]) rfl rfl rfl ?_
  refine q_callSN (pc := 14) (host := "Queryschool") (As := [.int (S.1 5 1), .int u1]) (rest := []) C (c_X8_hasBit l D cc N0 (cw cc g S ++ E) (S.1 5 1) u1 _ rfl) gX3_endsWell_X8_hasBit_n34 rfl (List.mem_of_getElem? (i := 24) rfl) (List.mem_of_getElem? (i := 8) rfl) (List.mem_of_getElem? (i := 10) rfl) z_X8_hasBit ⟨Nat.le_of_ble_eq_true rfl, Nat.le_of_ble_eq_true rfl⟩ rfl rfl (Nat.le_of_ble_eq_true rfl) dX3_endsWell_14 ⟨Nat.le_of_ble_eq_true rfl, Nat.le_of_ble_eq_true rfl⟩ ?_
  refine q_after (rv := (some (.int (q_b (f_X8_hasBit (S.1 5 1) u1))))) (w0 := (cw cc g S ++ E)) (st2 := [.int (q_b (f_X8_hasBit (S.1 5 1) u1))]) rfl rfl rfl ?_
  obtain rfl := q_some hf
  exact q_zret (pc := 17) C (q_b_nar _) dX3_endsWell_17 ⟨rfl, rfl⟩
theorem z_X3_endsWell : q_dsc yX3_endsWell 3 := ⟨by decide +kernel, by decide +kernel, by decide +kernel⟩
theorem n_X3_lengthApart_X3 : ∀ w ∈ wsX30, w ∈ wsX3_lengthApart := fun _ h => (List.mem_cons_of_mem _ (List.mem_append_right _ h))
def f_X3_lengthApart_13b (S : CS) (k2 : Int32 → Int32 → Int32 → Option Int32) (k13 : Int32 → Int32 → Int32 → Int32 → Option Int32) (v1 : Int32) (v2 : Int32) (v3 : Int32) (v4 : Int32) : Option Int32 := (if ((1 : Int32) <<< (v3 &&& 31)) ≤ v4 then k2 v1 v2 (v3 + (1 : Int32)) else ((f_X3_endsWell S v1 v3 v4).bind fun u3 => ((f_X3_endsWell S v2 v3 v4).bind fun u5 => (if (q_b u3) = (q_b u5) then k13 v1 v2 v3 (v4 + (1 : Int32)) else some v3))))
def f_X3_lengthApart_13 (S : CS) (k2 : Int32 → Int32 → Int32 → Option Int32) : Nat → Int32 → Int32 → Int32 → Int32 → Option Int32
  | 0, _, _, _, _ => none
  | n + 1, v1, v2, v3, v4 => f_X3_lengthApart_13b S k2 (f_X3_lengthApart_13 S k2 n) v1 v2 v3 v4
def f_X3_lengthApart_2b (S : CS) (k2 : Int32 → Int32 → Int32 → Option Int32) (v1 : Int32) (v2 : Int32) (v3 : Int32) : Option Int32 := (if (S.1 5 2) ≤ v3 then some (-1 : Int32) else f_X3_lengthApart_13 S k2 1000 v1 v2 v3 (0 : Int32))
def f_X3_lengthApart_2 (S : CS) : Nat → Int32 → Int32 → Int32 → Option Int32
  | 0, _, _, _ => none
  | n + 1, v1, v2, v3 => f_X3_lengthApart_2b S (f_X3_lengthApart_2 S n) v1 v2 v3
def f_X3_lengthApart (S : CS) (a1 : Int32) (a2 : Int32) : Option Int32 := f_X3_lengthApart_2 S 1000 a1 a2 (0 : Int32)
set_option maxRecDepth 100000 in
set_option maxHeartbeats 4000000 in
theorem w_X3_lengthApart_13 {p : Program} {l : Launch} {e : Env} {s : State} {m : MethodId} {args : Array Value} {below : List Frame} {meth : Method} {c : Code} {D : va_G} {cc : Nat → ClassId} {N0 : Nat} {g : Nat → Nat} {E : va_W} {S : CS} {k2 : Int32 → Int32 → Int32 → Option Int32} {v : Int32} (C : q_C p s m args meth c cX3_lengthApart 5 (some .int) wsX3_lengthApart RX3 D cc N0) (hk2 : ∀ (v1 : Int32) (v2 : Int32) (v3 : Int32), k2 v1 v2 v3 = some v → q_WA p l e (q_rm 3 69 0 0) s m args below meth c D N0 5 (MQ below (q_Q D N0 (q_p (some (.int v)) (cw cc g S ++ E))) args s 0 0 (q_A N0)) 0 0 (cw cc g S ++ E) 2 [(0, .ref (g 5)), (1, .int v1), (2, .int v2), (3, .int v3)] []) : ∀ (n : Nat) (v1 : Int32) (v2 : Int32) (v3 : Int32) (v4 : Int32), f_X3_lengthApart_13 S k2 n v1 v2 v3 v4 = some v → q_WA p l e (q_rm 3 69 0 0) s m args below meth c D N0 5 (MQ below (q_Q D N0 (q_p (some (.int v)) (cw cc g S ++ E))) args s 0 0 (q_A N0)) 0 0 (cw cc g S ++ E) 13 [(0, .ref (g 5)), (1, .int v1), (2, .int v2), (3, .int v3), (4, .int v4)] [] := by
  intro n
  induction n with
  | zero => intro v1 v2 v3 v4 hf; cases hf
  | succ n ih =>
    intro v1 v2 v3 v4 hf
    have hk13 : ∀ (v1 : Int32) (v2 : Int32) (v3 : Int32) (v4 : Int32), f_X3_lengthApart_13 S k2 n v1 v2 v3 v4 = some v → q_WA p l e (q_rm 3 69 0 0) s m args below meth c D N0 5 (MQ below (q_Q D N0 (q_p (some (.int v)) (cw cc g S ++ E))) args s 0 0 (q_A N0)) 0 0 (cw cc g S ++ E) 13 [(0, .ref (g 5)), (1, .int v1), (2, .int v2), (3, .int v3), (4, .int v4)] [] := ih
    have hf : f_X3_lengthApart_13b S k2 (f_X3_lengthApart_13 S k2 n) v1 v2 v3 v4 = some v := hf
    refine q_iload (pc := 13) C dX3_lengthApart_13 4 rfl ?_
    refine q_iconst (pc := 15) C (1 : Int32) dX3_lengthApart_15 q_ci_1 ?_
    refine q_iload_n (pc := 16) C dX3_lengthApart_16 rfl 3 rfl ?_
    refine q_ishl (pc := 17) C dX3_lengthApart_17 ?_
    refine q_icmp_ge (pc := 18) (tgt := 48) C dX3_lengthApart_18 (by decide) (fun c2 => ?_) (fun c2 => ?_)
    · have hf := q_iteT hf c2
      refine q_iinc (pc := 48) (lvq := [(3, .int (v3 + (1 : Int32))), (0, .ref (g 5)), (1, .int v1), (2, .int v2), (4, .int v4)]) C (v3 + (1 : Int32)) dX3_lengthApart_48 3 rfl q_ca_1 (by decide) rfl ?_
      refine q_goto (pc := 51) (tgt := 2) C dX3_lengthApart_51 (by decide) ?_
      refine q_sub (lvq := [(0, .ref (g 5)), (1, .int v1), (2, .int v2), (3, .int (v3 + (1 : Int32)))]) [1, 2, 3, 0] rfl ?_
      exact hk2 v1 v2 (v3 + (1 : Int32)) hf
    · have hf := q_iteF hf c2
      refine q_aload_n (pc := 21) C dX3_lengthApart_21 rfl 0 rfl ?_
      refine q_iload_n (pc := 22) C dX3_lengthApart_22 rfl 1 rfl ?_
      refine q_iload_n (pc := 23) C dX3_lengthApart_23 rfl 3 rfl ?_
      refine q_iload (pc := 24) C dX3_lengthApart_24 4 rfl ?_
      obtain ⟨u3, e4, hf⟩ := q_bind hf
      refine q_callV (pc := 26) (As := [.int v1, .int v3, .int v4]) (rest := []) C (c_X3_endsWell l D cc N0 g E S v1 v3 v4 u3 e4) gX3_lengthApart_X3_endsWell rfl rfl z_X3_endsWell ⟨Nat.le_of_ble_eq_true rfl, Nat.le_of_ble_eq_true rfl⟩ (cw_at_5 cc g E _) rfl rfl rfl (Nat.le_of_ble_eq_true rfl) dX3_lengthApart_26 ⟨Nat.le_of_ble_eq_true rfl, Nat.le_of_ble_eq_true rfl⟩ ?_
      refine q_after (rv := (some (.int (q_b u3)))) (w0 := (cw cc g S ++ E)) (st2 := [.int (q_b u3)]) rfl rfl rfl ?_
      refine q_aload_n (pc := 29) C dX3_lengthApart_29 rfl 0 rfl ?_
      refine q_iload_n (pc := 30) C dX3_lengthApart_30 rfl 2 rfl ?_
      refine q_iload_n (pc := 31) C dX3_lengthApart_31 rfl 3 rfl ?_
      refine q_iload (pc := 32) C dX3_lengthApart_32 4 rfl ?_
      obtain ⟨u5, e6, hf⟩ := q_bind hf
      refine q_callV (pc := 34) (As := [.int v2, .int v3, .int v4]) (rest := [.int (q_b u3)]) C (c_X3_endsWell l D cc N0 g E S v2 v3 v4 u5 e6) gX3_lengthApart_X3_endsWell rfl rfl z_X3_endsWell ⟨Nat.le_of_ble_eq_true rfl, Nat.le_of_ble_eq_true rfl⟩ (cw_at_5 cc g E _) rfl rfl rfl (Nat.le_of_ble_eq_true rfl) dX3_lengthApart_34 ⟨Nat.le_of_ble_eq_true rfl, Nat.le_of_ble_eq_true rfl⟩ ?_
      refine q_after (rv := (some (.int (q_b u5)))) (w0 := (cw cc g S ++ E)) (st2 := [.int (q_b u5), .int (q_b u3)]) rfl rfl rfl ?_
      refine q_icmp_eq (pc := 37) (tgt := 42) C dX3_lengthApart_37 (by decide) (fun c7 => ?_) (fun c7 => ?_)
      · have hf := q_iteT hf c7
        refine q_iinc (pc := 42) (lvq := [(4, .int (v4 + (1 : Int32))), (0, .ref (g 5)), (1, .int v1), (2, .int v2), (3, .int v3)]) C (v4 + (1 : Int32)) dX3_lengthApart_42 4 rfl q_ca_1 (by decide) rfl ?_
        refine q_goto (pc := 45) (tgt := 13) C dX3_lengthApart_45 (by decide) ?_
        refine q_sub (lvq := [(0, .ref (g 5)), (1, .int v1), (2, .int v2), (3, .int v3), (4, .int (v4 + (1 : Int32)))]) [1, 2, 3, 4, 0] rfl ?_
        exact hk13 v1 v2 v3 (v4 + (1 : Int32)) hf
      · have hf := q_iteF hf c7
        refine q_iload_n (pc := 40) C dX3_lengthApart_40 rfl 3 rfl ?_
        obtain rfl := q_some hf
        exact q_iret (pc := 41) C dX3_lengthApart_41 ⟨rfl, rfl⟩
set_option maxRecDepth 100000 in
set_option maxHeartbeats 4000000 in
theorem w_X3_lengthApart_2 {p : Program} {l : Launch} {e : Env} {s : State} {m : MethodId} {args : Array Value} {below : List Frame} {meth : Method} {c : Code} {D : va_G} {cc : Nat → ClassId} {N0 : Nat} {g : Nat → Nat} {E : va_W} {S : CS} {v : Int32} (C : q_C p s m args meth c cX3_lengthApart 5 (some .int) wsX3_lengthApart RX3 D cc N0)  : ∀ (n : Nat) (v1 : Int32) (v2 : Int32) (v3 : Int32), f_X3_lengthApart_2 S n v1 v2 v3 = some v → q_WA p l e (q_rm 3 69 0 0) s m args below meth c D N0 5 (MQ below (q_Q D N0 (q_p (some (.int v)) (cw cc g S ++ E))) args s 0 0 (q_A N0)) 0 0 (cw cc g S ++ E) 2 [(0, .ref (g 5)), (1, .int v1), (2, .int v2), (3, .int v3)] [] := by
  intro n
  induction n with
  | zero => intro v1 v2 v3 hf; cases hf
  | succ n ih =>
    intro v1 v2 v3 hf
    have hk2 : ∀ (v1 : Int32) (v2 : Int32) (v3 : Int32), f_X3_lengthApart_2 S n v1 v2 v3 = some v → q_WA p l e (q_rm 3 69 0 0) s m args below meth c D N0 5 (MQ below (q_Q D N0 (q_p (some (.int v)) (cw cc g S ++ E))) args s 0 0 (q_A N0)) 0 0 (cw cc g S ++ E) 2 [(0, .ref (g 5)), (1, .int v1), (2, .int v2), (3, .int v3)] [] := ih
    have hf : f_X3_lengthApart_2b S (f_X3_lengthApart_2 S n) v1 v2 v3 = some v := hf
    refine q_iload_n (pc := 2) C dX3_lengthApart_2 rfl 3 rfl ?_
    refine q_aload_n (pc := 3) C dX3_lengthApart_3 rfl 0 rfl ?_
    refine r_g_5_2 (pc := 4) C n_X3_lengthApart_X3 (List.mem_of_getElem? (i := 1) rfl) dX3_lengthApart_4 ?_
    refine q_icmp_ge (pc := 7) (tgt := 54) C dX3_lengthApart_7 (by decide) (fun c1 => ?_) (fun c1 => ?_)
    · have hf := q_iteT hf c1
      refine q_iconst (pc := 54) C (-1 : Int32) dX3_lengthApart_54 q_ci_m1 ?_
      obtain rfl := q_some hf
      exact q_iret (pc := 55) C dX3_lengthApart_55 ⟨rfl, rfl⟩
    · have hf := q_iteF hf c1
      refine q_iconst (pc := 10) C (0 : Int32) dX3_lengthApart_10 q_ci_0 ?_
      refine q_istore (pc := 11) (lvq := [(4, .int (0 : Int32)), (0, .ref (g 5)), (1, .int v1), (2, .int v2), (3, .int v3)]) C dX3_lengthApart_11 (by decide) rfl ?_
      refine q_sub (lvq := [(0, .ref (g 5)), (1, .int v1), (2, .int v2), (3, .int v3), (4, .int (0 : Int32))]) [1, 2, 3, 4, 0] rfl ?_
      exact w_X3_lengthApart_13 C hk2 1000 v1 v2 v3 (0 : Int32) hf
set_option maxRecDepth 100000 in
set_option maxHeartbeats 4000000 in
theorem c_X3_lengthApart (l : Launch) (D : va_G) (cc : Nat → ClassId) (N0 : Nat) (g : Nat → Nat) (E : va_W) (S : CS) (a1 : Int32) (a2 : Int32) (v : Int32) (hf : f_X3_lengthApart S a1 a2 = some v) : q_Met l yX3_lengthApart wsX3_lengthApart 3 69 D cc N0 (cw cc g S ++ E) [.ref (g 5), .int a1, .int a2] (q_p (some (.int v)) (cw cc g S ++ E)) 0 0 := by
  refine q_ofW (code := cX3_lengthApart) (nL := 5) (ret := (some .int)) (by decide +kernel) rfl (Nat.le_of_ble_eq_true rfl) (fun p e s m below meth c C _ => ?_)
  refine q_lv (lv2 := [(0, .ref (g 5)), (1, .int a1), (2, .int a2)]) rfl ?_
  refine q_iconst (pc := 0) C (0 : Int32) dX3_lengthApart_0 q_ci_0 ?_
  refine q_istore_n (pc := 1) (lvq := [(3, .int (0 : Int32)), (0, .ref (g 5)), (1, .int a1), (2, .int a2)]) C dX3_lengthApart_1 rfl (by decide) rfl ?_
  refine q_sub (lvq := [(0, .ref (g 5)), (1, .int a1), (2, .int a2), (3, .int (0 : Int32))]) [1, 2, 3, 0] rfl ?_
  exact w_X3_lengthApart_2 C 1000 a1 a2 (0 : Int32) hf
theorem z_X3_lengthApart : q_dsc yX3_lengthApart 2 := ⟨by decide +kernel, by decide +kernel, by decide +kernel⟩
theorem n_X3_reached_X3 : ∀ w ∈ wsX30, w ∈ wsX3_reached := fun _ h => (List.mem_cons_of_mem _ (List.mem_append_right _ h))
def f_X3_reached_60 (S : CS) (k4 : Int32 → Int32 → Option Int32) (k14 : Int32 → Int32 → Int32 → Option Int32) (v1 : Int32) (v2 : Int32) (v3 : Int32) : Option Int32 := k14 v1 v2 (v3 + (1 : Int32))
def f_X3_reached_14b (S : CS) (k4 : Int32 → Int32 → Option Int32) (k14 : Int32 → Int32 → Int32 → Option Int32) (v1 : Int32) (v2 : Int32) (v3 : Int32) : Option Int32 := (if (S.1 5 2) ≤ v3 then k4 v1 (v2 + (1 : Int32)) else (if (q_b (f_X8_hasBit v1 v3)) = 0 then f_X3_reached_60 S k4 k14 v1 v2 v3 else f_X3_reached_60 S k4 k14 (v1 ||| (((1 : Int32) <<< ((q_at 10 (S.1 16) ((2 : Int32) * v3)) &&& 31)) ||| ((1 : Int32) <<< ((q_at 10 (S.1 16) (((2 : Int32) * v3) + (1 : Int32))) &&& 31)))) v2 v3))
def f_X3_reached_14 (S : CS) (k4 : Int32 → Int32 → Option Int32) : Nat → Int32 → Int32 → Int32 → Option Int32
  | 0, _, _, _ => none
  | n + 1, v1, v2, v3 => f_X3_reached_14b S k4 (f_X3_reached_14 S k4 n) v1 v2 v3
def f_X3_reached_4b (S : CS) (k4 : Int32 → Int32 → Option Int32) (v1 : Int32) (v2 : Int32) : Option Int32 := (if (S.1 5 2) ≤ v2 then some v1 else f_X3_reached_14 S k4 1000 v1 v2 (0 : Int32))
def f_X3_reached_4 (S : CS) : Nat → Int32 → Int32 → Option Int32
  | 0, _, _ => none
  | n + 1, v1, v2 => f_X3_reached_4b S (f_X3_reached_4 S n) v1 v2
def f_X3_reached (S : CS) : Option Int32 := f_X3_reached_4 S 1000 (1 : Int32) (1 : Int32)
set_option maxRecDepth 100000 in
set_option maxHeartbeats 4000000 in
theorem w_X3_reached_60 {p : Program} {l : Launch} {e : Env} {s : State} {m : MethodId} {args : Array Value} {below : List Frame} {meth : Method} {c : Code} {D : va_G} {cc : Nat → ClassId} {N0 : Nat} {g : Nat → Nat} {E : va_W} {S : CS} {k4 : Int32 → Int32 → Option Int32} {k14 : Int32 → Int32 → Int32 → Option Int32} {v : Int32} (C : q_C p s m args meth c cX3_reached 4 (some .int) wsX3_reached RX3 D cc N0) (hk4 : ∀ (v1 : Int32) (v2 : Int32), k4 v1 v2 = some v → q_WA p l e (q_rm 1 21 0 0) s m args below meth c D N0 4 (MQ below (q_Q D N0 (q_p (some (.int v)) (cw cc g S ++ E))) args s 0 0 (q_A N0)) 0 0 (cw cc g S ++ E) 4 [(0, .ref (g 5)), (1, .int v1), (2, .int v2)] []) (hk14 : ∀ (v1 : Int32) (v2 : Int32) (v3 : Int32), k14 v1 v2 v3 = some v → q_WA p l e (q_rm 1 21 0 0) s m args below meth c D N0 4 (MQ below (q_Q D N0 (q_p (some (.int v)) (cw cc g S ++ E))) args s 0 0 (q_A N0)) 0 0 (cw cc g S ++ E) 14 [(0, .ref (g 5)), (1, .int v1), (2, .int v2), (3, .int v3)] []) (v1 : Int32) (v2 : Int32) (v3 : Int32) (hf : f_X3_reached_60 S k4 k14 v1 v2 v3 = some v) : q_WA p l e (q_rm 1 21 0 0) s m args below meth c D N0 4 (MQ below (q_Q D N0 (q_p (some (.int v)) (cw cc g S ++ E))) args s 0 0 (q_A N0)) 0 0 (cw cc g S ++ E) 60 [(0, .ref (g 5)), (1, .int v1), (2, .int v2), (3, .int v3)] [] := by
  refine q_iinc (pc := 60) (lvq := [(3, .int (v3 + (1 : Int32))), (0, .ref (g 5)), (1, .int v1), (2, .int v2)]) C (v3 + (1 : Int32)) dX3_reached_60 3 rfl q_ca_1 (by decide) rfl ?_
  refine q_goto (pc := 63) (tgt := 14) C dX3_reached_63 (by decide) ?_
  refine q_sub (lvq := [(0, .ref (g 5)), (1, .int v1), (2, .int v2), (3, .int (v3 + (1 : Int32)))]) [1, 2, 3, 0] rfl ?_
  exact hk14 v1 v2 (v3 + (1 : Int32)) hf
set_option maxRecDepth 100000 in
set_option maxHeartbeats 4000000 in
theorem w_X3_reached_14 {p : Program} {l : Launch} {e : Env} {s : State} {m : MethodId} {args : Array Value} {below : List Frame} {meth : Method} {c : Code} {D : va_G} {cc : Nat → ClassId} {N0 : Nat} {g : Nat → Nat} {E : va_W} {S : CS} {k4 : Int32 → Int32 → Option Int32} {v : Int32} (C : q_C p s m args meth c cX3_reached 4 (some .int) wsX3_reached RX3 D cc N0) (hk4 : ∀ (v1 : Int32) (v2 : Int32), k4 v1 v2 = some v → q_WA p l e (q_rm 1 21 0 0) s m args below meth c D N0 4 (MQ below (q_Q D N0 (q_p (some (.int v)) (cw cc g S ++ E))) args s 0 0 (q_A N0)) 0 0 (cw cc g S ++ E) 4 [(0, .ref (g 5)), (1, .int v1), (2, .int v2)] []) : ∀ (n : Nat) (v1 : Int32) (v2 : Int32) (v3 : Int32), f_X3_reached_14 S k4 n v1 v2 v3 = some v → q_WA p l e (q_rm 1 21 0 0) s m args below meth c D N0 4 (MQ below (q_Q D N0 (q_p (some (.int v)) (cw cc g S ++ E))) args s 0 0 (q_A N0)) 0 0 (cw cc g S ++ E) 14 [(0, .ref (g 5)), (1, .int v1), (2, .int v2), (3, .int v3)] [] := by
  intro n
  induction n with
  | zero => intro v1 v2 v3 hf; cases hf
  | succ n ih =>
    intro v1 v2 v3 hf
    have hk14 : ∀ (v1 : Int32) (v2 : Int32) (v3 : Int32), f_X3_reached_14 S k4 n v1 v2 v3 = some v → q_WA p l e (q_rm 1 21 0 0) s m args below meth c D N0 4 (MQ below (q_Q D N0 (q_p (some (.int v)) (cw cc g S ++ E))) args s 0 0 (q_A N0)) 0 0 (cw cc g S ++ E) 14 [(0, .ref (g 5)), (1, .int v1), (2, .int v2), (3, .int v3)] [] := ih
    have hf : f_X3_reached_14b S k4 (f_X3_reached_14 S k4 n) v1 v2 v3 = some v := hf
    refine q_iload_n (pc := 14) C dX3_reached_14 rfl 3 rfl ?_
    refine q_aload_n (pc := 15) C dX3_reached_15 rfl 0 rfl ?_
    refine r_g_5_2 (pc := 16) C n_X3_reached_X3 (List.mem_of_getElem? (i := 1) rfl) dX3_reached_16 ?_
    refine q_icmp_ge (pc := 19) (tgt := 66) C dX3_reached_19 (by decide) (fun c2 => ?_) (fun c2 => ?_)
    · have hf := q_iteT hf c2
      refine q_iinc (pc := 66) (lvq := [(2, .int (v2 + (1 : Int32))), (0, .ref (g 5)), (1, .int v1), (3, .int v3)]) C (v2 + (1 : Int32)) dX3_reached_66 2 rfl q_ca_1 (by decide) rfl ?_
      refine q_goto (pc := 69) (tgt := 4) C dX3_reached_69 (by decide) ?_
      refine q_sub (lvq := [(0, .ref (g 5)), (1, .int v1), (2, .int (v2 + (1 : Int32)))]) [1, 2, 0] rfl ?_
      exact hk4 v1 (v2 + (1 : Int32)) hf
    · have hf := q_iteF hf c2
      refine q_iload_n (pc := 22) C dX3_reached_22 rfl 1 rfl ?_
      refine q_iload_n (pc := 23) C dX3_reached_23 rfl 3 rfl ?_
      refine q_callSN (pc := 24) (host := "Queryschool") (As := [.int v1, .int v3]) (rest := []) C (c_X8_hasBit l D cc N0 (cw cc g S ++ E) v1 v3 _ rfl) gX3_reached_X8_hasBit_n34 rfl (List.mem_of_getElem? (i := 24) rfl) (List.mem_of_getElem? (i := 4) rfl) (List.mem_of_getElem? (i := 3) rfl) z_X8_hasBit ⟨Nat.le_of_ble_eq_true rfl, Nat.le_of_ble_eq_true rfl⟩ rfl rfl (Nat.le_of_ble_eq_true rfl) dX3_reached_24 ⟨Nat.le_of_ble_eq_true rfl, Nat.le_of_ble_eq_true rfl⟩ ?_
      refine q_after (rv := (some (.int (q_b (f_X8_hasBit v1 v3))))) (w0 := (cw cc g S ++ E)) (st2 := [.int (q_b (f_X8_hasBit v1 v3))]) rfl rfl rfl ?_
      refine q_if_eq (pc := 27) (tgt := 60) C dX3_reached_27 (by decide) (fun c3 => ?_) (fun c3 => ?_)
      · have hf := q_iteT hf c3
        refine q_sub (lvq := [(0, .ref (g 5)), (1, .int v1), (2, .int v2), (3, .int v3)]) [0, 1, 2, 3] rfl ?_
        exact w_X3_reached_60 C hk4 hk14 v1 v2 v3 hf
      · have hf := q_iteF hf c3
        refine q_iload_n (pc := 30) C dX3_reached_30 rfl 1 rfl ?_
        refine q_iconst (pc := 31) C (1 : Int32) dX3_reached_31 q_ci_1 ?_
        refine q_aload_n (pc := 32) C dX3_reached_32 rfl 0 rfl ?_
        refine r_g_5_0 (pc := 33) C n_X3_reached_X3 (List.mem_of_getElem? (i := 2) rfl) dX3_reached_33 ?_
        refine q_iconst (pc := 36) C (2 : Int32) dX3_reached_36 q_ci_2 ?_
        refine q_iload_n (pc := 37) C dX3_reached_37 rfl 3 rfl ?_
        refine q_imul (pc := 38) C dX3_reached_38 ?_
        refine q_callSN (pc := 39) (host := "Queryschool") (As := [.ref (g 16), .int ((2 : Int32) * v3)]) (rest := [.int (1 : Int32), .int v1]) C (c_X8_at l D cc N0 (cw cc g S ++ E) 16 (g 16) 10 (S.1 16) (by decide) (cw_at_16 cc g E S) ((2 : Int32) * v3)) gX3_reached_X8_at_n26 rfl (List.mem_of_getElem? (i := 23) rfl) (List.mem_of_getElem? (i := 4) rfl) (List.mem_of_getElem? (i := 6) rfl) z_X8_at ⟨Nat.le_of_ble_eq_true rfl, Nat.le_of_ble_eq_true rfl⟩ rfl rfl (Nat.le_of_ble_eq_true rfl) dX3_reached_39 ⟨Nat.le_of_ble_eq_true rfl, Nat.le_of_ble_eq_true rfl⟩ ?_
        refine q_after (rv := (some (.int (q_at 10 (S.1 16) ((2 : Int32) * v3))))) (w0 := (cw cc g S ++ E)) (st2 := [.int (q_at 10 (S.1 16) ((2 : Int32) * v3)), .int (1 : Int32), .int v1]) rfl rfl rfl ?_
        refine q_ishl (pc := 42) C dX3_reached_42 ?_
        refine q_iconst (pc := 43) C (1 : Int32) dX3_reached_43 q_ci_1 ?_
        refine q_aload_n (pc := 44) C dX3_reached_44 rfl 0 rfl ?_
        refine r_g_5_0 (pc := 45) C n_X3_reached_X3 (List.mem_of_getElem? (i := 2) rfl) dX3_reached_45 ?_
        refine q_iconst (pc := 48) C (2 : Int32) dX3_reached_48 q_ci_2 ?_
        refine q_iload_n (pc := 49) C dX3_reached_49 rfl 3 rfl ?_
        refine q_imul (pc := 50) C dX3_reached_50 ?_
        refine q_iconst (pc := 51) C (1 : Int32) dX3_reached_51 q_ci_1 ?_
        refine q_iadd (pc := 52) C dX3_reached_52 ?_
        refine q_callSN (pc := 53) (host := "Queryschool") (As := [.ref (g 16), .int (((2 : Int32) * v3) + (1 : Int32))]) (rest := [.int (1 : Int32), .int ((1 : Int32) <<< ((q_at 10 (S.1 16) ((2 : Int32) * v3)) &&& 31)), .int v1]) C (c_X8_at l D cc N0 (cw cc g S ++ E) 16 (g 16) 10 (S.1 16) (by decide) (cw_at_16 cc g E S) (((2 : Int32) * v3) + (1 : Int32))) gX3_reached_X8_at_n26 rfl (List.mem_of_getElem? (i := 23) rfl) (List.mem_of_getElem? (i := 4) rfl) (List.mem_of_getElem? (i := 6) rfl) z_X8_at ⟨Nat.le_of_ble_eq_true rfl, Nat.le_of_ble_eq_true rfl⟩ rfl rfl (Nat.le_of_ble_eq_true rfl) dX3_reached_53 ⟨Nat.le_of_ble_eq_true rfl, Nat.le_of_ble_eq_true rfl⟩ ?_
        refine q_after (rv := (some (.int (q_at 10 (S.1 16) (((2 : Int32) * v3) + (1 : Int32)))))) (w0 := (cw cc g S ++ E)) (st2 := [.int (q_at 10 (S.1 16) (((2 : Int32) * v3) + (1 : Int32))), .int (1 : Int32), .int ((1 : Int32) <<< ((q_at 10 (S.1 16) ((2 : Int32) * v3)) &&& 31)), .int v1]) rfl rfl rfl ?_
        refine q_ishl (pc := 56) C dX3_reached_56 ?_
        refine q_ior (pc := 57) C dX3_reached_57 ?_
        refine q_ior (pc := 58) C dX3_reached_58 ?_
        refine q_istore_n (pc := 59) (lvq := [(1, .int (v1 ||| (((1 : Int32) <<< ((q_at 10 (S.1 16) ((2 : Int32) * v3)) &&& 31)) ||| ((1 : Int32) <<< ((q_at 10 (S.1 16) (((2 : Int32) * v3) + (1 : Int32))) &&& 31))))), (0, .ref (g 5)), (2, .int v2), (3, .int v3)]) C dX3_reached_59 rfl (by decide) rfl ?_
        refine q_sub (lvq := [(0, .ref (g 5)), (1, .int (v1 ||| (((1 : Int32) <<< ((q_at 10 (S.1 16) ((2 : Int32) * v3)) &&& 31)) ||| ((1 : Int32) <<< ((q_at 10 (S.1 16) (((2 : Int32) * v3) + (1 : Int32))) &&& 31))))), (2, .int v2), (3, .int v3)]) [1, 0, 2, 3] rfl ?_
        exact w_X3_reached_60 C hk4 hk14 (v1 ||| (((1 : Int32) <<< ((q_at 10 (S.1 16) ((2 : Int32) * v3)) &&& 31)) ||| ((1 : Int32) <<< ((q_at 10 (S.1 16) (((2 : Int32) * v3) + (1 : Int32))) &&& 31)))) v2 v3 hf
set_option maxRecDepth 100000 in
set_option maxHeartbeats 4000000 in
theorem w_X3_reached_4 {p : Program} {l : Launch} {e : Env} {s : State} {m : MethodId} {args : Array Value} {below : List Frame} {meth : Method} {c : Code} {D : va_G} {cc : Nat → ClassId} {N0 : Nat} {g : Nat → Nat} {E : va_W} {S : CS} {v : Int32} (C : q_C p s m args meth c cX3_reached 4 (some .int) wsX3_reached RX3 D cc N0)  : ∀ (n : Nat) (v1 : Int32) (v2 : Int32), f_X3_reached_4 S n v1 v2 = some v → q_WA p l e (q_rm 1 21 0 0) s m args below meth c D N0 4 (MQ below (q_Q D N0 (q_p (some (.int v)) (cw cc g S ++ E))) args s 0 0 (q_A N0)) 0 0 (cw cc g S ++ E) 4 [(0, .ref (g 5)), (1, .int v1), (2, .int v2)] [] := by
  intro n
  induction n with
  | zero => intro v1 v2 hf; cases hf
  | succ n ih =>
    intro v1 v2 hf
    have hk4 : ∀ (v1 : Int32) (v2 : Int32), f_X3_reached_4 S n v1 v2 = some v → q_WA p l e (q_rm 1 21 0 0) s m args below meth c D N0 4 (MQ below (q_Q D N0 (q_p (some (.int v)) (cw cc g S ++ E))) args s 0 0 (q_A N0)) 0 0 (cw cc g S ++ E) 4 [(0, .ref (g 5)), (1, .int v1), (2, .int v2)] [] := ih
    have hf : f_X3_reached_4b S (f_X3_reached_4 S n) v1 v2 = some v := hf
    refine q_iload_n (pc := 4) C dX3_reached_4 rfl 2 rfl ?_
    refine q_aload_n (pc := 5) C dX3_reached_5 rfl 0 rfl ?_
    refine r_g_5_2 (pc := 6) C n_X3_reached_X3 (List.mem_of_getElem? (i := 1) rfl) dX3_reached_6 ?_
    refine q_icmp_ge (pc := 9) (tgt := 72) C dX3_reached_9 (by decide) (fun c1 => ?_) (fun c1 => ?_)
    · have hf := q_iteT hf c1
      refine q_iload_n (pc := 72) C dX3_reached_72 rfl 1 rfl ?_
      obtain rfl := q_some hf
      exact q_iret (pc := 73) C dX3_reached_73 ⟨rfl, rfl⟩
    · have hf := q_iteF hf c1
      refine q_iconst (pc := 12) C (0 : Int32) dX3_reached_12 q_ci_0 ?_
      refine q_istore_n (pc := 13) (lvq := [(3, .int (0 : Int32)), (0, .ref (g 5)), (1, .int v1), (2, .int v2)]) C dX3_reached_13 rfl (by decide) rfl ?_
      refine q_sub (lvq := [(0, .ref (g 5)), (1, .int v1), (2, .int v2), (3, .int (0 : Int32))]) [1, 2, 3, 0] rfl ?_
      exact w_X3_reached_14 C hk4 1000 v1 v2 (0 : Int32) hf
set_option maxRecDepth 100000 in
set_option maxHeartbeats 4000000 in
theorem c_X3_reached (l : Launch) (D : va_G) (cc : Nat → ClassId) (N0 : Nat) (g : Nat → Nat) (E : va_W) (S : CS) (v : Int32) (hf : f_X3_reached S = some v) : q_Met l yX3_reached wsX3_reached 1 21 D cc N0 (cw cc g S ++ E) [.ref (g 5)] (q_p (some (.int v)) (cw cc g S ++ E)) 0 0 := by
  refine q_ofW (code := cX3_reached) (nL := 4) (ret := (some .int)) (by decide +kernel) rfl (Nat.le_of_ble_eq_true rfl) (fun p e s m below meth c C _ => ?_)
  refine q_lv (lv2 := [(0, .ref (g 5))]) rfl ?_
  refine q_iconst (pc := 0) C (1 : Int32) dX3_reached_0 q_ci_1 ?_
  refine q_istore_n (pc := 1) (lvq := [(1, .int (1 : Int32)), (0, .ref (g 5))]) C dX3_reached_1 rfl (by decide) rfl ?_
  refine q_iconst (pc := 2) C (1 : Int32) dX3_reached_2 q_ci_1 ?_
  refine q_istore_n (pc := 3) (lvq := [(2, .int (1 : Int32)), (1, .int (1 : Int32)), (0, .ref (g 5))]) C dX3_reached_3 rfl (by decide) rfl ?_
  refine q_sub (lvq := [(0, .ref (g 5)), (1, .int (1 : Int32)), (2, .int (1 : Int32))]) [2, 1, 0] rfl ?_
  exact w_X3_reached_4 C 1000 (1 : Int32) (1 : Int32) hf
theorem z_X3_reached : q_dsc yX3_reached 0 := ⟨by decide +kernel, by decide +kernel, by decide +kernel⟩
def f_X3_isFirstOfKind_26 (S : CS) (k2 : Int32 → Int32 → Int32 → Option Bool) (v1 : Int32) (v2 : Int32) (v3 : Int32) : Option Bool := k2 v1 v2 (v3 + (1 : Int32))
def f_X3_isFirstOfKind_2b (S : CS) (k2 : Int32 → Int32 → Int32 → Option Bool) (v1 : Int32) (v2 : Int32) (v3 : Int32) : Option Bool := (if v1 ≤ v3 then some true else (if (q_b (f_X8_hasBit v2 v3)) = 0 then f_X3_isFirstOfKind_26 S k2 v1 v2 v3 else ((f_X3_lengthApart S v3 v1).bind fun u3 => (if 0 ≤ u3 then f_X3_isFirstOfKind_26 S k2 v1 v2 v3 else some false))))
def f_X3_isFirstOfKind_2 (S : CS) : Nat → Int32 → Int32 → Int32 → Option Bool
  | 0, _, _, _ => none
  | n + 1, v1, v2, v3 => f_X3_isFirstOfKind_2b S (f_X3_isFirstOfKind_2 S n) v1 v2 v3
def f_X3_isFirstOfKind (S : CS) (a1 : Int32) (a2 : Int32) : Option Bool := f_X3_isFirstOfKind_2 S 1000 a1 a2 (0 : Int32)
set_option maxRecDepth 100000 in
set_option maxHeartbeats 4000000 in
theorem w_X3_isFirstOfKind_26 {p : Program} {l : Launch} {e : Env} {s : State} {m : MethodId} {args : Array Value} {below : List Frame} {meth : Method} {c : Code} {D : va_G} {cc : Nat → ClassId} {N0 : Nat} {g : Nat → Nat} {E : va_W} {S : CS} {k2 : Int32 → Int32 → Int32 → Option Bool} {v : Bool} (C : q_C p s m args meth c cX3_isFirstOfKind 4 (some .boolean) wsX3_isFirstOfKind RX3 D cc N0) (hk2 : ∀ (v1 : Int32) (v2 : Int32) (v3 : Int32), k2 v1 v2 v3 = some v → q_WA p l e (q_rm 4 93 0 0) s m args below meth c D N0 4 (MQ below (q_Q D N0 (q_p (some (.int (q_b v))) (cw cc g S ++ E))) args s 0 0 (q_A N0)) 0 0 (cw cc g S ++ E) 2 [(0, .ref (g 5)), (1, .int v1), (2, .int v2), (3, .int v3)] []) (v1 : Int32) (v2 : Int32) (v3 : Int32) (hf : f_X3_isFirstOfKind_26 S k2 v1 v2 v3 = some v) : q_WA p l e (q_rm 4 93 0 0) s m args below meth c D N0 4 (MQ below (q_Q D N0 (q_p (some (.int (q_b v))) (cw cc g S ++ E))) args s 0 0 (q_A N0)) 0 0 (cw cc g S ++ E) 26 [(0, .ref (g 5)), (1, .int v1), (2, .int v2), (3, .int v3)] [] := by
  refine q_iinc (pc := 26) (lvq := [(3, .int (v3 + (1 : Int32))), (0, .ref (g 5)), (1, .int v1), (2, .int v2)]) C (v3 + (1 : Int32)) dX3_isFirstOfKind_26 3 rfl q_ca_1 (by decide) rfl ?_
  refine q_goto (pc := 29) (tgt := 2) C dX3_isFirstOfKind_29 (by decide) ?_
  refine q_sub (lvq := [(0, .ref (g 5)), (1, .int v1), (2, .int v2), (3, .int (v3 + (1 : Int32)))]) [1, 2, 3, 0] rfl ?_
  exact hk2 v1 v2 (v3 + (1 : Int32)) hf
set_option maxRecDepth 100000 in
set_option maxHeartbeats 4000000 in
theorem w_X3_isFirstOfKind_2 {p : Program} {l : Launch} {e : Env} {s : State} {m : MethodId} {args : Array Value} {below : List Frame} {meth : Method} {c : Code} {D : va_G} {cc : Nat → ClassId} {N0 : Nat} {g : Nat → Nat} {E : va_W} {S : CS} {v : Bool} (C : q_C p s m args meth c cX3_isFirstOfKind 4 (some .boolean) wsX3_isFirstOfKind RX3 D cc N0)  : ∀ (n : Nat) (v1 : Int32) (v2 : Int32) (v3 : Int32), f_X3_isFirstOfKind_2 S n v1 v2 v3 = some v → q_WA p l e (q_rm 4 93 0 0) s m args below meth c D N0 4 (MQ below (q_Q D N0 (q_p (some (.int (q_b v))) (cw cc g S ++ E))) args s 0 0 (q_A N0)) 0 0 (cw cc g S ++ E) 2 [(0, .ref (g 5)), (1, .int v1), (2, .int v2), (3, .int v3)] [] := by
  intro n
  induction n with
  | zero => intro v1 v2 v3 hf; cases hf
  | succ n ih =>
    intro v1 v2 v3 hf
    have hk2 : ∀ (v1 : Int32) (v2 : Int32) (v3 : Int32), f_X3_isFirstOfKind_2 S n v1 v2 v3 = some v → q_WA p l e (q_rm 4 93 0 0) s m args below meth c D N0 4 (MQ below (q_Q D N0 (q_p (some (.int (q_b v))) (cw cc g S ++ E))) args s 0 0 (q_A N0)) 0 0 (cw cc g S ++ E) 2 [(0, .ref (g 5)), (1, .int v1), (2, .int v2), (3, .int v3)] [] := ih
    have hf : f_X3_isFirstOfKind_2b S (f_X3_isFirstOfKind_2 S n) v1 v2 v3 = some v := hf
    refine q_iload_n (pc := 2) C dX3_isFirstOfKind_2 rfl 3 rfl ?_
    refine q_iload_n (pc := 3) C dX3_isFirstOfKind_3 rfl 1 rfl ?_
    refine q_icmp_ge (pc := 4) (tgt := 32) C dX3_isFirstOfKind_4 (by decide) (fun c1 => ?_) (fun c1 => ?_)
    · have hf := q_iteT hf c1
      refine q_iconst (pc := 32) C (1 : Int32) dX3_isFirstOfKind_32 q_ci_1 ?_
      obtain rfl := q_some hf
      exact q_zret (pc := 33) C (by decide +kernel) dX3_isFirstOfKind_33 ⟨rfl, rfl⟩
    · have hf := q_iteF hf c1
      refine q_iload_n (pc := 7) C dX3_isFirstOfKind_7 rfl 2 rfl ?_
      refine q_iload_n (pc := 8) C dX3_isFirstOfKind_8 rfl 3 rfl ?_
      refine q_callSN (pc := 9) (host := "Queryschool") (As := [.int v2, .int v3]) (rest := []) C (c_X8_hasBit l D cc N0 (cw cc g S ++ E) v2 v3 _ rfl) gX3_isFirstOfKind_X8_hasBit_n34 rfl (List.mem_of_getElem? (i := 24) rfl) (List.mem_of_getElem? (i := 2) rfl) (List.mem_of_getElem? (i := 1) rfl) z_X8_hasBit ⟨Nat.le_of_ble_eq_true rfl, Nat.le_of_ble_eq_true rfl⟩ rfl rfl (Nat.le_of_ble_eq_true rfl) dX3_isFirstOfKind_9 ⟨Nat.le_of_ble_eq_true rfl, Nat.le_of_ble_eq_true rfl⟩ ?_
      refine q_after (rv := (some (.int (q_b (f_X8_hasBit v2 v3))))) (w0 := (cw cc g S ++ E)) (st2 := [.int (q_b (f_X8_hasBit v2 v3))]) rfl rfl rfl ?_
      refine q_if_eq (pc := 12) (tgt := 26) C dX3_isFirstOfKind_12 (by decide) (fun c2 => ?_) (fun c2 => ?_)
      · have hf := q_iteT hf c2
        refine q_sub (lvq := [(0, .ref (g 5)), (1, .int v1), (2, .int v2), (3, .int v3)]) [0, 1, 2, 3] rfl ?_
        exact w_X3_isFirstOfKind_26 C hk2 v1 v2 v3 hf
      · have hf := q_iteF hf c2
        refine q_aload_n (pc := 15) C dX3_isFirstOfKind_15 rfl 0 rfl ?_
        refine q_iload_n (pc := 16) C dX3_isFirstOfKind_16 rfl 3 rfl ?_
        refine q_iload_n (pc := 17) C dX3_isFirstOfKind_17 rfl 1 rfl ?_
        obtain ⟨u3, e4, hf⟩ := q_bind hf
        refine q_callV (pc := 18) (As := [.int v3, .int v1]) (rest := []) C (c_X3_lengthApart l D cc N0 g E S v3 v1 u3 e4) gX3_isFirstOfKind_X3_lengthApart rfl rfl z_X3_lengthApart ⟨Nat.le_of_ble_eq_true rfl, Nat.le_of_ble_eq_true rfl⟩ (cw_at_5 cc g E _) rfl rfl rfl (Nat.le_of_ble_eq_true rfl) dX3_isFirstOfKind_18 ⟨Nat.le_of_ble_eq_true rfl, Nat.le_of_ble_eq_true rfl⟩ ?_
        refine q_after (rv := (some (.int u3))) (w0 := (cw cc g S ++ E)) (st2 := [.int u3]) rfl rfl rfl ?_
        refine q_if_ge (pc := 21) (tgt := 26) C dX3_isFirstOfKind_21 (by decide) (fun c5 => ?_) (fun c5 => ?_)
        · have hf := q_iteT hf c5
          refine q_sub (lvq := [(0, .ref (g 5)), (1, .int v1), (2, .int v2), (3, .int v3)]) [0, 1, 2, 3] rfl ?_
          exact w_X3_isFirstOfKind_26 C hk2 v1 v2 v3 hf
        · have hf := q_iteF hf c5
          refine q_iconst (pc := 24) C (0 : Int32) dX3_isFirstOfKind_24 q_ci_0 ?_
          obtain rfl := q_some hf
          exact q_zret (pc := 25) C (by decide +kernel) dX3_isFirstOfKind_25 ⟨rfl, rfl⟩
set_option maxRecDepth 100000 in
set_option maxHeartbeats 4000000 in
theorem c_X3_isFirstOfKind (l : Launch) (D : va_G) (cc : Nat → ClassId) (N0 : Nat) (g : Nat → Nat) (E : va_W) (S : CS) (a1 : Int32) (a2 : Int32) (v : Bool) (hf : f_X3_isFirstOfKind S a1 a2 = some v) : q_Met l yX3_isFirstOfKind wsX3_isFirstOfKind 4 93 D cc N0 (cw cc g S ++ E) [.ref (g 5), .int a1, .int a2] (q_p (some (.int (q_b v))) (cw cc g S ++ E)) 0 0 := by
  refine q_ofW (code := cX3_isFirstOfKind) (nL := 4) (ret := (some .boolean)) (by decide +kernel) rfl (Nat.le_of_ble_eq_true rfl) (fun p e s m below meth c C _ => ?_)
  refine q_lv (lv2 := [(0, .ref (g 5)), (1, .int a1), (2, .int a2)]) rfl ?_
  refine q_iconst (pc := 0) C (0 : Int32) dX3_isFirstOfKind_0 q_ci_0 ?_
  refine q_istore_n (pc := 1) (lvq := [(3, .int (0 : Int32)), (0, .ref (g 5)), (1, .int a1), (2, .int a2)]) C dX3_isFirstOfKind_1 rfl (by decide) rfl ?_
  refine q_sub (lvq := [(0, .ref (g 5)), (1, .int a1), (2, .int a2), (3, .int (0 : Int32))]) [1, 2, 3, 0] rfl ?_
  exact w_X3_isFirstOfKind_2 C 1000 a1 a2 (0 : Int32) hf
theorem z_X3_isFirstOfKind : q_dsc yX3_isFirstOfKind 2 := ⟨by decide +kernel, by decide +kernel, by decide +kernel⟩
theorem n_X3_reachedKinds_X3 : ∀ w ∈ wsX30, w ∈ wsX3_reachedKinds := fun _ h => (List.mem_cons_of_mem _ (List.mem_append_right _ h))
def f_X3_reachedKinds_37 (S : CS) (k9 : Int32 → Int32 → Int32 → Option Int32) (v1 : Int32) (v2 : Int32) (v3 : Int32) : Option Int32 := k9 v1 v2 (v3 + (1 : Int32))
def f_X3_reachedKinds_9b (S : CS) (k9 : Int32 → Int32 → Int32 → Option Int32) (v1 : Int32) (v2 : Int32) (v3 : Int32) : Option Int32 := (if (S.1 5 2) ≤ v3 then some v2 else (if (q_b (f_X8_hasBit v1 v3)) = 0 then f_X3_reachedKinds_37 S k9 v1 v2 v3 else ((f_X3_isFirstOfKind S v3 v1).bind fun u5 => (if (q_b u5) = 0 then f_X3_reachedKinds_37 S k9 v1 v2 v3 else f_X3_reachedKinds_37 S k9 v1 (v2 + (1 : Int32)) v3))))
def f_X3_reachedKinds_9 (S : CS) : Nat → Int32 → Int32 → Int32 → Option Int32
  | 0, _, _, _ => none
  | n + 1, v1, v2, v3 => f_X3_reachedKinds_9b S (f_X3_reachedKinds_9 S n) v1 v2 v3
def f_X3_reachedKinds (S : CS) : Option Int32 := ((f_X3_reached S).bind fun u1 => f_X3_reachedKinds_9 S 1000 u1 (0 : Int32) (0 : Int32))
set_option maxRecDepth 100000 in
set_option maxHeartbeats 4000000 in
theorem w_X3_reachedKinds_37 {p : Program} {l : Launch} {e : Env} {s : State} {m : MethodId} {args : Array Value} {below : List Frame} {meth : Method} {c : Code} {D : va_G} {cc : Nat → ClassId} {N0 : Nat} {g : Nat → Nat} {E : va_W} {S : CS} {k9 : Int32 → Int32 → Int32 → Option Int32} {v : Int32} (C : q_C p s m args meth c cX3_reachedKinds 4 (some .int) wsX3_reachedKinds RX3 D cc N0) (hk9 : ∀ (v1 : Int32) (v2 : Int32) (v3 : Int32), k9 v1 v2 v3 = some v → q_WA p l e (q_rm 5 116 0 0) s m args below meth c D N0 4 (MQ below (q_Q D N0 (q_p (some (.int v)) (cw cc g S ++ E))) args s 0 0 (q_A N0)) 0 0 (cw cc g S ++ E) 9 [(0, .ref (g 5)), (1, .int v1), (2, .int v2), (3, .int v3)] []) (v1 : Int32) (v2 : Int32) (v3 : Int32) (hf : f_X3_reachedKinds_37 S k9 v1 v2 v3 = some v) : q_WA p l e (q_rm 5 116 0 0) s m args below meth c D N0 4 (MQ below (q_Q D N0 (q_p (some (.int v)) (cw cc g S ++ E))) args s 0 0 (q_A N0)) 0 0 (cw cc g S ++ E) 37 [(0, .ref (g 5)), (1, .int v1), (2, .int v2), (3, .int v3)] [] := by
  refine q_iinc (pc := 37) (lvq := [(3, .int (v3 + (1 : Int32))), (0, .ref (g 5)), (1, .int v1), (2, .int v2)]) C (v3 + (1 : Int32)) dX3_reachedKinds_37 3 rfl q_ca_1 (by decide) rfl ?_
  refine q_goto (pc := 40) (tgt := 9) C dX3_reachedKinds_40 (by decide) ?_
  refine q_sub (lvq := [(0, .ref (g 5)), (1, .int v1), (2, .int v2), (3, .int (v3 + (1 : Int32)))]) [1, 2, 3, 0] rfl ?_
  exact hk9 v1 v2 (v3 + (1 : Int32)) hf
set_option maxRecDepth 100000 in
set_option maxHeartbeats 4000000 in
theorem w_X3_reachedKinds_9 {p : Program} {l : Launch} {e : Env} {s : State} {m : MethodId} {args : Array Value} {below : List Frame} {meth : Method} {c : Code} {D : va_G} {cc : Nat → ClassId} {N0 : Nat} {g : Nat → Nat} {E : va_W} {S : CS} {v : Int32} (C : q_C p s m args meth c cX3_reachedKinds 4 (some .int) wsX3_reachedKinds RX3 D cc N0)  : ∀ (n : Nat) (v1 : Int32) (v2 : Int32) (v3 : Int32), f_X3_reachedKinds_9 S n v1 v2 v3 = some v → q_WA p l e (q_rm 5 116 0 0) s m args below meth c D N0 4 (MQ below (q_Q D N0 (q_p (some (.int v)) (cw cc g S ++ E))) args s 0 0 (q_A N0)) 0 0 (cw cc g S ++ E) 9 [(0, .ref (g 5)), (1, .int v1), (2, .int v2), (3, .int v3)] [] := by
  intro n
  induction n with
  | zero => intro v1 v2 v3 hf; cases hf
  | succ n ih =>
    intro v1 v2 v3 hf
    have hk9 : ∀ (v1 : Int32) (v2 : Int32) (v3 : Int32), f_X3_reachedKinds_9 S n v1 v2 v3 = some v → q_WA p l e (q_rm 5 116 0 0) s m args below meth c D N0 4 (MQ below (q_Q D N0 (q_p (some (.int v)) (cw cc g S ++ E))) args s 0 0 (q_A N0)) 0 0 (cw cc g S ++ E) 9 [(0, .ref (g 5)), (1, .int v1), (2, .int v2), (3, .int v3)] [] := ih
    have hf : f_X3_reachedKinds_9b S (f_X3_reachedKinds_9 S n) v1 v2 v3 = some v := hf
    refine q_iload_n (pc := 9) C dX3_reachedKinds_9 rfl 3 rfl ?_
    refine q_aload_n (pc := 10) C dX3_reachedKinds_10 rfl 0 rfl ?_
    refine r_g_5_2 (pc := 11) C n_X3_reachedKinds_X3 (List.mem_of_getElem? (i := 1) rfl) dX3_reachedKinds_11 ?_
    refine q_icmp_ge (pc := 14) (tgt := 43) C dX3_reachedKinds_14 (by decide) (fun c3 => ?_) (fun c3 => ?_)
    · have hf := q_iteT hf c3
      refine q_iload_n (pc := 43) C dX3_reachedKinds_43 rfl 2 rfl ?_
      obtain rfl := q_some hf
      exact q_iret (pc := 44) C dX3_reachedKinds_44 ⟨rfl, rfl⟩
    · have hf := q_iteF hf c3
      refine q_iload_n (pc := 17) C dX3_reachedKinds_17 rfl 1 rfl ?_
      refine q_iload_n (pc := 18) C dX3_reachedKinds_18 rfl 3 rfl ?_
      refine q_callSN (pc := 19) (host := "Queryschool") (As := [.int v1, .int v3]) (rest := []) C (c_X8_hasBit l D cc N0 (cw cc g S ++ E) v1 v3 _ rfl) gX3_reachedKinds_X8_hasBit_n34 rfl (List.mem_of_getElem? (i := 24) rfl) (List.mem_of_getElem? (i := 9) rfl) (List.mem_of_getElem? (i := 8) rfl) z_X8_hasBit ⟨Nat.le_of_ble_eq_true rfl, Nat.le_of_ble_eq_true rfl⟩ rfl rfl (Nat.le_of_ble_eq_true rfl) dX3_reachedKinds_19 ⟨Nat.le_of_ble_eq_true rfl, Nat.le_of_ble_eq_true rfl⟩ ?_
      refine q_after (rv := (some (.int (q_b (f_X8_hasBit v1 v3))))) (w0 := (cw cc g S ++ E)) (st2 := [.int (q_b (f_X8_hasBit v1 v3))]) rfl rfl rfl ?_
      refine q_if_eq (pc := 22) (tgt := 37) C dX3_reachedKinds_22 (by decide) (fun c4 => ?_) (fun c4 => ?_)
      · have hf := q_iteT hf c4
        refine q_sub (lvq := [(0, .ref (g 5)), (1, .int v1), (2, .int v2), (3, .int v3)]) [0, 1, 2, 3] rfl ?_
        exact w_X3_reachedKinds_37 C hk9 v1 v2 v3 hf
      · have hf := q_iteF hf c4
        refine q_aload_n (pc := 25) C dX3_reachedKinds_25 rfl 0 rfl ?_
        refine q_iload_n (pc := 26) C dX3_reachedKinds_26 rfl 3 rfl ?_
        refine q_iload_n (pc := 27) C dX3_reachedKinds_27 rfl 1 rfl ?_
        obtain ⟨u5, e6, hf⟩ := q_bind hf
        refine q_callV (pc := 28) (As := [.int v3, .int v1]) (rest := []) C (c_X3_isFirstOfKind l D cc N0 g E S v3 v1 u5 e6) gX3_reachedKinds_X3_isFirstOfKind rfl rfl z_X3_isFirstOfKind ⟨Nat.le_of_ble_eq_true rfl, Nat.le_of_ble_eq_true rfl⟩ (cw_at_5 cc g E _) rfl rfl rfl (Nat.le_of_ble_eq_true rfl) dX3_reachedKinds_28 ⟨Nat.le_of_ble_eq_true rfl, Nat.le_of_ble_eq_true rfl⟩ ?_
        refine q_after (rv := (some (.int (q_b u5)))) (w0 := (cw cc g S ++ E)) (st2 := [.int (q_b u5)]) rfl rfl rfl ?_
        refine q_if_eq (pc := 31) (tgt := 37) C dX3_reachedKinds_31 (by decide) (fun c7 => ?_) (fun c7 => ?_)
        · have hf := q_iteT hf c7
          refine q_sub (lvq := [(0, .ref (g 5)), (1, .int v1), (2, .int v2), (3, .int v3)]) [0, 1, 2, 3] rfl ?_
          exact w_X3_reachedKinds_37 C hk9 v1 v2 v3 hf
        · have hf := q_iteF hf c7
          refine q_iinc (pc := 34) (lvq := [(2, .int (v2 + (1 : Int32))), (0, .ref (g 5)), (1, .int v1), (3, .int v3)]) C (v2 + (1 : Int32)) dX3_reachedKinds_34 2 rfl q_ca_1 (by decide) rfl ?_
          refine q_sub (lvq := [(0, .ref (g 5)), (1, .int v1), (2, .int (v2 + (1 : Int32))), (3, .int v3)]) [1, 2, 0, 3] rfl ?_
          exact w_X3_reachedKinds_37 C hk9 v1 (v2 + (1 : Int32)) v3 hf
set_option maxRecDepth 100000 in
set_option maxHeartbeats 4000000 in
theorem c_X3_reachedKinds (l : Launch) (D : va_G) (cc : Nat → ClassId) (N0 : Nat) (g : Nat → Nat) (E : va_W) (S : CS) (v : Int32) (hf : f_X3_reachedKinds S = some v) : q_Met l yX3_reachedKinds wsX3_reachedKinds 5 116 D cc N0 (cw cc g S ++ E) [.ref (g 5)] (q_p (some (.int v)) (cw cc g S ++ E)) 0 0 := by
  refine q_ofW (code := cX3_reachedKinds) (nL := 4) (ret := (some .int)) (by decide +kernel) rfl (Nat.le_of_ble_eq_true rfl) (fun p e s m below meth c C _ => ?_)
  refine q_lv (lv2 := [(0, .ref (g 5))]) rfl ?_
  refine q_aload_n (pc := 0) C dX3_reachedKinds_0 rfl 0 rfl ?_
  obtain ⟨u1, e2, hf⟩ := q_bind hf
  refine q_callV (pc := 1) (As := []) (rest := []) C (c_X3_reached l D cc N0 g E S u1 e2) gX3_reachedKinds_X3_reached rfl rfl z_X3_reached ⟨Nat.le_of_ble_eq_true rfl, Nat.le_of_ble_eq_true rfl⟩ (cw_at_5 cc g E _) rfl rfl rfl (Nat.le_of_ble_eq_true rfl) dX3_reachedKinds_1 ⟨Nat.le_of_ble_eq_true rfl, Nat.le_of_ble_eq_true rfl⟩ ?_
  refine q_after (rv := (some (.int u1))) (w0 := (cw cc g S ++ E)) (st2 := [.int u1]) rfl rfl rfl ?_
  refine q_istore_n (pc := 4) (lvq := [(1, .int u1), (0, .ref (g 5))]) C dX3_reachedKinds_4 rfl (by decide) rfl ?_
  refine q_iconst (pc := 5) C (0 : Int32) dX3_reachedKinds_5 q_ci_0 ?_
  refine q_istore_n (pc := 6) (lvq := [(2, .int (0 : Int32)), (1, .int u1), (0, .ref (g 5))]) C dX3_reachedKinds_6 rfl (by decide) rfl ?_
  refine q_iconst (pc := 7) C (0 : Int32) dX3_reachedKinds_7 q_ci_0 ?_
  refine q_istore_n (pc := 8) (lvq := [(3, .int (0 : Int32)), (2, .int (0 : Int32)), (1, .int u1), (0, .ref (g 5))]) C dX3_reachedKinds_8 rfl (by decide) rfl ?_
  refine q_sub (lvq := [(0, .ref (g 5)), (1, .int u1), (2, .int (0 : Int32)), (3, .int (0 : Int32))]) [3, 2, 1, 0] rfl ?_
  exact w_X3_reachedKinds_9 C 1000 u1 (0 : Int32) (0 : Int32) hf
theorem z_X3_reachedKinds : q_dsc yX3_reachedKinds 0 := ⟨by decide +kernel, by decide +kernel, by decide +kernel⟩
theorem n_X4_startAnew_X4 : ∀ w ∈ wsX40, w ∈ wsX4_startAnew := fun _ h => (List.mem_cons_of_mem _ (List.mem_append_right _ h))
def f_X4_startAnew_7b (k7 : Int32 → CS → Option CS) (v2 : Int32) (S : CS) : Option CS := (if (5 : Int32) ≤ v2 then some S else k7 (v2 + (1 : Int32)) (cfun S 20 (q_pu 5 (S.1 20) v2 (0 : Int32))))
def f_X4_startAnew_7 : Nat → Int32 → CS → Option CS
  | 0, _, _ => none
  | n + 1, v2, S => f_X4_startAnew_7b  (f_X4_startAnew_7  n) v2 S
def f_X4_startAnew (a1 : Int32) (S : CS) : Option CS := f_X4_startAnew_7 1000 (0 : Int32) (cset S 8 2 a1)
set_option maxRecDepth 100000 in
set_option maxHeartbeats 4000000 in
theorem w_X4_startAnew_7 {p : Program} {l : Launch} {e : Env} {s : State} {m : MethodId} {args : Array Value} {below : List Frame} {meth : Method} {c : Code} {D : va_G} {cc : Nat → ClassId} {N0 : Nat} {g : Nat → Nat} {E : va_W} {v : CS} (C : q_C p s m args meth c cX4_startAnew 3 none wsX4_startAnew RX4 D cc N0)  : ∀ (n : Nat) (v2 : Int32) (S : CS), f_X4_startAnew_7  n v2 S = some v → q_WA p l e (q_rm 1 22 0 0) s m args below meth c D N0 3 (MQ below (q_Q D N0 (q_p (none) (cw cc g v ++ E))) args s 0 0 (q_A N0)) 0 0 (cw cc g S ++ E) 7 [(0, .ref (g 8)), (2, .int v2)] [] := by
  intro n
  induction n with
  | zero => intro v2 S hf; cases hf
  | succ n ih =>
    intro v2 S hf
    have hk7 : ∀ (v2 : Int32) (S : CS), f_X4_startAnew_7  n v2 S = some v → q_WA p l e (q_rm 1 22 0 0) s m args below meth c D N0 3 (MQ below (q_Q D N0 (q_p (none) (cw cc g v ++ E))) args s 0 0 (q_A N0)) 0 0 (cw cc g S ++ E) 7 [(0, .ref (g 8)), (2, .int v2)] [] := ih
    have hf : f_X4_startAnew_7b  (f_X4_startAnew_7  n) v2 S = some v := hf
    refine q_iload_n (pc := 7) C dX4_startAnew_7 rfl 1 rfl ?_
    refine q_iconst (pc := 8) C (5 : Int32) dX4_startAnew_8 q_ci_5 ?_
    refine q_icmp_ge (pc := 9) (tgt := 27) C dX4_startAnew_9 (by decide) (fun c1 => ?_) (fun c1 => ?_)
    · have hf := q_iteT hf c1
      obtain rfl := q_some hf
      exact q_vret (pc := 27) C dX4_startAnew_27 ⟨rfl, rfl⟩
    · have hf := q_iteF hf c1
      refine q_aload_n (pc := 12) C dX4_startAnew_12 rfl 0 rfl ?_
      refine r_g_8_0 (pc := 13) C n_X4_startAnew_X4 (List.mem_of_getElem? (i := 2) rfl) dX4_startAnew_13 ?_
      refine q_iload_n (pc := 16) C dX4_startAnew_16 rfl 1 rfl ?_
      refine q_iconst (pc := 17) C (0 : Int32) dX4_startAnew_17 q_ci_0 ?_
      refine q_callSN (pc := 18) (host := "Queryschool") (As := [.ref (g 20), .int v2, .int (0 : Int32)]) (rest := []) C (c_X8_put l D cc N0 (cw cc g S ++ E) 20 (g 20) 5 (S.1 20) (by decide) (cw_at_20 cc g E S) v2 (0 : Int32)) gX4_startAnew_X8_put_n22 rfl (List.mem_of_getElem? (i := 12) rfl) (List.mem_of_getElem? (i := 4) rfl) (List.mem_of_getElem? (i := 3) rfl) z_X8_put ⟨Nat.le_of_ble_eq_true rfl, Nat.le_of_ble_eq_true rfl⟩ rfl rfl (Nat.le_of_ble_eq_true rfl) dX4_startAnew_18 ⟨Nat.le_of_ble_eq_true rfl, Nat.le_of_ble_eq_true rfl⟩ ?_
      refine q_after (rv := none) (w0 := (cw cc g (cfun S 20 (q_pu 5 (S.1 20) v2 (0 : Int32))) ++ E)) (st2 := []) (cw_fun_20 cc g E _ _) rfl rfl ?_
      refine q_iinc (pc := 21) (lvq := [(2, .int (v2 + (1 : Int32))), (0, .ref (g 8))]) C (v2 + (1 : Int32)) dX4_startAnew_21 1 rfl q_ca_1 (by decide) rfl ?_
      refine q_goto (pc := 24) (tgt := 7) C dX4_startAnew_24 (by decide) ?_
      refine q_sub (lvq := [(0, .ref (g 8)), (2, .int (v2 + (1 : Int32)))]) [1, 0] rfl ?_
      exact hk7 (v2 + (1 : Int32)) (cfun S 20 (q_pu 5 (S.1 20) v2 (0 : Int32))) hf
set_option maxRecDepth 100000 in
set_option maxHeartbeats 4000000 in
theorem c_X4_startAnew (l : Launch) (D : va_G) (cc : Nat → ClassId) (N0 : Nat) (g : Nat → Nat) (E : va_W) (S : CS) (a1 : Int32) (v : CS) (hf : f_X4_startAnew a1 S = some v) : q_Met l yX4_startAnew wsX4_startAnew 1 22 D cc N0 (cw cc g S ++ E) [.ref (g 8), .int a1] (q_p (none) (cw cc g v ++ E)) 0 0 := by
  refine q_ofW (code := cX4_startAnew) (nL := 3) (ret := none) (by decide +kernel) rfl (Nat.le_of_ble_eq_true rfl) (fun p e s m below meth c C _ => ?_)
  refine q_lv (lv2 := [(0, .ref (g 8)), (1, .int a1)]) rfl ?_
  refine q_aload_n (pc := 0) C dX4_startAnew_0 rfl 0 rfl ?_
  refine q_iload_n (pc := 1) C dX4_startAnew_1 rfl 1 rfl ?_
  refine r_p_8_2 (pc := 2) C n_X4_startAnew_X4 (List.mem_of_getElem? (i := 1) rfl) dX4_startAnew_2 ?_
  refine q_iconst (pc := 5) C (0 : Int32) dX4_startAnew_5 q_ci_0 ?_
  refine q_istore_n (pc := 6) (lvq := [(2, .int (0 : Int32)), (0, .ref (g 8)), (1, .int a1)]) C dX4_startAnew_6 rfl (by decide) rfl ?_
  refine q_sub (lvq := [(0, .ref (g 8)), (2, .int (0 : Int32))]) [1, 0] rfl ?_
  exact w_X4_startAnew_7 C 1000 (0 : Int32) (cset S 8 2 a1) hf
theorem z_X4_startAnew : q_dsc yX4_startAnew 1 := ⟨by decide +kernel, by decide +kernel, by decide +kernel⟩
theorem n_X4_isThing_X4 : ∀ w ∈ wsX40, w ∈ wsX4_isThing := fun _ h => (List.mem_cons_of_mem _ (List.mem_append_right _ h))
def f_X4_isThing (S : CS) (a1 : Int32) : Bool := (if a1 < 0 then false else (if (S.1 8 2) ≤ a1 then false else true))
set_option maxRecDepth 100000 in
set_option maxHeartbeats 4000000 in
theorem c_X4_isThing (l : Launch) (D : va_G) (cc : Nat → ClassId) (N0 : Nat) (g : Nat → Nat) (E : va_W) (S : CS) (a1 : Int32) (v : Bool) (hf : f_X4_isThing S a1 = v) : q_Met l yX4_isThing wsX4_isThing 0 0 D cc N0 (cw cc g S ++ E) [.ref (g 8), .int a1] (q_p (some (.int (q_b v))) (cw cc g S ++ E)) 0 0 := by
  refine q_ofW (code := cX4_isThing) (nL := 2) (ret := (some .boolean)) (by decide +kernel) rfl (Nat.le_of_ble_eq_true rfl) (fun p e s m below meth c C _ => ?_)
  refine q_lv (lv2 := [(0, .ref (g 8)), (1, .int a1)]) rfl ?_
  refine q_iload_n (pc := 0) C dX4_isThing_0 rfl 1 rfl ?_
  refine q_if_lt (pc := 1) (tgt := 16) C dX4_isThing_1 (by decide) (fun c1 => ?_) (fun c1 => ?_)
  · have hf := q_iteT hf c1
    refine q_iconst (pc := 16) C (0 : Int32) dX4_isThing_16 q_ci_0 ?_
    obtain rfl := hf
    exact q_zret (pc := 17) C (by decide +kernel) dX4_isThing_17 ⟨rfl, rfl⟩
  · have hf := q_iteF hf c1
    refine q_iload_n (pc := 4) C dX4_isThing_4 rfl 1 rfl ?_
    refine q_aload_n (pc := 5) C dX4_isThing_5 rfl 0 rfl ?_
    refine r_g_8_2 (pc := 6) C n_X4_isThing_X4 (List.mem_of_getElem? (i := 1) rfl) dX4_isThing_6 ?_
    refine q_icmp_ge (pc := 9) (tgt := 16) C dX4_isThing_9 (by decide) (fun c2 => ?_) (fun c2 => ?_)
    · have hf := q_iteT hf c2
      refine q_iconst (pc := 16) C (0 : Int32) dX4_isThing_16 q_ci_0 ?_
      obtain rfl := hf
      exact q_zret (pc := 17) C (by decide +kernel) dX4_isThing_17 ⟨rfl, rfl⟩
    · have hf := q_iteF hf c2
      refine q_iconst (pc := 12) C (1 : Int32) dX4_isThing_12 q_ci_1 ?_
      refine q_goto (pc := 13) (tgt := 17) C dX4_isThing_13 (by decide) ?_
      obtain rfl := hf
      exact q_zret (pc := 17) C (by decide +kernel) dX4_isThing_17 ⟨rfl, rfl⟩
theorem z_X4_isThing : q_dsc yX4_isThing 1 := ⟨by decide +kernel, by decide +kernel, by decide +kernel⟩
theorem n_X4_line_X4 : ∀ w ∈ wsX40, w ∈ wsX4_line := fun _ h => (List.mem_cons_of_mem _ (List.mem_append_right _ h))
def f_X4_line (a1 : Int32) (a2 : Int32) (S : CS) : CS := (cfun S 20 (q_pu 5 (S.1 20) a2 ((q_at 5 (S.1 20) a2) ||| ((1 : Int32) <<< (a1 &&& 31)))))
set_option maxRecDepth 100000 in
set_option maxHeartbeats 4000000 in
theorem c_X4_line (l : Launch) (D : va_G) (cc : Nat → ClassId) (N0 : Nat) (g : Nat → Nat) (E : va_W) (S : CS) (a1 : Int32) (a2 : Int32) (v : CS) (hf : f_X4_line a1 a2 S = v) : q_Met l yX4_line wsX4_line 1 22 D cc N0 (cw cc g S ++ E) [.ref (g 8), .int a1, .int a2] (q_p (none) (cw cc g v ++ E)) 0 0 := by
  refine q_ofW (code := cX4_line) (nL := 3) (ret := none) (by decide +kernel) rfl (Nat.le_of_ble_eq_true rfl) (fun p e s m below meth c C _ => ?_)
  refine q_lv (lv2 := [(0, .ref (g 8)), (1, .int a1), (2, .int a2)]) rfl ?_
  refine q_aload_n (pc := 0) C dX4_line_0 rfl 0 rfl ?_
  refine r_g_8_0 (pc := 1) C n_X4_line_X4 (List.mem_of_getElem? (i := 1) rfl) dX4_line_1 ?_
  refine q_iload_n (pc := 4) C dX4_line_4 rfl 2 rfl ?_
  refine q_aload_n (pc := 5) C dX4_line_5 rfl 0 rfl ?_
  refine r_g_8_0 (pc := 6) C n_X4_line_X4 (List.mem_of_getElem? (i := 1) rfl) dX4_line_6 ?_
  refine q_iload_n (pc := 9) C dX4_line_9 rfl 2 rfl ?_
  refine q_callSN (pc := 10) (host := "Queryschool") (As := [.ref (g 20), .int a2]) (rest := [.int a2, .ref (g 20)]) C (c_X8_at l D cc N0 (cw cc g S ++ E) 20 (g 20) 5 (S.1 20) (by decide) (cw_at_20 cc g E S) a2) gX4_line_X8_at_n26 rfl (List.mem_of_getElem? (i := 13) rfl) (List.mem_of_getElem? (i := 3) rfl) (List.mem_of_getElem? (i := 2) rfl) z_X8_at ⟨Nat.le_of_ble_eq_true rfl, Nat.le_of_ble_eq_true rfl⟩ rfl rfl (Nat.le_of_ble_eq_true rfl) dX4_line_10 ⟨Nat.le_of_ble_eq_true rfl, Nat.le_of_ble_eq_true rfl⟩ ?_
  refine q_after (rv := (some (.int (q_at 5 (S.1 20) a2)))) (w0 := (cw cc g S ++ E)) (st2 := [.int (q_at 5 (S.1 20) a2), .int a2, .ref (g 20)]) rfl rfl rfl ?_
  refine q_iconst (pc := 13) C (1 : Int32) dX4_line_13 q_ci_1 ?_
  refine q_iload_n (pc := 14) C dX4_line_14 rfl 1 rfl ?_
  refine q_ishl (pc := 15) C dX4_line_15 ?_
  refine q_ior (pc := 16) C dX4_line_16 ?_
  refine q_callSN (pc := 17) (host := "Queryschool") (As := [.ref (g 20), .int a2, .int ((q_at 5 (S.1 20) a2) ||| ((1 : Int32) <<< (a1 &&& 31)))]) (rest := []) C (c_X8_put l D cc N0 (cw cc g S ++ E) 20 (g 20) 5 (S.1 20) (by decide) (cw_at_20 cc g E S) a2 ((q_at 5 (S.1 20) a2) ||| ((1 : Int32) <<< (a1 &&& 31)))) gX4_line_X8_put_n22 rfl (List.mem_of_getElem? (i := 12) rfl) (List.mem_of_getElem? (i := 3) rfl) (List.mem_of_getElem? (i := 5) rfl) z_X8_put ⟨Nat.le_of_ble_eq_true rfl, Nat.le_of_ble_eq_true rfl⟩ rfl rfl (Nat.le_of_ble_eq_true rfl) dX4_line_17 ⟨Nat.le_of_ble_eq_true rfl, Nat.le_of_ble_eq_true rfl⟩ ?_
  refine q_after (rv := none) (w0 := (cw cc g (cfun S 20 (q_pu 5 (S.1 20) a2 ((q_at 5 (S.1 20) a2) ||| ((1 : Int32) <<< (a1 &&& 31))))) ++ E)) (st2 := []) (cw_fun_20 cc g E _ _) rfl rfl ?_
  obtain rfl := hf
  exact q_vret (pc := 20) C dX4_line_20 ⟨rfl, rfl⟩
theorem z_X4_line : q_dsc yX4_line 2 := ⟨by decide +kernel, by decide +kernel, by decide +kernel⟩
theorem n_X4_waysToPlace_X4 : ∀ w ∈ wsX40, w ∈ wsX4_waysToPlace := fun _ h => (List.mem_cons_of_mem _ (List.mem_append_right _ h))
def f_X4_waysToPlace_55 (S : CS) (k4 : Int32 → Int32 → Int32 → Option Int32) (v1 : Int32) (v2 : Int32) (v3 : Int32) : Option Int32 := k4 v1 v2 (v3 + (1 : Int32))
def f_X4_waysToPlace_4b (S : CS) (k4 : Int32 → Int32 → Int32 → Option Int32) (v1 : Int32) (v2 : Int32) (v3 : Int32) : Option Int32 := (if (S.1 8 2) ≤ v3 then some v2 else (if (v1 &&& (((1 : Int32) <<< (v3 &&& 31)) ^^^ (-1 : Int32))) = v1 then f_X4_waysToPlace_55 S k4 v1 v2 v3 else (if ((q_at 5 (S.1 20) v3) &&& ((v1 &&& (((1 : Int32) <<< (v3 &&& 31)) ^^^ (-1 : Int32))) ^^^ (-1 : Int32))) = 0 then f_X4_waysToPlace_55 S k4 v1 (v2 + (q_at 32 (S.1 21) (v1 &&& (((1 : Int32) <<< (v3 &&& 31)) ^^^ (-1 : Int32))))) v3 else f_X4_waysToPlace_55 S k4 v1 v2 v3)))
def f_X4_waysToPlace_4 (S : CS) : Nat → Int32 → Int32 → Int32 → Option Int32
  | 0, _, _, _ => none
  | n + 1, v1, v2, v3 => f_X4_waysToPlace_4b S (f_X4_waysToPlace_4 S n) v1 v2 v3
def f_X4_waysToPlace (S : CS) (a1 : Int32) : Option Int32 := f_X4_waysToPlace_4 S 1000 a1 (0 : Int32) (0 : Int32)
set_option maxRecDepth 100000 in
set_option maxHeartbeats 4000000 in
theorem w_X4_waysToPlace_55 {p : Program} {l : Launch} {e : Env} {s : State} {m : MethodId} {args : Array Value} {below : List Frame} {meth : Method} {c : Code} {D : va_G} {cc : Nat → ClassId} {N0 : Nat} {g : Nat → Nat} {E : va_W} {S : CS} {k4 : Int32 → Int32 → Int32 → Option Int32} {v : Int32} (C : q_C p s m args meth c cX4_waysToPlace 5 (some .int) wsX4_waysToPlace RX4 D cc N0) (hk4 : ∀ (v1 : Int32) (v2 : Int32) (v3 : Int32), k4 v1 v2 v3 = some v → q_WA p l e (q_rm 1 21 0 0) s m args below meth c D N0 5 (MQ below (q_Q D N0 (q_p (some (.int v)) (cw cc g S ++ E))) args s 0 0 (q_A N0)) 0 0 (cw cc g S ++ E) 4 [(0, .ref (g 8)), (1, .int v1), (2, .int v2), (3, .int v3)] []) (v1 : Int32) (v2 : Int32) (v3 : Int32) (hf : f_X4_waysToPlace_55 S k4 v1 v2 v3 = some v) : q_WA p l e (q_rm 1 21 0 0) s m args below meth c D N0 5 (MQ below (q_Q D N0 (q_p (some (.int v)) (cw cc g S ++ E))) args s 0 0 (q_A N0)) 0 0 (cw cc g S ++ E) 55 [(0, .ref (g 8)), (1, .int v1), (2, .int v2), (3, .int v3)] [] := by
  refine q_iinc (pc := 55) (lvq := [(3, .int (v3 + (1 : Int32))), (0, .ref (g 8)), (1, .int v1), (2, .int v2)]) C (v3 + (1 : Int32)) dX4_waysToPlace_55 3 rfl q_ca_1 (by decide) rfl ?_
  refine q_goto (pc := 58) (tgt := 4) C dX4_waysToPlace_58 (by decide) ?_
  refine q_sub (lvq := [(0, .ref (g 8)), (1, .int v1), (2, .int v2), (3, .int (v3 + (1 : Int32)))]) [1, 2, 3, 0] rfl ?_
  exact hk4 v1 v2 (v3 + (1 : Int32)) hf
set_option maxRecDepth 100000 in
set_option maxHeartbeats 4000000 in
theorem w_X4_waysToPlace_4 {p : Program} {l : Launch} {e : Env} {s : State} {m : MethodId} {args : Array Value} {below : List Frame} {meth : Method} {c : Code} {D : va_G} {cc : Nat → ClassId} {N0 : Nat} {g : Nat → Nat} {E : va_W} {S : CS} {v : Int32} (C : q_C p s m args meth c cX4_waysToPlace 5 (some .int) wsX4_waysToPlace RX4 D cc N0)  : ∀ (n : Nat) (v1 : Int32) (v2 : Int32) (v3 : Int32), f_X4_waysToPlace_4 S n v1 v2 v3 = some v → q_WA p l e (q_rm 1 21 0 0) s m args below meth c D N0 5 (MQ below (q_Q D N0 (q_p (some (.int v)) (cw cc g S ++ E))) args s 0 0 (q_A N0)) 0 0 (cw cc g S ++ E) 4 [(0, .ref (g 8)), (1, .int v1), (2, .int v2), (3, .int v3)] [] := by
  intro n
  induction n with
  | zero => intro v1 v2 v3 hf; cases hf
  | succ n ih =>
    intro v1 v2 v3 hf
    have hk4 : ∀ (v1 : Int32) (v2 : Int32) (v3 : Int32), f_X4_waysToPlace_4 S n v1 v2 v3 = some v → q_WA p l e (q_rm 1 21 0 0) s m args below meth c D N0 5 (MQ below (q_Q D N0 (q_p (some (.int v)) (cw cc g S ++ E))) args s 0 0 (q_A N0)) 0 0 (cw cc g S ++ E) 4 [(0, .ref (g 8)), (1, .int v1), (2, .int v2), (3, .int v3)] [] := ih
    have hf : f_X4_waysToPlace_4b S (f_X4_waysToPlace_4 S n) v1 v2 v3 = some v := hf
    refine q_iload_n (pc := 4) C dX4_waysToPlace_4 rfl 3 rfl ?_
    refine q_aload_n (pc := 5) C dX4_waysToPlace_5 rfl 0 rfl ?_
    refine r_g_8_2 (pc := 6) C n_X4_waysToPlace_X4 (List.mem_of_getElem? (i := 1) rfl) dX4_waysToPlace_6 ?_
    refine q_icmp_ge (pc := 9) (tgt := 61) C dX4_waysToPlace_9 (by decide) (fun c1 => ?_) (fun c1 => ?_)
    · have hf := q_iteT hf c1
      refine q_iload_n (pc := 61) C dX4_waysToPlace_61 rfl 2 rfl ?_
      obtain rfl := q_some hf
      exact q_iret (pc := 62) C dX4_waysToPlace_62 ⟨rfl, rfl⟩
    · have hf := q_iteF hf c1
      refine q_iload_n (pc := 12) C dX4_waysToPlace_12 rfl 1 rfl ?_
      refine q_iconst (pc := 13) C (1 : Int32) dX4_waysToPlace_13 q_ci_1 ?_
      refine q_iload_n (pc := 14) C dX4_waysToPlace_14 rfl 3 rfl ?_
      refine q_ishl (pc := 15) C dX4_waysToPlace_15 ?_
      refine q_iconst (pc := 16) C (-1 : Int32) dX4_waysToPlace_16 q_ci_m1 ?_
      refine q_ixor (pc := 17) C dX4_waysToPlace_17 ?_
      refine q_iand (pc := 18) C dX4_waysToPlace_18 ?_
      refine q_istore (pc := 19) (lvq := [(4, .int (v1 &&& (((1 : Int32) <<< (v3 &&& 31)) ^^^ (-1 : Int32)))), (0, .ref (g 8)), (1, .int v1), (2, .int v2), (3, .int v3)]) C dX4_waysToPlace_19 (by decide) rfl ?_
      refine q_iload (pc := 21) C dX4_waysToPlace_21 0 rfl ?_
      refine q_iload_n (pc := 23) C dX4_waysToPlace_23 rfl 2 rfl ?_
      refine q_icmp_eq (pc := 24) (tgt := 55) C dX4_waysToPlace_24 (by decide) (fun c2 => ?_) (fun c2 => ?_)
      · have hf := q_iteT hf c2
        refine q_sub (lvq := [(0, .ref (g 8)), (1, .int v1), (2, .int v2), (3, .int v3)]) [1, 2, 3, 4] rfl ?_
        exact w_X4_waysToPlace_55 C hk4 v1 v2 v3 hf
      · have hf := q_iteF hf c2
        refine q_aload_n (pc := 27) C dX4_waysToPlace_27 rfl 1 rfl ?_
        refine r_g_8_0 (pc := 28) C n_X4_waysToPlace_X4 (List.mem_of_getElem? (i := 2) rfl) dX4_waysToPlace_28 ?_
        refine q_iload_n (pc := 31) C dX4_waysToPlace_31 rfl 4 rfl ?_
        refine q_callSN (pc := 32) (host := "Queryschool") (As := [.ref (g 20), .int v3]) (rest := []) C (c_X8_at l D cc N0 (cw cc g S ++ E) 20 (g 20) 5 (S.1 20) (by decide) (cw_at_20 cc g E S) v3) gX4_waysToPlace_X8_at_n26 rfl (List.mem_of_getElem? (i := 13) rfl) (List.mem_of_getElem? (i := 5) rfl) (List.mem_of_getElem? (i := 4) rfl) z_X8_at ⟨Nat.le_of_ble_eq_true rfl, Nat.le_of_ble_eq_true rfl⟩ rfl rfl (Nat.le_of_ble_eq_true rfl) dX4_waysToPlace_32 ⟨Nat.le_of_ble_eq_true rfl, Nat.le_of_ble_eq_true rfl⟩ ?_
        refine q_after (rv := (some (.int (q_at 5 (S.1 20) v3)))) (w0 := (cw cc g S ++ E)) (st2 := [.int (q_at 5 (S.1 20) v3)]) rfl rfl rfl ?_
        refine q_iload (pc := 35) C dX4_waysToPlace_35 0 rfl ?_
        refine q_iconst (pc := 37) C (-1 : Int32) dX4_waysToPlace_37 q_ci_m1 ?_
        refine q_ixor (pc := 38) C dX4_waysToPlace_38 ?_
        refine q_iand (pc := 39) C dX4_waysToPlace_39 ?_
        refine q_if_ne (pc := 40) (tgt := 55) C dX4_waysToPlace_40 (by decide) (fun c3 => ?_) (fun c3 => ?_)
        · have hf := q_iteF hf c3
          refine q_sub (lvq := [(0, .ref (g 8)), (1, .int v1), (2, .int v2), (3, .int v3)]) [1, 2, 3, 4] rfl ?_
          exact w_X4_waysToPlace_55 C hk4 v1 v2 v3 hf
        · have hf := q_iteT hf c3
          refine q_iload_n (pc := 43) C dX4_waysToPlace_43 rfl 3 rfl ?_
          refine q_aload_n (pc := 44) C dX4_waysToPlace_44 rfl 1 rfl ?_
          refine r_g_8_1 (pc := 45) C n_X4_waysToPlace_X4 (List.mem_of_getElem? (i := 3) rfl) dX4_waysToPlace_45 ?_
          refine q_iload (pc := 48) C dX4_waysToPlace_48 0 rfl ?_
          refine q_callSN (pc := 50) (host := "Queryschool") (As := [.ref (g 21), .int (v1 &&& (((1 : Int32) <<< (v3 &&& 31)) ^^^ (-1 : Int32)))]) (rest := [.int v2]) C (c_X8_at l D cc N0 (cw cc g S ++ E) 21 (g 21) 32 (S.1 21) (by decide) (cw_at_21 cc g E S) (v1 &&& (((1 : Int32) <<< (v3 &&& 31)) ^^^ (-1 : Int32)))) gX4_waysToPlace_X8_at_n26 rfl (List.mem_of_getElem? (i := 13) rfl) (List.mem_of_getElem? (i := 5) rfl) (List.mem_of_getElem? (i := 4) rfl) z_X8_at ⟨Nat.le_of_ble_eq_true rfl, Nat.le_of_ble_eq_true rfl⟩ rfl rfl (Nat.le_of_ble_eq_true rfl) dX4_waysToPlace_50 ⟨Nat.le_of_ble_eq_true rfl, Nat.le_of_ble_eq_true rfl⟩ ?_
          refine q_after (rv := (some (.int (q_at 32 (S.1 21) (v1 &&& (((1 : Int32) <<< (v3 &&& 31)) ^^^ (-1 : Int32))))))) (w0 := (cw cc g S ++ E)) (st2 := [.int (q_at 32 (S.1 21) (v1 &&& (((1 : Int32) <<< (v3 &&& 31)) ^^^ (-1 : Int32)))), .int v2]) rfl rfl rfl ?_
          refine q_iadd (pc := 53) C dX4_waysToPlace_53 ?_
          refine q_istore_n (pc := 54) (lvq := [(2, .int (v2 + (q_at 32 (S.1 21) (v1 &&& (((1 : Int32) <<< (v3 &&& 31)) ^^^ (-1 : Int32)))))), (4, .int (v1 &&& (((1 : Int32) <<< (v3 &&& 31)) ^^^ (-1 : Int32)))), (0, .ref (g 8)), (1, .int v1), (3, .int v3)]) C dX4_waysToPlace_54 rfl (by decide) rfl ?_
          refine q_sub (lvq := [(0, .ref (g 8)), (1, .int v1), (2, .int (v2 + (q_at 32 (S.1 21) (v1 &&& (((1 : Int32) <<< (v3 &&& 31)) ^^^ (-1 : Int32)))))), (3, .int v3)]) [2, 3, 0, 4] rfl ?_
          exact w_X4_waysToPlace_55 C hk4 v1 (v2 + (q_at 32 (S.1 21) (v1 &&& (((1 : Int32) <<< (v3 &&& 31)) ^^^ (-1 : Int32))))) v3 hf
set_option maxRecDepth 100000 in
set_option maxHeartbeats 4000000 in
theorem c_X4_waysToPlace (l : Launch) (D : va_G) (cc : Nat → ClassId) (N0 : Nat) (g : Nat → Nat) (E : va_W) (S : CS) (a1 : Int32) (v : Int32) (hf : f_X4_waysToPlace S a1 = some v) : q_Met l yX4_waysToPlace wsX4_waysToPlace 1 21 D cc N0 (cw cc g S ++ E) [.ref (g 8), .int a1] (q_p (some (.int v)) (cw cc g S ++ E)) 0 0 := by
  refine q_ofW (code := cX4_waysToPlace) (nL := 5) (ret := (some .int)) (by decide +kernel) rfl (Nat.le_of_ble_eq_true rfl) (fun p e s m below meth c C _ => ?_)
  refine q_lv (lv2 := [(0, .ref (g 8)), (1, .int a1)]) rfl ?_
  refine q_iconst (pc := 0) C (0 : Int32) dX4_waysToPlace_0 q_ci_0 ?_
  refine q_istore_n (pc := 1) (lvq := [(2, .int (0 : Int32)), (0, .ref (g 8)), (1, .int a1)]) C dX4_waysToPlace_1 rfl (by decide) rfl ?_
  refine q_iconst (pc := 2) C (0 : Int32) dX4_waysToPlace_2 q_ci_0 ?_
  refine q_istore_n (pc := 3) (lvq := [(3, .int (0 : Int32)), (2, .int (0 : Int32)), (0, .ref (g 8)), (1, .int a1)]) C dX4_waysToPlace_3 rfl (by decide) rfl ?_
  refine q_sub (lvq := [(0, .ref (g 8)), (1, .int a1), (2, .int (0 : Int32)), (3, .int (0 : Int32))]) [2, 3, 1, 0] rfl ?_
  exact w_X4_waysToPlace_4 C 1000 a1 (0 : Int32) (0 : Int32) hf
theorem z_X4_waysToPlace : q_dsc yX4_waysToPlace 1 := ⟨by decide +kernel, by decide +kernel, by decide +kernel⟩
theorem n_X4_allWays_X4 : ∀ w ∈ wsX40, w ∈ wsX4_allWays := fun _ h => (List.mem_cons_of_mem _ (List.mem_append_right _ h))
def f_X4_allWays_11b (k11 : Int32 → CS → Option (Int32 × CS)) (v1 : Int32) (S : CS) : Option (Int32 × CS) := (if ((1 : Int32) <<< ((S.1 8 2) &&& 31)) ≤ v1 then some ((q_at 32 (S.1 21) (((1 : Int32) <<< ((S.1 8 2) &&& 31)) - (1 : Int32))), S) else ((f_X4_waysToPlace S v1).bind fun u2 => k11 (v1 + (1 : Int32)) (cfun S 21 (q_pu 32 (S.1 21) v1 u2))))
def f_X4_allWays_11 : Nat → Int32 → CS → Option (Int32 × CS)
  | 0, _, _ => none
  | n + 1, v1, S => f_X4_allWays_11b  (f_X4_allWays_11  n) v1 S
def f_X4_allWays (S : CS) : Option (Int32 × CS) := f_X4_allWays_11 1000 (1 : Int32) (cfun S 21 (q_pu 32 (S.1 21) (0 : Int32) (1 : Int32)))
set_option maxRecDepth 100000 in
set_option maxHeartbeats 4000000 in
theorem w_X4_allWays_11 {p : Program} {l : Launch} {e : Env} {s : State} {m : MethodId} {args : Array Value} {below : List Frame} {meth : Method} {c : Code} {D : va_G} {cc : Nat → ClassId} {N0 : Nat} {g : Nat → Nat} {E : va_W} {v : (Int32 × CS)} (C : q_C p s m args meth c cX4_allWays 2 (some .int) wsX4_allWays RX4 D cc N0)  : ∀ (n : Nat) (v1 : Int32) (S : CS), f_X4_allWays_11  n v1 S = some v → q_WA p l e (q_rm 2 45 0 0) s m args below meth c D N0 2 (MQ below (q_Q D N0 (q_p (some (.int v.1)) (cw cc g v.2 ++ E))) args s 0 0 (q_A N0)) 0 0 (cw cc g S ++ E) 11 [(0, .ref (g 8)), (1, .int v1)] [] := by
  intro n
  induction n with
  | zero => intro v1 S hf; cases hf
  | succ n ih =>
    intro v1 S hf
    have hk11 : ∀ (v1 : Int32) (S : CS), f_X4_allWays_11  n v1 S = some v → q_WA p l e (q_rm 2 45 0 0) s m args below meth c D N0 2 (MQ below (q_Q D N0 (q_p (some (.int v.1)) (cw cc g v.2 ++ E))) args s 0 0 (q_A N0)) 0 0 (cw cc g S ++ E) 11 [(0, .ref (g 8)), (1, .int v1)] [] := ih
    have hf : f_X4_allWays_11b  (f_X4_allWays_11  n) v1 S = some v := hf
    refine q_iload_n (pc := 11) C dX4_allWays_11 rfl 1 rfl ?_
    refine q_iconst (pc := 12) C (1 : Int32) dX4_allWays_12 q_ci_1 ?_
    refine q_aload_n (pc := 13) C dX4_allWays_13 rfl 0 rfl ?_
    refine r_g_8_2 (pc := 14) C n_X4_allWays_X4 (List.mem_of_getElem? (i := 2) rfl) dX4_allWays_14 ?_
    refine q_ishl (pc := 17) C dX4_allWays_17 ?_
    refine q_icmp_ge (pc := 18) (tgt := 40) C dX4_allWays_18 (by decide) (fun c1 => ?_) (fun c1 => ?_)
    · have hf := q_iteT hf c1
      refine q_aload_n (pc := 40) C dX4_allWays_40 rfl 0 rfl ?_
      refine r_g_8_1 (pc := 41) C n_X4_allWays_X4 (List.mem_of_getElem? (i := 1) rfl) dX4_allWays_41 ?_
      refine q_iconst (pc := 44) C (1 : Int32) dX4_allWays_44 q_ci_1 ?_
      refine q_aload_n (pc := 45) C dX4_allWays_45 rfl 0 rfl ?_
      refine r_g_8_2 (pc := 46) C n_X4_allWays_X4 (List.mem_of_getElem? (i := 2) rfl) dX4_allWays_46 ?_
      refine q_ishl (pc := 49) C dX4_allWays_49 ?_
      refine q_iconst (pc := 50) C (1 : Int32) dX4_allWays_50 q_ci_1 ?_
      refine q_isub (pc := 51) C dX4_allWays_51 ?_
      refine q_callSN (pc := 52) (host := "Queryschool") (As := [.ref (g 21), .int (((1 : Int32) <<< ((S.1 8 2) &&& 31)) - (1 : Int32))]) (rest := []) C (c_X8_at l D cc N0 (cw cc g S ++ E) 21 (g 21) 32 (S.1 21) (by decide) (cw_at_21 cc g E S) (((1 : Int32) <<< ((S.1 8 2) &&& 31)) - (1 : Int32))) gX4_allWays_X8_at_n26 rfl (List.mem_of_getElem? (i := 13) rfl) (List.mem_of_getElem? (i := 4) rfl) (List.mem_of_getElem? (i := 12) rfl) z_X8_at ⟨Nat.le_of_ble_eq_true rfl, Nat.le_of_ble_eq_true rfl⟩ rfl rfl (Nat.le_of_ble_eq_true rfl) dX4_allWays_52 ⟨Nat.le_of_ble_eq_true rfl, Nat.le_of_ble_eq_true rfl⟩ ?_
      refine q_after (rv := (some (.int (q_at 32 (S.1 21) (((1 : Int32) <<< ((S.1 8 2) &&& 31)) - (1 : Int32)))))) (w0 := (cw cc g S ++ E)) (st2 := [.int (q_at 32 (S.1 21) (((1 : Int32) <<< ((S.1 8 2) &&& 31)) - (1 : Int32)))]) rfl rfl rfl ?_
      obtain rfl := q_some hf
      exact q_iret (pc := 55) C dX4_allWays_55 ⟨rfl, rfl⟩
    · have hf := q_iteF hf c1
      refine q_aload_n (pc := 21) C dX4_allWays_21 rfl 0 rfl ?_
      refine r_g_8_1 (pc := 22) C n_X4_allWays_X4 (List.mem_of_getElem? (i := 1) rfl) dX4_allWays_22 ?_
      refine q_iload_n (pc := 25) C dX4_allWays_25 rfl 1 rfl ?_
      refine q_aload_n (pc := 26) C dX4_allWays_26 rfl 0 rfl ?_
      refine q_iload_n (pc := 27) C dX4_allWays_27 rfl 1 rfl ?_
      obtain ⟨u2, e3, hf⟩ := q_bind hf
      refine q_callV (pc := 28) (As := [.int v1]) (rest := [.int v1, .ref (g 21)]) C (c_X4_waysToPlace l D cc N0 g E S v1 u2 e3) gX4_allWays_X4_waysToPlace rfl rfl z_X4_waysToPlace ⟨Nat.le_of_ble_eq_true rfl, Nat.le_of_ble_eq_true rfl⟩ (cw_at_8 cc g E _) rfl rfl rfl (Nat.le_of_ble_eq_true rfl) dX4_allWays_28 ⟨Nat.le_of_ble_eq_true rfl, Nat.le_of_ble_eq_true rfl⟩ ?_
      refine q_after (rv := (some (.int u2))) (w0 := (cw cc g S ++ E)) (st2 := [.int u2, .int v1, .ref (g 21)]) rfl rfl rfl ?_
      refine q_callSN (pc := 31) (host := "Queryschool") (As := [.ref (g 21), .int v1, .int u2]) (rest := []) C (c_X8_put l D cc N0 (cw cc g S ++ E) 21 (g 21) 32 (S.1 21) (by decide) (cw_at_21 cc g E S) v1 u2) gX4_allWays_X8_put_n22 rfl (List.mem_of_getElem? (i := 12) rfl) (List.mem_of_getElem? (i := 4) rfl) (List.mem_of_getElem? (i := 3) rfl) z_X8_put ⟨Nat.le_of_ble_eq_true rfl, Nat.le_of_ble_eq_true rfl⟩ rfl rfl (Nat.le_of_ble_eq_true rfl) dX4_allWays_31 ⟨Nat.le_of_ble_eq_true rfl, Nat.le_of_ble_eq_true rfl⟩ ?_
      refine q_after (rv := none) (w0 := (cw cc g (cfun S 21 (q_pu 32 (S.1 21) v1 u2)) ++ E)) (st2 := []) (cw_fun_21 cc g E _ _) rfl rfl ?_
      refine q_iinc (pc := 34) (lvq := [(1, .int (v1 + (1 : Int32))), (0, .ref (g 8))]) C (v1 + (1 : Int32)) dX4_allWays_34 1 rfl q_ca_1 (by decide) rfl ?_
      refine q_goto (pc := 37) (tgt := 11) C dX4_allWays_37 (by decide) ?_
      refine q_sub (lvq := [(0, .ref (g 8)), (1, .int (v1 + (1 : Int32)))]) [1, 0] rfl ?_
      exact hk11 (v1 + (1 : Int32)) (cfun S 21 (q_pu 32 (S.1 21) v1 u2)) hf
set_option maxRecDepth 100000 in
set_option maxHeartbeats 4000000 in
theorem c_X4_allWays (l : Launch) (D : va_G) (cc : Nat → ClassId) (N0 : Nat) (g : Nat → Nat) (E : va_W) (S : CS) (v : (Int32 × CS)) (hf : f_X4_allWays S = some v) : q_Met l yX4_allWays wsX4_allWays 2 45 D cc N0 (cw cc g S ++ E) [.ref (g 8)] (q_p (some (.int v.1)) (cw cc g v.2 ++ E)) 0 0 := by
  refine q_ofW (code := cX4_allWays) (nL := 2) (ret := (some .int)) (by decide +kernel) rfl (Nat.le_of_ble_eq_true rfl) (fun p e s m below meth c C _ => ?_)
  refine q_lv (lv2 := [(0, .ref (g 8))]) rfl ?_
  refine q_aload_n (pc := 0) C dX4_allWays_0 rfl 0 rfl ?_
  refine r_g_8_1 (pc := 1) C n_X4_allWays_X4 (List.mem_of_getElem? (i := 1) rfl) dX4_allWays_1 ?_
  refine q_iconst (pc := 4) C (0 : Int32) dX4_allWays_4 q_ci_0 ?_
  refine q_iconst (pc := 5) C (1 : Int32) dX4_allWays_5 q_ci_1 ?_
  refine q_callSN (pc := 6) (host := "Queryschool") (As := [.ref (g 21), .int (0 : Int32), .int (1 : Int32)]) (rest := []) C (c_X8_put l D cc N0 (cw cc g S ++ E) 21 (g 21) 32 (S.1 21) (by decide) (cw_at_21 cc g E S) (0 : Int32) (1 : Int32)) gX4_allWays_X8_put_n22 rfl (List.mem_of_getElem? (i := 12) rfl) (List.mem_of_getElem? (i := 4) rfl) (List.mem_of_getElem? (i := 3) rfl) z_X8_put ⟨Nat.le_of_ble_eq_true rfl, Nat.le_of_ble_eq_true rfl⟩ rfl rfl (Nat.le_of_ble_eq_true rfl) dX4_allWays_6 ⟨Nat.le_of_ble_eq_true rfl, Nat.le_of_ble_eq_true rfl⟩ ?_
  refine q_after (rv := none) (w0 := (cw cc g (cfun S 21 (q_pu 32 (S.1 21) (0 : Int32) (1 : Int32))) ++ E)) (st2 := []) (cw_fun_21 cc g E _ _) rfl rfl ?_
  refine q_iconst (pc := 9) C (1 : Int32) dX4_allWays_9 q_ci_1 ?_
  refine q_istore_n (pc := 10) (lvq := [(1, .int (1 : Int32)), (0, .ref (g 8))]) C dX4_allWays_10 rfl (by decide) rfl ?_
  refine q_sub (lvq := [(0, .ref (g 8)), (1, .int (1 : Int32))]) [1, 0] rfl ?_
  exact w_X4_allWays_11 C 1000 (1 : Int32) (cfun S 21 (q_pu 32 (S.1 21) (0 : Int32) (1 : Int32))) hf
theorem z_X4_allWays : q_dsc yX4_allWays 0 := ⟨by decide +kernel, by decide +kernel, by decide +kernel⟩
theorem n_X4_ways_X4 : ∀ w ∈ wsX40, w ∈ wsX4_ways := fun _ h => (List.mem_cons_of_mem _ (List.mem_append_right _ h))
def f_X4_ways (a1 : Int32) (a2 : Int32) (S : CS) : Option (Int32 × CS) := ((f_X4_allWays (f_X4_line a1 a2 S)).bind fun u1 => some (u1.1, (cfun u1.2 20 (q_pu 5 (u1.2.1 20) a2 (q_at 5 (S.1 20) a2)))))
set_option maxRecDepth 100000 in
set_option maxHeartbeats 4000000 in
theorem c_X4_ways (l : Launch) (D : va_G) (cc : Nat → ClassId) (N0 : Nat) (g : Nat → Nat) (E : va_W) (S : CS) (a1 : Int32) (a2 : Int32) (v : (Int32 × CS)) (hf : f_X4_ways a1 a2 S = some v) : q_Met l yX4_ways wsX4_ways 3 66 D cc N0 (cw cc g S ++ E) [.ref (g 8), .int a1, .int a2] (q_p (some (.int v.1)) (cw cc g v.2 ++ E)) 0 0 := by
  refine q_ofW (code := cX4_ways) (nL := 5) (ret := (some .int)) (by decide +kernel) rfl (Nat.le_of_ble_eq_true rfl) (fun p e s m below meth c C _ => ?_)
  refine q_lv (lv2 := [(0, .ref (g 8)), (1, .int a1), (2, .int a2)]) rfl ?_
  refine q_aload_n (pc := 0) C dX4_ways_0 rfl 0 rfl ?_
  refine r_g_8_0 (pc := 1) C n_X4_ways_X4 (List.mem_of_getElem? (i := 1) rfl) dX4_ways_1 ?_
  refine q_iload_n (pc := 4) C dX4_ways_4 rfl 2 rfl ?_
  refine q_callSN (pc := 5) (host := "Queryschool") (As := [.ref (g 20), .int a2]) (rest := []) C (c_X8_at l D cc N0 (cw cc g S ++ E) 20 (g 20) 5 (S.1 20) (by decide) (cw_at_20 cc g E S) a2) gX4_ways_X8_at_n26 rfl (List.mem_of_getElem? (i := 13) rfl) (List.mem_of_getElem? (i := 3) rfl) (List.mem_of_getElem? (i := 2) rfl) z_X8_at ⟨Nat.le_of_ble_eq_true rfl, Nat.le_of_ble_eq_true rfl⟩ rfl rfl (Nat.le_of_ble_eq_true rfl) dX4_ways_5 ⟨Nat.le_of_ble_eq_true rfl, Nat.le_of_ble_eq_true rfl⟩ ?_
  refine q_after (rv := (some (.int (q_at 5 (S.1 20) a2)))) (w0 := (cw cc g S ++ E)) (st2 := [.int (q_at 5 (S.1 20) a2)]) rfl rfl rfl ?_
  refine q_istore_n (pc := 8) (lvq := [(3, .int (q_at 5 (S.1 20) a2)), (0, .ref (g 8)), (1, .int a1), (2, .int a2)]) C dX4_ways_8 rfl (by decide) rfl ?_
  refine q_aload_n (pc := 9) C dX4_ways_9 rfl 1 rfl ?_
  refine q_iload_n (pc := 10) C dX4_ways_10 rfl 2 rfl ?_
  refine q_iload_n (pc := 11) C dX4_ways_11 rfl 3 rfl ?_
  refine q_callV (pc := 12) (As := [.int a1, .int a2]) (rest := []) C (c_X4_line l D cc N0 g E S a1 a2 _ rfl) gX4_ways_X4_line rfl rfl z_X4_line ⟨Nat.le_of_ble_eq_true rfl, Nat.le_of_ble_eq_true rfl⟩ (cw_at_8 cc g E _) rfl rfl rfl (Nat.le_of_ble_eq_true rfl) dX4_ways_12 ⟨Nat.le_of_ble_eq_true rfl, Nat.le_of_ble_eq_true rfl⟩ ?_
  refine q_after (rv := none) (w0 := (cw cc g (f_X4_line a1 a2 S) ++ E)) (st2 := []) rfl rfl rfl ?_
  refine q_aload_n (pc := 15) C dX4_ways_15 rfl 1 rfl ?_
  obtain ⟨u1, e2, hf⟩ := q_bind hf
  refine q_callV (pc := 16) (As := []) (rest := []) C (c_X4_allWays l D cc N0 g E (f_X4_line a1 a2 S) u1 e2) gX4_ways_X4_allWays rfl rfl z_X4_allWays ⟨Nat.le_of_ble_eq_true rfl, Nat.le_of_ble_eq_true rfl⟩ (cw_at_8 cc g E _) rfl rfl rfl (Nat.le_of_ble_eq_true rfl) dX4_ways_16 ⟨Nat.le_of_ble_eq_true rfl, Nat.le_of_ble_eq_true rfl⟩ ?_
  refine q_after (rv := (some (.int u1.1))) (w0 := (cw cc g u1.2 ++ E)) (st2 := [.int u1.1]) rfl rfl rfl ?_
  refine q_istore (pc := 19) (lvq := [(4, .int u1.1), (3, .int (q_at 5 (S.1 20) a2)), (0, .ref (g 8)), (1, .int a1), (2, .int a2)]) C dX4_ways_19 (by decide) rfl ?_
  refine q_aload_n (pc := 21) C dX4_ways_21 rfl 2 rfl ?_
  refine r_g_8_0 (pc := 22) C n_X4_ways_X4 (List.mem_of_getElem? (i := 1) rfl) dX4_ways_22 ?_
  refine q_iload_n (pc := 25) C dX4_ways_25 rfl 4 rfl ?_
  refine q_iload_n (pc := 26) C dX4_ways_26 rfl 1 rfl ?_
  refine q_callSN (pc := 27) (host := "Queryschool") (As := [.ref (g 20), .int a2, .int (q_at 5 (S.1 20) a2)]) (rest := []) C (c_X8_put l D cc N0 (cw cc g u1.2 ++ E) 20 (g 20) 5 (u1.2.1 20) (by decide) (cw_at_20 cc g E u1.2) a2 (q_at 5 (S.1 20) a2)) gX4_ways_X8_put_n22 rfl (List.mem_of_getElem? (i := 12) rfl) (List.mem_of_getElem? (i := 3) rfl) (List.mem_of_getElem? (i := 10) rfl) z_X8_put ⟨Nat.le_of_ble_eq_true rfl, Nat.le_of_ble_eq_true rfl⟩ rfl rfl (Nat.le_of_ble_eq_true rfl) dX4_ways_27 ⟨Nat.le_of_ble_eq_true rfl, Nat.le_of_ble_eq_true rfl⟩ ?_
  refine q_after (rv := none) (w0 := (cw cc g (cfun u1.2 20 (q_pu 5 (u1.2.1 20) a2 (q_at 5 (S.1 20) a2))) ++ E)) (st2 := []) (cw_fun_20 cc g E _ _) rfl rfl ?_
  refine q_iload (pc := 30) C dX4_ways_30 0 rfl ?_
  obtain rfl := q_some hf
  exact q_iret (pc := 32) C dX4_ways_32 ⟨rfl, rfl⟩
theorem z_X4_ways : q_dsc yX4_ways 2 := ⟨by decide +kernel, by decide +kernel, by decide +kernel⟩
theorem n_X4_bestPair_X4 : ∀ w ∈ wsX40, w ∈ wsX4_bestPair := fun _ h => (List.mem_cons_of_mem _ (List.mem_append_right _ h))
def f_X4_bestPair_75 (k12 : Int32 → Int32 → Int32 → Int32 → CS → Option (Int32 × CS)) (k27 : Int32 → Int32 → Int32 → Int32 → Int32 → CS → Option (Int32 × CS)) (v1 : Int32) (v2 : Int32) (v3 : Int32) (v4 : Int32) (v5 : Int32) (S : CS) : Option (Int32 × CS) := k27 v1 v2 v3 v4 (v5 + (1 : Int32)) S
def f_X4_bestPair_27b (k12 : Int32 → Int32 → Int32 → Int32 → CS → Option (Int32 × CS)) (k27 : Int32 → Int32 → Int32 → Int32 → Int32 → CS → Option (Int32 × CS)) (v1 : Int32) (v2 : Int32) (v3 : Int32) (v4 : Int32) (v5 : Int32) (S : CS) : Option (Int32 × CS) := (if (S.1 8 2) ≤ v5 then k12 v1 v2 v3 (v4 + (1 : Int32)) S else ((f_X4_ways v4 v5 S).bind fun u5 => (if (q_min u5.1 (v1 - u5.1)) ≤ v2 then f_X4_bestPair_75 k12 k27 v1 v2 v3 v4 v5 u5.2 else f_X4_bestPair_75 k12 k27 v1 (q_min u5.1 (v1 - u5.1)) (((10 : Int32) * v4) + v5) v4 v5 u5.2)))
def f_X4_bestPair_27 (k12 : Int32 → Int32 → Int32 → Int32 → CS → Option (Int32 × CS)) : Nat → Int32 → Int32 → Int32 → Int32 → Int32 → CS → Option (Int32 × CS)
  | 0, _, _, _, _, _, _ => none
  | n + 1, v1, v2, v3, v4, v5, S => f_X4_bestPair_27b k12 (f_X4_bestPair_27 k12 n) v1 v2 v3 v4 v5 S
def f_X4_bestPair_12b (k12 : Int32 → Int32 → Int32 → Int32 → CS → Option (Int32 × CS)) (v1 : Int32) (v2 : Int32) (v3 : Int32) (v4 : Int32) (S : CS) : Option (Int32 × CS) := (if (S.1 8 2) ≤ v4 then some (v3, S) else f_X4_bestPair_27 k12 1000 v1 v2 v3 v4 (v4 + (1 : Int32)) S)
def f_X4_bestPair_12 : Nat → Int32 → Int32 → Int32 → Int32 → CS → Option (Int32 × CS)
  | 0, _, _, _, _, _ => none
  | n + 1, v1, v2, v3, v4, S => f_X4_bestPair_12b  (f_X4_bestPair_12  n) v1 v2 v3 v4 S
def f_X4_bestPair (S : CS) : Option (Int32 × CS) := ((f_X4_allWays S).bind fun u1 => f_X4_bestPair_12 1000 u1.1 (-1 : Int32) (0 : Int32) (0 : Int32) u1.2)
set_option maxRecDepth 100000 in
set_option maxHeartbeats 4000000 in
theorem w_X4_bestPair_75 {p : Program} {l : Launch} {e : Env} {s : State} {m : MethodId} {args : Array Value} {below : List Frame} {meth : Method} {c : Code} {D : va_G} {cc : Nat → ClassId} {N0 : Nat} {g : Nat → Nat} {E : va_W} {k12 : Int32 → Int32 → Int32 → Int32 → CS → Option (Int32 × CS)} {k27 : Int32 → Int32 → Int32 → Int32 → Int32 → CS → Option (Int32 × CS)} {v : (Int32 × CS)} (C : q_C p s m args meth c cX4_bestPair 8 (some .int) wsX4_bestPair RX4 D cc N0) (hk12 : ∀ (v1 : Int32) (v2 : Int32) (v3 : Int32) (v4 : Int32) (S : CS), k12 v1 v2 v3 v4 S = some v → q_WA p l e (q_rm 4 90 0 0) s m args below meth c D N0 8 (MQ below (q_Q D N0 (q_p (some (.int v.1)) (cw cc g v.2 ++ E))) args s 0 0 (q_A N0)) 0 0 (cw cc g S ++ E) 12 [(0, .ref (g 8)), (1, .int v1), (2, .int v2), (3, .int v3), (4, .int v4)] []) (hk27 : ∀ (v1 : Int32) (v2 : Int32) (v3 : Int32) (v4 : Int32) (v5 : Int32) (S : CS), k27 v1 v2 v3 v4 v5 S = some v → q_WA p l e (q_rm 4 90 0 0) s m args below meth c D N0 8 (MQ below (q_Q D N0 (q_p (some (.int v.1)) (cw cc g v.2 ++ E))) args s 0 0 (q_A N0)) 0 0 (cw cc g S ++ E) 27 [(0, .ref (g 8)), (1, .int v1), (2, .int v2), (3, .int v3), (4, .int v4), (5, .int v5)] []) (v1 : Int32) (v2 : Int32) (v3 : Int32) (v4 : Int32) (v5 : Int32) (S : CS) (hf : f_X4_bestPair_75 k12 k27 v1 v2 v3 v4 v5 S = some v) : q_WA p l e (q_rm 4 90 0 0) s m args below meth c D N0 8 (MQ below (q_Q D N0 (q_p (some (.int v.1)) (cw cc g v.2 ++ E))) args s 0 0 (q_A N0)) 0 0 (cw cc g S ++ E) 75 [(0, .ref (g 8)), (1, .int v1), (2, .int v2), (3, .int v3), (4, .int v4), (5, .int v5)] [] := by
  refine q_iinc (pc := 75) (lvq := [(5, .int (v5 + (1 : Int32))), (0, .ref (g 8)), (1, .int v1), (2, .int v2), (3, .int v3), (4, .int v4)]) C (v5 + (1 : Int32)) dX4_bestPair_75 5 rfl q_ca_1 (by decide) rfl ?_
  refine q_goto (pc := 78) (tgt := 27) C dX4_bestPair_78 (by decide) ?_
  refine q_sub (lvq := [(0, .ref (g 8)), (1, .int v1), (2, .int v2), (3, .int v3), (4, .int v4), (5, .int (v5 + (1 : Int32)))]) [1, 2, 3, 4, 5, 0] rfl ?_
  exact hk27 v1 v2 v3 v4 (v5 + (1 : Int32)) S hf
set_option maxRecDepth 100000 in
set_option maxHeartbeats 4000000 in
theorem w_X4_bestPair_27 {p : Program} {l : Launch} {e : Env} {s : State} {m : MethodId} {args : Array Value} {below : List Frame} {meth : Method} {c : Code} {D : va_G} {cc : Nat → ClassId} {N0 : Nat} {g : Nat → Nat} {E : va_W} {k12 : Int32 → Int32 → Int32 → Int32 → CS → Option (Int32 × CS)} {v : (Int32 × CS)} (C : q_C p s m args meth c cX4_bestPair 8 (some .int) wsX4_bestPair RX4 D cc N0) (hk12 : ∀ (v1 : Int32) (v2 : Int32) (v3 : Int32) (v4 : Int32) (S : CS), k12 v1 v2 v3 v4 S = some v → q_WA p l e (q_rm 4 90 0 0) s m args below meth c D N0 8 (MQ below (q_Q D N0 (q_p (some (.int v.1)) (cw cc g v.2 ++ E))) args s 0 0 (q_A N0)) 0 0 (cw cc g S ++ E) 12 [(0, .ref (g 8)), (1, .int v1), (2, .int v2), (3, .int v3), (4, .int v4)] []) : ∀ (n : Nat) (v1 : Int32) (v2 : Int32) (v3 : Int32) (v4 : Int32) (v5 : Int32) (S : CS), f_X4_bestPair_27 k12 n v1 v2 v3 v4 v5 S = some v → q_WA p l e (q_rm 4 90 0 0) s m args below meth c D N0 8 (MQ below (q_Q D N0 (q_p (some (.int v.1)) (cw cc g v.2 ++ E))) args s 0 0 (q_A N0)) 0 0 (cw cc g S ++ E) 27 [(0, .ref (g 8)), (1, .int v1), (2, .int v2), (3, .int v3), (4, .int v4), (5, .int v5)] [] := by
  intro n
  induction n with
  | zero => intro v1 v2 v3 v4 v5 S hf; cases hf
  | succ n ih =>
    intro v1 v2 v3 v4 v5 S hf
    have hk27 : ∀ (v1 : Int32) (v2 : Int32) (v3 : Int32) (v4 : Int32) (v5 : Int32) (S : CS), f_X4_bestPair_27 k12 n v1 v2 v3 v4 v5 S = some v → q_WA p l e (q_rm 4 90 0 0) s m args below meth c D N0 8 (MQ below (q_Q D N0 (q_p (some (.int v.1)) (cw cc g v.2 ++ E))) args s 0 0 (q_A N0)) 0 0 (cw cc g S ++ E) 27 [(0, .ref (g 8)), (1, .int v1), (2, .int v2), (3, .int v3), (4, .int v4), (5, .int v5)] [] := ih
    have hf : f_X4_bestPair_27b k12 (f_X4_bestPair_27 k12 n) v1 v2 v3 v4 v5 S = some v := hf
    refine q_iload (pc := 27) C dX4_bestPair_27 5 rfl ?_
    refine q_aload_n (pc := 29) C dX4_bestPair_29 rfl 0 rfl ?_
    refine r_g_8_2 (pc := 30) C n_X4_bestPair_X4 (List.mem_of_getElem? (i := 1) rfl) dX4_bestPair_30 ?_
    refine q_icmp_ge (pc := 33) (tgt := 81) C dX4_bestPair_33 (by decide) (fun c4 => ?_) (fun c4 => ?_)
    · have hf := q_iteT hf c4
      refine q_iinc (pc := 81) (lvq := [(4, .int (v4 + (1 : Int32))), (0, .ref (g 8)), (1, .int v1), (2, .int v2), (3, .int v3), (5, .int v5)]) C (v4 + (1 : Int32)) dX4_bestPair_81 4 rfl q_ca_1 (by decide) rfl ?_
      refine q_goto (pc := 84) (tgt := 12) C dX4_bestPair_84 (by decide) ?_
      refine q_sub (lvq := [(0, .ref (g 8)), (1, .int v1), (2, .int v2), (3, .int v3), (4, .int (v4 + (1 : Int32)))]) [1, 2, 3, 4, 0] rfl ?_
      exact hk12 v1 v2 v3 (v4 + (1 : Int32)) S hf
    · have hf := q_iteF hf c4
      refine q_aload_n (pc := 36) C dX4_bestPair_36 rfl 0 rfl ?_
      refine q_iload (pc := 37) C dX4_bestPair_37 4 rfl ?_
      refine q_iload (pc := 39) C dX4_bestPair_39 5 rfl ?_
      obtain ⟨u5, e6, hf⟩ := q_bind hf
      refine q_callV (pc := 41) (As := [.int v4, .int v5]) (rest := []) C (c_X4_ways l D cc N0 g E S v4 v5 u5 e6) gX4_bestPair_X4_ways rfl rfl z_X4_ways ⟨Nat.le_of_ble_eq_true rfl, Nat.le_of_ble_eq_true rfl⟩ (cw_at_8 cc g E _) rfl rfl rfl (Nat.le_of_ble_eq_true rfl) dX4_bestPair_41 ⟨Nat.le_of_ble_eq_true rfl, Nat.le_of_ble_eq_true rfl⟩ ?_
      refine q_after (rv := (some (.int u5.1))) (w0 := (cw cc g u5.2 ++ E)) (st2 := [.int u5.1]) rfl rfl rfl ?_
      refine q_istore (pc := 44) (lvq := [(6, .int u5.1), (0, .ref (g 8)), (1, .int v1), (2, .int v2), (3, .int v3), (4, .int v4), (5, .int v5)]) C dX4_bestPair_44 (by decide) rfl ?_
      refine q_iload (pc := 46) C dX4_bestPair_46 0 rfl ?_
      refine q_iload_n (pc := 48) C dX4_bestPair_48 rfl 2 rfl ?_
      refine q_iload (pc := 49) C dX4_bestPair_49 0 rfl ?_
      refine q_isub (pc := 51) C dX4_bestPair_51 ?_
      refine q_mmin (pc := 52) C (List.mem_of_getElem? (i := 2) rfl) (List.mem_of_getElem? (i := 3) rfl) (List.mem_of_getElem? (i := 4) rfl) (List.mem_of_getElem? (i := 5) rfl) (Nat.le_of_ble_eq_true rfl) (Nat.le_of_ble_eq_true rfl) ⟨Nat.le_of_ble_eq_true rfl, Nat.le_of_ble_eq_true rfl⟩ dX4_bestPair_52 ?_
      refine q_istore (pc := 55) (lvq := [(7, .int (q_min u5.1 (v1 - u5.1))), (6, .int u5.1), (0, .ref (g 8)), (1, .int v1), (2, .int v2), (3, .int v3), (4, .int v4), (5, .int v5)]) C dX4_bestPair_55 (by decide) rfl ?_
      refine q_iload (pc := 57) C dX4_bestPair_57 0 rfl ?_
      refine q_iload_n (pc := 59) C dX4_bestPair_59 rfl 4 rfl ?_
      refine q_icmp_le (pc := 60) (tgt := 75) C dX4_bestPair_60 (by decide) (fun c7 => ?_) (fun c7 => ?_)
      · have hf := q_iteT hf c7
        refine q_sub (lvq := [(0, .ref (g 8)), (1, .int v1), (2, .int v2), (3, .int v3), (4, .int v4), (5, .int v5)]) [2, 3, 4, 5, 6, 7] rfl ?_
        exact w_X4_bestPair_75 C hk12 hk27 v1 v2 v3 v4 v5 u5.2 hf
      · have hf := q_iteF hf c7
        refine q_iload (pc := 63) C dX4_bestPair_63 0 rfl ?_
        refine q_istore_n (pc := 65) (lvq := [(2, .int (q_min u5.1 (v1 - u5.1))), (7, .int (q_min u5.1 (v1 - u5.1))), (6, .int u5.1), (0, .ref (g 8)), (1, .int v1), (3, .int v3), (4, .int v4), (5, .int v5)]) C dX4_bestPair_65 rfl (by decide) rfl ?_
        refine q_bipush (pc := 66) C (10 : Int32) dX4_bestPair_66 q_cb_10 ?_
        refine q_iload (pc := 68) C dX4_bestPair_68 6 rfl ?_
        refine q_imul (pc := 70) C dX4_bestPair_70 ?_
        refine q_iload (pc := 71) C dX4_bestPair_71 7 rfl ?_
        refine q_iadd (pc := 73) C dX4_bestPair_73 ?_
        refine q_istore_n (pc := 74) (lvq := [(3, .int (((10 : Int32) * v4) + v5)), (2, .int (q_min u5.1 (v1 - u5.1))), (7, .int (q_min u5.1 (v1 - u5.1))), (6, .int u5.1), (0, .ref (g 8)), (1, .int v1), (4, .int v4), (5, .int v5)]) C dX4_bestPair_74 rfl (by decide) rfl ?_
        refine q_sub (lvq := [(0, .ref (g 8)), (1, .int v1), (2, .int (q_min u5.1 (v1 - u5.1))), (3, .int (((10 : Int32) * v4) + v5)), (4, .int v4), (5, .int v5)]) [4, 5, 1, 0, 6, 7] rfl ?_
        exact w_X4_bestPair_75 C hk12 hk27 v1 (q_min u5.1 (v1 - u5.1)) (((10 : Int32) * v4) + v5) v4 v5 u5.2 hf
set_option maxRecDepth 100000 in
set_option maxHeartbeats 4000000 in
theorem w_X4_bestPair_12 {p : Program} {l : Launch} {e : Env} {s : State} {m : MethodId} {args : Array Value} {below : List Frame} {meth : Method} {c : Code} {D : va_G} {cc : Nat → ClassId} {N0 : Nat} {g : Nat → Nat} {E : va_W} {v : (Int32 × CS)} (C : q_C p s m args meth c cX4_bestPair 8 (some .int) wsX4_bestPair RX4 D cc N0)  : ∀ (n : Nat) (v1 : Int32) (v2 : Int32) (v3 : Int32) (v4 : Int32) (S : CS), f_X4_bestPair_12  n v1 v2 v3 v4 S = some v → q_WA p l e (q_rm 4 90 0 0) s m args below meth c D N0 8 (MQ below (q_Q D N0 (q_p (some (.int v.1)) (cw cc g v.2 ++ E))) args s 0 0 (q_A N0)) 0 0 (cw cc g S ++ E) 12 [(0, .ref (g 8)), (1, .int v1), (2, .int v2), (3, .int v3), (4, .int v4)] [] := by
  intro n
  induction n with
  | zero => intro v1 v2 v3 v4 S hf; cases hf
  | succ n ih =>
    intro v1 v2 v3 v4 S hf
    have hk12 : ∀ (v1 : Int32) (v2 : Int32) (v3 : Int32) (v4 : Int32) (S : CS), f_X4_bestPair_12  n v1 v2 v3 v4 S = some v → q_WA p l e (q_rm 4 90 0 0) s m args below meth c D N0 8 (MQ below (q_Q D N0 (q_p (some (.int v.1)) (cw cc g v.2 ++ E))) args s 0 0 (q_A N0)) 0 0 (cw cc g S ++ E) 12 [(0, .ref (g 8)), (1, .int v1), (2, .int v2), (3, .int v3), (4, .int v4)] [] := ih
    have hf : f_X4_bestPair_12b  (f_X4_bestPair_12  n) v1 v2 v3 v4 S = some v := hf
    refine q_iload (pc := 12) C dX4_bestPair_12 4 rfl ?_
    refine q_aload_n (pc := 14) C dX4_bestPair_14 rfl 0 rfl ?_
    refine r_g_8_2 (pc := 15) C n_X4_bestPair_X4 (List.mem_of_getElem? (i := 1) rfl) dX4_bestPair_15 ?_
    refine q_icmp_ge (pc := 18) (tgt := 87) C dX4_bestPair_18 (by decide) (fun c3 => ?_) (fun c3 => ?_)
    · have hf := q_iteT hf c3
      refine q_iload_n (pc := 87) C dX4_bestPair_87 rfl 3 rfl ?_
      obtain rfl := q_some hf
      exact q_iret (pc := 88) C dX4_bestPair_88 ⟨rfl, rfl⟩
    · have hf := q_iteF hf c3
      refine q_iload (pc := 21) C dX4_bestPair_21 4 rfl ?_
      refine q_iconst (pc := 23) C (1 : Int32) dX4_bestPair_23 q_ci_1 ?_
      refine q_iadd (pc := 24) C dX4_bestPair_24 ?_
      refine q_istore (pc := 25) (lvq := [(5, .int (v4 + (1 : Int32))), (0, .ref (g 8)), (1, .int v1), (2, .int v2), (3, .int v3), (4, .int v4)]) C dX4_bestPair_25 (by decide) rfl ?_
      refine q_sub (lvq := [(0, .ref (g 8)), (1, .int v1), (2, .int v2), (3, .int v3), (4, .int v4), (5, .int (v4 + (1 : Int32)))]) [1, 2, 3, 4, 5, 0] rfl ?_
      exact w_X4_bestPair_27 C hk12 1000 v1 v2 v3 v4 (v4 + (1 : Int32)) S hf
set_option maxRecDepth 100000 in
set_option maxHeartbeats 4000000 in
theorem c_X4_bestPair (l : Launch) (D : va_G) (cc : Nat → ClassId) (N0 : Nat) (g : Nat → Nat) (E : va_W) (S : CS) (v : (Int32 × CS)) (hf : f_X4_bestPair S = some v) : q_Met l yX4_bestPair wsX4_bestPair 4 90 D cc N0 (cw cc g S ++ E) [.ref (g 8)] (q_p (some (.int v.1)) (cw cc g v.2 ++ E)) 0 0 := by
  refine q_ofW (code := cX4_bestPair) (nL := 8) (ret := (some .int)) (by decide +kernel) rfl (Nat.le_of_ble_eq_true rfl) (fun p e s m below meth c C _ => ?_)
  refine q_lv (lv2 := [(0, .ref (g 8))]) rfl ?_
  refine q_aload_n (pc := 0) C dX4_bestPair_0 rfl 0 rfl ?_
  obtain ⟨u1, e2, hf⟩ := q_bind hf
  refine q_callV (pc := 1) (As := []) (rest := []) C (c_X4_allWays l D cc N0 g E S u1 e2) gX4_bestPair_X4_allWays rfl rfl z_X4_allWays ⟨Nat.le_of_ble_eq_true rfl, Nat.le_of_ble_eq_true rfl⟩ (cw_at_8 cc g E _) rfl rfl rfl (Nat.le_of_ble_eq_true rfl) dX4_bestPair_1 ⟨Nat.le_of_ble_eq_true rfl, Nat.le_of_ble_eq_true rfl⟩ ?_
  refine q_after (rv := (some (.int u1.1))) (w0 := (cw cc g u1.2 ++ E)) (st2 := [.int u1.1]) rfl rfl rfl ?_
  refine q_istore_n (pc := 4) (lvq := [(1, .int u1.1), (0, .ref (g 8))]) C dX4_bestPair_4 rfl (by decide) rfl ?_
  refine q_iconst (pc := 5) C (-1 : Int32) dX4_bestPair_5 q_ci_m1 ?_
  refine q_istore_n (pc := 6) (lvq := [(2, .int (-1 : Int32)), (1, .int u1.1), (0, .ref (g 8))]) C dX4_bestPair_6 rfl (by decide) rfl ?_
  refine q_iconst (pc := 7) C (0 : Int32) dX4_bestPair_7 q_ci_0 ?_
  refine q_istore_n (pc := 8) (lvq := [(3, .int (0 : Int32)), (2, .int (-1 : Int32)), (1, .int u1.1), (0, .ref (g 8))]) C dX4_bestPair_8 rfl (by decide) rfl ?_
  refine q_iconst (pc := 9) C (0 : Int32) dX4_bestPair_9 q_ci_0 ?_
  refine q_istore (pc := 10) (lvq := [(4, .int (0 : Int32)), (3, .int (0 : Int32)), (2, .int (-1 : Int32)), (1, .int u1.1), (0, .ref (g 8))]) C dX4_bestPair_10 (by decide) rfl ?_
  refine q_sub (lvq := [(0, .ref (g 8)), (1, .int u1.1), (2, .int (-1 : Int32)), (3, .int (0 : Int32)), (4, .int (0 : Int32))]) [4, 3, 2, 1, 0] rfl ?_
  exact w_X4_bestPair_12 C 1000 u1.1 (-1 : Int32) (0 : Int32) (0 : Int32) u1.2 hf
theorem z_X4_bestPair : q_dsc yX4_bestPair 0 := ⟨by decide +kernel, by decide +kernel, by decide +kernel⟩
theorem n_X7_has_X7 : ∀ w ∈ wsX70, w ∈ wsX7_has := fun _ h => (List.mem_cons_of_mem _ (List.mem_append_right _ h))
def f_X7_has_36 (S : CS) (k2 : Int32 → Int32 → Int32 → Option Bool) (v1 : Int32) (v2 : Int32) (v3 : Int32) : Option Bool := k2 v1 v2 (v3 + (1 : Int32))
def f_X7_has_2b (S : CS) (k2 : Int32 → Int32 → Int32 → Option Bool) (v1 : Int32) (v2 : Int32) (v3 : Int32) : Option Bool := (if (S.1 6 5) ≤ v3 then some false else (if (q_at 12 (S.1 17) v3) = v1 then (if (q_at 12 (S.1 18) v3) = v2 then some true else f_X7_has_36 S k2 v1 v2 v3) else f_X7_has_36 S k2 v1 v2 v3))
def f_X7_has_2 (S : CS) : Nat → Int32 → Int32 → Int32 → Option Bool
  | 0, _, _, _ => none
  | n + 1, v1, v2, v3 => f_X7_has_2b S (f_X7_has_2 S n) v1 v2 v3
def f_X7_has (S : CS) (a1 : Int32) (a2 : Int32) : Option Bool := f_X7_has_2 S 1000 a1 a2 (0 : Int32)
set_option maxRecDepth 100000 in
set_option maxHeartbeats 4000000 in
theorem w_X7_has_36 {p : Program} {l : Launch} {e : Env} {s : State} {m : MethodId} {args : Array Value} {below : List Frame} {meth : Method} {c : Code} {D : va_G} {cc : Nat → ClassId} {N0 : Nat} {g : Nat → Nat} {E : va_W} {S : CS} {k2 : Int32 → Int32 → Int32 → Option Bool} {v : Bool} (C : q_C p s m args meth c cX7_has 4 (some .boolean) wsX7_has RX7 D cc N0) (hk2 : ∀ (v1 : Int32) (v2 : Int32) (v3 : Int32), k2 v1 v2 v3 = some v → q_WA p l e (q_rm 1 21 0 0) s m args below meth c D N0 4 (MQ below (q_Q D N0 (q_p (some (.int (q_b v))) (cw cc g S ++ E))) args s 0 0 (q_A N0)) 0 0 (cw cc g S ++ E) 2 [(0, .ref (g 6)), (1, .int v1), (2, .int v2), (3, .int v3)] []) (v1 : Int32) (v2 : Int32) (v3 : Int32) (hf : f_X7_has_36 S k2 v1 v2 v3 = some v) : q_WA p l e (q_rm 1 21 0 0) s m args below meth c D N0 4 (MQ below (q_Q D N0 (q_p (some (.int (q_b v))) (cw cc g S ++ E))) args s 0 0 (q_A N0)) 0 0 (cw cc g S ++ E) 36 [(0, .ref (g 6)), (1, .int v1), (2, .int v2), (3, .int v3)] [] := by
  refine q_iinc (pc := 36) (lvq := [(3, .int (v3 + (1 : Int32))), (0, .ref (g 6)), (1, .int v1), (2, .int v2)]) C (v3 + (1 : Int32)) dX7_has_36 3 rfl q_ca_1 (by decide) rfl ?_
  refine q_goto (pc := 39) (tgt := 2) C dX7_has_39 (by decide) ?_
  refine q_sub (lvq := [(0, .ref (g 6)), (1, .int v1), (2, .int v2), (3, .int (v3 + (1 : Int32)))]) [1, 2, 3, 0] rfl ?_
  exact hk2 v1 v2 (v3 + (1 : Int32)) hf
set_option maxRecDepth 100000 in
set_option maxHeartbeats 4000000 in
theorem w_X7_has_2 {p : Program} {l : Launch} {e : Env} {s : State} {m : MethodId} {args : Array Value} {below : List Frame} {meth : Method} {c : Code} {D : va_G} {cc : Nat → ClassId} {N0 : Nat} {g : Nat → Nat} {E : va_W} {S : CS} {v : Bool} (C : q_C p s m args meth c cX7_has 4 (some .boolean) wsX7_has RX7 D cc N0)  : ∀ (n : Nat) (v1 : Int32) (v2 : Int32) (v3 : Int32), f_X7_has_2 S n v1 v2 v3 = some v → q_WA p l e (q_rm 1 21 0 0) s m args below meth c D N0 4 (MQ below (q_Q D N0 (q_p (some (.int (q_b v))) (cw cc g S ++ E))) args s 0 0 (q_A N0)) 0 0 (cw cc g S ++ E) 2 [(0, .ref (g 6)), (1, .int v1), (2, .int v2), (3, .int v3)] [] := by
  intro n
  induction n with
  | zero => intro v1 v2 v3 hf; cases hf
  | succ n ih =>
    intro v1 v2 v3 hf
    have hk2 : ∀ (v1 : Int32) (v2 : Int32) (v3 : Int32), f_X7_has_2 S n v1 v2 v3 = some v → q_WA p l e (q_rm 1 21 0 0) s m args below meth c D N0 4 (MQ below (q_Q D N0 (q_p (some (.int (q_b v))) (cw cc g S ++ E))) args s 0 0 (q_A N0)) 0 0 (cw cc g S ++ E) 2 [(0, .ref (g 6)), (1, .int v1), (2, .int v2), (3, .int v3)] [] := ih
    have hf : f_X7_has_2b S (f_X7_has_2 S n) v1 v2 v3 = some v := hf
    refine q_iload_n (pc := 2) C dX7_has_2 rfl 3 rfl ?_
    refine q_aload_n (pc := 3) C dX7_has_3 rfl 0 rfl ?_
    refine r_g_6_5 (pc := 4) C n_X7_has_X7 (List.mem_of_getElem? (i := 1) rfl) dX7_has_4 ?_
    refine q_icmp_ge (pc := 7) (tgt := 42) C dX7_has_7 (by decide) (fun c1 => ?_) (fun c1 => ?_)
    · have hf := q_iteT hf c1
      refine q_iconst (pc := 42) C (0 : Int32) dX7_has_42 q_ci_0 ?_
      obtain rfl := q_some hf
      exact q_zret (pc := 43) C (by decide +kernel) dX7_has_43 ⟨rfl, rfl⟩
    · have hf := q_iteF hf c1
      refine q_aload_n (pc := 10) C dX7_has_10 rfl 0 rfl ?_
      refine r_g_6_0 (pc := 11) C n_X7_has_X7 (List.mem_of_getElem? (i := 2) rfl) dX7_has_11 ?_
      refine q_iload_n (pc := 14) C dX7_has_14 rfl 3 rfl ?_
      refine q_callSN (pc := 15) (host := "Queryschool") (As := [.ref (g 17), .int v3]) (rest := []) C (c_X8_at l D cc N0 (cw cc g S ++ E) 17 (g 17) 12 (S.1 17) (by decide) (cw_at_17 cc g E S) v3) gX7_has_X8_at_n28 rfl (List.mem_of_getElem? (i := 25) rfl) (List.mem_of_getElem? (i := 5) rfl) (List.mem_of_getElem? (i := 4) rfl) z_X8_at ⟨Nat.le_of_ble_eq_true rfl, Nat.le_of_ble_eq_true rfl⟩ rfl rfl (Nat.le_of_ble_eq_true rfl) dX7_has_15 ⟨Nat.le_of_ble_eq_true rfl, Nat.le_of_ble_eq_true rfl⟩ ?_
      refine q_after (rv := (some (.int (q_at 12 (S.1 17) v3)))) (w0 := (cw cc g S ++ E)) (st2 := [.int (q_at 12 (S.1 17) v3)]) rfl rfl rfl ?_
      refine q_iload_n (pc := 18) C dX7_has_18 rfl 1 rfl ?_
      refine q_icmp_ne (pc := 19) (tgt := 36) C dX7_has_19 (by decide) (fun c2 => ?_) (fun c2 => ?_)
      · have hf := q_iteF hf c2
        refine q_sub (lvq := [(0, .ref (g 6)), (1, .int v1), (2, .int v2), (3, .int v3)]) [0, 1, 2, 3] rfl ?_
        exact w_X7_has_36 C hk2 v1 v2 v3 hf
      · have hf := q_iteT hf c2
        refine q_aload_n (pc := 22) C dX7_has_22 rfl 0 rfl ?_
        refine r_g_6_1 (pc := 23) C n_X7_has_X7 (List.mem_of_getElem? (i := 3) rfl) dX7_has_23 ?_
        refine q_iload_n (pc := 26) C dX7_has_26 rfl 3 rfl ?_
        refine q_callSN (pc := 27) (host := "Queryschool") (As := [.ref (g 18), .int v3]) (rest := []) C (c_X8_at l D cc N0 (cw cc g S ++ E) 18 (g 18) 12 (S.1 18) (by decide) (cw_at_18 cc g E S) v3) gX7_has_X8_at_n28 rfl (List.mem_of_getElem? (i := 25) rfl) (List.mem_of_getElem? (i := 5) rfl) (List.mem_of_getElem? (i := 4) rfl) z_X8_at ⟨Nat.le_of_ble_eq_true rfl, Nat.le_of_ble_eq_true rfl⟩ rfl rfl (Nat.le_of_ble_eq_true rfl) dX7_has_27 ⟨Nat.le_of_ble_eq_true rfl, Nat.le_of_ble_eq_true rfl⟩ ?_
        refine q_after (rv := (some (.int (q_at 12 (S.1 18) v3)))) (w0 := (cw cc g S ++ E)) (st2 := [.int (q_at 12 (S.1 18) v3)]) rfl rfl rfl ?_
        refine q_iload_n (pc := 30) C dX7_has_30 rfl 2 rfl ?_
        refine q_icmp_ne (pc := 31) (tgt := 36) C dX7_has_31 (by decide) (fun c3 => ?_) (fun c3 => ?_)
        · have hf := q_iteF hf c3
          refine q_sub (lvq := [(0, .ref (g 6)), (1, .int v1), (2, .int v2), (3, .int v3)]) [0, 1, 2, 3] rfl ?_
          exact w_X7_has_36 C hk2 v1 v2 v3 hf
        · have hf := q_iteT hf c3
          refine q_iconst (pc := 34) C (1 : Int32) dX7_has_34 q_ci_1 ?_
          obtain rfl := q_some hf
          exact q_zret (pc := 35) C (by decide +kernel) dX7_has_35 ⟨rfl, rfl⟩
set_option maxRecDepth 100000 in
set_option maxHeartbeats 4000000 in
theorem c_X7_has (l : Launch) (D : va_G) (cc : Nat → ClassId) (N0 : Nat) (g : Nat → Nat) (E : va_W) (S : CS) (a1 : Int32) (a2 : Int32) (v : Bool) (hf : f_X7_has S a1 a2 = some v) : q_Met l yX7_has wsX7_has 1 21 D cc N0 (cw cc g S ++ E) [.ref (g 6), .int a1, .int a2] (q_p (some (.int (q_b v))) (cw cc g S ++ E)) 0 0 := by
  refine q_ofW (code := cX7_has) (nL := 4) (ret := (some .boolean)) (by decide +kernel) rfl (Nat.le_of_ble_eq_true rfl) (fun p e s m below meth c C _ => ?_)
  refine q_lv (lv2 := [(0, .ref (g 6)), (1, .int a1), (2, .int a2)]) rfl ?_
  refine q_iconst (pc := 0) C (0 : Int32) dX7_has_0 q_ci_0 ?_
  refine q_istore_n (pc := 1) (lvq := [(3, .int (0 : Int32)), (0, .ref (g 6)), (1, .int a1), (2, .int a2)]) C dX7_has_1 rfl (by decide) rfl ?_
  refine q_sub (lvq := [(0, .ref (g 6)), (1, .int a1), (2, .int a2), (3, .int (0 : Int32))]) [1, 2, 3, 0] rfl ?_
  exact w_X7_has_2 C 1000 a1 a2 (0 : Int32) hf
theorem z_X7_has : q_dsc yX7_has 2 := ⟨by decide +kernel, by decide +kernel, by decide +kernel⟩
theorem n_X7_add_X7 : ∀ w ∈ wsX70, w ∈ wsX7_add := fun _ h => (List.mem_cons_of_mem _ (List.mem_append_right _ h))
def f_X7_add_43 (S : CS) : (Int32 × CS) := (((cset S 6 5 ((S.1 6 5) + (1 : Int32))).1 6 5), (cset S 6 5 ((S.1 6 5) + (1 : Int32))))
def f_X7_add (a1 : Int32) (a2 : Int32) (a3 : Int32) (S : CS) : (Int32 × CS) := (if a3 = 0 then f_X7_add_43 (cfun (cfun S 17 (q_pu 12 (S.1 17) (S.1 6 5) a1)) 18 (q_pu 12 ((cfun S 17 (q_pu 12 (S.1 17) (S.1 6 5) a1)).1 18) ((cfun S 17 (q_pu 12 (S.1 17) (S.1 6 5) a1)).1 6 5) a2)) else f_X7_add_43 (cset (cfun (cfun S 17 (q_pu 12 (S.1 17) (S.1 6 5) a1)) 18 (q_pu 12 ((cfun S 17 (q_pu 12 (S.1 17) (S.1 6 5) a1)).1 18) ((cfun S 17 (q_pu 12 (S.1 17) (S.1 6 5) a1)).1 6 5) a2)) 6 4 (((cfun (cfun S 17 (q_pu 12 (S.1 17) (S.1 6 5) a1)) 18 (q_pu 12 ((cfun S 17 (q_pu 12 (S.1 17) (S.1 6 5) a1)).1 18) ((cfun S 17 (q_pu 12 (S.1 17) (S.1 6 5) a1)).1 6 5) a2)).1 6 4) ||| ((1 : Int32) <<< (((cfun (cfun S 17 (q_pu 12 (S.1 17) (S.1 6 5) a1)) 18 (q_pu 12 ((cfun S 17 (q_pu 12 (S.1 17) (S.1 6 5) a1)).1 18) ((cfun S 17 (q_pu 12 (S.1 17) (S.1 6 5) a1)).1 6 5) a2)).1 6 5) &&& 31)))))
set_option maxRecDepth 100000 in
set_option maxHeartbeats 4000000 in
theorem w_X7_add_43 {p : Program} {l : Launch} {e : Env} {s : State} {m : MethodId} {args : Array Value} {below : List Frame} {meth : Method} {c : Code} {D : va_G} {cc : Nat → ClassId} {N0 : Nat} {g : Nat → Nat} {E : va_W} {v : (Int32 × CS)} (C : q_C p s m args meth c cX7_add 4 (some .int) wsX7_add RX7 D cc N0)  (S : CS) (hf : f_X7_add_43  S = v) : q_WA p l e (q_rm 1 22 0 0) s m args below meth c D N0 4 (MQ below (q_Q D N0 (q_p (some (.int v.1)) (cw cc g v.2 ++ E))) args s 0 0 (q_A N0)) 0 0 (cw cc g S ++ E) 43 [(0, .ref (g 6))] [] := by
  refine q_aload_n (pc := 43) C dX7_add_43 rfl 0 rfl ?_
  refine q_dup (pc := 44) C dX7_add_44 rfl ?_
  refine r_g_6_5 (pc := 45) C n_X7_add_X7 (List.mem_of_getElem? (i := 2) rfl) dX7_add_45 ?_
  refine q_iconst (pc := 48) C (1 : Int32) dX7_add_48 q_ci_1 ?_
  refine q_iadd (pc := 49) C dX7_add_49 ?_
  refine r_p_6_5 (pc := 50) C n_X7_add_X7 (List.mem_of_getElem? (i := 2) rfl) dX7_add_50 ?_
  refine q_aload_n (pc := 53) C dX7_add_53 rfl 0 rfl ?_
  refine r_g_6_5 (pc := 54) C n_X7_add_X7 (List.mem_of_getElem? (i := 2) rfl) dX7_add_54 ?_
  obtain rfl := hf
  exact q_iret (pc := 57) C dX7_add_57 ⟨rfl, rfl⟩
set_option maxRecDepth 100000 in
set_option maxHeartbeats 4000000 in
theorem c_X7_add (l : Launch) (D : va_G) (cc : Nat → ClassId) (N0 : Nat) (g : Nat → Nat) (E : va_W) (S : CS) (a1 : Int32) (a2 : Int32) (a3 : Int32) (v : (Int32 × CS)) (hf : f_X7_add a1 a2 a3 S = v) : q_Met l yX7_add wsX7_add 1 22 D cc N0 (cw cc g S ++ E) [.ref (g 6), .int a1, .int a2, .int a3] (q_p (some (.int v.1)) (cw cc g v.2 ++ E)) 0 0 := by
  refine q_ofW (code := cX7_add) (nL := 4) (ret := (some .int)) (by decide +kernel) rfl (Nat.le_of_ble_eq_true rfl) (fun p e s m below meth c C _ => ?_)
  refine q_lv (lv2 := [(0, .ref (g 6)), (1, .int a1), (2, .int a2), (3, .int a3)]) rfl ?_
  refine q_aload_n (pc := 0) C dX7_add_0 rfl 0 rfl ?_
  refine r_g_6_0 (pc := 1) C n_X7_add_X7 (List.mem_of_getElem? (i := 1) rfl) dX7_add_1 ?_
  refine q_aload_n (pc := 4) C dX7_add_4 rfl 0 rfl ?_
  refine r_g_6_5 (pc := 5) C n_X7_add_X7 (List.mem_of_getElem? (i := 2) rfl) dX7_add_5 ?_
  refine q_iload_n (pc := 8) C dX7_add_8 rfl 1 rfl ?_
  refine q_callSN (pc := 9) (host := "Queryschool") (As := [.ref (g 17), .int (S.1 6 5), .int a1]) (rest := []) C (c_X8_put l D cc N0 (cw cc g S ++ E) 17 (g 17) 12 (S.1 17) (by decide) (cw_at_17 cc g E S) (S.1 6 5) a1) gX7_add_X8_put_n32 rfl (List.mem_of_getElem? (i := 26) rfl) (List.mem_of_getElem? (i := 6) rfl) (List.mem_of_getElem? (i := 5) rfl) z_X8_put ⟨Nat.le_of_ble_eq_true rfl, Nat.le_of_ble_eq_true rfl⟩ rfl rfl (Nat.le_of_ble_eq_true rfl) dX7_add_9 ⟨Nat.le_of_ble_eq_true rfl, Nat.le_of_ble_eq_true rfl⟩ ?_
  refine q_after (rv := none) (w0 := (cw cc g (cfun S 17 (q_pu 12 (S.1 17) (S.1 6 5) a1)) ++ E)) (st2 := []) (cw_fun_17 cc g E _ _) rfl rfl ?_
  refine q_aload_n (pc := 12) C dX7_add_12 rfl 0 rfl ?_
  refine r_g_6_1 (pc := 13) C n_X7_add_X7 (List.mem_of_getElem? (i := 3) rfl) dX7_add_13 ?_
  refine q_aload_n (pc := 16) C dX7_add_16 rfl 0 rfl ?_
  refine r_g_6_5 (pc := 17) C n_X7_add_X7 (List.mem_of_getElem? (i := 2) rfl) dX7_add_17 ?_
  refine q_iload_n (pc := 20) C dX7_add_20 rfl 2 rfl ?_
  refine q_callSN (pc := 21) (host := "Queryschool") (As := [.ref (g 18), .int ((cfun S 17 (q_pu 12 (S.1 17) (S.1 6 5) a1)).1 6 5), .int a2]) (rest := []) C (c_X8_put l D cc N0 (cw cc g (cfun S 17 (q_pu 12 (S.1 17) (S.1 6 5) a1)) ++ E) 18 (g 18) 12 ((cfun S 17 (q_pu 12 (S.1 17) (S.1 6 5) a1)).1 18) (by decide) (cw_at_18 cc g E (cfun S 17 (q_pu 12 (S.1 17) (S.1 6 5) a1))) ((cfun S 17 (q_pu 12 (S.1 17) (S.1 6 5) a1)).1 6 5) a2) gX7_add_X8_put_n32 rfl (List.mem_of_getElem? (i := 26) rfl) (List.mem_of_getElem? (i := 6) rfl) (List.mem_of_getElem? (i := 5) rfl) z_X8_put ⟨Nat.le_of_ble_eq_true rfl, Nat.le_of_ble_eq_true rfl⟩ rfl rfl (Nat.le_of_ble_eq_true rfl) dX7_add_21 ⟨Nat.le_of_ble_eq_true rfl, Nat.le_of_ble_eq_true rfl⟩ ?_
  refine q_after (rv := none) (w0 := (cw cc g (cfun (cfun S 17 (q_pu 12 (S.1 17) (S.1 6 5) a1)) 18 (q_pu 12 ((cfun S 17 (q_pu 12 (S.1 17) (S.1 6 5) a1)).1 18) ((cfun S 17 (q_pu 12 (S.1 17) (S.1 6 5) a1)).1 6 5) a2)) ++ E)) (st2 := []) (cw_fun_18 cc g E _ _) rfl rfl ?_
  refine q_iload_n (pc := 24) C dX7_add_24 rfl 3 rfl ?_
  refine q_if_eq (pc := 25) (tgt := 43) C dX7_add_25 (by decide) (fun c1 => ?_) (fun c1 => ?_)
  · have hf := q_iteT hf c1
    refine q_sub (lvq := [(0, .ref (g 6))]) [0] rfl ?_
    exact w_X7_add_43 C (cfun (cfun S 17 (q_pu 12 (S.1 17) (S.1 6 5) a1)) 18 (q_pu 12 ((cfun S 17 (q_pu 12 (S.1 17) (S.1 6 5) a1)).1 18) ((cfun S 17 (q_pu 12 (S.1 17) (S.1 6 5) a1)).1 6 5) a2)) hf
  · have hf := q_iteF hf c1
    refine q_aload_n (pc := 28) C dX7_add_28 rfl 0 rfl ?_
    refine q_dup (pc := 29) C dX7_add_29 rfl ?_
    refine r_g_6_4 (pc := 30) C n_X7_add_X7 (List.mem_of_getElem? (i := 4) rfl) dX7_add_30 ?_
    refine q_iconst (pc := 33) C (1 : Int32) dX7_add_33 q_ci_1 ?_
    refine q_aload_n (pc := 34) C dX7_add_34 rfl 0 rfl ?_
    refine r_g_6_5 (pc := 35) C n_X7_add_X7 (List.mem_of_getElem? (i := 2) rfl) dX7_add_35 ?_
    refine q_ishl (pc := 38) C dX7_add_38 ?_
    refine q_ior (pc := 39) C dX7_add_39 ?_
    refine r_p_6_4 (pc := 40) C n_X7_add_X7 (List.mem_of_getElem? (i := 4) rfl) dX7_add_40 ?_
    refine q_sub (lvq := [(0, .ref (g 6))]) [0] rfl ?_
    exact w_X7_add_43 C (cset (cfun (cfun S 17 (q_pu 12 (S.1 17) (S.1 6 5) a1)) 18 (q_pu 12 ((cfun S 17 (q_pu 12 (S.1 17) (S.1 6 5) a1)).1 18) ((cfun S 17 (q_pu 12 (S.1 17) (S.1 6 5) a1)).1 6 5) a2)) 6 4 (((cfun (cfun S 17 (q_pu 12 (S.1 17) (S.1 6 5) a1)) 18 (q_pu 12 ((cfun S 17 (q_pu 12 (S.1 17) (S.1 6 5) a1)).1 18) ((cfun S 17 (q_pu 12 (S.1 17) (S.1 6 5) a1)).1 6 5) a2)).1 6 4) ||| ((1 : Int32) <<< (((cfun (cfun S 17 (q_pu 12 (S.1 17) (S.1 6 5) a1)) 18 (q_pu 12 ((cfun S 17 (q_pu 12 (S.1 17) (S.1 6 5) a1)).1 18) ((cfun S 17 (q_pu 12 (S.1 17) (S.1 6 5) a1)).1 6 5) a2)).1 6 5) &&& 31)))) hf
theorem z_X7_add : q_dsc yX7_add 3 := ⟨by decide +kernel, by decide +kernel, by decide +kernel⟩
theorem n_X7_areToldBy_X7 : ∀ w ∈ wsX70, w ∈ wsX7_areToldBy := fun _ h => (List.mem_cons_of_mem _ (List.mem_append_left _ (List.mem_append_right _ h)))
def f_X7_areToldBy_2b (S : CS) (k2 : Int32 → Option Bool) (v2 : Int32) : Option Bool := (if (S.1 6 5) ≤ v2 then some true else ((f_X3_endsWell S (0 : Int32) (q_at 12 (S.1 17) v2) (q_at 12 (S.1 18) v2)).bind fun u2 => (if (q_b u2) = (q_b (f_X8_hasBit (S.1 6 4) v2)) then k2 (v2 + (1 : Int32)) else some false)))
def f_X7_areToldBy_2 (S : CS) : Nat → Int32 → Option Bool
  | 0, _ => none
  | n + 1, v2 => f_X7_areToldBy_2b S (f_X7_areToldBy_2 S n) v2
def f_X7_areToldBy (S : CS) : Option Bool := f_X7_areToldBy_2 S 1000 (0 : Int32)
set_option maxRecDepth 100000 in
set_option maxHeartbeats 4000000 in
theorem w_X7_areToldBy_2 {p : Program} {l : Launch} {e : Env} {s : State} {m : MethodId} {args : Array Value} {below : List Frame} {meth : Method} {c : Code} {D : va_G} {cc : Nat → ClassId} {N0 : Nat} {g : Nat → Nat} {E : va_W} {S : CS} {v : Bool} (C : q_C p s m args meth c cX7_areToldBy 3 (some .boolean) wsX7_areToldBy RX7 D cc N0)  : ∀ (n : Nat) (v2 : Int32), f_X7_areToldBy_2 S n v2 = some v → q_WA p l e (q_rm 3 69 0 0) s m args below meth c D N0 3 (MQ below (q_Q D N0 (q_p (some (.int (q_b v))) (cw cc g S ++ E))) args s 0 0 (q_A N0)) 0 0 (cw cc g S ++ E) 2 [(0, .ref (g 6)), (1, .ref (g 5)), (2, .int v2)] [] := by
  intro n
  induction n with
  | zero => intro v2 hf; cases hf
  | succ n ih =>
    intro v2 hf
    have hk2 : ∀ (v2 : Int32), f_X7_areToldBy_2 S n v2 = some v → q_WA p l e (q_rm 3 69 0 0) s m args below meth c D N0 3 (MQ below (q_Q D N0 (q_p (some (.int (q_b v))) (cw cc g S ++ E))) args s 0 0 (q_A N0)) 0 0 (cw cc g S ++ E) 2 [(0, .ref (g 6)), (1, .ref (g 5)), (2, .int v2)] [] := ih
    have hf : f_X7_areToldBy_2b S (f_X7_areToldBy_2 S n) v2 = some v := hf
    refine q_iload_n (pc := 2) C dX7_areToldBy_2 rfl 2 rfl ?_
    refine q_aload_n (pc := 3) C dX7_areToldBy_3 rfl 0 rfl ?_
    refine r_g_6_5 (pc := 4) C n_X7_areToldBy_X7 (List.mem_of_getElem? (i := 1) rfl) dX7_areToldBy_4 ?_
    refine q_icmp_ge (pc := 7) (tgt := 50) C dX7_areToldBy_7 (by decide) (fun c1 => ?_) (fun c1 => ?_)
    · have hf := q_iteT hf c1
      refine q_iconst (pc := 50) C (1 : Int32) dX7_areToldBy_50 q_ci_1 ?_
      obtain rfl := q_some hf
      exact q_zret (pc := 51) C (by decide +kernel) dX7_areToldBy_51 ⟨rfl, rfl⟩
    · have hf := q_iteF hf c1
      refine q_aload_n (pc := 10) C dX7_areToldBy_10 rfl 1 rfl ?_
      refine q_iconst (pc := 11) C (0 : Int32) dX7_areToldBy_11 q_ci_0 ?_
      refine q_aload_n (pc := 12) C dX7_areToldBy_12 rfl 0 rfl ?_
      refine r_g_6_0 (pc := 13) C n_X7_areToldBy_X7 (List.mem_of_getElem? (i := 2) rfl) dX7_areToldBy_13 ?_
      refine q_iload_n (pc := 16) C dX7_areToldBy_16 rfl 2 rfl ?_
      refine q_callSN (pc := 17) (host := "Queryschool") (As := [.ref (g 17), .int v2]) (rest := [.int (0 : Int32), .ref (g 5)]) C (c_X8_at l D cc N0 (cw cc g S ++ E) 17 (g 17) 12 (S.1 17) (by decide) (cw_at_17 cc g E S) v2) gX7_areToldBy_X8_at_n28 rfl (List.mem_of_getElem? (i := 25) rfl) (List.mem_of_getElem? (i := 6) rfl) (List.mem_of_getElem? (i := 5) rfl) z_X8_at ⟨Nat.le_of_ble_eq_true rfl, Nat.le_of_ble_eq_true rfl⟩ rfl rfl (Nat.le_of_ble_eq_true rfl) dX7_areToldBy_17 ⟨Nat.le_of_ble_eq_true rfl, Nat.le_of_ble_eq_true rfl⟩ ?_
      refine q_after (rv := (some (.int (q_at 12 (S.1 17) v2)))) (w0 := (cw cc g S ++ E)) (st2 := [.int (q_at 12 (S.1 17) v2), .int (0 : Int32), .ref (g 5)]) rfl rfl rfl ?_
      refine q_aload_n (pc := 20) C dX7_areToldBy_20 rfl 0 rfl ?_
      refine r_g_6_1 (pc := 21) C n_X7_areToldBy_X7 (List.mem_of_getElem? (i := 3) rfl) dX7_areToldBy_21 ?_
      refine q_iload_n (pc := 24) C dX7_areToldBy_24 rfl 2 rfl ?_
      refine q_callSN (pc := 25) (host := "Queryschool") (As := [.ref (g 18), .int v2]) (rest := [.int (q_at 12 (S.1 17) v2), .int (0 : Int32), .ref (g 5)]) C (c_X8_at l D cc N0 (cw cc g S ++ E) 18 (g 18) 12 (S.1 18) (by decide) (cw_at_18 cc g E S) v2) gX7_areToldBy_X8_at_n28 rfl (List.mem_of_getElem? (i := 25) rfl) (List.mem_of_getElem? (i := 6) rfl) (List.mem_of_getElem? (i := 5) rfl) z_X8_at ⟨Nat.le_of_ble_eq_true rfl, Nat.le_of_ble_eq_true rfl⟩ rfl rfl (Nat.le_of_ble_eq_true rfl) dX7_areToldBy_25 ⟨Nat.le_of_ble_eq_true rfl, Nat.le_of_ble_eq_true rfl⟩ ?_
      refine q_after (rv := (some (.int (q_at 12 (S.1 18) v2)))) (w0 := (cw cc g S ++ E)) (st2 := [.int (q_at 12 (S.1 18) v2), .int (q_at 12 (S.1 17) v2), .int (0 : Int32), .ref (g 5)]) rfl rfl rfl ?_
      obtain ⟨u2, e3, hf⟩ := q_bind hf
      refine q_callV (pc := 28) (As := [.int (0 : Int32), .int (q_at 12 (S.1 17) v2), .int (q_at 12 (S.1 18) v2)]) (rest := []) C (c_X3_endsWell l D cc N0 g E S (0 : Int32) (q_at 12 (S.1 17) v2) (q_at 12 (S.1 18) v2) u2 e3) gX7_areToldBy_X3_endsWell rfl rfl z_X3_endsWell ⟨Nat.le_of_ble_eq_true rfl, Nat.le_of_ble_eq_true rfl⟩ (cw_at_5 cc g E _) rfl rfl rfl (Nat.le_of_ble_eq_true rfl) dX7_areToldBy_28 ⟨Nat.le_of_ble_eq_true rfl, Nat.le_of_ble_eq_true rfl⟩ ?_
      refine q_after (rv := (some (.int (q_b u2)))) (w0 := (cw cc g S ++ E)) (st2 := [.int (q_b u2)]) rfl rfl rfl ?_
      refine q_aload_n (pc := 31) C dX7_areToldBy_31 rfl 0 rfl ?_
      refine r_g_6_4 (pc := 32) C n_X7_areToldBy_X7 (List.mem_of_getElem? (i := 4) rfl) dX7_areToldBy_32 ?_
      refine q_iload_n (pc := 35) C dX7_areToldBy_35 rfl 2 rfl ?_
      refine q_callSN (pc := 36) (host := "Queryschool") (As := [.int (S.1 6 4), .int v2]) (rest := [.int (q_b u2)]) C (c_X8_hasBit l D cc N0 (cw cc g S ++ E) (S.1 6 4) v2 _ rfl) gX7_areToldBy_X8_hasBit_n45 rfl (List.mem_of_getElem? (i := 27) rfl) (List.mem_of_getElem? (i := 6) rfl) (List.mem_of_getElem? (i := 18) rfl) z_X8_hasBit ⟨Nat.le_of_ble_eq_true rfl, Nat.le_of_ble_eq_true rfl⟩ rfl rfl (Nat.le_of_ble_eq_true rfl) dX7_areToldBy_36 ⟨Nat.le_of_ble_eq_true rfl, Nat.le_of_ble_eq_true rfl⟩ ?_
      refine q_after (rv := (some (.int (q_b (f_X8_hasBit (S.1 6 4) v2))))) (w0 := (cw cc g S ++ E)) (st2 := [.int (q_b (f_X8_hasBit (S.1 6 4) v2)), .int (q_b u2)]) rfl rfl rfl ?_
      refine q_icmp_eq (pc := 39) (tgt := 44) C dX7_areToldBy_39 (by decide) (fun c4 => ?_) (fun c4 => ?_)
      · have hf := q_iteT hf c4
        refine q_iinc (pc := 44) (lvq := [(2, .int (v2 + (1 : Int32))), (0, .ref (g 6)), (1, .ref (g 5))]) C (v2 + (1 : Int32)) dX7_areToldBy_44 2 rfl q_ca_1 (by decide) rfl ?_
        refine q_goto (pc := 47) (tgt := 2) C dX7_areToldBy_47 (by decide) ?_
        refine q_sub (lvq := [(0, .ref (g 6)), (1, .ref (g 5)), (2, .int (v2 + (1 : Int32)))]) [1, 2, 0] rfl ?_
        exact hk2 (v2 + (1 : Int32)) hf
      · have hf := q_iteF hf c4
        refine q_iconst (pc := 42) C (0 : Int32) dX7_areToldBy_42 q_ci_0 ?_
        obtain rfl := q_some hf
        exact q_zret (pc := 43) C (by decide +kernel) dX7_areToldBy_43 ⟨rfl, rfl⟩
set_option maxRecDepth 100000 in
set_option maxHeartbeats 4000000 in
theorem c_X7_areToldBy (l : Launch) (D : va_G) (cc : Nat → ClassId) (N0 : Nat) (g : Nat → Nat) (E : va_W) (S : CS) (v : Bool) (hf : f_X7_areToldBy S = some v) : q_Met l yX7_areToldBy wsX7_areToldBy 3 69 D cc N0 (cw cc g S ++ E) [.ref (g 6), .ref (g 5)] (q_p (some (.int (q_b v))) (cw cc g S ++ E)) 0 0 := by
  refine q_ofW (code := cX7_areToldBy) (nL := 3) (ret := (some .boolean)) (by decide +kernel) rfl (Nat.le_of_ble_eq_true rfl) (fun p e s m below meth c C _ => ?_)
  refine q_lv (lv2 := [(0, .ref (g 6)), (1, .ref (g 5))]) rfl ?_
  refine q_iconst (pc := 0) C (0 : Int32) dX7_areToldBy_0 q_ci_0 ?_
  refine q_istore_n (pc := 1) (lvq := [(2, .int (0 : Int32)), (0, .ref (g 6)), (1, .ref (g 5))]) C dX7_areToldBy_1 rfl (by decide) rfl ?_
  refine q_sub (lvq := [(0, .ref (g 6)), (1, .ref (g 5)), (2, .int (0 : Int32))]) [1, 2, 0] rfl ?_
  exact w_X7_areToldBy_2 C 1000 (0 : Int32) hf
theorem z_X7_areToldBy : q_dsc yX7_areToldBy 1 := ⟨by decide +kernel, by decide +kernel, by decide +kernel⟩
theorem n_X7_areKeptApart_X7 : ∀ w ∈ wsX70, w ∈ wsX7_areKeptApart := fun _ h => (List.mem_cons_of_mem _ (List.mem_append_right _ h))
def f_X7_areKeptApart_68 (S : CS) (k6 : Int32 → Int32 → Int32 → Option Bool) (v1 : Int32) (v2 : Int32) (v3 : Int32) : Option Bool := (if (v1 &&& v2) = 0 then k6 v1 v2 (v3 + (1 : Int32)) else some false)
def f_X7_areKeptApart_6b (S : CS) (k6 : Int32 → Int32 → Int32 → Option Bool) (v1 : Int32) (v2 : Int32) (v3 : Int32) : Option Bool := (if (S.1 6 5) ≤ v3 then some true else ((f_X3_end 6 (S.1 19) (0 : Int32) (q_at 12 (S.1 17) v3) (q_at 12 (S.1 18) v3)).bind fun u2 => (if (q_b (f_X8_hasBit (S.1 6 4) v3)) = 0 then f_X7_areKeptApart_68 S k6 v1 (v2 ||| ((1 : Int32) <<< (u2 &&& 31))) v3 else f_X7_areKeptApart_68 S k6 (v1 ||| ((1 : Int32) <<< (u2 &&& 31))) v2 v3)))
def f_X7_areKeptApart_6 (S : CS) : Nat → Int32 → Int32 → Int32 → Option Bool
  | 0, _, _, _ => none
  | n + 1, v1, v2, v3 => f_X7_areKeptApart_6b S (f_X7_areKeptApart_6 S n) v1 v2 v3
def f_X7_areKeptApart (S : CS) : Option Bool := f_X7_areKeptApart_6 S 1000 (0 : Int32) (0 : Int32) (0 : Int32)
set_option maxRecDepth 100000 in
set_option maxHeartbeats 4000000 in
theorem w_X7_areKeptApart_68 {p : Program} {l : Launch} {e : Env} {s : State} {m : MethodId} {args : Array Value} {below : List Frame} {meth : Method} {c : Code} {D : va_G} {cc : Nat → ClassId} {N0 : Nat} {g : Nat → Nat} {E : va_W} {S : CS} {k6 : Int32 → Int32 → Int32 → Option Bool} {v : Bool} (C : q_C p s m args meth c cX7_areKeptApart 5 (some .boolean) wsX7_areKeptApart RX7 D cc N0) (hk6 : ∀ (v1 : Int32) (v2 : Int32) (v3 : Int32), k6 v1 v2 v3 = some v → q_WA p l e (q_rm 2 46 0 0) s m args below meth c D N0 5 (MQ below (q_Q D N0 (q_p (some (.int (q_b v))) (cw cc g S ++ E))) args s 0 0 (q_A N0)) 0 0 (cw cc g S ++ E) 6 [(0, .ref (g 6)), (1, .int v1), (2, .int v2), (3, .int v3)] []) (v1 : Int32) (v2 : Int32) (v3 : Int32) (hf : f_X7_areKeptApart_68 S k6 v1 v2 v3 = some v) : q_WA p l e (q_rm 2 46 0 0) s m args below meth c D N0 5 (MQ below (q_Q D N0 (q_p (some (.int (q_b v))) (cw cc g S ++ E))) args s 0 0 (q_A N0)) 0 0 (cw cc g S ++ E) 68 [(0, .ref (g 6)), (1, .int v1), (2, .int v2), (3, .int v3)] [] := by
  refine q_iload_n (pc := 68) C dX7_areKeptApart_68 rfl 1 rfl ?_
  refine q_iload_n (pc := 69) C dX7_areKeptApart_69 rfl 2 rfl ?_
  refine q_iand (pc := 70) C dX7_areKeptApart_70 ?_
  refine q_if_eq (pc := 71) (tgt := 76) C dX7_areKeptApart_71 (by decide) (fun c5 => ?_) (fun c5 => ?_)
  · have hf := q_iteT hf c5
    refine q_iinc (pc := 76) (lvq := [(3, .int (v3 + (1 : Int32))), (0, .ref (g 6)), (1, .int v1), (2, .int v2)]) C (v3 + (1 : Int32)) dX7_areKeptApart_76 3 rfl q_ca_1 (by decide) rfl ?_
    refine q_goto (pc := 79) (tgt := 6) C dX7_areKeptApart_79 (by decide) ?_
    refine q_sub (lvq := [(0, .ref (g 6)), (1, .int v1), (2, .int v2), (3, .int (v3 + (1 : Int32)))]) [1, 2, 3, 0] rfl ?_
    exact hk6 v1 v2 (v3 + (1 : Int32)) hf
  · have hf := q_iteF hf c5
    refine q_iconst (pc := 74) C (0 : Int32) dX7_areKeptApart_74 q_ci_0 ?_
    obtain rfl := q_some hf
    exact q_zret (pc := 75) C (by decide +kernel) dX7_areKeptApart_75 ⟨rfl, rfl⟩
set_option maxRecDepth 100000 in
set_option maxHeartbeats 4000000 in
theorem w_X7_areKeptApart_6 {p : Program} {l : Launch} {e : Env} {s : State} {m : MethodId} {args : Array Value} {below : List Frame} {meth : Method} {c : Code} {D : va_G} {cc : Nat → ClassId} {N0 : Nat} {g : Nat → Nat} {E : va_W} {S : CS} {v : Bool} (C : q_C p s m args meth c cX7_areKeptApart 5 (some .boolean) wsX7_areKeptApart RX7 D cc N0)  : ∀ (n : Nat) (v1 : Int32) (v2 : Int32) (v3 : Int32), f_X7_areKeptApart_6 S n v1 v2 v3 = some v → q_WA p l e (q_rm 2 46 0 0) s m args below meth c D N0 5 (MQ below (q_Q D N0 (q_p (some (.int (q_b v))) (cw cc g S ++ E))) args s 0 0 (q_A N0)) 0 0 (cw cc g S ++ E) 6 [(0, .ref (g 6)), (1, .int v1), (2, .int v2), (3, .int v3)] [] := by
  intro n
  induction n with
  | zero => intro v1 v2 v3 hf; cases hf
  | succ n ih =>
    intro v1 v2 v3 hf
    have hk6 : ∀ (v1 : Int32) (v2 : Int32) (v3 : Int32), f_X7_areKeptApart_6 S n v1 v2 v3 = some v → q_WA p l e (q_rm 2 46 0 0) s m args below meth c D N0 5 (MQ below (q_Q D N0 (q_p (some (.int (q_b v))) (cw cc g S ++ E))) args s 0 0 (q_A N0)) 0 0 (cw cc g S ++ E) 6 [(0, .ref (g 6)), (1, .int v1), (2, .int v2), (3, .int v3)] [] := ih
    have hf : f_X7_areKeptApart_6b S (f_X7_areKeptApart_6 S n) v1 v2 v3 = some v := hf
    refine q_iload_n (pc := 6) C dX7_areKeptApart_6 rfl 3 rfl ?_
    refine q_aload_n (pc := 7) C dX7_areKeptApart_7 rfl 0 rfl ?_
    refine r_g_6_5 (pc := 8) C n_X7_areKeptApart_X7 (List.mem_of_getElem? (i := 1) rfl) dX7_areKeptApart_8 ?_
    refine q_icmp_ge (pc := 11) (tgt := 82) C dX7_areKeptApart_11 (by decide) (fun c1 => ?_) (fun c1 => ?_)
    · have hf := q_iteT hf c1
      refine q_iconst (pc := 82) C (1 : Int32) dX7_areKeptApart_82 q_ci_1 ?_
      obtain rfl := q_some hf
      exact q_zret (pc := 83) C (by decide +kernel) dX7_areKeptApart_83 ⟨rfl, rfl⟩
    · have hf := q_iteF hf c1
      refine q_aload_n (pc := 14) C dX7_areKeptApart_14 rfl 0 rfl ?_
      refine r_g_6_2 (pc := 15) C n_X7_areKeptApart_X7 (List.mem_of_getElem? (i := 2) rfl) dX7_areKeptApart_15 ?_
      refine q_iconst (pc := 18) C (0 : Int32) dX7_areKeptApart_18 q_ci_0 ?_
      refine q_aload_n (pc := 19) C dX7_areKeptApart_19 rfl 0 rfl ?_
      refine r_g_6_0 (pc := 20) C n_X7_areKeptApart_X7 (List.mem_of_getElem? (i := 3) rfl) dX7_areKeptApart_20 ?_
      refine q_iload_n (pc := 23) C dX7_areKeptApart_23 rfl 3 rfl ?_
      refine q_callSN (pc := 24) (host := "Queryschool") (As := [.ref (g 17), .int v3]) (rest := [.int (0 : Int32), .ref (g 19)]) C (c_X8_at l D cc N0 (cw cc g S ++ E) 17 (g 17) 12 (S.1 17) (by decide) (cw_at_17 cc g E S) v3) gX7_areKeptApart_X8_at_n28 rfl (List.mem_of_getElem? (i := 25) rfl) (List.mem_of_getElem? (i := 7) rfl) (List.mem_of_getElem? (i := 6) rfl) z_X8_at ⟨Nat.le_of_ble_eq_true rfl, Nat.le_of_ble_eq_true rfl⟩ rfl rfl (Nat.le_of_ble_eq_true rfl) dX7_areKeptApart_24 ⟨Nat.le_of_ble_eq_true rfl, Nat.le_of_ble_eq_true rfl⟩ ?_
      refine q_after (rv := (some (.int (q_at 12 (S.1 17) v3)))) (w0 := (cw cc g S ++ E)) (st2 := [.int (q_at 12 (S.1 17) v3), .int (0 : Int32), .ref (g 19)]) rfl rfl rfl ?_
      refine q_aload_n (pc := 27) C dX7_areKeptApart_27 rfl 0 rfl ?_
      refine r_g_6_1 (pc := 28) C n_X7_areKeptApart_X7 (List.mem_of_getElem? (i := 4) rfl) dX7_areKeptApart_28 ?_
      refine q_iload_n (pc := 31) C dX7_areKeptApart_31 rfl 3 rfl ?_
      refine q_callSN (pc := 32) (host := "Queryschool") (As := [.ref (g 18), .int v3]) (rest := [.int (q_at 12 (S.1 17) v3), .int (0 : Int32), .ref (g 19)]) C (c_X8_at l D cc N0 (cw cc g S ++ E) 18 (g 18) 12 (S.1 18) (by decide) (cw_at_18 cc g E S) v3) gX7_areKeptApart_X8_at_n28 rfl (List.mem_of_getElem? (i := 25) rfl) (List.mem_of_getElem? (i := 7) rfl) (List.mem_of_getElem? (i := 6) rfl) z_X8_at ⟨Nat.le_of_ble_eq_true rfl, Nat.le_of_ble_eq_true rfl⟩ rfl rfl (Nat.le_of_ble_eq_true rfl) dX7_areKeptApart_32 ⟨Nat.le_of_ble_eq_true rfl, Nat.le_of_ble_eq_true rfl⟩ ?_
      refine q_after (rv := (some (.int (q_at 12 (S.1 18) v3)))) (w0 := (cw cc g S ++ E)) (st2 := [.int (q_at 12 (S.1 18) v3), .int (q_at 12 (S.1 17) v3), .int (0 : Int32), .ref (g 19)]) rfl rfl rfl ?_
      obtain ⟨u2, e3, hf⟩ := q_bind hf
      refine q_callS (pc := 35) (As := [.ref (g 19), .int (0 : Int32), .int (q_at 12 (S.1 17) v3), .int (q_at 12 (S.1 18) v3)]) (rest := []) C (c_X3_end l D cc N0 (cw cc g S ++ E) 19 (g 19) 6 (S.1 19) (by decide) (cw_at_19 cc g E S) (0 : Int32) (q_at 12 (S.1 17) v3) (q_at 12 (S.1 18) v3) u2 e3) gX7_areKeptApart_X3_end rfl z_X3_end ⟨Nat.le_of_ble_eq_true rfl, Nat.le_of_ble_eq_true rfl⟩ rfl rfl (Nat.le_of_ble_eq_true rfl) dX7_areKeptApart_35 ⟨Nat.le_of_ble_eq_true rfl, Nat.le_of_ble_eq_true rfl⟩ ?_
      refine q_after (rv := (some (.int u2))) (w0 := (cw cc g S ++ E)) (st2 := [.int u2]) rfl rfl rfl ?_
      refine q_istore (pc := 38) (lvq := [(4, .int u2), (0, .ref (g 6)), (1, .int v1), (2, .int v2), (3, .int v3)]) C dX7_areKeptApart_38 (by decide) rfl ?_
      refine q_aload_n (pc := 40) C dX7_areKeptApart_40 rfl 1 rfl ?_
      refine r_g_6_4 (pc := 41) C n_X7_areKeptApart_X7 (List.mem_of_getElem? (i := 5) rfl) dX7_areKeptApart_41 ?_
      refine q_iload_n (pc := 44) C dX7_areKeptApart_44 rfl 4 rfl ?_
      refine q_callSN (pc := 45) (host := "Queryschool") (As := [.int (S.1 6 4), .int v3]) (rest := []) C (c_X8_hasBit l D cc N0 (cw cc g S ++ E) (S.1 6 4) v3 _ rfl) gX7_areKeptApart_X8_hasBit_n45 rfl (List.mem_of_getElem? (i := 27) rfl) (List.mem_of_getElem? (i := 7) rfl) (List.mem_of_getElem? (i := 13) rfl) z_X8_hasBit ⟨Nat.le_of_ble_eq_true rfl, Nat.le_of_ble_eq_true rfl⟩ rfl rfl (Nat.le_of_ble_eq_true rfl) dX7_areKeptApart_45 ⟨Nat.le_of_ble_eq_true rfl, Nat.le_of_ble_eq_true rfl⟩ ?_
      refine q_after (rv := (some (.int (q_b (f_X8_hasBit (S.1 6 4) v3))))) (w0 := (cw cc g S ++ E)) (st2 := [.int (q_b (f_X8_hasBit (S.1 6 4) v3))]) rfl rfl rfl ?_
      refine q_if_eq (pc := 48) (tgt := 61) C dX7_areKeptApart_48 (by decide) (fun c4 => ?_) (fun c4 => ?_)
      · have hf := q_iteT hf c4
        refine q_iload_n (pc := 61) C dX7_areKeptApart_61 rfl 3 rfl ?_
        refine q_iconst (pc := 62) C (1 : Int32) dX7_areKeptApart_62 q_ci_1 ?_
        refine q_iload (pc := 63) C dX7_areKeptApart_63 0 rfl ?_
        refine q_ishl (pc := 65) C dX7_areKeptApart_65 ?_
        refine q_ior (pc := 66) C dX7_areKeptApart_66 ?_
        refine q_istore_n (pc := 67) (lvq := [(2, .int (v2 ||| ((1 : Int32) <<< (u2 &&& 31)))), (4, .int u2), (0, .ref (g 6)), (1, .int v1), (3, .int v3)]) C dX7_areKeptApart_67 rfl (by decide) rfl ?_
        refine q_sub (lvq := [(0, .ref (g 6)), (1, .int v1), (2, .int (v2 ||| ((1 : Int32) <<< (u2 &&& 31)))), (3, .int v3)]) [2, 3, 0, 4] rfl ?_
        exact w_X7_areKeptApart_68 C hk6 v1 (v2 ||| ((1 : Int32) <<< (u2 &&& 31))) v3 hf
      · have hf := q_iteF hf c4
        refine q_iload_n (pc := 51) C dX7_areKeptApart_51 rfl 2 rfl ?_
        refine q_iconst (pc := 52) C (1 : Int32) dX7_areKeptApart_52 q_ci_1 ?_
        refine q_iload (pc := 53) C dX7_areKeptApart_53 0 rfl ?_
        refine q_ishl (pc := 55) C dX7_areKeptApart_55 ?_
        refine q_ior (pc := 56) C dX7_areKeptApart_56 ?_
        refine q_istore_n (pc := 57) (lvq := [(1, .int (v1 ||| ((1 : Int32) <<< (u2 &&& 31)))), (4, .int u2), (0, .ref (g 6)), (2, .int v2), (3, .int v3)]) C dX7_areKeptApart_57 rfl (by decide) rfl ?_
        refine q_goto (pc := 58) (tgt := 68) C dX7_areKeptApart_58 (by decide) ?_
        refine q_sub (lvq := [(0, .ref (g 6)), (1, .int (v1 ||| ((1 : Int32) <<< (u2 &&& 31)))), (2, .int v2), (3, .int v3)]) [2, 0, 3, 4] rfl ?_
        exact w_X7_areKeptApart_68 C hk6 (v1 ||| ((1 : Int32) <<< (u2 &&& 31))) v2 v3 hf
set_option maxRecDepth 100000 in
set_option maxHeartbeats 4000000 in
theorem c_X7_areKeptApart (l : Launch) (D : va_G) (cc : Nat → ClassId) (N0 : Nat) (g : Nat → Nat) (E : va_W) (S : CS) (v : Bool) (hf : f_X7_areKeptApart S = some v) : q_Met l yX7_areKeptApart wsX7_areKeptApart 2 46 D cc N0 (cw cc g S ++ E) [.ref (g 6)] (q_p (some (.int (q_b v))) (cw cc g S ++ E)) 0 0 := by
  refine q_ofW (code := cX7_areKeptApart) (nL := 5) (ret := (some .boolean)) (by decide +kernel) rfl (Nat.le_of_ble_eq_true rfl) (fun p e s m below meth c C _ => ?_)
  refine q_lv (lv2 := [(0, .ref (g 6))]) rfl ?_
  refine q_iconst (pc := 0) C (0 : Int32) dX7_areKeptApart_0 q_ci_0 ?_
  refine q_istore_n (pc := 1) (lvq := [(1, .int (0 : Int32)), (0, .ref (g 6))]) C dX7_areKeptApart_1 rfl (by decide) rfl ?_
  refine q_iconst (pc := 2) C (0 : Int32) dX7_areKeptApart_2 q_ci_0 ?_
  refine q_istore_n (pc := 3) (lvq := [(2, .int (0 : Int32)), (1, .int (0 : Int32)), (0, .ref (g 6))]) C dX7_areKeptApart_3 rfl (by decide) rfl ?_
  refine q_iconst (pc := 4) C (0 : Int32) dX7_areKeptApart_4 q_ci_0 ?_
  refine q_istore_n (pc := 5) (lvq := [(3, .int (0 : Int32)), (2, .int (0 : Int32)), (1, .int (0 : Int32)), (0, .ref (g 6))]) C dX7_areKeptApart_5 rfl (by decide) rfl ?_
  refine q_sub (lvq := [(0, .ref (g 6)), (1, .int (0 : Int32)), (2, .int (0 : Int32)), (3, .int (0 : Int32))]) [3, 2, 1, 0] rfl ?_
  exact w_X7_areKeptApart_6 C 1000 (0 : Int32) (0 : Int32) (0 : Int32) hf
theorem z_X7_areKeptApart : q_dsc yX7_areKeptApart 0 := ⟨by decide +kernel, by decide +kernel, by decide +kernel⟩
theorem n_X7_turnTrial_X7 : ∀ w ∈ wsX70, w ∈ wsX7_turnTrial := fun _ h => (List.mem_cons_of_mem _ (List.mem_append_right _ h))
def f_X7_turnTrial_2b (k2 : Int32 → CS → Option CS) (v1 : Int32) (S : CS) : Option CS := (if ((2 : Int32) * (S.1 6 3)) ≤ v1 then some (cset S 6 3 ((S.1 6 3) + (1 : Int32))) else (if (S.1 6 3) ≤ ((q_at 6 (S.1 19) v1) + (1 : Int32)) then k2 (v1 + (1 : Int32)) (cfun S 19 (q_pu 6 (S.1 19) v1 (0 : Int32))) else some (cfun S 19 (q_pu 6 (S.1 19) v1 ((q_at 6 (S.1 19) v1) + (1 : Int32))))))
def f_X7_turnTrial_2 : Nat → Int32 → CS → Option CS
  | 0, _, _ => none
  | n + 1, v1, S => f_X7_turnTrial_2b  (f_X7_turnTrial_2  n) v1 S
def f_X7_turnTrial (S : CS) : Option CS := f_X7_turnTrial_2 1000 (0 : Int32) S
set_option maxRecDepth 100000 in
set_option maxHeartbeats 4000000 in
theorem w_X7_turnTrial_2 {p : Program} {l : Launch} {e : Env} {s : State} {m : MethodId} {args : Array Value} {below : List Frame} {meth : Method} {c : Code} {D : va_G} {cc : Nat → ClassId} {N0 : Nat} {g : Nat → Nat} {E : va_W} {v : CS} (C : q_C p s m args meth c cX7_turnTrial 3 none wsX7_turnTrial RX7 D cc N0)  : ∀ (n : Nat) (v1 : Int32) (S : CS), f_X7_turnTrial_2  n v1 S = some v → q_WA p l e (q_rm 1 22 0 0) s m args below meth c D N0 3 (MQ below (q_Q D N0 (q_p (none) (cw cc g v ++ E))) args s 0 0 (q_A N0)) 0 0 (cw cc g S ++ E) 2 [(0, .ref (g 6)), (1, .int v1)] [] := by
  intro n
  induction n with
  | zero => intro v1 S hf; cases hf
  | succ n ih =>
    intro v1 S hf
    have hk2 : ∀ (v1 : Int32) (S : CS), f_X7_turnTrial_2  n v1 S = some v → q_WA p l e (q_rm 1 22 0 0) s m args below meth c D N0 3 (MQ below (q_Q D N0 (q_p (none) (cw cc g v ++ E))) args s 0 0 (q_A N0)) 0 0 (cw cc g S ++ E) 2 [(0, .ref (g 6)), (1, .int v1)] [] := ih
    have hf : f_X7_turnTrial_2b  (f_X7_turnTrial_2  n) v1 S = some v := hf
    refine q_iload_n (pc := 2) C dX7_turnTrial_2 rfl 1 rfl ?_
    refine q_iconst (pc := 3) C (2 : Int32) dX7_turnTrial_3 q_ci_2 ?_
    refine q_aload_n (pc := 4) C dX7_turnTrial_4 rfl 0 rfl ?_
    refine r_g_6_3 (pc := 5) C n_X7_turnTrial_X7 (List.mem_of_getElem? (i := 1) rfl) dX7_turnTrial_5 ?_
    refine q_imul (pc := 8) C dX7_turnTrial_8 ?_
    refine q_icmp_ge (pc := 9) (tgt := 56) C dX7_turnTrial_9 (by decide) (fun c1 => ?_) (fun c1 => ?_)
    · have hf := q_iteT hf c1
      refine q_aload_n (pc := 56) C dX7_turnTrial_56 rfl 0 rfl ?_
      refine q_dup (pc := 57) C dX7_turnTrial_57 rfl ?_
      refine r_g_6_3 (pc := 58) C n_X7_turnTrial_X7 (List.mem_of_getElem? (i := 1) rfl) dX7_turnTrial_58 ?_
      refine q_iconst (pc := 61) C (1 : Int32) dX7_turnTrial_61 q_ci_1 ?_
      refine q_iadd (pc := 62) C dX7_turnTrial_62 ?_
      refine r_p_6_3 (pc := 63) C n_X7_turnTrial_X7 (List.mem_of_getElem? (i := 1) rfl) dX7_turnTrial_63 ?_
      obtain rfl := q_some hf
      exact q_vret (pc := 66) C dX7_turnTrial_66 ⟨rfl, rfl⟩
    · have hf := q_iteF hf c1
      refine q_aload_n (pc := 12) C dX7_turnTrial_12 rfl 0 rfl ?_
      refine r_g_6_2 (pc := 13) C n_X7_turnTrial_X7 (List.mem_of_getElem? (i := 2) rfl) dX7_turnTrial_13 ?_
      refine q_iload_n (pc := 16) C dX7_turnTrial_16 rfl 1 rfl ?_
      refine q_callSN (pc := 17) (host := "Queryschool") (As := [.ref (g 19), .int v1]) (rest := []) C (c_X8_at l D cc N0 (cw cc g S ++ E) 19 (g 19) 6 (S.1 19) (by decide) (cw_at_19 cc g E S) v1) gX7_turnTrial_X8_at_n28 rfl (List.mem_of_getElem? (i := 25) rfl) (List.mem_of_getElem? (i := 4) rfl) (List.mem_of_getElem? (i := 3) rfl) z_X8_at ⟨Nat.le_of_ble_eq_true rfl, Nat.le_of_ble_eq_true rfl⟩ rfl rfl (Nat.le_of_ble_eq_true rfl) dX7_turnTrial_17 ⟨Nat.le_of_ble_eq_true rfl, Nat.le_of_ble_eq_true rfl⟩ ?_
      refine q_after (rv := (some (.int (q_at 6 (S.1 19) v1)))) (w0 := (cw cc g S ++ E)) (st2 := [.int (q_at 6 (S.1 19) v1)]) rfl rfl rfl ?_
      refine q_iconst (pc := 20) C (1 : Int32) dX7_turnTrial_20 q_ci_1 ?_
      refine q_iadd (pc := 21) C dX7_turnTrial_21 ?_
      refine q_istore_n (pc := 22) (lvq := [(2, .int ((q_at 6 (S.1 19) v1) + (1 : Int32))), (0, .ref (g 6)), (1, .int v1)]) C dX7_turnTrial_22 rfl (by decide) rfl ?_
      refine q_iload_n (pc := 23) C dX7_turnTrial_23 rfl 0 rfl ?_
      refine q_aload_n (pc := 24) C dX7_turnTrial_24 rfl 1 rfl ?_
      refine r_g_6_3 (pc := 25) C n_X7_turnTrial_X7 (List.mem_of_getElem? (i := 1) rfl) dX7_turnTrial_25 ?_
      refine q_icmp_ge (pc := 28) (tgt := 41) C dX7_turnTrial_28 (by decide) (fun c2 => ?_) (fun c2 => ?_)
      · have hf := q_iteT hf c2
        refine q_aload_n (pc := 41) C dX7_turnTrial_41 rfl 1 rfl ?_
        refine r_g_6_2 (pc := 42) C n_X7_turnTrial_X7 (List.mem_of_getElem? (i := 2) rfl) dX7_turnTrial_42 ?_
        refine q_iload_n (pc := 45) C dX7_turnTrial_45 rfl 2 rfl ?_
        refine q_iconst (pc := 46) C (0 : Int32) dX7_turnTrial_46 q_ci_0 ?_
        refine q_callSN (pc := 47) (host := "Queryschool") (As := [.ref (g 19), .int v1, .int (0 : Int32)]) (rest := []) C (c_X8_put l D cc N0 (cw cc g S ++ E) 19 (g 19) 6 (S.1 19) (by decide) (cw_at_19 cc g E S) v1 (0 : Int32)) gX7_turnTrial_X8_put_n32 rfl (List.mem_of_getElem? (i := 26) rfl) (List.mem_of_getElem? (i := 4) rfl) (List.mem_of_getElem? (i := 6) rfl) z_X8_put ⟨Nat.le_of_ble_eq_true rfl, Nat.le_of_ble_eq_true rfl⟩ rfl rfl (Nat.le_of_ble_eq_true rfl) dX7_turnTrial_47 ⟨Nat.le_of_ble_eq_true rfl, Nat.le_of_ble_eq_true rfl⟩ ?_
        refine q_after (rv := none) (w0 := (cw cc g (cfun S 19 (q_pu 6 (S.1 19) v1 (0 : Int32))) ++ E)) (st2 := []) (cw_fun_19 cc g E _ _) rfl rfl ?_
        refine q_iinc (pc := 50) (lvq := [(1, .int (v1 + (1 : Int32))), (2, .int ((q_at 6 (S.1 19) v1) + (1 : Int32))), (0, .ref (g 6))]) C (v1 + (1 : Int32)) dX7_turnTrial_50 2 rfl q_ca_1 (by decide) rfl ?_
        refine q_goto (pc := 53) (tgt := 2) C dX7_turnTrial_53 (by decide) ?_
        refine q_sub (lvq := [(0, .ref (g 6)), (1, .int (v1 + (1 : Int32)))]) [2, 0] rfl ?_
        exact hk2 (v1 + (1 : Int32)) (cfun S 19 (q_pu 6 (S.1 19) v1 (0 : Int32))) hf
      · have hf := q_iteF hf c2
        refine q_aload_n (pc := 31) C dX7_turnTrial_31 rfl 1 rfl ?_
        refine r_g_6_2 (pc := 32) C n_X7_turnTrial_X7 (List.mem_of_getElem? (i := 2) rfl) dX7_turnTrial_32 ?_
        refine q_iload_n (pc := 35) C dX7_turnTrial_35 rfl 2 rfl ?_
        refine q_iload_n (pc := 36) C dX7_turnTrial_36 rfl 0 rfl ?_
        refine q_callSN (pc := 37) (host := "Queryschool") (As := [.ref (g 19), .int v1, .int ((q_at 6 (S.1 19) v1) + (1 : Int32))]) (rest := []) C (c_X8_put l D cc N0 (cw cc g S ++ E) 19 (g 19) 6 (S.1 19) (by decide) (cw_at_19 cc g E S) v1 ((q_at 6 (S.1 19) v1) + (1 : Int32))) gX7_turnTrial_X8_put_n32 rfl (List.mem_of_getElem? (i := 26) rfl) (List.mem_of_getElem? (i := 4) rfl) (List.mem_of_getElem? (i := 6) rfl) z_X8_put ⟨Nat.le_of_ble_eq_true rfl, Nat.le_of_ble_eq_true rfl⟩ rfl rfl (Nat.le_of_ble_eq_true rfl) dX7_turnTrial_37 ⟨Nat.le_of_ble_eq_true rfl, Nat.le_of_ble_eq_true rfl⟩ ?_
        refine q_after (rv := none) (w0 := (cw cc g (cfun S 19 (q_pu 6 (S.1 19) v1 ((q_at 6 (S.1 19) v1) + (1 : Int32)))) ++ E)) (st2 := []) (cw_fun_19 cc g E _ _) rfl rfl ?_
        obtain rfl := q_some hf
        exact q_vret (pc := 40) C dX7_turnTrial_40 ⟨rfl, rfl⟩
set_option maxRecDepth 100000 in
set_option maxHeartbeats 4000000 in
theorem c_X7_turnTrial (l : Launch) (D : va_G) (cc : Nat → ClassId) (N0 : Nat) (g : Nat → Nat) (E : va_W) (S : CS) (v : CS) (hf : f_X7_turnTrial S = some v) : q_Met l yX7_turnTrial wsX7_turnTrial 1 22 D cc N0 (cw cc g S ++ E) [.ref (g 6)] (q_p (none) (cw cc g v ++ E)) 0 0 := by
  refine q_ofW (code := cX7_turnTrial) (nL := 3) (ret := none) (by decide +kernel) rfl (Nat.le_of_ble_eq_true rfl) (fun p e s m below meth c C _ => ?_)
  refine q_lv (lv2 := [(0, .ref (g 6))]) rfl ?_
  refine q_iconst (pc := 0) C (0 : Int32) dX7_turnTrial_0 q_ci_0 ?_
  refine q_istore_n (pc := 1) (lvq := [(1, .int (0 : Int32)), (0, .ref (g 6))]) C dX7_turnTrial_1 rfl (by decide) rfl ?_
  refine q_sub (lvq := [(0, .ref (g 6)), (1, .int (0 : Int32))]) [1, 0] rfl ?_
  exact w_X7_turnTrial_2 C 1000 (0 : Int32) S hf
theorem z_X7_turnTrial : q_dsc yX7_turnTrial 0 := ⟨by decide +kernel, by decide +kernel, by decide +kernel⟩
theorem n_X7_fewestStates_X7 : ∀ w ∈ wsX70, w ∈ wsX7_fewestStates := fun _ h => (List.mem_cons_of_mem _ (List.mem_append_right _ h))
def f_X7_fewestStates_2b (k2 : Int32 → CS → Option (Int32 × CS)) (v1 : Int32) (S : CS) : Option (Int32 × CS) := (if (746 : Int32) ≤ v1 then some ((S.1 6 3), S) else (if (3 : Int32) < (S.1 6 3) then some ((S.1 6 3), S) else ((f_X7_areKeptApart S).bind fun u3 => (if (q_b u3) = 0 then ((f_X7_turnTrial S).bind fun u6 => k2 (v1 + (1 : Int32)) u6) else some ((S.1 6 3), S)))))
def f_X7_fewestStates_2 : Nat → Int32 → CS → Option (Int32 × CS)
  | 0, _, _ => none
  | n + 1, v1, S => f_X7_fewestStates_2b  (f_X7_fewestStates_2  n) v1 S
def f_X7_fewestStates (S : CS) : Option (Int32 × CS) := f_X7_fewestStates_2 1000 (0 : Int32) S
set_option maxRecDepth 100000 in
set_option maxHeartbeats 4000000 in
theorem w_X7_fewestStates_2 {p : Program} {l : Launch} {e : Env} {s : State} {m : MethodId} {args : Array Value} {below : List Frame} {meth : Method} {c : Code} {D : va_G} {cc : Nat → ClassId} {N0 : Nat} {g : Nat → Nat} {E : va_W} {v : (Int32 × CS)} (C : q_C p s m args meth c cX7_fewestStates 2 (some .int) wsX7_fewestStates RX7 D cc N0)  : ∀ (n : Nat) (v1 : Int32) (S : CS), f_X7_fewestStates_2  n v1 S = some v → q_WA p l e (q_rm 3 70 0 0) s m args below meth c D N0 2 (MQ below (q_Q D N0 (q_p (some (.int v.1)) (cw cc g v.2 ++ E))) args s 0 0 (q_A N0)) 0 0 (cw cc g S ++ E) 2 [(0, .ref (g 6)), (1, .int v1)] [] := by
  intro n
  induction n with
  | zero => intro v1 S hf; cases hf
  | succ n ih =>
    intro v1 S hf
    have hk2 : ∀ (v1 : Int32) (S : CS), f_X7_fewestStates_2  n v1 S = some v → q_WA p l e (q_rm 3 70 0 0) s m args below meth c D N0 2 (MQ below (q_Q D N0 (q_p (some (.int v.1)) (cw cc g v.2 ++ E))) args s 0 0 (q_A N0)) 0 0 (cw cc g S ++ E) 2 [(0, .ref (g 6)), (1, .int v1)] [] := ih
    have hf : f_X7_fewestStates_2b  (f_X7_fewestStates_2  n) v1 S = some v := hf
    refine q_iload_n (pc := 2) C dX7_fewestStates_2 rfl 1 rfl ?_
    refine q_sipush (pc := 3) C (746 : Int32) dX7_fewestStates_3 q_cs_746 ?_
    refine q_icmp_ge (pc := 6) (tgt := 39) C dX7_fewestStates_6 (by decide) (fun c1 => ?_) (fun c1 => ?_)
    · have hf := q_iteT hf c1
      refine q_aload_n (pc := 39) C dX7_fewestStates_39 rfl 0 rfl ?_
      refine r_g_6_3 (pc := 40) C n_X7_fewestStates_X7 (List.mem_of_getElem? (i := 1) rfl) dX7_fewestStates_40 ?_
      obtain rfl := q_some hf
      exact q_iret (pc := 43) C dX7_fewestStates_43 ⟨rfl, rfl⟩
    · have hf := q_iteF hf c1
      refine q_aload_n (pc := 9) C dX7_fewestStates_9 rfl 0 rfl ?_
      refine r_g_6_3 (pc := 10) C n_X7_fewestStates_X7 (List.mem_of_getElem? (i := 1) rfl) dX7_fewestStates_10 ?_
      refine q_iconst (pc := 13) C (3 : Int32) dX7_fewestStates_13 q_ci_3 ?_
      refine q_icmp_gt (pc := 14) (tgt := 39) C dX7_fewestStates_14 (by decide) (fun c2 => ?_) (fun c2 => ?_)
      · have hf := q_iteT hf c2
        refine q_aload_n (pc := 39) C dX7_fewestStates_39 rfl 0 rfl ?_
        refine r_g_6_3 (pc := 40) C n_X7_fewestStates_X7 (List.mem_of_getElem? (i := 1) rfl) dX7_fewestStates_40 ?_
        obtain rfl := q_some hf
        exact q_iret (pc := 43) C dX7_fewestStates_43 ⟨rfl, rfl⟩
      · have hf := q_iteF hf c2
        refine q_aload_n (pc := 17) C dX7_fewestStates_17 rfl 0 rfl ?_
        obtain ⟨u3, e4, hf⟩ := q_bind hf
        refine q_callV (pc := 18) (As := []) (rest := []) C (c_X7_areKeptApart l D cc N0 g E S u3 e4) gX7_fewestStates_X7_areKeptApart rfl rfl z_X7_areKeptApart ⟨Nat.le_of_ble_eq_true rfl, Nat.le_of_ble_eq_true rfl⟩ (cw_at_6 cc g E _) rfl rfl rfl (Nat.le_of_ble_eq_true rfl) dX7_fewestStates_18 ⟨Nat.le_of_ble_eq_true rfl, Nat.le_of_ble_eq_true rfl⟩ ?_
        refine q_after (rv := (some (.int (q_b u3)))) (w0 := (cw cc g S ++ E)) (st2 := [.int (q_b u3)]) rfl rfl rfl ?_
        refine q_if_eq (pc := 21) (tgt := 29) C dX7_fewestStates_21 (by decide) (fun c5 => ?_) (fun c5 => ?_)
        · have hf := q_iteT hf c5
          refine q_aload_n (pc := 29) C dX7_fewestStates_29 rfl 0 rfl ?_
          obtain ⟨u6, e7, hf⟩ := q_bind hf
          refine q_callV (pc := 30) (As := []) (rest := []) C (c_X7_turnTrial l D cc N0 g E S u6 e7) gX7_fewestStates_X7_turnTrial rfl rfl z_X7_turnTrial ⟨Nat.le_of_ble_eq_true rfl, Nat.le_of_ble_eq_true rfl⟩ (cw_at_6 cc g E _) rfl rfl rfl (Nat.le_of_ble_eq_true rfl) dX7_fewestStates_30 ⟨Nat.le_of_ble_eq_true rfl, Nat.le_of_ble_eq_true rfl⟩ ?_
          refine q_after (rv := none) (w0 := (cw cc g u6 ++ E)) (st2 := []) rfl rfl rfl ?_
          refine q_iinc (pc := 33) (lvq := [(1, .int (v1 + (1 : Int32))), (0, .ref (g 6))]) C (v1 + (1 : Int32)) dX7_fewestStates_33 1 rfl q_ca_1 (by decide) rfl ?_
          refine q_goto (pc := 36) (tgt := 2) C dX7_fewestStates_36 (by decide) ?_
          refine q_sub (lvq := [(0, .ref (g 6)), (1, .int (v1 + (1 : Int32)))]) [1, 0] rfl ?_
          exact hk2 (v1 + (1 : Int32)) u6 hf
        · have hf := q_iteF hf c5
          refine q_aload_n (pc := 24) C dX7_fewestStates_24 rfl 0 rfl ?_
          refine r_g_6_3 (pc := 25) C n_X7_fewestStates_X7 (List.mem_of_getElem? (i := 1) rfl) dX7_fewestStates_25 ?_
          obtain rfl := q_some hf
          exact q_iret (pc := 28) C dX7_fewestStates_28 ⟨rfl, rfl⟩
set_option maxRecDepth 100000 in
set_option maxHeartbeats 4000000 in
theorem c_X7_fewestStates (l : Launch) (D : va_G) (cc : Nat → ClassId) (N0 : Nat) (g : Nat → Nat) (E : va_W) (S : CS) (v : (Int32 × CS)) (hf : f_X7_fewestStates S = some v) : q_Met l yX7_fewestStates wsX7_fewestStates 3 70 D cc N0 (cw cc g S ++ E) [.ref (g 6)] (q_p (some (.int v.1)) (cw cc g v.2 ++ E)) 0 0 := by
  refine q_ofW (code := cX7_fewestStates) (nL := 2) (ret := (some .int)) (by decide +kernel) rfl (Nat.le_of_ble_eq_true rfl) (fun p e s m below meth c C _ => ?_)
  refine q_lv (lv2 := [(0, .ref (g 6))]) rfl ?_
  refine q_iconst (pc := 0) C (0 : Int32) dX7_fewestStates_0 q_ci_0 ?_
  refine q_istore_n (pc := 1) (lvq := [(1, .int (0 : Int32)), (0, .ref (g 6))]) C dX7_fewestStates_1 rfl (by decide) rfl ?_
  refine q_sub (lvq := [(0, .ref (g 6)), (1, .int (0 : Int32))]) [1, 0] rfl ?_
  exact w_X7_fewestStates_2 C 1000 (0 : Int32) S hf
theorem z_X7_fewestStates : q_dsc yX7_fewestStates 0 := ⟨by decide +kernel, by decide +kernel, by decide +kernel⟩
