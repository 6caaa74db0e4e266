def f_J6_numberOfTrailingZeros_0f7a4_74 (v0 : Int32) (v1 : Int32) : Int32 := (v1 + (v0.toUInt32 >>> ((1 : Int32).toUInt32 &&& Int32.toUInt32 31)).toInt32)
def f_J6_numberOfTrailingZeros_0f7a4_62 (v0 : Int32) (v1 : Int32) : Int32 := (if v0 ≤ (4 : Int32) then f_J6_numberOfTrailingZeros_0f7a4_74 v0 v1 else f_J6_numberOfTrailingZeros_0f7a4_74 ((v0.toUInt32 >>> ((2 : Int32).toUInt32 &&& Int32.toUInt32 31)).toInt32) (v1 + (2 : Int32)))
def f_J6_numberOfTrailingZeros_0f7a4_49 (v0 : Int32) (v1 : Int32) : Int32 := (if v0 ≤ (16 : Int32) then f_J6_numberOfTrailingZeros_0f7a4_62 v0 v1 else f_J6_numberOfTrailingZeros_0f7a4_62 ((v0.toUInt32 >>> ((4 : Int32).toUInt32 &&& Int32.toUInt32 31)).toInt32) (v1 + (4 : Int32)))
def f_J6_numberOfTrailingZeros_0f7a4_34 (v0 : Int32) (v1 : Int32) : Int32 := (if v0 ≤ (256 : Int32) then f_J6_numberOfTrailingZeros_0f7a4_49 v0 v1 else f_J6_numberOfTrailingZeros_0f7a4_49 ((v0.toUInt32 >>> ((8 : Int32).toUInt32 &&& Int32.toUInt32 31)).toInt32) (v1 + (8 : Int32)))
def f_J6_numberOfTrailingZeros_0f7a4 (a1 : Int32) : Int32 := (if 0 < ((a1 ^^^ (-1 : Int32)) &&& (a1 - (1 : Int32))) then (if ((a1 ^^^ (-1 : Int32)) &&& (a1 - (1 : Int32))) ≤ (65536 : Int32) then f_J6_numberOfTrailingZeros_0f7a4_34 ((a1 ^^^ (-1 : Int32)) &&& (a1 - (1 : Int32))) (1 : Int32) else f_J6_numberOfTrailingZeros_0f7a4_34 ((((a1 ^^^ (-1 : Int32)) &&& (a1 - (1 : Int32))).toUInt32 >>> ((16 : Int32).toUInt32 &&& Int32.toUInt32 31)).toInt32) ((1 : Int32) + (16 : Int32))) else (((a1 ^^^ (-1 : Int32)) &&& (a1 - (1 : Int32))) &&& (32 : Int32)))
set_option maxRecDepth 100000 in
set_option maxHeartbeats 4000000 in
theorem w_J6_numberOfTrailingZeros_0f7a4_74 {p : Program} {l : Launch} {e : Env} {s : State} {m : MethodId} {args : Array Value} {below : List Frame} {meth : Method} {c : Code} {D : va_G} {cc : Nat → ClassId} {N0 : Nat} {ws : va_W} {v : Int32} (C : q_C p s m args meth c cJ6_numberOfTrailingZeros_0f7a4 2 (some .int) wsJ6_numberOfTrailingZeros_0f7a4 RJ6 D cc N0)  (v0 : Int32) (v1 : Int32) (hf : f_J6_numberOfTrailingZeros_0f7a4_74  v0 v1 = v) : q_WA p l e (q_rm 0 0 0 0) s m args below meth c D N0 2 (MQ below (q_Q D N0 (q_p (some (.int v)) ws)) args s 0 0 (q_A N0)) 0 0 ws 74 [(0, .int v0), (1, .int v1)] [] := by
  refine q_iload_n (pc := 74) C dJ6_numberOfTrailingZeros_0f7a4_74 rfl 1 rfl ?_
  refine q_iload_n (pc := 75) C dJ6_numberOfTrailingZeros_0f7a4_75 rfl 0 rfl ?_
  refine q_iconst (pc := 76) C (1 : Int32) dJ6_numberOfTrailingZeros_0f7a4_76 q_ci_1 ?_
  refine q_iushr (pc := 77) C dJ6_numberOfTrailingZeros_0f7a4_77 rfl ?_
  refine q_iadd (pc := 78) C dJ6_numberOfTrailingZeros_0f7a4_78 ?_
  obtain rfl := hf
  exact q_iret (pc := 79) C dJ6_numberOfTrailingZeros_0f7a4_79 ⟨rfl, rfl⟩
set_option maxRecDepth 100000 in
set_option maxHeartbeats 4000000 in
theorem w_J6_numberOfTrailingZeros_0f7a4_62 {p : Program} {l : Launch} {e : Env} {s : State} {m : MethodId} {args : Array Value} {below : List Frame} {meth : Method} {c : Code} {D : va_G} {cc : Nat → ClassId} {N0 : Nat} {ws : va_W} {v : Int32} (C : q_C p s m args meth c cJ6_numberOfTrailingZeros_0f7a4 2 (some .int) wsJ6_numberOfTrailingZeros_0f7a4 RJ6 D cc N0)  (v0 : Int32) (v1 : Int32) (hf : f_J6_numberOfTrailingZeros_0f7a4_62  v0 v1 = v) : q_WA p l e (q_rm 0 0 0 0) s m args below meth c D N0 2 (MQ below (q_Q D N0 (q_p (some (.int v)) ws)) args s 0 0 (q_A N0)) 0 0 ws 62 [(0, .int v0), (1, .int v1)] [] := by
  refine q_iload_n (pc := 62) C dJ6_numberOfTrailingZeros_0f7a4_62 rfl 0 rfl ?_
  refine q_iconst (pc := 63) C (4 : Int32) dJ6_numberOfTrailingZeros_0f7a4_63 q_ci_4 ?_
  refine q_icmp_le (pc := 64) (tgt := 74) C dJ6_numberOfTrailingZeros_0f7a4_64 (by decide) (fun c5 => ?_) (fun c5 => ?_)
  · have hf := q_iteT hf c5
    refine q_sub (lvq := [(0, .int v0), (1, .int v1)]) [0, 1] rfl ?_
    exact w_J6_numberOfTrailingZeros_0f7a4_74 C v0 v1 hf
  · have hf := q_iteF hf c5
    refine q_iinc (pc := 67) (lvq := [(1, .int (v1 + (2 : Int32))), (0, .int v0)]) C (v1 + (2 : Int32)) dJ6_numberOfTrailingZeros_0f7a4_67 1 rfl q_ca_2 (by decide) rfl ?_
    refine q_iload_n (pc := 70) C dJ6_numberOfTrailingZeros_0f7a4_70 rfl 1 rfl ?_
    refine q_iconst (pc := 71) C (2 : Int32) dJ6_numberOfTrailingZeros_0f7a4_71 q_ci_2 ?_
    refine q_iushr (pc := 72) C dJ6_numberOfTrailingZeros_0f7a4_72 rfl ?_
    refine q_istore_n (pc := 73) (lvq := [(0, .int ((v0.toUInt32 >>> ((2 : Int32).toUInt32 &&& Int32.toUInt32 31)).toInt32)), (1, .int (v1 + (2 : Int32)))]) C dJ6_numberOfTrailingZeros_0f7a4_73 rfl (by decide) rfl ?_
    refine q_sub (lvq := [(0, .int ((v0.toUInt32 >>> ((2 : Int32).toUInt32 &&& Int32.toUInt32 31)).toInt32)), (1, .int (v1 + (2 : Int32)))]) [0, 1] rfl ?_
    exact w_J6_numberOfTrailingZeros_0f7a4_74 C ((v0.toUInt32 >>> ((2 : Int32).toUInt32 &&& Int32.toUInt32 31)).toInt32) (v1 + (2 : Int32)) hf
set_option maxRecDepth 100000 in
set_option maxHeartbeats 4000000 in
theorem w_J6_numberOfTrailingZeros_0f7a4_49 {p : Program} {l : Launch} {e : Env} {s : State} {m : MethodId} {args : Array Value} {below : List Frame} {meth : Method} {c : Code} {D : va_G} {cc : Nat → ClassId} {N0 : Nat} {ws : va_W} {v : Int32} (C : q_C p s m args meth c cJ6_numberOfTrailingZeros_0f7a4 2 (some .int) wsJ6_numberOfTrailingZeros_0f7a4 RJ6 D cc N0)  (v0 : Int32) (v1 : Int32) (hf : f_J6_numberOfTrailingZeros_0f7a4_49  v0 v1 = v) : q_WA p l e (q_rm 0 0 0 0) s m args below meth c D N0 2 (MQ below (q_Q D N0 (q_p (some (.int v)) ws)) args s 0 0 (q_A N0)) 0 0 ws 49 [(0, .int v0), (1, .int v1)] [] := by
  refine q_iload_n (pc := 49) C dJ6_numberOfTrailingZeros_0f7a4_49 rfl 0 rfl ?_
  refine q_bipush (pc := 50) C (16 : Int32) dJ6_numberOfTrailingZeros_0f7a4_50 q_cb_16 ?_
  refine q_icmp_le (pc := 52) (tgt := 62) C dJ6_numberOfTrailingZeros_0f7a4_52 (by decide) (fun c4 => ?_) (fun c4 => ?_)
  · have hf := q_iteT hf c4
    refine q_sub (lvq := [(0, .int v0), (1, .int v1)]) [0, 1] rfl ?_
    exact w_J6_numberOfTrailingZeros_0f7a4_62 C v0 v1 hf
  · have hf := q_iteF hf c4
    refine q_iinc (pc := 55) (lvq := [(1, .int (v1 + (4 : Int32))), (0, .int v0)]) C (v1 + (4 : Int32)) dJ6_numberOfTrailingZeros_0f7a4_55 1 rfl q_ca_4 (by decide) rfl ?_
    refine q_iload_n (pc := 58) C dJ6_numberOfTrailingZeros_0f7a4_58 rfl 1 rfl ?_
    refine q_iconst (pc := 59) C (4 : Int32) dJ6_numberOfTrailingZeros_0f7a4_59 q_ci_4 ?_
    refine q_iushr (pc := 60) C dJ6_numberOfTrailingZeros_0f7a4_60 rfl ?_
    refine q_istore_n (pc := 61) (lvq := [(0, .int ((v0.toUInt32 >>> ((4 : Int32).toUInt32 &&& Int32.toUInt32 31)).toInt32)), (1, .int (v1 + (4 : Int32)))]) C dJ6_numberOfTrailingZeros_0f7a4_61 rfl (by decide) rfl ?_
    refine q_sub (lvq := [(0, .int ((v0.toUInt32 >>> ((4 : Int32).toUInt32 &&& Int32.toUInt32 31)).toInt32)), (1, .int (v1 + (4 : Int32)))]) [0, 1] rfl ?_
    exact w_J6_numberOfTrailingZeros_0f7a4_62 C ((v0.toUInt32 >>> ((4 : Int32).toUInt32 &&& Int32.toUInt32 31)).toInt32) (v1 + (4 : Int32)) hf
set_option maxRecDepth 100000 in
set_option maxHeartbeats 4000000 in
theorem w_J6_numberOfTrailingZeros_0f7a4_34 {p : Program} {l : Launch} {e : Env} {s : State} {m : MethodId} {args : Array Value} {below : List Frame} {meth : Method} {c : Code} {D : va_G} {cc : Nat → ClassId} {N0 : Nat} {ws : va_W} {v : Int32} (C : q_C p s m args meth c cJ6_numberOfTrailingZeros_0f7a4 2 (some .int) wsJ6_numberOfTrailingZeros_0f7a4 RJ6 D cc N0)  (v0 : Int32) (v1 : Int32) (hf : f_J6_numberOfTrailingZeros_0f7a4_34  v0 v1 = v) : q_WA p l e (q_rm 0 0 0 0) s m args below meth c D N0 2 (MQ below (q_Q D N0 (q_p (some (.int v)) ws)) args s 0 0 (q_A N0)) 0 0 ws 34 [(0, .int v0), (1, .int v1)] [] := by
  refine q_iload_n (pc := 34) C dJ6_numberOfTrailingZeros_0f7a4_34 rfl 0 rfl ?_
  refine q_sipush (pc := 35) C (256 : Int32) dJ6_numberOfTrailingZeros_0f7a4_35 q_cs_256 ?_
  refine q_icmp_le (pc := 38) (tgt := 49) C dJ6_numberOfTrailingZeros_0f7a4_38 (by decide) (fun c3 => ?_) (fun c3 => ?_)
  · have hf := q_iteT hf c3
    refine q_sub (lvq := [(0, .int v0), (1, .int v1)]) [0, 1] rfl ?_
    exact w_J6_numberOfTrailingZeros_0f7a4_49 C v0 v1 hf
  · have hf := q_iteF hf c3
    refine q_iinc (pc := 41) (lvq := [(1, .int (v1 + (8 : Int32))), (0, .int v0)]) C (v1 + (8 : Int32)) dJ6_numberOfTrailingZeros_0f7a4_41 1 rfl q_ca_8 (by decide) rfl ?_
    refine q_iload_n (pc := 44) C dJ6_numberOfTrailingZeros_0f7a4_44 rfl 1 rfl ?_
    refine q_bipush (pc := 45) C (8 : Int32) dJ6_numberOfTrailingZeros_0f7a4_45 q_cb_8 ?_
    refine q_iushr (pc := 47) C dJ6_numberOfTrailingZeros_0f7a4_47 rfl ?_
    refine q_istore_n (pc := 48) (lvq := [(0, .int ((v0.toUInt32 >>> ((8 : Int32).toUInt32 &&& Int32.toUInt32 31)).toInt32)), (1, .int (v1 + (8 : Int32)))]) C dJ6_numberOfTrailingZeros_0f7a4_48 rfl (by decide) rfl ?_
    refine q_sub (lvq := [(0, .int ((v0.toUInt32 >>> ((8 : Int32).toUInt32 &&& Int32.toUInt32 31)).toInt32)), (1, .int (v1 + (8 : Int32)))]) [0, 1] rfl ?_
    exact w_J6_numberOfTrailingZeros_0f7a4_49 C ((v0.toUInt32 >>> ((8 : Int32).toUInt32 &&& Int32.toUInt32 31)).toInt32) (v1 + (8 : Int32)) hf
set_option maxRecDepth 100000 in
set_option maxHeartbeats 4000000 in
theorem c_J6_numberOfTrailingZeros_0f7a4 (l : Launch) (D : va_G) (cc : Nat → ClassId) (N0 : Nat) (ws : va_W) (a1 : Int32) (v : Int32) (hf : f_J6_numberOfTrailingZeros_0f7a4 a1 = v) : q_Met l yJ6_numberOfTrailingZeros_0f7a4 wsJ6_numberOfTrailingZeros_0f7a4 0 0 D cc N0 ws [.int a1] (q_p (some (.int v)) ws) 0 0 := by
  refine q_ofW (code := cJ6_numberOfTrailingZeros_0f7a4) (nL := 2) (ret := (some .int)) (by decide +kernel) rfl (Nat.le_of_ble_eq_true rfl) (fun p e s m below meth c C _ => ?_)
  refine q_lv (lv2 := [(0, .int a1)]) rfl ?_
  refine q_iload_n (pc := 0) C dJ6_numberOfTrailingZeros_0f7a4_0 rfl 0 rfl ?_
  refine q_iconst (pc := 1) C (-1 : Int32) dJ6_numberOfTrailingZeros_0f7a4_1 q_ci_m1 ?_
  refine q_ixor (pc := 2) C dJ6_numberOfTrailingZeros_0f7a4_2 ?_
  refine q_iload_n (pc := 3) C dJ6_numberOfTrailingZeros_0f7a4_3 rfl 0 rfl ?_
  refine q_iconst (pc := 4) C (1 : Int32) dJ6_numberOfTrailingZeros_0f7a4_4 q_ci_1 ?_
  refine q_isub (pc := 5) C dJ6_numberOfTrailingZeros_0f7a4_5 ?_
  refine q_iand (pc := 6) C dJ6_numberOfTrailingZeros_0f7a4_6 ?_
  refine q_istore_n (pc := 7) (lvq := [(0, .int ((a1 ^^^ (-1 : Int32)) &&& (a1 - (1 : Int32))))]) C dJ6_numberOfTrailingZeros_0f7a4_7 rfl (by decide) rfl ?_
  refine q_iload_n (pc := 8) C dJ6_numberOfTrailingZeros_0f7a4_8 rfl 0 rfl ?_
  refine q_if_gt (pc := 9) (tgt := 17) C dJ6_numberOfTrailingZeros_0f7a4_9 (by decide) (fun c1 => ?_) (fun c1 => ?_)
  · have hf := q_iteT hf c1
    refine q_iconst (pc := 17) C (1 : Int32) dJ6_numberOfTrailingZeros_0f7a4_17 q_ci_1 ?_
    refine q_istore_n (pc := 18) (lvq := [(1, .int (1 : Int32)), (0, .int ((a1 ^^^ (-1 : Int32)) &&& (a1 - (1 : Int32))))]) C dJ6_numberOfTrailingZeros_0f7a4_18 rfl (by decide) rfl ?_
    refine q_iload_n (pc := 19) C dJ6_numberOfTrailingZeros_0f7a4_19 rfl 1 rfl ?_
    refine q_ldcw (pc := 20) (v := (65536 : Int32)) C (List.mem_of_getElem? (i := 1) rfl) dJ6_numberOfTrailingZeros_0f7a4_20 ?_
    refine q_icmp_le (pc := 23) (tgt := 34) C dJ6_numberOfTrailingZeros_0f7a4_23 (by decide) (fun c2 => ?_) (fun c2 => ?_)
    · have hf := q_iteT hf c2
      refine q_sub (lvq := [(0, .int ((a1 ^^^ (-1 : Int32)) &&& (a1 - (1 : Int32)))), (1, .int (1 : Int32))]) [1, 0] rfl ?_
      exact w_J6_numberOfTrailingZeros_0f7a4_34 C ((a1 ^^^ (-1 : Int32)) &&& (a1 - (1 : Int32))) (1 : Int32) hf
    · have hf := q_iteF hf c2
      refine q_iinc (pc := 26) (lvq := [(1, .int ((1 : Int32) + (16 : Int32))), (0, .int ((a1 ^^^ (-1 : Int32)) &&& (a1 - (1 : Int32))))]) C ((1 : Int32) + (16 : Int32)) dJ6_numberOfTrailingZeros_0f7a4_26 0 rfl q_ca_16 (by decide) rfl ?_
      refine q_iload_n (pc := 29) C dJ6_numberOfTrailingZeros_0f7a4_29 rfl 1 rfl ?_
      refine q_bipush (pc := 30) C (16 : Int32) dJ6_numberOfTrailingZeros_0f7a4_30 q_cb_16 ?_
      refine q_iushr (pc := 32) C dJ6_numberOfTrailingZeros_0f7a4_32 rfl ?_
      refine q_istore_n (pc := 33) (lvq := [(0, .int ((((a1 ^^^ (-1 : Int32)) &&& (a1 - (1 : Int32))).toUInt32 >>> ((16 : Int32).toUInt32 &&& Int32.toUInt32 31)).toInt32)), (1, .int ((1 : Int32) + (16 : Int32)))]) C dJ6_numberOfTrailingZeros_0f7a4_33 rfl (by decide) rfl ?_
      refine q_sub (lvq := [(0, .int ((((a1 ^^^ (-1 : Int32)) &&& (a1 - (1 : Int32))).toUInt32 >>> ((16 : Int32).toUInt32 &&& Int32.toUInt32 31)).toInt32)), (1, .int ((1 : Int32) + (16 : Int32)))]) [0, 1] rfl ?_
      exact w_J6_numberOfTrailingZeros_0f7a4_34 C ((((a1 ^^^ (-1 : Int32)) &&& (a1 - (1 : Int32))).toUInt32 >>> ((16 : Int32).toUInt32 &&& Int32.toUInt32 31)).toInt32) ((1 : Int32) + (16 : Int32)) hf
  · have hf := q_iteF hf c1
    refine q_iload_n (pc := 12) C dJ6_numberOfTrailingZeros_0f7a4_12 rfl 0 rfl ?_
    refine q_bipush (pc := 13) C (32 : Int32) dJ6_numberOfTrailingZeros_0f7a4_13 q_cb_32 ?_
    refine q_iand (pc := 15) C dJ6_numberOfTrailingZeros_0f7a4_15 ?_
    obtain rfl := hf
    exact q_iret (pc := 16) C dJ6_numberOfTrailingZeros_0f7a4_16 ⟨rfl, rfl⟩
theorem z_J6_numberOfTrailingZeros_0f7a4 : q_dsc yJ6_numberOfTrailingZeros_0f7a4 1 := ⟨by decide +kernel, by decide +kernel, by decide +kernel⟩
def f_X9_isBetween (a1 : Int64) (a2 : Int64) (a3 : Int64) : Bool := (if 0 < (lg_cmp a2 a1) then false else (if 0 < (lg_cmp a1 a3) then false else true))
set_option maxRecDepth 100000 in
set_option maxHeartbeats 4000000 in
theorem c_X9_isBetween (l : Launch) (D : va_G) (cc : Nat → ClassId) (N0 : Nat) (ws : va_W) (a1 : Int64) (a2 : Int64) (a3 : Int64) (v : Bool) (hf : f_X9_isBetween a1 a2 a3 = v) : q_Met l yX9_isBetween wsX9_isBetween 0 0 D cc N0 ws [.long a1, .long a2, .long a3] (q_p (some (.int (q_b v))) ws) 0 0 := by
  refine q_ofW (code := cX9_isBetween) (nL := 6) (ret := (some .boolean)) (by decide +kernel) rfl (Nat.le_of_ble_eq_true rfl) (fun p e s m below meth c C _ => ?_)
  refine q_lv (lv2 := [(0, .long a1), (2, .long a2), (4, .long a3)]) rfl ?_
  refine q_lload_n (pc := 0) C dX9_isBetween_0 rfl 1 rfl ?_
  refine q_lload_n (pc := 1) C dX9_isBetween_1 rfl 0 rfl ?_
  refine q_lcmp (pc := 2) C dX9_isBetween_2 ?_
  refine q_if_gt (pc := 3) (tgt := 17) C dX9_isBetween_3 (by decide) (fun c1 => ?_) (fun c1 => ?_)
  · have hf := q_iteT hf c1
    refine q_iconst (pc := 17) C (0 : Int32) dX9_isBetween_17 q_ci_0 ?_
    obtain rfl := hf
    exact q_zret (pc := 18) C (by decide +kernel) dX9_isBetween_18 ⟨rfl, rfl⟩
  · have hf := q_iteF hf c1
    refine q_lload_n (pc := 6) C dX9_isBetween_6 rfl 0 rfl ?_
    refine q_lload (pc := 7) C dX9_isBetween_7 2 rfl ?_
    refine q_lcmp (pc := 9) C dX9_isBetween_9 ?_
    refine q_if_gt (pc := 10) (tgt := 17) C dX9_isBetween_10 (by decide) (fun c2 => ?_) (fun c2 => ?_)
    · have hf := q_iteT hf c2
      refine q_iconst (pc := 17) C (0 : Int32) dX9_isBetween_17 q_ci_0 ?_
      obtain rfl := hf
      exact q_zret (pc := 18) C (by decide +kernel) dX9_isBetween_18 ⟨rfl, rfl⟩
    · have hf := q_iteF hf c2
      refine q_iconst (pc := 13) C (1 : Int32) dX9_isBetween_13 q_ci_1 ?_
      refine q_goto (pc := 14) (tgt := 18) C dX9_isBetween_14 (by decide) ?_
      obtain rfl := hf
      exact q_zret (pc := 18) C (by decide +kernel) dX9_isBetween_18 ⟨rfl, rfl⟩
theorem z_X9_isBetween : q_dsc yX9_isBetween 3 := ⟨by decide +kernel, by decide +kernel, by decide +kernel⟩
def f_X9_hasPoint (a1 : Int32) (a2 : Int32) : Bool := (if ((a1 >>> (a2 &&& 31)) &&& (1 : Int32)) = (1 : Int32) then true else false)
set_option maxRecDepth 100000 in
set_option maxHeartbeats 4000000 in
theorem c_X9_hasPoint (l : Launch) (D : va_G) (cc : Nat → ClassId) (N0 : Nat) (ws : va_W) (a1 : Int32) (a2 : Int32) (v : Bool) (hf : f_X9_hasPoint a1 a2 = v) : q_Met l yX9_hasPoint wsX9_hasPoint 0 0 D cc N0 ws [.int a1, .int a2] (q_p (some (.int (q_b v))) ws) 0 0 := by
  refine q_ofW (code := cX9_hasPoint) (nL := 2) (ret := (some .boolean)) (by decide +kernel) rfl (Nat.le_of_ble_eq_true rfl) (fun p e s m below meth c C _ => ?_)
  refine q_lv (lv2 := [(0, .int a1), (1, .int a2)]) rfl ?_
  refine q_iload_n (pc := 0) C dX9_hasPoint_0 rfl 0 rfl ?_
  refine q_iload_n (pc := 1) C dX9_hasPoint_1 rfl 1 rfl ?_
  refine q_ishr (pc := 2) C dX9_hasPoint_2 ?_
  refine q_iconst (pc := 3) C (1 : Int32) dX9_hasPoint_3 q_ci_1 ?_
  refine q_iand (pc := 4) C dX9_hasPoint_4 ?_
  refine q_iconst (pc := 5) C (1 : Int32) dX9_hasPoint_5 q_ci_1 ?_
  refine q_icmp_ne (pc := 6) (tgt := 13) C dX9_hasPoint_6 (by decide) (fun c1 => ?_) (fun c1 => ?_)
  · have hf := q_iteF hf c1
    refine q_iconst (pc := 13) C (0 : Int32) dX9_hasPoint_13 q_ci_0 ?_
    obtain rfl := hf
    exact q_zret (pc := 14) C (by decide +kernel) dX9_hasPoint_14 ⟨rfl, rfl⟩
  · have hf := q_iteT hf c1
    refine q_iconst (pc := 9) C (1 : Int32) dX9_hasPoint_9 q_ci_1 ?_
    refine q_goto (pc := 10) (tgt := 14) C dX9_hasPoint_10 (by decide) ?_
    obtain rfl := hf
    exact q_zret (pc := 14) C (by decide +kernel) dX9_hasPoint_14 ⟨rfl, rfl⟩
theorem z_X9_hasPoint : q_dsc yX9_hasPoint 2 := ⟨by decide +kernel, by decide +kernel, by decide +kernel⟩
def f_X9_isIn_27 (v0 : Int32) (v1 : Int32) (v2 : Int32) (t0 : Int32) : Option Bool := (if v0 = (116 : Int32) then (if (v1 &&& (v1 + (1 : Int32))) = 0 then some true else some false) else (if v0 = (115 : Int32) then (if (1 : Int32) < v2 then some false else some true) else (if v0 = (105 : Int32) then (if t0 = 0 then some false else if t0 = 1 then some true else none) else (if (v2 - v2 / (2 : Int32) * (2 : Int32)) = 0 then some true else some false))))
def f_X9_isIn_22 (v0 : Int32) (v1 : Int32) (v2 : Int32) : Option Bool := f_X9_isIn_27 v0 v1 v2 (1 : Int32)
def f_X9_isIn (a1 : Int32) (a2 : Int32) : Option Bool := (if a2 = 0 then f_X9_isIn_22 a1 a2 (f_J6_bitCount_0f7a4 a2) else (if ((a2 + (a2 &&& (-a2))) &&& a2) = 0 then f_X9_isIn_22 a1 a2 (f_J6_bitCount_0f7a4 a2) else f_X9_isIn_27 a1 a2 (f_J6_bitCount_0f7a4 a2) (0 : Int32)))
set_option maxRecDepth 100000 in
set_option maxHeartbeats 4000000 in
theorem w_X9_isIn_27 {p : Program} {l : Launch} {e : Env} {s : State} {m : MethodId} {args : Array Value} {below : List Frame} {meth : Method} {c : Code} {D : va_G} {cc : Nat → ClassId} {N0 : Nat} {ws : va_W} {v : Bool} (C : q_C p s m args meth c cX9_isIn 5 (some .boolean) wsX9_isIn RX9 D cc N0)  (v0 : Int32) (v1 : Int32) (v2 : Int32) (t0 : Int32) (hf : f_X9_isIn_27  v0 v1 v2 t0 = some v) : q_WA p l e (q_rm 1 20 0 0) s m args below meth c D N0 5 (MQ below (q_Q D N0 (q_p (some (.int (q_b v))) ws)) args s 0 0 (q_A N0)) 0 0 ws 27 [(0, .int v0), (1, .int v1), (2, .int v2)] [.int t0] := by
  refine q_istore (pc := 27) (lvq := [(4, .int t0), (0, .int v0), (1, .int v1), (2, .int v2)]) C dX9_isIn_27 (by decide) rfl ?_
  refine q_iload_n (pc := 29) C dX9_isIn_29 rfl 1 rfl ?_
  refine q_bipush (pc := 30) C (116 : Int32) dX9_isIn_30 q_cb_116 ?_
  refine q_icmp_ne (pc := 32) (tgt := 51) C dX9_isIn_32 (by decide) (fun c2 => ?_) (fun c2 => ?_)
  · have hf := q_iteF hf c2
    refine q_iload_n (pc := 51) C dX9_isIn_51 rfl 1 rfl ?_
    refine q_bipush (pc := 52) C (115 : Int32) dX9_isIn_52 q_cb_115 ?_
    refine q_icmp_ne (pc := 54) (tgt := 70) C dX9_isIn_54 (by decide) (fun c3 => ?_) (fun c3 => ?_)
    · have hf := q_iteF hf c3
      refine q_iload_n (pc := 70) C dX9_isIn_70 rfl 1 rfl ?_
      refine q_bipush (pc := 71) C (105 : Int32) dX9_isIn_71 q_cb_105 ?_
      refine q_icmp_ne (pc := 73) (tgt := 81) C dX9_isIn_73 (by decide) (fun c4 => ?_) (fun c4 => ?_)
      · have hf := q_iteF hf c4
        refine q_iload_n (pc := 81) C dX9_isIn_81 rfl 3 rfl ?_
        refine q_iconst (pc := 82) C (2 : Int32) dX9_isIn_82 q_ci_2 ?_
        refine q_irem (pc := 83) C dX9_isIn_83 (by decide +kernel) ?_
        refine q_if_ne (pc := 84) (tgt := 91) C dX9_isIn_84 (by decide) (fun c5 => ?_) (fun c5 => ?_)
        · have hf := q_iteF hf c5
          refine q_iconst (pc := 91) C (0 : Int32) dX9_isIn_91 q_ci_0 ?_
          obtain rfl := q_some hf
          exact q_zret (pc := 92) C (by decide +kernel) dX9_isIn_92 ⟨rfl, rfl⟩
        · have hf := q_iteT hf c5
          refine q_iconst (pc := 87) C (1 : Int32) dX9_isIn_87 q_ci_1 ?_
          refine q_goto (pc := 88) (tgt := 92) C dX9_isIn_88 (by decide) ?_
          obtain rfl := q_some hf
          exact q_zret (pc := 92) C (by decide +kernel) dX9_isIn_92 ⟨rfl, rfl⟩
      · have hf := q_iteT hf c4
        refine q_iload (pc := 76) C dX9_isIn_76 0 rfl ?_
        refine q_goto (pc := 78) (tgt := 92) C dX9_isIn_78 (by decide) ?_
        have hz := q_z01 hf
        rcases hz with ⟨c6, hf⟩ | ⟨c6, hf⟩
        · obtain rfl := q_some hf
          rw [c6]
          exact q_zret (pc := 92) C (by decide +kernel) dX9_isIn_92 ⟨rfl, rfl⟩
        · obtain rfl := q_some hf
          rw [c6]
          exact q_zret (pc := 92) C (by decide +kernel) dX9_isIn_92 ⟨rfl, rfl⟩
    · have hf := q_iteT hf c3
      refine q_iload_n (pc := 57) C dX9_isIn_57 rfl 3 rfl ?_
      refine q_iconst (pc := 58) C (1 : Int32) dX9_isIn_58 q_ci_1 ?_
      refine q_icmp_gt (pc := 59) (tgt := 66) C dX9_isIn_59 (by decide) (fun c7 => ?_) (fun c7 => ?_)
      · have hf := q_iteT hf c7
        refine q_iconst (pc := 66) C (0 : Int32) dX9_isIn_66 q_ci_0 ?_
        refine q_goto (pc := 67) (tgt := 92) C dX9_isIn_67 (by decide) ?_
        obtain rfl := q_some hf
        exact q_zret (pc := 92) C (by decide +kernel) dX9_isIn_92 ⟨rfl, rfl⟩
      · have hf := q_iteF hf c7
        refine q_iconst (pc := 62) C (1 : Int32) dX9_isIn_62 q_ci_1 ?_
        refine q_goto (pc := 63) (tgt := 92) C dX9_isIn_63 (by decide) ?_
        obtain rfl := q_some hf
        exact q_zret (pc := 92) C (by decide +kernel) dX9_isIn_92 ⟨rfl, rfl⟩
  · have hf := q_iteT hf c2
    refine q_iload_n (pc := 35) C dX9_isIn_35 rfl 2 rfl ?_
    refine q_iload_n (pc := 36) C dX9_isIn_36 rfl 2 rfl ?_
    refine q_iconst (pc := 37) C (1 : Int32) dX9_isIn_37 q_ci_1 ?_
    refine q_iadd (pc := 38) C dX9_isIn_38 ?_
    refine q_iand (pc := 39) C dX9_isIn_39 ?_
    refine q_if_ne (pc := 40) (tgt := 47) C dX9_isIn_40 (by decide) (fun c8 => ?_) (fun c8 => ?_)
    · have hf := q_iteF hf c8
      refine q_iconst (pc := 47) C (0 : Int32) dX9_isIn_47 q_ci_0 ?_
      refine q_goto (pc := 48) (tgt := 92) C dX9_isIn_48 (by decide) ?_
      obtain rfl := q_some hf
      exact q_zret (pc := 92) C (by decide +kernel) dX9_isIn_92 ⟨rfl, rfl⟩
    · have hf := q_iteT hf c8
      refine q_iconst (pc := 43) C (1 : Int32) dX9_isIn_43 q_ci_1 ?_
      refine q_goto (pc := 44) (tgt := 92) C dX9_isIn_44 (by decide) ?_
      obtain rfl := q_some hf
      exact q_zret (pc := 92) C (by decide +kernel) dX9_isIn_92 ⟨rfl, rfl⟩
set_option maxRecDepth 100000 in
set_option maxHeartbeats 4000000 in
theorem w_X9_isIn_22 {p : Program} {l : Launch} {e : Env} {s : State} {m : MethodId} {args : Array Value} {below : List Frame} {meth : Method} {c : Code} {D : va_G} {cc : Nat → ClassId} {N0 : Nat} {ws : va_W} {v : Bool} (C : q_C p s m args meth c cX9_isIn 5 (some .boolean) wsX9_isIn RX9 D cc N0)  (v0 : Int32) (v1 : Int32) (v2 : Int32) (hf : f_X9_isIn_22  v0 v1 v2 = some v) : q_WA p l e (q_rm 1 20 0 0) s m args below meth c D N0 5 (MQ below (q_Q D N0 (q_p (some (.int (q_b v))) ws)) args s 0 0 (q_A N0)) 0 0 ws 22 [(0, .int v0), (1, .int v1), (2, .int v2)] [] := by
  refine q_iconst (pc := 22) C (1 : Int32) dX9_isIn_22 q_ci_1 ?_
  refine q_goto (pc := 23) (tgt := 27) C dX9_isIn_23 (by decide) ?_
  refine q_sub (lvq := [(0, .int v0), (1, .int v1), (2, .int v2)]) [0, 1, 2] rfl ?_
  exact w_X9_isIn_27 C v0 v1 v2 (1 : Int32) hf
set_option maxRecDepth 100000 in
set_option maxHeartbeats 4000000 in
theorem c_X9_isIn (l : Launch) (D : va_G) (cc : Nat → ClassId) (N0 : Nat) (ws : va_W) (a1 : Int32) (a2 : Int32) (v : Bool) (hf : f_X9_isIn a1 a2 = some v) : q_Met l yX9_isIn wsX9_isIn 1 20 D cc N0 ws [.int a1, .int a2] (q_p (some (.int (q_b v))) ws) 0 0 := by
  refine q_ofW (code := cX9_isIn) (nL := 5) (ret := (some .boolean)) (by decide +kernel) rfl (Nat.le_of_ble_eq_true rfl) (fun p e s m below meth c C _ => ?_)
  refine q_lv (lv2 := [(0, .int a1), (1, .int a2)]) rfl ?_
  refine q_iload_n (pc := 0) C dX9_isIn_0 rfl 1 rfl ?_
  refine q_callS (pc := 1) (As := [.int a2]) (rest := []) C (c_J6_bitCount_0f7a4 l D cc N0 ws a2 _ rfl) gX9_isIn_J6_bitCount_0f7a4 rfl z_J6_bitCount_0f7a4 ⟨Nat.le_of_ble_eq_true rfl, Nat.le_of_ble_eq_true rfl⟩ rfl rfl (Nat.le_of_ble_eq_true rfl) dX9_isIn_1 ⟨Nat.le_of_ble_eq_true rfl, Nat.le_of_ble_eq_true rfl⟩ ?_
  refine q_after (rv := (some (.int (f_J6_bitCount_0f7a4 a2)))) (w0 := ws) (st2 := [.int (f_J6_bitCount_0f7a4 a2)]) rfl rfl rfl ?_
  refine q_istore_n (pc := 4) (lvq := [(2, .int (f_J6_bitCount_0f7a4 a2)), (0, .int a1), (1, .int a2)]) C dX9_isIn_4 rfl (by decide) rfl ?_
  refine q_iload_n (pc := 5) C dX9_isIn_5 rfl 2 rfl ?_
  refine q_iload_n (pc := 6) C dX9_isIn_6 rfl 2 rfl ?_
  refine q_ineg (pc := 7) C dX9_isIn_7 ?_
  refine q_iand (pc := 8) C dX9_isIn_8 ?_
  refine q_istore_n (pc := 9) (lvq := [(3, .int (a2 &&& (-a2))), (2, .int (f_J6_bitCount_0f7a4 a2)), (0, .int a1), (1, .int a2)]) C dX9_isIn_9 rfl (by decide) rfl ?_
  refine q_iload_n (pc := 10) C dX9_isIn_10 rfl 3 rfl ?_
  refine q_if_eq (pc := 11) (tgt := 22) C dX9_isIn_11 (by decide) (fun c1 => ?_) (fun c1 => ?_)
  · have hf := q_iteT hf c1
    refine q_sub (lvq := [(0, .int a1), (1, .int a2), (2, .int (f_J6_bitCount_0f7a4 a2))]) [2, 3, 1] rfl ?_
    exact w_X9_isIn_22 C a1 a2 (f_J6_bitCount_0f7a4 a2) hf
  · have hf := q_iteF hf c1
    refine q_iload_n (pc := 14) C dX9_isIn_14 rfl 3 rfl ?_
    refine q_iload_n (pc := 15) C dX9_isIn_15 rfl 0 rfl ?_
    refine q_iadd (pc := 16) C dX9_isIn_16 ?_
    refine q_iload_n (pc := 17) C dX9_isIn_17 rfl 3 rfl ?_
    refine q_iand (pc := 18) C dX9_isIn_18 ?_
    refine q_if_ne (pc := 19) (tgt := 26) C dX9_isIn_19 (by decide) (fun c9 => ?_) (fun c9 => ?_)
    · have hf := q_iteF hf c9
      refine q_iconst (pc := 26) C (0 : Int32) dX9_isIn_26 q_ci_0 ?_
      refine q_sub (lvq := [(0, .int a1), (1, .int a2), (2, .int (f_J6_bitCount_0f7a4 a2))]) [2, 3, 1] rfl ?_
      exact w_X9_isIn_27 C a1 a2 (f_J6_bitCount_0f7a4 a2) (0 : Int32) hf
    · have hf := q_iteT hf c9
      refine q_sub (lvq := [(0, .int a1), (1, .int a2), (2, .int (f_J6_bitCount_0f7a4 a2))]) [2, 3, 1] rfl ?_
      exact w_X9_isIn_22 C a1 a2 (f_J6_bitCount_0f7a4 a2) hf
theorem z_X9_isIn : q_dsc yX9_isIn 2 := ⟨by decide +kernel, by decide +kernel, by decide +kernel⟩
def f_X9_isWord (a1 : Int32) (a2 : Int32) : Bool := (if (q_b (f_X9_isBetween a1.toInt64 (0 : Int64) (8 : Int64))) = 0 then false else (if (q_b (f_X9_isBetween a2.toInt64 (0 : Int64) ((((1 : Int32) <<< (a1 &&& 31)) - (1 : Int32)).toInt64))) = 0 then false else true))
set_option maxRecDepth 100000 in
set_option maxHeartbeats 4000000 in
theorem c_X9_isWord (l : Launch) (D : va_G) (cc : Nat → ClassId) (N0 : Nat) (ws : va_W) (a1 : Int32) (a2 : Int32) (v : Bool) (hf : f_X9_isWord a1 a2 = v) : q_Met l yX9_isWord wsX9_isWord 1 25 D cc N0 ws [.int a1, .int a2] (q_p (some (.int (q_b v))) ws) 0 0 := by
  refine q_ofW (code := cX9_isWord) (nL := 2) (ret := (some .boolean)) (by decide +kernel) rfl (Nat.le_of_ble_eq_true rfl) (fun p e s m below meth c C _ => ?_)
  refine q_lv (lv2 := [(0, .int a1), (1, .int a2)]) rfl ?_
  refine q_iload_n (pc := 0) C dX9_isWord_0 rfl 0 rfl ?_
  refine q_i2l (pc := 1) C dX9_isWord_1 rfl ?_
  refine q_lconst (pc := 2) C (0 : Int64) dX9_isWord_2 q_cl_0 ?_
  refine q_ldc2 (pc := 3) (v := (8 : Int64)) C (List.mem_of_getElem? (i := 1) rfl) dX9_isWord_3 ?_
  refine q_callS (pc := 6) (As := [.long a1.toInt64, .long (0 : Int64), .long (8 : Int64)]) (rest := []) C (c_X9_isBetween l D cc N0 ws a1.toInt64 (0 : Int64) (8 : Int64) _ rfl) gX9_isWord_X9_isBetween rfl z_X9_isBetween ⟨Nat.le_of_ble_eq_true rfl, Nat.le_of_ble_eq_true rfl⟩ rfl rfl (Nat.le_of_ble_eq_true rfl) dX9_isWord_6 ⟨Nat.le_of_ble_eq_true rfl, Nat.le_of_ble_eq_true rfl⟩ ?_
  refine q_after (rv := (some (.int (q_b (f_X9_isBetween a1.toInt64 (0 : Int64) (8 : Int64)))))) (w0 := ws) (st2 := [.int (q_b (f_X9_isBetween a1.toInt64 (0 : Int64) (8 : Int64)))]) rfl rfl rfl ?_
  refine q_if_eq (pc := 9) (tgt := 31) C dX9_isWord_9 (by decide) (fun c1 => ?_) (fun c1 => ?_)
  · have hf := q_iteT hf c1
    refine q_iconst (pc := 31) C (0 : Int32) dX9_isWord_31 q_ci_0 ?_
    obtain rfl := hf
    exact q_zret (pc := 32) C (by decide +kernel) dX9_isWord_32 ⟨rfl, rfl⟩
  · have hf := q_iteF hf c1
    refine q_iload_n (pc := 12) C dX9_isWord_12 rfl 1 rfl ?_
    refine q_i2l (pc := 13) C dX9_isWord_13 rfl ?_
    refine q_lconst (pc := 14) C (0 : Int64) dX9_isWord_14 q_cl_0 ?_
    refine q_iconst (pc := 15) C (1 : Int32) dX9_isWord_15 q_ci_1 ?_
    refine q_iload_n (pc := 16) C dX9_isWord_16 rfl 0 rfl ?_
    refine q_ishl (pc := 17) C dX9_isWord_17 ?_
    refine q_iconst (pc := 18) C (1 : Int32) dX9_isWord_18 q_ci_1 ?_
    refine q_isub (pc := 19) C dX9_isWord_19 ?_
    refine q_i2l (pc := 20) C dX9_isWord_20 rfl ?_
    refine q_callS (pc := 21) (As := [.long a2.toInt64, .long (0 : Int64), .long ((((1 : Int32) <<< (a1 &&& 31)) - (1 : Int32)).toInt64)]) (rest := []) C (c_X9_isBetween l D cc N0 ws a2.toInt64 (0 : Int64) ((((1 : Int32) <<< (a1 &&& 31)) - (1 : Int32)).toInt64) _ rfl) gX9_isWord_X9_isBetween rfl z_X9_isBetween ⟨Nat.le_of_ble_eq_true rfl, Nat.le_of_ble_eq_true rfl⟩ rfl rfl (Nat.le_of_ble_eq_true rfl) dX9_isWord_21 ⟨Nat.le_of_ble_eq_true rfl, Nat.le_of_ble_eq_true rfl⟩ ?_
    refine q_after (rv := (some (.int (q_b (f_X9_isBetween a2.toInt64 (0 : Int64) ((((1 : Int32) <<< (a1 &&& 31)) - (1 : Int32)).toInt64)))))) (w0 := ws) (st2 := [.int (q_b (f_X9_isBetween a2.toInt64 (0 : Int64) ((((1 : Int32) <<< (a1 &&& 31)) - (1 : Int32)).toInt64)))]) rfl rfl rfl ?_
    refine q_if_eq (pc := 24) (tgt := 31) C dX9_isWord_24 (by decide) (fun c2 => ?_) (fun c2 => ?_)
    · have hf := q_iteT hf c2
      refine q_iconst (pc := 31) C (0 : Int32) dX9_isWord_31 q_ci_0 ?_
      obtain rfl := hf
      exact q_zret (pc := 32) C (by decide +kernel) dX9_isWord_32 ⟨rfl, rfl⟩
    · have hf := q_iteF hf c2
      refine q_iconst (pc := 27) C (1 : Int32) dX9_isWord_27 q_ci_1 ?_
      refine q_goto (pc := 28) (tgt := 32) C dX9_isWord_28 (by decide) ?_
      obtain rfl := hf
      exact q_zret (pc := 32) C (by decide +kernel) dX9_isWord_32 ⟨rfl, rfl⟩
theorem z_X9_isWord : q_dsc yX9_isWord 2 := ⟨by decide +kernel, by decide +kernel, by decide +kernel⟩
def f_X9_digit_5b (k5 : Int32 → Int32 → Int32 → Int32 → Option Int32) (v1 : Int32) (v2 : Int32) (v3 : Int32) (v4 : Int32) : Option Int32 := (if v1 ≤ v4 then (if ¬ v2 = 0 then some (v3 - v3 / v2 * v2) else none) else (if ¬ v2 = 0 then k5 v1 v2 (v3 / v2) (v4 + (1 : Int32)) else none))
def f_X9_digit_5 : Nat → Int32 → Int32 → Int32 → Int32 → Option Int32
  | 0, _, _, _, _ => none
  | n + 1, v1, v2, v3, v4 => f_X9_digit_5b  (f_X9_digit_5  n) v1 v2 v3 v4
def f_X9_digit (a1 : Int32) (a2 : Int32) (a3 : Int32) : Option Int32 := f_X9_digit_5 1000 a2 a3 a1 (0 : Int32)
set_option maxRecDepth 100000 in
set_option maxHeartbeats 4000000 in
theorem w_X9_digit_5 {p : Program} {l : Launch} {e : Env} {s : State} {m : MethodId} {args : Array Value} {below : List Frame} {meth : Method} {c : Code} {D : va_G} {cc : Nat → ClassId} {N0 : Nat} {ws : va_W} {v : Int32} (C : q_C p s m args meth c cX9_digit 5 (some .int) wsX9_digit RX9 D cc N0)  : ∀ (n : Nat) (v1 : Int32) (v2 : Int32) (v3 : Int32) (v4 : Int32), f_X9_digit_5  n v1 v2 v3 v4 = some v → q_WA p l e (q_rm 0 0 0 0) s m args below meth c D N0 5 (MQ below (q_Q D N0 (q_p (some (.int v)) ws)) args s 0 0 (q_A N0)) 0 0 ws 5 [(1, .int v1), (2, .int v2), (3, .int v3), (4, .int v4)] [] := by
  intro n
  induction n with
  | zero => intro v1 v2 v3 v4 hf; cases hf
  | succ n ih =>
    intro v1 v2 v3 v4 hf
    have hk5 : ∀ (v1 : Int32) (v2 : Int32) (v3 : Int32) (v4 : Int32), f_X9_digit_5  n v1 v2 v3 v4 = some v → q_WA p l e (q_rm 0 0 0 0) s m args below meth c D N0 5 (MQ below (q_Q D N0 (q_p (some (.int v)) ws)) args s 0 0 (q_A N0)) 0 0 ws 5 [(1, .int v1), (2, .int v2), (3, .int v3), (4, .int v4)] [] := ih
    have hf : f_X9_digit_5b  (f_X9_digit_5  n) v1 v2 v3 v4 = some v := hf
    refine q_iload (pc := 5) C dX9_digit_5 3 rfl ?_
    refine q_iload_n (pc := 7) C dX9_digit_7 rfl 0 rfl ?_
    refine q_icmp_ge (pc := 8) (tgt := 21) C dX9_digit_8 (by decide) (fun c1 => ?_) (fun c1 => ?_)
    · have hf := q_iteT hf c1
      refine q_iload_n (pc := 21) C dX9_digit_21 rfl 2 rfl ?_
      refine q_iload_n (pc := 22) C dX9_digit_22 rfl 1 rfl ?_
      obtain ⟨g2, hf⟩ := q_gd hf
      refine q_irem (pc := 23) C dX9_digit_23 g2 ?_
      obtain rfl := q_some hf
      exact q_iret (pc := 24) C dX9_digit_24 ⟨rfl, rfl⟩
    · have hf := q_iteF hf c1
      refine q_iload_n (pc := 11) C dX9_digit_11 rfl 2 rfl ?_
      refine q_iload_n (pc := 12) C dX9_digit_12 rfl 1 rfl ?_
      obtain ⟨g3, hf⟩ := q_gd hf
      refine q_idiv (pc := 13) C dX9_digit_13 g3 ?_
      refine q_istore_n (pc := 14) (lvq := [(3, .int (v3 / v2)), (1, .int v1), (2, .int v2), (4, .int v4)]) C dX9_digit_14 rfl (by decide) rfl ?_
      refine q_iinc (pc := 15) (lvq := [(4, .int (v4 + (1 : Int32))), (3, .int (v3 / v2)), (1, .int v1), (2, .int v2)]) C (v4 + (1 : Int32)) dX9_digit_15 3 rfl q_ca_1 (by decide) rfl ?_
      refine q_goto (pc := 18) (tgt := 5) C dX9_digit_18 (by decide) ?_
      refine q_sub (lvq := [(1, .int v1), (2, .int v2), (3, .int (v3 / v2)), (4, .int (v4 + (1 : Int32)))]) [2, 3, 1, 0] rfl ?_
      exact hk5 v1 v2 (v3 / v2) (v4 + (1 : Int32)) hf
set_option maxRecDepth 100000 in
set_option maxHeartbeats 4000000 in
theorem c_X9_digit (l : Launch) (D : va_G) (cc : Nat → ClassId) (N0 : Nat) (ws : va_W) (a1 : Int32) (a2 : Int32) (a3 : Int32) (v : Int32) (hf : f_X9_digit a1 a2 a3 = some v) : q_Met l yX9_digit wsX9_digit 0 0 D cc N0 ws [.int a1, .int a2, .int a3] (q_p (some (.int v)) ws) 0 0 := by
  refine q_ofW (code := cX9_digit) (nL := 5) (ret := (some .int)) (by decide +kernel) rfl (Nat.le_of_ble_eq_true rfl) (fun p e s m below meth c C _ => ?_)
  refine q_lv (lv2 := [(0, .int a1), (1, .int a2), (2, .int a3)]) rfl ?_
  refine q_iload_n (pc := 0) C dX9_digit_0 rfl 0 rfl ?_
  refine q_istore_n (pc := 1) (lvq := [(3, .int a1), (0, .int a1), (1, .int a2), (2, .int a3)]) C dX9_digit_1 rfl (by decide) rfl ?_
  refine q_iconst (pc := 2) C (0 : Int32) dX9_digit_2 q_ci_0 ?_
  refine q_istore (pc := 3) (lvq := [(4, .int (0 : Int32)), (3, .int a1), (0, .int a1), (1, .int a2), (2, .int a3)]) C dX9_digit_3 (by decide) rfl ?_
  refine q_sub (lvq := [(1, .int a2), (2, .int a3), (3, .int a1), (4, .int (0 : Int32))]) [3, 4, 1, 0] rfl ?_
  exact w_X9_digit_5 C 1000 a2 a3 a1 (0 : Int32) hf
theorem z_X9_digit : q_dsc yX9_digit 3 := ⟨by decide +kernel, by decide +kernel, by decide +kernel⟩
def f_X9_isCode (a1 : Int32) : Bool := (if (q_b (f_X9_isBetween a1.toInt64 (0 : Int64) (333 : Int64))) = 0 then false else (if (3 : Int32) < (a1 / (100 : Int32)) then false else (if (3 : Int32) < ((a1 / (10 : Int32)) - (a1 / (10 : Int32)) / (10 : Int32) * (10 : Int32)) then false else (if (3 : Int32) < (a1 - a1 / (10 : Int32) * (10 : Int32)) then false else true))))
set_option maxRecDepth 100000 in
set_option maxHeartbeats 4000000 in
theorem c_X9_isCode (l : Launch) (D : va_G) (cc : Nat → ClassId) (N0 : Nat) (ws : va_W) (a1 : Int32) (v : Bool) (hf : f_X9_isCode a1 = v) : q_Met l yX9_isCode wsX9_isCode 1 25 D cc N0 ws [.int a1] (q_p (some (.int (q_b v))) ws) 0 0 := by
  refine q_ofW (code := cX9_isCode) (nL := 1) (ret := (some .boolean)) (by decide +kernel) rfl (Nat.le_of_ble_eq_true rfl) (fun p e s m below meth c C _ => ?_)
  refine q_lv (lv2 := [(0, .int a1)]) rfl ?_
  refine q_iload_n (pc := 0) C dX9_isCode_0 rfl 0 rfl ?_
  refine q_i2l (pc := 1) C dX9_isCode_1 rfl ?_
  refine q_lconst (pc := 2) C (0 : Int64) dX9_isCode_2 q_cl_0 ?_
  refine q_ldc2 (pc := 3) (v := (333 : Int64)) C (List.mem_of_getElem? (i := 1) rfl) dX9_isCode_3 ?_
  refine q_callS (pc := 6) (As := [.long a1.toInt64, .long (0 : Int64), .long (333 : Int64)]) (rest := []) C (c_X9_isBetween l D cc N0 ws a1.toInt64 (0 : Int64) (333 : Int64) _ rfl) gX9_isCode_X9_isBetween rfl z_X9_isBetween ⟨Nat.le_of_ble_eq_true rfl, Nat.le_of_ble_eq_true rfl⟩ rfl rfl (Nat.le_of_ble_eq_true rfl) dX9_isCode_6 ⟨Nat.le_of_ble_eq_true rfl, Nat.le_of_ble_eq_true rfl⟩ ?_
  refine q_after (rv := (some (.int (q_b (f_X9_isBetween a1.toInt64 (0 : Int64) (333 : Int64)))))) (w0 := ws) (st2 := [.int (q_b (f_X9_isBetween a1.toInt64 (0 : Int64) (333 : Int64)))]) rfl rfl rfl ?_
  refine q_if_eq (pc := 9) (tgt := 43) C dX9_isCode_9 (by decide) (fun c1 => ?_) (fun c1 => ?_)
  · have hf := q_iteT hf c1
    refine q_iconst (pc := 43) C (0 : Int32) dX9_isCode_43 q_ci_0 ?_
    obtain rfl := hf
    exact q_zret (pc := 44) C (by decide +kernel) dX9_isCode_44 ⟨rfl, rfl⟩
  · have hf := q_iteF hf c1
    refine q_iload_n (pc := 12) C dX9_isCode_12 rfl 0 rfl ?_
    refine q_bipush (pc := 13) C (100 : Int32) dX9_isCode_13 q_cb_100 ?_
    refine q_idiv (pc := 15) C dX9_isCode_15 (by decide +kernel) ?_
    refine q_iconst (pc := 16) C (3 : Int32) dX9_isCode_16 q_ci_3 ?_
    refine q_icmp_gt (pc := 17) (tgt := 43) C dX9_isCode_17 (by decide) (fun c2 => ?_) (fun c2 => ?_)
    · have hf := q_iteT hf c2
      refine q_iconst (pc := 43) C (0 : Int32) dX9_isCode_43 q_ci_0 ?_
      obtain rfl := hf
      exact q_zret (pc := 44) C (by decide +kernel) dX9_isCode_44 ⟨rfl, rfl⟩
    · have hf := q_iteF hf c2
      refine q_iload_n (pc := 20) C dX9_isCode_20 rfl 0 rfl ?_
      refine q_bipush (pc := 21) C (10 : Int32) dX9_isCode_21 q_cb_10 ?_
      refine q_idiv (pc := 23) C dX9_isCode_23 (by decide +kernel) ?_
      refine q_bipush (pc := 24) C (10 : Int32) dX9_isCode_24 q_cb_10 ?_
      refine q_irem (pc := 26) C dX9_isCode_26 (by decide +kernel) ?_
      refine q_iconst (pc := 27) C (3 : Int32) dX9_isCode_27 q_ci_3 ?_
      refine q_icmp_gt (pc := 28) (tgt := 43) C dX9_isCode_28 (by decide) (fun c3 => ?_) (fun c3 => ?_)
      · have hf := q_iteT hf c3
        refine q_iconst (pc := 43) C (0 : Int32) dX9_isCode_43 q_ci_0 ?_
        obtain rfl := hf
        exact q_zret (pc := 44) C (by decide +kernel) dX9_isCode_44 ⟨rfl, rfl⟩
      · have hf := q_iteF hf c3
        refine q_iload_n (pc := 31) C dX9_isCode_31 rfl 0 rfl ?_
        refine q_bipush (pc := 32) C (10 : Int32) dX9_isCode_32 q_cb_10 ?_
        refine q_irem (pc := 34) C dX9_isCode_34 (by decide +kernel) ?_
        refine q_iconst (pc := 35) C (3 : Int32) dX9_isCode_35 q_ci_3 ?_
        refine q_icmp_gt (pc := 36) (tgt := 43) C dX9_isCode_36 (by decide) (fun c4 => ?_) (fun c4 => ?_)
        · have hf := q_iteT hf c4
          refine q_iconst (pc := 43) C (0 : Int32) dX9_isCode_43 q_ci_0 ?_
          obtain rfl := hf
          exact q_zret (pc := 44) C (by decide +kernel) dX9_isCode_44 ⟨rfl, rfl⟩
        · have hf := q_iteF hf c4
          refine q_iconst (pc := 39) C (1 : Int32) dX9_isCode_39 q_ci_1 ?_
          refine q_goto (pc := 40) (tgt := 44) C dX9_isCode_40 (by decide) ?_
          obtain rfl := hf
          exact q_zret (pc := 44) C (by decide +kernel) dX9_isCode_44 ⟨rfl, rfl⟩
theorem z_X9_isCode : q_dsc yX9_isCode 1 := ⟨by decide +kernel, by decide +kernel, by decide +kernel⟩
def f_X9_hint_115 (k52 : Int32 → Int32 → Int32 → Int32 → Int32 → Option Int32) (k67 : Int32 → Int32 → Int32 → Int32 → Int32 → Int32 → Int32 → Int32 → Option Int32) (v0 : Int32) (v1 : Int32) (v2 : Int32) (v3 : Int32) (v4 : Int32) (v5 : Int32) (v7 : Int32) (t0 : Int32) (t1 : Int32) : Option Int32 := k67 v0 v1 v2 v3 v4 v5 (t1 + t0) (v7 * (10 : Int32))
def f_X9_hint_93 (k52 : Int32 → Int32 → Int32 → Int32 → Int32 → Option Int32) (k67 : Int32 → Int32 → Int32 → Int32 → Int32 → Int32 → Int32 → Int32 → Option Int32) (v0 : Int32) (v1 : Int32) (v2 : Int32) (v3 : Int32) (v4 : Int32) (v6 : Int32) (v7 : Int32) (t0 : Int32) (t1 : Int32) : Option Int32 := (if ¬ v7 = 0 then (if ((v1 / v7) - (v1 / v7) / (10 : Int32) * (10 : Int32)) = v4 then f_X9_hint_115 k52 k67 v0 v1 v2 v3 v4 (t1 + t0) v7 (1 : Int32) v6 else f_X9_hint_115 k52 k67 v0 v1 v2 v3 v4 (t1 + t0) v7 (0 : Int32) v6) else none)
def f_X9_hint_67b (k52 : Int32 → Int32 → Int32 → Int32 → Int32 → Option Int32) (k67 : Int32 → Int32 → Int32 → Int32 → Int32 → Int32 → Int32 → Int32 → Option Int32) (v0 : Int32) (v1 : Int32) (v2 : Int32) (v3 : Int32) (v4 : Int32) (v5 : Int32) (v6 : Int32) (v7 : Int32) : Option Int32 := (if (100 : Int32) < v7 then k52 v0 v1 v2 (v3 + (q_min v5 v6)) (v4 + (1 : Int32)) else (if ¬ v7 = 0 then (if ((v0 / v7) - (v0 / v7) / (10 : Int32) * (10 : Int32)) = v4 then f_X9_hint_93 k52 k67 v0 v1 v2 v3 v4 v6 v7 (1 : Int32) v5 else f_X9_hint_93 k52 k67 v0 v1 v2 v3 v4 v6 v7 (0 : Int32) v5) else none))
def f_X9_hint_67 (k52 : Int32 → Int32 → Int32 → Int32 → Int32 → Option Int32) : Nat → Int32 → Int32 → Int32 → Int32 → Int32 → Int32 → Int32 → Int32 → Option Int32
  | 0, _, _, _, _, _, _, _, _ => none
  | n + 1, v0, v1, v2, v3, v4, v5, v6, v7 => f_X9_hint_67b k52 (f_X9_hint_67 k52 n) v0 v1 v2 v3 v4 v5 v6 v7
def f_X9_hint_52b (k52 : Int32 → Int32 → Int32 → Int32 → Int32 → Option Int32) (v0 : Int32) (v1 : Int32) (v2 : Int32) (v3 : Int32) (v4 : Int32) : Option Int32 := (if (3 : Int32) < v4 then some ((((10 : Int32) * v2) + v3) - v2) else f_X9_hint_67 k52 1000 v0 v1 v2 v3 v4 (0 : Int32) (0 : Int32) (1 : Int32))
def f_X9_hint_52 : Nat → Int32 → Int32 → Int32 → Int32 → Int32 → Option Int32
  | 0, _, _, _, _, _ => none
  | n + 1, v0, v1, v2, v3, v4 => f_X9_hint_52b  (f_X9_hint_52  n) v0 v1 v2 v3 v4
def f_X9_hint_37 (k7 : Int32 → Int32 → Int32 → Int32 → Int32 → Option Int32) (v0 : Int32) (v1 : Int32) (v3 : Int32) (v4 : Int32) (t0 : Int32) (t1 : Int32) : Option Int32 := k7 v0 v1 (t1 + t0) v3 (v4 * (10 : Int32))
def f_X9_hint_7b (k7 : Int32 → Int32 → Int32 → Int32 → Int32 → Option Int32) (v0 : Int32) (v1 : Int32) (v2 : Int32) (v3 : Int32) (v4 : Int32) : Option Int32 := (if (100 : Int32) < v4 then f_X9_hint_52 1000 v0 v1 v2 v3 (0 : Int32) else (if ¬ v4 = 0 then (if ¬ v4 = 0 then (if ((v0 / v4) - (v0 / v4) / (10 : Int32) * (10 : Int32)) = ((v1 / v4) - (v1 / v4) / (10 : Int32) * (10 : Int32)) then f_X9_hint_37 k7 v0 v1 v3 v4 (1 : Int32) v2 else f_X9_hint_37 k7 v0 v1 v3 v4 (0 : Int32) v2) else none) else none))
def f_X9_hint_7 : Nat → Int32 → Int32 → Int32 → Int32 → Int32 → Option Int32
  | 0, _, _, _, _, _ => none
  | n + 1, v0, v1, v2, v3, v4 => f_X9_hint_7b  (f_X9_hint_7  n) v0 v1 v2 v3 v4
def f_X9_hint (a1 : Int32) (a2 : Int32) : Option Int32 := f_X9_hint_7 1000 a1 a2 (0 : Int32) (0 : Int32) (1 : Int32)
set_option maxRecDepth 100000 in
set_option maxHeartbeats 4000000 in
theorem w_X9_hint_115 {p : Program} {l : Launch} {e : Env} {s : State} {m : MethodId} {args : Array Value} {below : List Frame} {meth : Method} {c : Code} {D : va_G} {cc : Nat → ClassId} {N0 : Nat} {ws : va_W} {k52 : Int32 → Int32 → Int32 → Int32 → Int32 → Option Int32} {k67 : Int32 → Int32 → Int32 → Int32 → Int32 → Int32 → Int32 → Int32 → Option Int32} {v : Int32} (C : q_C p s m args meth c cX9_hint 8 (some .int) wsX9_hint RX9 D cc N0) (hk52 : ∀ (v0 : Int32) (v1 : Int32) (v2 : Int32) (v3 : Int32) (v4 : Int32), k52 v0 v1 v2 v3 v4 = some v → q_WA p l e (q_rm 1 21 0 0) s m args below meth c D N0 8 (MQ below (q_Q D N0 (q_p (some (.int v)) ws)) args s 0 0 (q_A N0)) 0 0 ws 52 [(0, .int v0), (1, .int v1), (2, .int v2), (3, .int v3), (4, .int v4)] []) (hk67 : ∀ (v0 : Int32) (v1 : Int32) (v2 : Int32) (v3 : Int32) (v4 : Int32) (v5 : Int32) (v6 : Int32) (v7 : Int32), k67 v0 v1 v2 v3 v4 v5 v6 v7 = some v → q_WA p l e (q_rm 1 21 0 0) s m args below meth c D N0 8 (MQ below (q_Q D N0 (q_p (some (.int v)) ws)) args s 0 0 (q_A N0)) 0 0 ws 67 [(0, .int v0), (1, .int v1), (2, .int v2), (3, .int v3), (4, .int v4), (5, .int v5), (6, .int v6), (7, .int v7)] []) (v0 : Int32) (v1 : Int32) (v2 : Int32) (v3 : Int32) (v4 : Int32) (v5 : Int32) (v7 : Int32) (t0 : Int32) (t1 : Int32) (hf : f_X9_hint_115 k52 k67 v0 v1 v2 v3 v4 v5 v7 t0 t1 = some v) : q_WA p l e (q_rm 1 21 0 0) s m args below meth c D N0 8 (MQ below (q_Q D N0 (q_p (some (.int v)) ws)) args s 0 0 (q_A N0)) 0 0 ws 115 [(0, .int v0), (1, .int v1), (2, .int v2), (3, .int v3), (4, .int v4), (5, .int v5), (7, .int v7)] [.int t0, .int t1] := by
  refine q_iadd (pc := 115) C dX9_hint_115 ?_
  refine q_istore (pc := 116) (lvq := [(6, .int (t1 + t0)), (0, .int v0), (1, .int v1), (2, .int v2), (3, .int v3), (4, .int v4), (5, .int v5), (7, .int v7)]) C dX9_hint_116 (by decide) rfl ?_
  refine q_iload (pc := 118) C dX9_hint_118 7 rfl ?_
  refine q_bipush (pc := 120) C (10 : Int32) dX9_hint_120 q_cb_10 ?_
  refine q_imul (pc := 122) C dX9_hint_122 ?_
  refine q_istore (pc := 123) (lvq := [(7, .int (v7 * (10 : Int32))), (6, .int (t1 + t0)), (0, .int v0), (1, .int v1), (2, .int v2), (3, .int v3), (4, .int v4), (5, .int v5)]) C dX9_hint_123 (by decide) rfl ?_
  refine q_goto (pc := 125) (tgt := 67) C dX9_hint_125 (by decide) ?_
  refine q_sub (lvq := [(0, .int v0), (1, .int v1), (2, .int v2), (3, .int v3), (4, .int v4), (5, .int v5), (6, .int (t1 + t0)), (7, .int (v7 * (10 : Int32)))]) [2, 3, 4, 5, 6, 7, 1, 0] rfl ?_
  exact hk67 v0 v1 v2 v3 v4 v5 (t1 + t0) (v7 * (10 : Int32)) hf
set_option maxRecDepth 100000 in
set_option maxHeartbeats 4000000 in
theorem w_X9_hint_93 {p : Program} {l : Launch} {e : Env} {s : State} {m : MethodId} {args : Array Value} {below : List Frame} {meth : Method} {c : Code} {D : va_G} {cc : Nat → ClassId} {N0 : Nat} {ws : va_W} {k52 : Int32 → Int32 → Int32 → Int32 → Int32 → Option Int32} {k67 : Int32 → Int32 → Int32 → Int32 → Int32 → Int32 → Int32 → Int32 → Option Int32} {v : Int32} (C : q_C p s m args meth c cX9_hint 8 (some .int) wsX9_hint RX9 D cc N0) (hk52 : ∀ (v0 : Int32) (v1 : Int32) (v2 : Int32) (v3 : Int32) (v4 : Int32), k52 v0 v1 v2 v3 v4 = some v → q_WA p l e (q_rm 1 21 0 0) s m args below meth c D N0 8 (MQ below (q_Q D N0 (q_p (some (.int v)) ws)) args s 0 0 (q_A N0)) 0 0 ws 52 [(0, .int v0), (1, .int v1), (2, .int v2), (3, .int v3), (4, .int v4)] []) (hk67 : ∀ (v0 : Int32) (v1 : Int32) (v2 : Int32) (v3 : Int32) (v4 : Int32) (v5 : Int32) (v6 : Int32) (v7 : Int32), k67 v0 v1 v2 v3 v4 v5 v6 v7 = some v → q_WA p l e (q_rm 1 21 0 0) s m args below meth c D N0 8 (MQ below (q_Q D N0 (q_p (some (.int v)) ws)) args s 0 0 (q_A N0)) 0 0 ws 67 [(0, .int v0), (1, .int v1), (2, .int v2), (3, .int v3), (4, .int v4), (5, .int v5), (6, .int v6), (7, .int v7)] []) (v0 : Int32) (v1 : Int32) (v2 : Int32) (v3 : Int32) (v4 : Int32) (v6 : Int32) (v7 : Int32) (t0 : Int32) (t1 : Int32) (hf : f_X9_hint_93 k52 k67 v0 v1 v2 v3 v4 v6 v7 t0 t1 = some v) : q_WA p l e (q_rm 1 21 0 0) s m args below meth c D N0 8 (MQ below (q_Q D N0 (q_p (some (.int v)) ws)) args s 0 0 (q_A N0)) 0 0 ws 93 [(0, .int v0), (1, .int v1), (2, .int v2), (3, .int v3), (4, .int v4), (6, .int v6), (7, .int v7)] [.int t0, .int t1] := by
  refine q_iadd (pc := 93) C dX9_hint_93 ?_
  refine q_istore (pc := 94) (lvq := [(5, .int (t1 + t0)), (0, .int v0), (1, .int v1), (2, .int v2), (3, .int v3), (4, .int v4), (6, .int v6), (7, .int v7)]) C dX9_hint_94 (by decide) rfl ?_
  refine q_iload (pc := 96) C dX9_hint_96 6 rfl ?_
  refine q_iload_n (pc := 98) C dX9_hint_98 rfl 2 rfl ?_
  refine q_iload (pc := 99) C dX9_hint_99 7 rfl ?_
  obtain ⟨g6, hf⟩ := q_gd hf
  refine q_idiv (pc := 101) C dX9_hint_101 g6 ?_
  refine q_bipush (pc := 102) C (10 : Int32) dX9_hint_102 q_cb_10 ?_
  refine q_irem (pc := 104) C dX9_hint_104 (by decide +kernel) ?_
  refine q_iload (pc := 105) C dX9_hint_105 5 rfl ?_
  refine q_icmp_ne (pc := 107) (tgt := 114) C dX9_hint_107 (by decide) (fun c7 => ?_) (fun c7 => ?_)
  · have hf := q_iteF hf c7
    refine q_iconst (pc := 114) C (0 : Int32) dX9_hint_114 q_ci_0 ?_
    refine q_sub (lvq := [(0, .int v0), (1, .int v1), (2, .int v2), (3, .int v3), (4, .int v4), (5, .int (t1 + t0)), (7, .int v7)]) [1, 2, 3, 4, 5, 0, 7] rfl ?_
    exact w_X9_hint_115 C hk52 hk67 v0 v1 v2 v3 v4 (t1 + t0) v7 (0 : Int32) v6 hf
  · have hf := q_iteT hf c7
    refine q_iconst (pc := 110) C (1 : Int32) dX9_hint_110 q_ci_1 ?_
    refine q_goto (pc := 111) (tgt := 115) C dX9_hint_111 (by decide) ?_
    refine q_sub (lvq := [(0, .int v0), (1, .int v1), (2, .int v2), (3, .int v3), (4, .int v4), (5, .int (t1 + t0)), (7, .int v7)]) [1, 2, 3, 4, 5, 0, 7] rfl ?_
    exact w_X9_hint_115 C hk52 hk67 v0 v1 v2 v3 v4 (t1 + t0) v7 (1 : Int32) v6 hf
set_option maxRecDepth 100000 in
set_option maxHeartbeats 4000000 in
theorem w_X9_hint_67 {p : Program} {l : Launch} {e : Env} {s : State} {m : MethodId} {args : Array Value} {below : List Frame} {meth : Method} {c : Code} {D : va_G} {cc : Nat → ClassId} {N0 : Nat} {ws : va_W} {k52 : Int32 → Int32 → Int32 → Int32 → Int32 → Option Int32} {v : Int32} (C : q_C p s m args meth c cX9_hint 8 (some .int) wsX9_hint RX9 D cc N0) (hk52 : ∀ (v0 : Int32) (v1 : Int32) (v2 : Int32) (v3 : Int32) (v4 : Int32), k52 v0 v1 v2 v3 v4 = some v → q_WA p l e (q_rm 1 21 0 0) s m args below meth c D N0 8 (MQ below (q_Q D N0 (q_p (some (.int v)) ws)) args s 0 0 (q_A N0)) 0 0 ws 52 [(0, .int v0), (1, .int v1), (2, .int v2), (3, .int v3), (4, .int v4)] []) : ∀ (n : Nat) (v0 : Int32) (v1 : Int32) (v2 : Int32) (v3 : Int32) (v4 : Int32) (v5 : Int32) (v6 : Int32) (v7 : Int32), f_X9_hint_67 k52 n v0 v1 v2 v3 v4 v5 v6 v7 = some v → q_WA p l e (q_rm 1 21 0 0) s m args below meth c D N0 8 (MQ below (q_Q D N0 (q_p (some (.int v)) ws)) args s 0 0 (q_A N0)) 0 0 ws 67 [(0, .int v0), (1, .int v1), (2, .int v2), (3, .int v3), (4, .int v4), (5, .int v5), (6, .int v6), (7, .int v7)] [] := by
  intro n
  induction n with
  | zero => intro v0 v1 v2 v3 v4 v5 v6 v7 hf; cases hf
  | succ n ih =>
    intro v0 v1 v2 v3 v4 v5 v6 v7 hf
    have hk67 : ∀ (v0 : Int32) (v1 : Int32) (v2 : Int32) (v3 : Int32) (v4 : Int32) (v5 : Int32) (v6 : Int32) (v7 : Int32), f_X9_hint_67 k52 n v0 v1 v2 v3 v4 v5 v6 v7 = some v → q_WA p l e (q_rm 1 21 0 0) s m args below meth c D N0 8 (MQ below (q_Q D N0 (q_p (some (.int v)) ws)) args s 0 0 (q_A N0)) 0 0 ws 67 [(0, .int v0), (1, .int v1), (2, .int v2), (3, .int v3), (4, .int v4), (5, .int v5), (6, .int v6), (7, .int v7)] [] := ih
    have hf : f_X9_hint_67b k52 (f_X9_hint_67 k52 n) v0 v1 v2 v3 v4 v5 v6 v7 = some v := hf
    refine q_iload (pc := 67) C dX9_hint_67 7 rfl ?_
    refine q_bipush (pc := 69) C (100 : Int32) dX9_hint_69 q_cb_100 ?_
    refine q_icmp_gt (pc := 71) (tgt := 128) C dX9_hint_71 (by decide) (fun c3 => ?_) (fun c3 => ?_)
    · have hf := q_iteT hf c3
      refine q_iload_n (pc := 128) C dX9_hint_128 rfl 3 rfl ?_
      refine q_iload (pc := 129) C dX9_hint_129 5 rfl ?_
      refine q_iload (pc := 131) C dX9_hint_131 6 rfl ?_
      refine q_mmin (pc := 133) C (List.mem_of_getElem? (i := 1) rfl) (List.mem_of_getElem? (i := 2) rfl) (List.mem_of_getElem? (i := 3) rfl) (List.mem_of_getElem? (i := 4) rfl) (Nat.le_of_ble_eq_true rfl) (Nat.le_of_ble_eq_true rfl) ⟨Nat.le_of_ble_eq_true rfl, Nat.le_of_ble_eq_true rfl⟩ dX9_hint_133 ?_
      refine q_iadd (pc := 136) C dX9_hint_136 ?_
      refine q_istore_n (pc := 137) (lvq := [(3, .int (v3 + (q_min v5 v6))), (0, .int v0), (1, .int v1), (2, .int v2), (4, .int v4), (5, .int v5), (6, .int v6), (7, .int v7)]) C dX9_hint_137 rfl (by decide) rfl ?_
      refine q_iinc (pc := 138) (lvq := [(4, .int (v4 + (1 : Int32))), (3, .int (v3 + (q_min v5 v6))), (0, .int v0), (1, .int v1), (2, .int v2), (5, .int v5), (6, .int v6), (7, .int v7)]) C (v4 + (1 : Int32)) dX9_hint_138 4 rfl q_ca_1 (by decide) rfl ?_
      refine q_goto (pc := 141) (tgt := 52) C dX9_hint_141 (by decide) ?_
      refine q_sub (lvq := [(0, .int v0), (1, .int v1), (2, .int v2), (3, .int (v3 + (q_min v5 v6))), (4, .int (v4 + (1 : Int32)))]) [2, 3, 4, 1, 0] rfl ?_
      exact hk52 v0 v1 v2 (v3 + (q_min v5 v6)) (v4 + (1 : Int32)) hf
    · have hf := q_iteF hf c3
      refine q_iload (pc := 74) C dX9_hint_74 5 rfl ?_
      refine q_iload_n (pc := 76) C dX9_hint_76 rfl 0 rfl ?_
      refine q_iload (pc := 77) C dX9_hint_77 7 rfl ?_
      obtain ⟨g4, hf⟩ := q_gd hf
      refine q_idiv (pc := 79) C dX9_hint_79 g4 ?_
      refine q_bipush (pc := 80) C (10 : Int32) dX9_hint_80 q_cb_10 ?_
      refine q_irem (pc := 82) C dX9_hint_82 (by decide +kernel) ?_
      refine q_iload (pc := 83) C dX9_hint_83 4 rfl ?_
      refine q_icmp_ne (pc := 85) (tgt := 92) C dX9_hint_85 (by decide) (fun c5 => ?_) (fun c5 => ?_)
      · have hf := q_iteF hf c5
        refine q_iconst (pc := 92) C (0 : Int32) dX9_hint_92 q_ci_0 ?_
        refine q_sub (lvq := [(0, .int v0), (1, .int v1), (2, .int v2), (3, .int v3), (4, .int v4), (6, .int v6), (7, .int v7)]) [0, 1, 2, 3, 4, 6, 7] rfl ?_
        exact w_X9_hint_93 C hk52 hk67 v0 v1 v2 v3 v4 v6 v7 (0 : Int32) v5 hf
      · have hf := q_iteT hf c5
        refine q_iconst (pc := 88) C (1 : Int32) dX9_hint_88 q_ci_1 ?_
        refine q_goto (pc := 89) (tgt := 93) C dX9_hint_89 (by decide) ?_
        refine q_sub (lvq := [(0, .int v0), (1, .int v1), (2, .int v2), (3, .int v3), (4, .int v4), (6, .int v6), (7, .int v7)]) [0, 1, 2, 3, 4, 6, 7] rfl ?_
        exact w_X9_hint_93 C hk52 hk67 v0 v1 v2 v3 v4 v6 v7 (1 : Int32) v5 hf
set_option maxRecDepth 100000 in
set_option maxHeartbeats 4000000 in
theorem w_X9_hint_52 {p : Program} {l : Launch} {e : Env} {s : State} {m : MethodId} {args : Array Value} {below : List Frame} {meth : Method} {c : Code} {D : va_G} {cc : Nat → ClassId} {N0 : Nat} {ws : va_W} {v : Int32} (C : q_C p s m args meth c cX9_hint 8 (some .int) wsX9_hint RX9 D cc N0)  : ∀ (n : Nat) (v0 : Int32) (v1 : Int32) (v2 : Int32) (v3 : Int32) (v4 : Int32), f_X9_hint_52  n v0 v1 v2 v3 v4 = some v → q_WA p l e (q_rm 1 21 0 0) s m args below meth c D N0 8 (MQ below (q_Q D N0 (q_p (some (.int v)) ws)) args s 0 0 (q_A N0)) 0 0 ws 52 [(0, .int v0), (1, .int v1), (2, .int v2), (3, .int v3), (4, .int v4)] [] := by
  intro n
  induction n with
  | zero => intro v0 v1 v2 v3 v4 hf; cases hf
  | succ n ih =>
    intro v0 v1 v2 v3 v4 hf
    have hk52 : ∀ (v0 : Int32) (v1 : Int32) (v2 : Int32) (v3 : Int32) (v4 : Int32), f_X9_hint_52  n v0 v1 v2 v3 v4 = some v → q_WA p l e (q_rm 1 21 0 0) s m args below meth c D N0 8 (MQ below (q_Q D N0 (q_p (some (.int v)) ws)) args s 0 0 (q_A N0)) 0 0 ws 52 [(0, .int v0), (1, .int v1), (2, .int v2), (3, .int v3), (4, .int v4)] [] := ih
    have hf : f_X9_hint_52b  (f_X9_hint_52  n) v0 v1 v2 v3 v4 = some v := hf
    refine q_iload (pc := 52) C dX9_hint_52 4 rfl ?_
    refine q_iconst (pc := 54) C (3 : Int32) dX9_hint_54 q_ci_3 ?_
    refine q_icmp_gt (pc := 55) (tgt := 144) C dX9_hint_55 (by decide) (fun c2 => ?_) (fun c2 => ?_)
    · have hf := q_iteT hf c2
      refine q_bipush (pc := 144) C (10 : Int32) dX9_hint_144 q_cb_10 ?_
      refine q_iload_n (pc := 146) C dX9_hint_146 rfl 2 rfl ?_
      refine q_imul (pc := 147) C dX9_hint_147 ?_
      refine q_iload_n (pc := 148) C dX9_hint_148 rfl 3 rfl ?_
      refine q_iadd (pc := 149) C dX9_hint_149 ?_
      refine q_iload_n (pc := 150) C dX9_hint_150 rfl 2 rfl ?_
      refine q_isub (pc := 151) C dX9_hint_151 ?_
      obtain rfl := q_some hf
      exact q_iret (pc := 152) C dX9_hint_152 ⟨rfl, rfl⟩
    · have hf := q_iteF hf c2
      refine q_iconst (pc := 58) C (0 : Int32) dX9_hint_58 q_ci_0 ?_
      refine q_istore (pc := 59) (lvq := [(5, .int (0 : Int32)), (0, .int v0), (1, .int v1), (2, .int v2), (3, .int v3), (4, .int v4)]) C dX9_hint_59 (by decide) rfl ?_
      refine q_iconst (pc := 61) C (0 : Int32) dX9_hint_61 q_ci_0 ?_
      refine q_istore (pc := 62) (lvq := [(6, .int (0 : Int32)), (5, .int (0 : Int32)), (0, .int v0), (1, .int v1), (2, .int v2), (3, .int v3), (4, .int v4)]) C dX9_hint_62 (by decide) rfl ?_
      refine q_iconst (pc := 64) C (1 : Int32) dX9_hint_64 q_ci_1 ?_
      refine q_istore (pc := 65) (lvq := [(7, .int (1 : Int32)), (6, .int (0 : Int32)), (5, .int (0 : Int32)), (0, .int v0), (1, .int v1), (2, .int v2), (3, .int v3), (4, .int v4)]) C dX9_hint_65 (by decide) rfl ?_
      refine q_sub (lvq := [(0, .int v0), (1, .int v1), (2, .int v2), (3, .int v3), (4, .int v4), (5, .int (0 : Int32)), (6, .int (0 : Int32)), (7, .int (1 : Int32))]) [3, 4, 5, 6, 7, 2, 1, 0] rfl ?_
      exact w_X9_hint_67 C hk52 1000 v0 v1 v2 v3 v4 (0 : Int32) (0 : Int32) (1 : Int32) hf
set_option maxRecDepth 100000 in
set_option maxHeartbeats 4000000 in
theorem w_X9_hint_37 {p : Program} {l : Launch} {e : Env} {s : State} {m : MethodId} {args : Array Value} {below : List Frame} {meth : Method} {c : Code} {D : va_G} {cc : Nat → ClassId} {N0 : Nat} {ws : va_W} {k7 : Int32 → Int32 → Int32 → Int32 → Int32 → Option Int32} {v : Int32} (C : q_C p s m args meth c cX9_hint 8 (some .int) wsX9_hint RX9 D cc N0) (hk7 : ∀ (v0 : Int32) (v1 : Int32) (v2 : Int32) (v3 : Int32) (v4 : Int32), k7 v0 v1 v2 v3 v4 = some v → q_WA p l e (q_rm 1 21 0 0) s m args below meth c D N0 8 (MQ below (q_Q D N0 (q_p (some (.int v)) ws)) args s 0 0 (q_A N0)) 0 0 ws 7 [(0, .int v0), (1, .int v1), (2, .int v2), (3, .int v3), (4, .int v4)] []) (v0 : Int32) (v1 : Int32) (v3 : Int32) (v4 : Int32) (t0 : Int32) (t1 : Int32) (hf : f_X9_hint_37 k7 v0 v1 v3 v4 t0 t1 = some v) : q_WA p l e (q_rm 1 21 0 0) s m args below meth c D N0 8 (MQ below (q_Q D N0 (q_p (some (.int v)) ws)) args s 0 0 (q_A N0)) 0 0 ws 37 [(0, .int v0), (1, .int v1), (3, .int v3), (4, .int v4)] [.int t0, .int t1] := by
  refine q_iadd (pc := 37) C dX9_hint_37 ?_
  refine q_istore_n (pc := 38) (lvq := [(2, .int (t1 + t0)), (0, .int v0), (1, .int v1), (3, .int v3), (4, .int v4)]) C dX9_hint_38 rfl (by decide) rfl ?_
  refine q_iload (pc := 39) C dX9_hint_39 4 rfl ?_
  refine q_bipush (pc := 41) C (10 : Int32) dX9_hint_41 q_cb_10 ?_
  refine q_imul (pc := 43) C dX9_hint_43 ?_
  refine q_istore (pc := 44) (lvq := [(4, .int (v4 * (10 : Int32))), (2, .int (t1 + t0)), (0, .int v0), (1, .int v1), (3, .int v3)]) C dX9_hint_44 (by decide) rfl ?_
  refine q_goto (pc := 46) (tgt := 7) C dX9_hint_46 (by decide) ?_
  refine q_sub (lvq := [(0, .int v0), (1, .int v1), (2, .int (t1 + t0)), (3, .int v3), (4, .int (v4 * (10 : Int32)))]) [2, 3, 1, 4, 0] rfl ?_
  exact hk7 v0 v1 (t1 + t0) v3 (v4 * (10 : Int32)) hf
set_option maxRecDepth 100000 in
set_option maxHeartbeats 4000000 in
theorem w_X9_hint_7 {p : Program} {l : Launch} {e : Env} {s : State} {m : MethodId} {args : Array Value} {below : List Frame} {meth : Method} {c : Code} {D : va_G} {cc : Nat → ClassId} {N0 : Nat} {ws : va_W} {v : Int32} (C : q_C p s m args meth c cX9_hint 8 (some .int) wsX9_hint RX9 D cc N0)  : ∀ (n : Nat) (v0 : Int32) (v1 : Int32) (v2 : Int32) (v3 : Int32) (v4 : Int32), f_X9_hint_7  n v0 v1 v2 v3 v4 = some v → q_WA p l e (q_rm 1 21 0 0) s m args below meth c D N0 8 (MQ below (q_Q D N0 (q_p (some (.int v)) ws)) args s 0 0 (q_A N0)) 0 0 ws 7 [(0, .int v0), (1, .int v1), (2, .int v2), (3, .int v3), (4, .int v4)] [] := by
  intro n
  induction n with
  | zero => intro v0 v1 v2 v3 v4 hf; cases hf
  | succ n ih =>
    intro v0 v1 v2 v3 v4 hf
    have hk7 : ∀ (v0 : Int32) (v1 : Int32) (v2 : Int32) (v3 : Int32) (v4 : Int32), f_X9_hint_7  n v0 v1 v2 v3 v4 = some v → q_WA p l e (q_rm 1 21 0 0) s m args below meth c D N0 8 (MQ below (q_Q D N0 (q_p (some (.int v)) ws)) args s 0 0 (q_A N0)) 0 0 ws 7 [(0, .int v0), (1, .int v1), (2, .int v2), (3, .int v3), (4, .int v4)] [] := ih
    have hf : f_X9_hint_7b  (f_X9_hint_7  n) v0 v1 v2 v3 v4 = some v := hf
    refine q_iload (pc := 7) C dX9_hint_7 4 rfl ?_
    refine q_bipush (pc := 9) C (100 : Int32) dX9_hint_9 q_cb_100 ?_
    refine q_icmp_gt (pc := 11) (tgt := 49) C dX9_hint_11 (by decide) (fun c1 => ?_) (fun c1 => ?_)
    · have hf := q_iteT hf c1
      refine q_iconst (pc := 49) C (0 : Int32) dX9_hint_49 q_ci_0 ?_
      refine q_istore (pc := 50) (lvq := [(4, .int (0 : Int32)), (0, .int v0), (1, .int v1), (2, .int v2), (3, .int v3)]) C dX9_hint_50 (by decide) rfl ?_
      refine q_sub (lvq := [(0, .int v0), (1, .int v1), (2, .int v2), (3, .int v3), (4, .int (0 : Int32))]) [1, 2, 3, 4, 0] rfl ?_
      exact w_X9_hint_52 C 1000 v0 v1 v2 v3 (0 : Int32) hf
    · have hf := q_iteF hf c1
      refine q_iload_n (pc := 14) C dX9_hint_14 rfl 2 rfl ?_
      refine q_iload_n (pc := 15) C dX9_hint_15 rfl 0 rfl ?_
      refine q_iload (pc := 16) C dX9_hint_16 4 rfl ?_
      obtain ⟨g8, hf⟩ := q_gd hf
      refine q_idiv (pc := 18) C dX9_hint_18 g8 ?_
      refine q_bipush (pc := 19) C (10 : Int32) dX9_hint_19 q_cb_10 ?_
      refine q_irem (pc := 21) C dX9_hint_21 (by decide +kernel) ?_
      refine q_iload_n (pc := 22) C dX9_hint_22 rfl 1 rfl ?_
      refine q_iload (pc := 23) C dX9_hint_23 4 rfl ?_
      obtain ⟨g9, hf⟩ := q_gd hf
      refine q_idiv (pc := 25) C dX9_hint_25 g9 ?_
      refine q_bipush (pc := 26) C (10 : Int32) dX9_hint_26 q_cb_10 ?_
      refine q_irem (pc := 28) C dX9_hint_28 (by decide +kernel) ?_
      refine q_icmp_ne (pc := 29) (tgt := 36) C dX9_hint_29 (by decide) (fun c10 => ?_) (fun c10 => ?_)
      · have hf := q_iteF hf c10
        refine q_iconst (pc := 36) C (0 : Int32) dX9_hint_36 q_ci_0 ?_
        refine q_sub (lvq := [(0, .int v0), (1, .int v1), (3, .int v3), (4, .int v4)]) [0, 1, 3, 4] rfl ?_
        exact w_X9_hint_37 C hk7 v0 v1 v3 v4 (0 : Int32) v2 hf
      · have hf := q_iteT hf c10
        refine q_iconst (pc := 32) C (1 : Int32) dX9_hint_32 q_ci_1 ?_
        refine q_goto (pc := 33) (tgt := 37) C dX9_hint_33 (by decide) ?_
        refine q_sub (lvq := [(0, .int v0), (1, .int v1), (3, .int v3), (4, .int v4)]) [0, 1, 3, 4] rfl ?_
        exact w_X9_hint_37 C hk7 v0 v1 v3 v4 (1 : Int32) v2 hf
set_option maxRecDepth 100000 in
set_option maxHeartbeats 4000000 in
theorem c_X9_hint (l : Launch) (D : va_G) (cc : Nat → ClassId) (N0 : Nat) (ws : va_W) (a1 : Int32) (a2 : Int32) (v : Int32) (hf : f_X9_hint a1 a2 = some v) : q_Met l yX9_hint wsX9_hint 1 21 D cc N0 ws [.int a1, .int a2] (q_p (some (.int v)) ws) 0 0 := by
  refine q_ofW (code := cX9_hint) (nL := 8) (ret := (some .int)) (by decide +kernel) rfl (Nat.le_of_ble_eq_true rfl) (fun p e s m below meth c C _ => ?_)
  refine q_lv (lv2 := [(0, .int a1), (1, .int a2)]) rfl ?_
  refine q_iconst (pc := 0) C (0 : Int32) dX9_hint_0 q_ci_0 ?_
  refine q_istore_n (pc := 1) (lvq := [(2, .int (0 : Int32)), (0, .int a1), (1, .int a2)]) C dX9_hint_1 rfl (by decide) rfl ?_
  refine q_iconst (pc := 2) C (0 : Int32) dX9_hint_2 q_ci_0 ?_
  refine q_istore_n (pc := 3) (lvq := [(3, .int (0 : Int32)), (2, .int (0 : Int32)), (0, .int a1), (1, .int a2)]) C dX9_hint_3 rfl (by decide) rfl ?_
  refine q_iconst (pc := 4) C (1 : Int32) dX9_hint_4 q_ci_1 ?_
  refine q_istore (pc := 5) (lvq := [(4, .int (1 : Int32)), (3, .int (0 : Int32)), (2, .int (0 : Int32)), (0, .int a1), (1, .int a2)]) C dX9_hint_5 (by decide) rfl ?_
  refine q_sub (lvq := [(0, .int a1), (1, .int a2), (2, .int (0 : Int32)), (3, .int (0 : Int32)), (4, .int (1 : Int32))]) [3, 4, 2, 1, 0] rfl ?_
  exact w_X9_hint_7 C 1000 a1 a2 (0 : Int32) (0 : Int32) (1 : Int32) hf
theorem z_X9_hint : q_dsc yX9_hint 2 := ⟨by decide +kernel, by decide +kernel, by decide +kernel⟩
