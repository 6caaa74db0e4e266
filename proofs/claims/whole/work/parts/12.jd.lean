def f_J6_bitCount_0f7a4_48 (v0 : Int32) : Int32 := (v0 &&& (63 : Int32))
def f_J6_bitCount_0f7a4_41 (v0 : Int32) : Int32 := f_J6_bitCount_0f7a4_48 (v0 + (v0.toUInt32 >>> ((16 : Int32).toUInt32 &&& Int32.toUInt32 31)).toInt32)
def f_J6_bitCount_0f7a4_34 (v0 : Int32) : Int32 := f_J6_bitCount_0f7a4_41 (v0 + (v0.toUInt32 >>> ((8 : Int32).toUInt32 &&& Int32.toUInt32 31)).toInt32)
def f_J6_bitCount_0f7a4_24 (v0 : Int32) : Int32 := f_J6_bitCount_0f7a4_34 ((v0 + (v0.toUInt32 >>> ((4 : Int32).toUInt32 &&& Int32.toUInt32 31)).toInt32) &&& (252645135 : Int32))
def f_J6_bitCount_0f7a4_10 (v0 : Int32) : Int32 := f_J6_bitCount_0f7a4_24 ((v0 &&& (858993459 : Int32)) + ((v0.toUInt32 >>> ((2 : Int32).toUInt32 &&& Int32.toUInt32 31)).toInt32 &&& (858993459 : Int32)))
def f_J6_bitCount_0f7a4 (a1 : Int32) : Int32 := f_J6_bitCount_0f7a4_10 (a1 - ((a1.toUInt32 >>> ((1 : Int32).toUInt32 &&& Int32.toUInt32 31)).toInt32 &&& (1431655765 : Int32)))
set_option maxRecDepth 100000 in
set_option maxHeartbeats 4000000 in
theorem w_J6_bitCount_0f7a4_48 {p : Program} {l : Launch} {e : Env} {s : State} {m : MethodId} {args : Array Value} {below : List Frame} {meth : Method} {c : Code} {D : va_G} {cc : Nat → ClassId} {N0 : Nat} {ws : va_W} {v : Int32} (C : q_C p s m args meth c cJ6_bitCount_0f7a4 1 (some .int) wsJ6_bitCount_0f7a4 RJ6 D cc N0)  (v0 : Int32) (hf : f_J6_bitCount_0f7a4_48  v0 = v) : q_WA p l e (q_rm 0 0 0 0) s m args below meth c D N0 1 (MQ below (q_Q D N0 (q_p (some (.int v)) ws)) args s 0 0 (q_A N0)) 0 0 ws 48 [(0, .int v0)] [] := by
  refine q_iload_n (pc := 48) C dJ6_bitCount_0f7a4_48 rfl 0 rfl ?_
  refine q_bipush (pc := 49) C (63 : Int32) dJ6_bitCount_0f7a4_49 q_cb_63 ?_
  refine q_iand (pc := 51) C dJ6_bitCount_0f7a4_51 ?_
  obtain rfl := hf
  exact q_iret (pc := 52) C dJ6_bitCount_0f7a4_52 ⟨rfl, rfl⟩
set_option maxRecDepth 100000 in
set_option maxHeartbeats 4000000 in
theorem w_J6_bitCount_0f7a4_41 {p : Program} {l : Launch} {e : Env} {s : State} {m : MethodId} {args : Array Value} {below : List Frame} {meth : Method} {c : Code} {D : va_G} {cc : Nat → ClassId} {N0 : Nat} {ws : va_W} {v : Int32} (C : q_C p s m args meth c cJ6_bitCount_0f7a4 1 (some .int) wsJ6_bitCount_0f7a4 RJ6 D cc N0)  (v0 : Int32) (hf : f_J6_bitCount_0f7a4_41  v0 = v) : q_WA p l e (q_rm 0 0 0 0) s m args below meth c D N0 1 (MQ below (q_Q D N0 (q_p (some (.int v)) ws)) args s 0 0 (q_A N0)) 0 0 ws 41 [(0, .int v0)] [] := by
  refine q_iload_n (pc := 41) C dJ6_bitCount_0f7a4_41 rfl 0 rfl ?_
  refine q_iload_n (pc := 42) C dJ6_bitCount_0f7a4_42 rfl 0 rfl ?_
  refine q_bipush (pc := 43) C (16 : Int32) dJ6_bitCount_0f7a4_43 q_cb_16 ?_
  refine q_iushr (pc := 45) C dJ6_bitCount_0f7a4_45 rfl ?_
  refine q_iadd (pc := 46) C dJ6_bitCount_0f7a4_46 ?_
  refine q_istore_n (pc := 47) (lvq := [(0, .int (v0 + (v0.toUInt32 >>> ((16 : Int32).toUInt32 &&& Int32.toUInt32 31)).toInt32))]) C dJ6_bitCount_0f7a4_47 rfl (by decide) rfl ?_
  refine q_sub (lvq := [(0, .int (v0 + (v0.toUInt32 >>> ((16 : Int32).toUInt32 &&& Int32.toUInt32 31)).toInt32))]) [0] rfl ?_
  exact w_J6_bitCount_0f7a4_48 C (v0 + (v0.toUInt32 >>> ((16 : Int32).toUInt32 &&& Int32.toUInt32 31)).toInt32) hf
set_option maxRecDepth 100000 in
set_option maxHeartbeats 4000000 in
theorem w_J6_bitCount_0f7a4_34 {p : Program} {l : Launch} {e : Env} {s : State} {m : MethodId} {args : Array Value} {below : List Frame} {meth : Method} {c : Code} {D : va_G} {cc : Nat → ClassId} {N0 : Nat} {ws : va_W} {v : Int32} (C : q_C p s m args meth c cJ6_bitCount_0f7a4 1 (some .int) wsJ6_bitCount_0f7a4 RJ6 D cc N0)  (v0 : Int32) (hf : f_J6_bitCount_0f7a4_34  v0 = v) : q_WA p l e (q_rm 0 0 0 0) s m args below meth c D N0 1 (MQ below (q_Q D N0 (q_p (some (.int v)) ws)) args s 0 0 (q_A N0)) 0 0 ws 34 [(0, .int v0)] [] := by
  refine q_iload_n (pc := 34) C dJ6_bitCount_0f7a4_34 rfl 0 rfl ?_
  refine q_iload_n (pc := 35) C dJ6_bitCount_0f7a4_35 rfl 0 rfl ?_
  refine q_bipush (pc := 36) C (8 : Int32) dJ6_bitCount_0f7a4_36 q_cb_8 ?_
  refine q_iushr (pc := 38) C dJ6_bitCount_0f7a4_38 rfl ?_
  refine q_iadd (pc := 39) C dJ6_bitCount_0f7a4_39 ?_
  refine q_istore_n (pc := 40) (lvq := [(0, .int (v0 + (v0.toUInt32 >>> ((8 : Int32).toUInt32 &&& Int32.toUInt32 31)).toInt32))]) C dJ6_bitCount_0f7a4_40 rfl (by decide) rfl ?_
  refine q_sub (lvq := [(0, .int (v0 + (v0.toUInt32 >>> ((8 : Int32).toUInt32 &&& Int32.toUInt32 31)).toInt32))]) [0] rfl ?_
  exact w_J6_bitCount_0f7a4_41 C (v0 + (v0.toUInt32 >>> ((8 : Int32).toUInt32 &&& Int32.toUInt32 31)).toInt32) hf
set_option maxRecDepth 100000 in
set_option maxHeartbeats 4000000 in
theorem w_J6_bitCount_0f7a4_24 {p : Program} {l : Launch} {e : Env} {s : State} {m : MethodId} {args : Array Value} {below : List Frame} {meth : Method} {c : Code} {D : va_G} {cc : Nat → ClassId} {N0 : Nat} {ws : va_W} {v : Int32} (C : q_C p s m args meth c cJ6_bitCount_0f7a4 1 (some .int) wsJ6_bitCount_0f7a4 RJ6 D cc N0)  (v0 : Int32) (hf : f_J6_bitCount_0f7a4_24  v0 = v) : q_WA p l e (q_rm 0 0 0 0) s m args below meth c D N0 1 (MQ below (q_Q D N0 (q_p (some (.int v)) ws)) args s 0 0 (q_A N0)) 0 0 ws 24 [(0, .int v0)] [] := by
  refine q_iload_n (pc := 24) C dJ6_bitCount_0f7a4_24 rfl 0 rfl ?_
  refine q_iload_n (pc := 25) C dJ6_bitCount_0f7a4_25 rfl 0 rfl ?_
  refine q_iconst (pc := 26) C (4 : Int32) dJ6_bitCount_0f7a4_26 q_ci_4 ?_
  refine q_iushr (pc := 27) C dJ6_bitCount_0f7a4_27 rfl ?_
  refine q_iadd (pc := 28) C dJ6_bitCount_0f7a4_28 ?_
  refine q_ldcw (pc := 29) (v := (252645135 : Int32)) C (List.mem_of_getElem? (i := 3) rfl) dJ6_bitCount_0f7a4_29 ?_
  refine q_iand (pc := 32) C dJ6_bitCount_0f7a4_32 ?_
  refine q_istore_n (pc := 33) (lvq := [(0, .int ((v0 + (v0.toUInt32 >>> ((4 : Int32).toUInt32 &&& Int32.toUInt32 31)).toInt32) &&& (252645135 : Int32)))]) C dJ6_bitCount_0f7a4_33 rfl (by decide) rfl ?_
  refine q_sub (lvq := [(0, .int ((v0 + (v0.toUInt32 >>> ((4 : Int32).toUInt32 &&& Int32.toUInt32 31)).toInt32) &&& (252645135 : Int32)))]) [0] rfl ?_
  exact w_J6_bitCount_0f7a4_34 C ((v0 + (v0.toUInt32 >>> ((4 : Int32).toUInt32 &&& Int32.toUInt32 31)).toInt32) &&& (252645135 : Int32)) hf
set_option maxRecDepth 100000 in
set_option maxHeartbeats 4000000 in
theorem w_J6_bitCount_0f7a4_10 {p : Program} {l : Launch} {e : Env} {s : State} {m : MethodId} {args : Array Value} {below : List Frame} {meth : Method} {c : Code} {D : va_G} {cc : Nat → ClassId} {N0 : Nat} {ws : va_W} {v : Int32} (C : q_C p s m args meth c cJ6_bitCount_0f7a4 1 (some .int) wsJ6_bitCount_0f7a4 RJ6 D cc N0)  (v0 : Int32) (hf : f_J6_bitCount_0f7a4_10  v0 = v) : q_WA p l e (q_rm 0 0 0 0) s m args below meth c D N0 1 (MQ below (q_Q D N0 (q_p (some (.int v)) ws)) args s 0 0 (q_A N0)) 0 0 ws 10 [(0, .int v0)] [] := by
  refine q_iload_n (pc := 10) C dJ6_bitCount_0f7a4_10 rfl 0 rfl ?_
  refine q_ldcw (pc := 11) (v := (858993459 : Int32)) C (List.mem_of_getElem? (i := 2) rfl) dJ6_bitCount_0f7a4_11 ?_
  refine q_iand (pc := 14) C dJ6_bitCount_0f7a4_14 ?_
  refine q_iload_n (pc := 15) C dJ6_bitCount_0f7a4_15 rfl 0 rfl ?_
  refine q_iconst (pc := 16) C (2 : Int32) dJ6_bitCount_0f7a4_16 q_ci_2 ?_
  refine q_iushr (pc := 17) C dJ6_bitCount_0f7a4_17 rfl ?_
  refine q_ldcw (pc := 18) (v := (858993459 : Int32)) C (List.mem_of_getElem? (i := 2) rfl) dJ6_bitCount_0f7a4_18 ?_
  refine q_iand (pc := 21) C dJ6_bitCount_0f7a4_21 ?_
  refine q_iadd (pc := 22) C dJ6_bitCount_0f7a4_22 ?_
  refine q_istore_n (pc := 23) (lvq := [(0, .int ((v0 &&& (858993459 : Int32)) + ((v0.toUInt32 >>> ((2 : Int32).toUInt32 &&& Int32.toUInt32 31)).toInt32 &&& (858993459 : Int32))))]) C dJ6_bitCount_0f7a4_23 rfl (by decide) rfl ?_
  refine q_sub (lvq := [(0, .int ((v0 &&& (858993459 : Int32)) + ((v0.toUInt32 >>> ((2 : Int32).toUInt32 &&& Int32.toUInt32 31)).toInt32 &&& (858993459 : Int32))))]) [0] rfl ?_
  exact w_J6_bitCount_0f7a4_24 C ((v0 &&& (858993459 : Int32)) + ((v0.toUInt32 >>> ((2 : Int32).toUInt32 &&& Int32.toUInt32 31)).toInt32 &&& (858993459 : Int32))) hf
set_option maxRecDepth 100000 in
set_option maxHeartbeats 4000000 in
theorem c_J6_bitCount_0f7a4 (l : Launch) (D : va_G) (cc : Nat → ClassId) (N0 : Nat) (ws : va_W) (a1 : Int32) (v : Int32) (hf : f_J6_bitCount_0f7a4 a1 = v) : q_Met l yJ6_bitCount_0f7a4 wsJ6_bitCount_0f7a4 0 0 D cc N0 ws [.int a1] (q_p (some (.int v)) ws) 0 0 := by
  refine q_ofW (code := cJ6_bitCount_0f7a4) (nL := 1) (ret := (some .int)) (by decide +kernel) rfl (Nat.le_of_ble_eq_true rfl) (fun p e s m below meth c C _ => ?_)
  refine q_lv (lv2 := [(0, .int a1)]) rfl ?_
  refine q_iload_n (pc := 0) C dJ6_bitCount_0f7a4_0 rfl 0 rfl ?_
  refine q_iload_n (pc := 1) C dJ6_bitCount_0f7a4_1 rfl 0 rfl ?_
  refine q_iconst (pc := 2) C (1 : Int32) dJ6_bitCount_0f7a4_2 q_ci_1 ?_
  refine q_iushr (pc := 3) C dJ6_bitCount_0f7a4_3 rfl ?_
  refine q_ldcw (pc := 4) (v := (1431655765 : Int32)) C (List.mem_of_getElem? (i := 1) rfl) dJ6_bitCount_0f7a4_4 ?_
  refine q_iand (pc := 7) C dJ6_bitCount_0f7a4_7 ?_
  refine q_isub (pc := 8) C dJ6_bitCount_0f7a4_8 ?_
  refine q_istore_n (pc := 9) (lvq := [(0, .int (a1 - ((a1.toUInt32 >>> ((1 : Int32).toUInt32 &&& Int32.toUInt32 31)).toInt32 &&& (1431655765 : Int32))))]) C dJ6_bitCount_0f7a4_9 rfl (by decide) rfl ?_
  refine q_sub (lvq := [(0, .int (a1 - ((a1.toUInt32 >>> ((1 : Int32).toUInt32 &&& Int32.toUInt32 31)).toInt32 &&& (1431655765 : Int32))))]) [0] rfl ?_
  exact w_J6_bitCount_0f7a4_10 C (a1 - ((a1.toUInt32 >>> ((1 : Int32).toUInt32 &&& Int32.toUInt32 31)).toInt32 &&& (1431655765 : Int32))) hf
theorem z_J6_bitCount_0f7a4 : q_dsc yJ6_bitCount_0f7a4 1 := ⟨by decide +kernel, by decide +kernel, by decide +kernel⟩
def f_J13_bitCount_95d88_55 (v0 : Int64) : Int32 := (v0.toInt32 &&& (127 : Int32))
def f_J13_bitCount_95d88_48 (v0 : Int64) : Int32 := f_J13_bitCount_95d88_55 (v0 + (v0.toUInt64 >>> ((32 : Int32).toInt64.toUInt64 &&& Int64.toUInt64 63)).toInt64)
def f_J13_bitCount_95d88_41 (v0 : Int64) : Int32 := f_J13_bitCount_95d88_48 (v0 + (v0.toUInt64 >>> ((16 : Int32).toInt64.toUInt64 &&& Int64.toUInt64 63)).toInt64)
def f_J13_bitCount_95d88_34 (v0 : Int64) : Int32 := f_J13_bitCount_95d88_41 (v0 + (v0.toUInt64 >>> ((8 : Int32).toInt64.toUInt64 &&& Int64.toUInt64 63)).toInt64)
def f_J13_bitCount_95d88_24 (v0 : Int64) : Int32 := f_J13_bitCount_95d88_34 ((v0 + (v0.toUInt64 >>> ((4 : Int32).toInt64.toUInt64 &&& Int64.toUInt64 63)).toInt64) &&& (1085102592571150095 : Int64))
def f_J13_bitCount_95d88_10 (v0 : Int64) : Int32 := f_J13_bitCount_95d88_24 ((v0 &&& (3689348814741910323 : Int64)) + ((v0.toUInt64 >>> ((2 : Int32).toInt64.toUInt64 &&& Int64.toUInt64 63)).toInt64 &&& (3689348814741910323 : Int64)))
def f_J13_bitCount_95d88 (a1 : Int64) : Int32 := f_J13_bitCount_95d88_10 (a1 - ((a1.toUInt64 >>> ((1 : Int32).toInt64.toUInt64 &&& Int64.toUInt64 63)).toInt64 &&& (6148914691236517205 : Int64)))
set_option maxRecDepth 100000 in
set_option maxHeartbeats 4000000 in
theorem w_J13_bitCount_95d88_55 {p : Program} {l : Launch} {e : Env} {s : State} {m : MethodId} {args : Array Value} {below : List Frame} {meth : Method} {c : Code} {D : va_G} {cc : Nat → ClassId} {N0 : Nat} {ws : va_W} {v : Int32} (C : q_C p s m args meth c cJ13_bitCount_95d88 2 (some .int) wsJ13_bitCount_95d88 RJ13 D cc N0)  (v0 : Int64) (hf : f_J13_bitCount_95d88_55  v0 = v) : q_WA p l e (q_rm 0 0 0 0) s m args below meth c D N0 2 (MQ below (q_Q D N0 (q_p (some (.int v)) ws)) args s 0 0 (q_A N0)) 0 0 ws 55 [(0, .long v0)] [] := by
  refine q_lload_n (pc := 55) C dJ13_bitCount_95d88_55 rfl 0 rfl ?_
  refine q_l2i (pc := 56) C dJ13_bitCount_95d88_56 rfl ?_
  refine q_bipush (pc := 57) C (127 : Int32) dJ13_bitCount_95d88_57 q_cb_127 ?_
  refine q_iand (pc := 59) C dJ13_bitCount_95d88_59 ?_
  obtain rfl := hf
  exact q_iret (pc := 60) C dJ13_bitCount_95d88_60 ⟨rfl, rfl⟩
set_option maxRecDepth 100000 in
set_option maxHeartbeats 4000000 in
theorem w_J13_bitCount_95d88_48 {p : Program} {l : Launch} {e : Env} {s : State} {m : MethodId} {args : Array Value} {below : List Frame} {meth : Method} {c : Code} {D : va_G} {cc : Nat → ClassId} {N0 : Nat} {ws : va_W} {v : Int32} (C : q_C p s m args meth c cJ13_bitCount_95d88 2 (some .int) wsJ13_bitCount_95d88 RJ13 D cc N0)  (v0 : Int64) (hf : f_J13_bitCount_95d88_48  v0 = v) : q_WA p l e (q_rm 0 0 0 0) s m args below meth c D N0 2 (MQ below (q_Q D N0 (q_p (some (.int v)) ws)) args s 0 0 (q_A N0)) 0 0 ws 48 [(0, .long v0)] [] := by
  refine q_lload_n (pc := 48) C dJ13_bitCount_95d88_48 rfl 0 rfl ?_
  refine q_lload_n (pc := 49) C dJ13_bitCount_95d88_49 rfl 0 rfl ?_
  refine q_bipush (pc := 50) C (32 : Int32) dJ13_bitCount_95d88_50 q_cb_32 ?_
  refine q_lushr (pc := 52) C dJ13_bitCount_95d88_52 rfl ?_
  refine q_ladd (pc := 53) C dJ13_bitCount_95d88_53 ?_
  refine q_lstore_n (pc := 54) (lvq := [(0, .long (v0 + (v0.toUInt64 >>> ((32 : Int32).toInt64.toUInt64 &&& Int64.toUInt64 63)).toInt64))]) C dJ13_bitCount_95d88_54 rfl (by decide) rfl ?_
  refine q_sub (lvq := [(0, .long (v0 + (v0.toUInt64 >>> ((32 : Int32).toInt64.toUInt64 &&& Int64.toUInt64 63)).toInt64))]) [0] rfl ?_
  exact w_J13_bitCount_95d88_55 C (v0 + (v0.toUInt64 >>> ((32 : Int32).toInt64.toUInt64 &&& Int64.toUInt64 63)).toInt64) hf
set_option maxRecDepth 100000 in
set_option maxHeartbeats 4000000 in
theorem w_J13_bitCount_95d88_41 {p : Program} {l : Launch} {e : Env} {s : State} {m : MethodId} {args : Array Value} {below : List Frame} {meth : Method} {c : Code} {D : va_G} {cc : Nat → ClassId} {N0 : Nat} {ws : va_W} {v : Int32} (C : q_C p s m args meth c cJ13_bitCount_95d88 2 (some .int) wsJ13_bitCount_95d88 RJ13 D cc N0)  (v0 : Int64) (hf : f_J13_bitCount_95d88_41  v0 = v) : q_WA p l e (q_rm 0 0 0 0) s m args below meth c D N0 2 (MQ below (q_Q D N0 (q_p (some (.int v)) ws)) args s 0 0 (q_A N0)) 0 0 ws 41 [(0, .long v0)] [] := by
  refine q_lload_n (pc := 41) C dJ13_bitCount_95d88_41 rfl 0 rfl ?_
  refine q_lload_n (pc := 42) C dJ13_bitCount_95d88_42 rfl 0 rfl ?_
  refine q_bipush (pc := 43) C (16 : Int32) dJ13_bitCount_95d88_43 q_cb_16 ?_
  refine q_lushr (pc := 45) C dJ13_bitCount_95d88_45 rfl ?_
  refine q_ladd (pc := 46) C dJ13_bitCount_95d88_46 ?_
  refine q_lstore_n (pc := 47) (lvq := [(0, .long (v0 + (v0.toUInt64 >>> ((16 : Int32).toInt64.toUInt64 &&& Int64.toUInt64 63)).toInt64))]) C dJ13_bitCount_95d88_47 rfl (by decide) rfl ?_
  refine q_sub (lvq := [(0, .long (v0 + (v0.toUInt64 >>> ((16 : Int32).toInt64.toUInt64 &&& Int64.toUInt64 63)).toInt64))]) [0] rfl ?_
  exact w_J13_bitCount_95d88_48 C (v0 + (v0.toUInt64 >>> ((16 : Int32).toInt64.toUInt64 &&& Int64.toUInt64 63)).toInt64) hf
set_option maxRecDepth 100000 in
set_option maxHeartbeats 4000000 in
theorem w_J13_bitCount_95d88_34 {p : Program} {l : Launch} {e : Env} {s : State} {m : MethodId} {args : Array Value} {below : List Frame} {meth : Method} {c : Code} {D : va_G} {cc : Nat → ClassId} {N0 : Nat} {ws : va_W} {v : Int32} (C : q_C p s m args meth c cJ13_bitCount_95d88 2 (some .int) wsJ13_bitCount_95d88 RJ13 D cc N0)  (v0 : Int64) (hf : f_J13_bitCount_95d88_34  v0 = v) : q_WA p l e (q_rm 0 0 0 0) s m args below meth c D N0 2 (MQ below (q_Q D N0 (q_p (some (.int v)) ws)) args s 0 0 (q_A N0)) 0 0 ws 34 [(0, .long v0)] [] := by
  refine q_lload_n (pc := 34) C dJ13_bitCount_95d88_34 rfl 0 rfl ?_
  refine q_lload_n (pc := 35) C dJ13_bitCount_95d88_35 rfl 0 rfl ?_
  refine q_bipush (pc := 36) C (8 : Int32) dJ13_bitCount_95d88_36 q_cb_8 ?_
  refine q_lushr (pc := 38) C dJ13_bitCount_95d88_38 rfl ?_
  refine q_ladd (pc := 39) C dJ13_bitCount_95d88_39 ?_
  refine q_lstore_n (pc := 40) (lvq := [(0, .long (v0 + (v0.toUInt64 >>> ((8 : Int32).toInt64.toUInt64 &&& Int64.toUInt64 63)).toInt64))]) C dJ13_bitCount_95d88_40 rfl (by decide) rfl ?_
  refine q_sub (lvq := [(0, .long (v0 + (v0.toUInt64 >>> ((8 : Int32).toInt64.toUInt64 &&& Int64.toUInt64 63)).toInt64))]) [0] rfl ?_
  exact w_J13_bitCount_95d88_41 C (v0 + (v0.toUInt64 >>> ((8 : Int32).toInt64.toUInt64 &&& Int64.toUInt64 63)).toInt64) hf
set_option maxRecDepth 100000 in
set_option maxHeartbeats 4000000 in
theorem w_J13_bitCount_95d88_24 {p : Program} {l : Launch} {e : Env} {s : State} {m : MethodId} {args : Array Value} {below : List Frame} {meth : Method} {c : Code} {D : va_G} {cc : Nat → ClassId} {N0 : Nat} {ws : va_W} {v : Int32} (C : q_C p s m args meth c cJ13_bitCount_95d88 2 (some .int) wsJ13_bitCount_95d88 RJ13 D cc N0)  (v0 : Int64) (hf : f_J13_bitCount_95d88_24  v0 = v) : q_WA p l e (q_rm 0 0 0 0) s m args below meth c D N0 2 (MQ below (q_Q D N0 (q_p (some (.int v)) ws)) args s 0 0 (q_A N0)) 0 0 ws 24 [(0, .long v0)] [] := by
  refine q_lload_n (pc := 24) C dJ13_bitCount_95d88_24 rfl 0 rfl ?_
  refine q_lload_n (pc := 25) C dJ13_bitCount_95d88_25 rfl 0 rfl ?_
  refine q_iconst (pc := 26) C (4 : Int32) dJ13_bitCount_95d88_26 q_ci_4 ?_
  refine q_lushr (pc := 27) C dJ13_bitCount_95d88_27 rfl ?_
  refine q_ladd (pc := 28) C dJ13_bitCount_95d88_28 ?_
  refine q_ldc2 (pc := 29) (v := (1085102592571150095 : Int64)) C (List.mem_of_getElem? (i := 3) rfl) dJ13_bitCount_95d88_29 ?_
  refine q_land (pc := 32) C dJ13_bitCount_95d88_32 ?_
  refine q_lstore_n (pc := 33) (lvq := [(0, .long ((v0 + (v0.toUInt64 >>> ((4 : Int32).toInt64.toUInt64 &&& Int64.toUInt64 63)).toInt64) &&& (1085102592571150095 : Int64)))]) C dJ13_bitCount_95d88_33 rfl (by decide) rfl ?_
  refine q_sub (lvq := [(0, .long ((v0 + (v0.toUInt64 >>> ((4 : Int32).toInt64.toUInt64 &&& Int64.toUInt64 63)).toInt64) &&& (1085102592571150095 : Int64)))]) [0] rfl ?_
  exact w_J13_bitCount_95d88_34 C ((v0 + (v0.toUInt64 >>> ((4 : Int32).toInt64.toUInt64 &&& Int64.toUInt64 63)).toInt64) &&& (1085102592571150095 : Int64)) hf
set_option maxRecDepth 100000 in
set_option maxHeartbeats 4000000 in
theorem w_J13_bitCount_95d88_10 {p : Program} {l : Launch} {e : Env} {s : State} {m : MethodId} {args : Array Value} {below : List Frame} {meth : Method} {c : Code} {D : va_G} {cc : Nat → ClassId} {N0 : Nat} {ws : va_W} {v : Int32} (C : q_C p s m args meth c cJ13_bitCount_95d88 2 (some .int) wsJ13_bitCount_95d88 RJ13 D cc N0)  (v0 : Int64) (hf : f_J13_bitCount_95d88_10  v0 = v) : q_WA p l e (q_rm 0 0 0 0) s m args below meth c D N0 2 (MQ below (q_Q D N0 (q_p (some (.int v)) ws)) args s 0 0 (q_A N0)) 0 0 ws 10 [(0, .long v0)] [] := by
  refine q_lload_n (pc := 10) C dJ13_bitCount_95d88_10 rfl 0 rfl ?_
  refine q_ldc2 (pc := 11) (v := (3689348814741910323 : Int64)) C (List.mem_of_getElem? (i := 2) rfl) dJ13_bitCount_95d88_11 ?_
  refine q_land (pc := 14) C dJ13_bitCount_95d88_14 ?_
  refine q_lload_n (pc := 15) C dJ13_bitCount_95d88_15 rfl 0 rfl ?_
  refine q_iconst (pc := 16) C (2 : Int32) dJ13_bitCount_95d88_16 q_ci_2 ?_
  refine q_lushr (pc := 17) C dJ13_bitCount_95d88_17 rfl ?_
  refine q_ldc2 (pc := 18) (v := (3689348814741910323 : Int64)) C (List.mem_of_getElem? (i := 2) rfl) dJ13_bitCount_95d88_18 ?_
  refine q_land (pc := 21) C dJ13_bitCount_95d88_21 ?_
  refine q_ladd (pc := 22) C dJ13_bitCount_95d88_22 ?_
  refine q_lstore_n (pc := 23) (lvq := [(0, .long ((v0 &&& (3689348814741910323 : Int64)) + ((v0.toUInt64 >>> ((2 : Int32).toInt64.toUInt64 &&& Int64.toUInt64 63)).toInt64 &&& (3689348814741910323 : Int64))))]) C dJ13_bitCount_95d88_23 rfl (by decide) rfl ?_
  refine q_sub (lvq := [(0, .long ((v0 &&& (3689348814741910323 : Int64)) + ((v0.toUInt64 >>> ((2 : Int32).toInt64.toUInt64 &&& Int64.toUInt64 63)).toInt64 &&& (3689348814741910323 : Int64))))]) [0] rfl ?_
  exact w_J13_bitCount_95d88_24 C ((v0 &&& (3689348814741910323 : Int64)) + ((v0.toUInt64 >>> ((2 : Int32).toInt64.toUInt64 &&& Int64.toUInt64 63)).toInt64 &&& (3689348814741910323 : Int64))) hf
set_option maxRecDepth 100000 in
set_option maxHeartbeats 4000000 in
theorem c_J13_bitCount_95d88 (l : Launch) (D : va_G) (cc : Nat → ClassId) (N0 : Nat) (ws : va_W) (a1 : Int64) (v : Int32) (hf : f_J13_bitCount_95d88 a1 = v) : q_Met l yJ13_bitCount_95d88 wsJ13_bitCount_95d88 0 0 D cc N0 ws [.long a1] (q_p (some (.int v)) ws) 0 0 := by
  refine q_ofW (code := cJ13_bitCount_95d88) (nL := 2) (ret := (some .int)) (by decide +kernel) rfl (Nat.le_of_ble_eq_true rfl) (fun p e s m below meth c C _ => ?_)
  refine q_lv (lv2 := [(0, .long a1)]) rfl ?_
  refine q_lload_n (pc := 0) C dJ13_bitCount_95d88_0 rfl 0 rfl ?_
  refine q_lload_n (pc := 1) C dJ13_bitCount_95d88_1 rfl 0 rfl ?_
  refine q_iconst (pc := 2) C (1 : Int32) dJ13_bitCount_95d88_2 q_ci_1 ?_
  refine q_lushr (pc := 3) C dJ13_bitCount_95d88_3 rfl ?_
  refine q_ldc2 (pc := 4) (v := (6148914691236517205 : Int64)) C (List.mem_of_getElem? (i := 1) rfl) dJ13_bitCount_95d88_4 ?_
  refine q_land (pc := 7) C dJ13_bitCount_95d88_7 ?_
  refine q_lsub (pc := 8) C dJ13_bitCount_95d88_8 ?_
  refine q_lstore_n (pc := 9) (lvq := [(0, .long (a1 - ((a1.toUInt64 >>> ((1 : Int32).toInt64.toUInt64 &&& Int64.toUInt64 63)).toInt64 &&& (6148914691236517205 : Int64))))]) C dJ13_bitCount_95d88_9 rfl (by decide) rfl ?_
  refine q_sub (lvq := [(0, .long (a1 - ((a1.toUInt64 >>> ((1 : Int32).toInt64.toUInt64 &&& Int64.toUInt64 63)).toInt64 &&& (6148914691236517205 : Int64))))]) [0] rfl ?_
  exact w_J13_bitCount_95d88_10 C (a1 - ((a1.toUInt64 >>> ((1 : Int32).toInt64.toUInt64 &&& Int64.toUInt64 63)).toInt64 &&& (6148914691236517205 : Int64))) hf
theorem z_J13_bitCount_95d88 : q_dsc yJ13_bitCount_95d88 1 := ⟨by decide +kernel, by decide +kernel, by decide +kernel⟩
