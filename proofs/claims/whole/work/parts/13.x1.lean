def f_X8_hasBit (a1 : Int32) (a2 : Int32) : Bool := (if ((a1 >>> (a2 &&& 31)) &&& (1 : Int32)) = 0 then false else true)
set_option maxRecDepth 100000 in
set_option maxHeartbeats 4000000 in
theorem c_X8_hasBit (l : Launch) (D : va_G) (cc : Nat → ClassId) (N0 : Nat) (ws : va_W) (a1 : Int32) (a2 : Int32) (v : Bool) (hf : f_X8_hasBit a1 a2 = v) : q_Met l yX8_hasBit wsX8_hasBit 0 0 D cc N0 ws [.int a1, .int a2] (q_p (some (.int (q_b v))) ws) 0 0 := by
  refine q_ofW (code := cX8_hasBit) (nL := 2) (ret := (some .boolean)) (by decide +kernel) rfl (Nat.le_of_ble_eq_true rfl) (fun p e s m below meth c C _ => ?_)
  refine q_lv (lv2 := [(0, .int a1), (1, .int a2)]) rfl ?_
  refine q_iload_n (pc := 0) C dX8_hasBit_0 rfl 0 rfl ?_
  refine q_iload_n (pc := 1) C dX8_hasBit_1 rfl 1 rfl ?_
  refine q_ishr (pc := 2) C dX8_hasBit_2 ?_
  refine q_iconst (pc := 3) C (1 : Int32) dX8_hasBit_3 q_ci_1 ?_
  refine q_iand (pc := 4) C dX8_hasBit_4 ?_
  refine q_if_eq (pc := 5) (tgt := 12) C dX8_hasBit_5 (by decide) (fun c1 => ?_) (fun c1 => ?_)
  · have hf := q_iteT hf c1
    refine q_iconst (pc := 12) C (0 : Int32) dX8_hasBit_12 q_ci_0 ?_
    obtain rfl := hf
    exact q_zret (pc := 13) C (by decide +kernel) dX8_hasBit_13 ⟨rfl, rfl⟩
  · have hf := q_iteF hf c1
    refine q_iconst (pc := 8) C (1 : Int32) dX8_hasBit_8 q_ci_1 ?_
    refine q_goto (pc := 9) (tgt := 13) C dX8_hasBit_9 (by decide) ?_
    obtain rfl := hf
    exact q_zret (pc := 13) C (by decide +kernel) dX8_hasBit_13 ⟨rfl, rfl⟩
theorem z_X8_hasBit : q_dsc yX8_hasBit 2 := ⟨by decide +kernel, by decide +kernel, by decide +kernel⟩
def f_X8_lowestBit_2b (k2 : Int32 → Int32 → Option Int32) (v0 : Int32) (v1 : Int32) : Option Int32 := (if (32 : Int32) ≤ v1 then some (-1 : Int32) else (if (q_b (f_X8_hasBit v0 v1)) = 0 then k2 v0 (v1 + (1 : Int32)) else some v1))
def f_X8_lowestBit_2 : Nat → Int32 → Int32 → Option Int32
  | 0, _, _ => none
  | n + 1, v0, v1 => f_X8_lowestBit_2b  (f_X8_lowestBit_2  n) v0 v1
def f_X8_lowestBit (a1 : Int32) : Option Int32 := f_X8_lowestBit_2 1000 a1 (0 : Int32)
set_option maxRecDepth 100000 in
set_option maxHeartbeats 4000000 in
theorem w_X8_lowestBit_2 {p : Program} {l : Launch} {e : Env} {s : State} {m : MethodId} {args : Array Value} {below : List Frame} {meth : Method} {c : Code} {D : va_G} {cc : Nat → ClassId} {N0 : Nat} {ws : va_W} {v : Int32} (C : q_C p s m args meth c cX8_lowestBit 2 (some .int) wsX8_lowestBit RX8 D cc N0)  : ∀ (n : Nat) (v0 : Int32) (v1 : Int32), f_X8_lowestBit_2  n v0 v1 = some v → q_WA p l e (q_rm 1 21 0 0) s m args below meth c D N0 2 (MQ below (q_Q D N0 (q_p (some (.int v)) ws)) args s 0 0 (q_A N0)) 0 0 ws 2 [(0, .int v0), (1, .int v1)] [] := by
  intro n
  induction n with
  | zero => intro v0 v1 hf; cases hf
  | succ n ih =>
    intro v0 v1 hf
    have hk2 : ∀ (v0 : Int32) (v1 : Int32), f_X8_lowestBit_2  n v0 v1 = some v → q_WA p l e (q_rm 1 21 0 0) s m args below meth c D N0 2 (MQ below (q_Q D N0 (q_p (some (.int v)) ws)) args s 0 0 (q_A N0)) 0 0 ws 2 [(0, .int v0), (1, .int v1)] [] := ih
    have hf : f_X8_lowestBit_2b  (f_X8_lowestBit_2  n) v0 v1 = some v := hf
    refine q_iload_n (pc := 2) C dX8_lowestBit_2 rfl 1 rfl ?_
    refine q_bipush (pc := 3) C (32 : Int32) dX8_lowestBit_3 q_cb_32 ?_
    refine q_icmp_ge (pc := 5) (tgt := 24) C dX8_lowestBit_5 (by decide) (fun c1 => ?_) (fun c1 => ?_)
    · have hf := q_iteT hf c1
      refine q_iconst (pc := 24) C (-1 : Int32) dX8_lowestBit_24 q_ci_m1 ?_
      obtain rfl := q_some hf
      exact q_iret (pc := 25) C dX8_lowestBit_25 ⟨rfl, rfl⟩
    · have hf := q_iteF hf c1
      refine q_iload_n (pc := 8) C dX8_lowestBit_8 rfl 0 rfl ?_
      refine q_iload_n (pc := 9) C dX8_lowestBit_9 rfl 1 rfl ?_
      refine q_callS (pc := 10) (As := [.int v0, .int v1]) (rest := []) C (c_X8_hasBit l D cc N0 ws v0 v1 _ rfl) gX8_lowestBit_X8_hasBit rfl z_X8_hasBit ⟨Nat.le_of_ble_eq_true rfl, Nat.le_of_ble_eq_true rfl⟩ rfl rfl (Nat.le_of_ble_eq_true rfl) dX8_lowestBit_10 ⟨Nat.le_of_ble_eq_true rfl, Nat.le_of_ble_eq_true rfl⟩ ?_
      refine q_after (rv := (some (.int (q_b (f_X8_hasBit v0 v1))))) (w0 := ws) (st2 := [.int (q_b (f_X8_hasBit v0 v1))]) rfl rfl rfl ?_
      refine q_if_eq (pc := 13) (tgt := 18) C dX8_lowestBit_13 (by decide) (fun c2 => ?_) (fun c2 => ?_)
      · have hf := q_iteT hf c2
        refine q_iinc (pc := 18) (lvq := [(1, .int (v1 + (1 : Int32))), (0, .int v0)]) C (v1 + (1 : Int32)) dX8_lowestBit_18 1 rfl q_ca_1 (by decide) rfl ?_
        refine q_goto (pc := 21) (tgt := 2) C dX8_lowestBit_21 (by decide) ?_
        refine q_sub (lvq := [(0, .int v0), (1, .int (v1 + (1 : Int32)))]) [1, 0] rfl ?_
        exact hk2 v0 (v1 + (1 : Int32)) hf
      · have hf := q_iteF hf c2
        refine q_iload_n (pc := 16) C dX8_lowestBit_16 rfl 1 rfl ?_
        obtain rfl := q_some hf
        exact q_iret (pc := 17) C dX8_lowestBit_17 ⟨rfl, rfl⟩
set_option maxRecDepth 100000 in
set_option maxHeartbeats 4000000 in
theorem c_X8_lowestBit (l : Launch) (D : va_G) (cc : Nat → ClassId) (N0 : Nat) (ws : va_W) (a1 : Int32) (v : Int32) (hf : f_X8_lowestBit a1 = some v) : q_Met l yX8_lowestBit wsX8_lowestBit 1 21 D cc N0 ws [.int a1] (q_p (some (.int v)) ws) 0 0 := by
  refine q_ofW (code := cX8_lowestBit) (nL := 2) (ret := (some .int)) (by decide +kernel) rfl (Nat.le_of_ble_eq_true rfl) (fun p e s m below meth c C _ => ?_)
  refine q_lv (lv2 := [(0, .int a1)]) rfl ?_
  refine q_iconst (pc := 0) C (0 : Int32) dX8_lowestBit_0 q_ci_0 ?_
  refine q_istore_n (pc := 1) (lvq := [(1, .int (0 : Int32)), (0, .int a1)]) C dX8_lowestBit_1 rfl (by decide) rfl ?_
  refine q_sub (lvq := [(0, .int a1), (1, .int (0 : Int32))]) [1, 0] rfl ?_
  exact w_X8_lowestBit_2 C 1000 a1 (0 : Int32) hf
theorem z_X8_lowestBit : q_dsc yX8_lowestBit 1 := ⟨by decide +kernel, by decide +kernel, by decide +kernel⟩
def f_X8_isWord (a1 : Int32) (a2 : Int32) : Bool := (if a1 < 0 then false else (if (8 : Int32) < a1 then false else (if (a2 >>> (a1 &&& 31)) = 0 then true else false)))
set_option maxRecDepth 100000 in
set_option maxHeartbeats 4000000 in
theorem c_X8_isWord (l : Launch) (D : va_G) (cc : Nat → ClassId) (N0 : Nat) (ws : va_W) (a1 : Int32) (a2 : Int32) (v : Bool) (hf : f_X8_isWord a1 a2 = v) : q_Met l yX8_isWord wsX8_isWord 0 0 D cc N0 ws [.int a1, .int a2] (q_p (some (.int (q_b v))) ws) 0 0 := by
  refine q_ofW (code := cX8_isWord) (nL := 2) (ret := (some .boolean)) (by decide +kernel) rfl (Nat.le_of_ble_eq_true rfl) (fun p e s m below meth c C _ => ?_)
  refine q_lv (lv2 := [(0, .int a1), (1, .int a2)]) rfl ?_
  refine q_iload_n (pc := 0) C dX8_isWord_0 rfl 0 rfl ?_
  refine q_if_lt (pc := 1) (tgt := 20) C dX8_isWord_1 (by decide) (fun c1 => ?_) (fun c1 => ?_)
  · have hf := q_iteT hf c1
    refine q_iconst (pc := 20) C (0 : Int32) dX8_isWord_20 q_ci_0 ?_
    obtain rfl := hf
    exact q_zret (pc := 21) C (by decide +kernel) dX8_isWord_21 ⟨rfl, rfl⟩
  · have hf := q_iteF hf c1
    refine q_iload_n (pc := 4) C dX8_isWord_4 rfl 0 rfl ?_
    refine q_bipush (pc := 5) C (8 : Int32) dX8_isWord_5 q_cb_8 ?_
    refine q_icmp_gt (pc := 7) (tgt := 20) C dX8_isWord_7 (by decide) (fun c2 => ?_) (fun c2 => ?_)
    · have hf := q_iteT hf c2
      refine q_iconst (pc := 20) C (0 : Int32) dX8_isWord_20 q_ci_0 ?_
      obtain rfl := hf
      exact q_zret (pc := 21) C (by decide +kernel) dX8_isWord_21 ⟨rfl, rfl⟩
    · have hf := q_iteF hf c2
      refine q_iload_n (pc := 10) C dX8_isWord_10 rfl 1 rfl ?_
      refine q_iload_n (pc := 11) C dX8_isWord_11 rfl 0 rfl ?_
      refine q_ishr (pc := 12) C dX8_isWord_12 ?_
      refine q_if_ne (pc := 13) (tgt := 20) C dX8_isWord_13 (by decide) (fun c3 => ?_) (fun c3 => ?_)
      · have hf := q_iteF hf c3
        refine q_iconst (pc := 20) C (0 : Int32) dX8_isWord_20 q_ci_0 ?_
        obtain rfl := hf
        exact q_zret (pc := 21) C (by decide +kernel) dX8_isWord_21 ⟨rfl, rfl⟩
      · have hf := q_iteT hf c3
        refine q_iconst (pc := 16) C (1 : Int32) dX8_isWord_16 q_ci_1 ?_
        refine q_goto (pc := 17) (tgt := 21) C dX8_isWord_17 (by decide) ?_
        obtain rfl := hf
        exact q_zret (pc := 21) C (by decide +kernel) dX8_isWord_21 ⟨rfl, rfl⟩
theorem z_X8_isWord : q_dsc yX8_isWord 2 := ⟨by decide +kernel, by decide +kernel, by decide +kernel⟩
theorem n_X1_startAnew_X1 : ∀ w ∈ wsX10, w ∈ wsX1_startAnew := fun _ h => (List.mem_cons_of_mem _ (List.mem_append_right _ h))
def f_X1_startAnew_12b (k12 : Int32 → CS → Option CS) (v2 : Int32) (S : CS) : Option CS := (if (6 : Int32) ≤ v2 then some S else k12 (v2 + (1 : Int32)) (cfun S 11 (q_pu 6 (S.1 11) v2 (0 : Int32))))
def f_X1_startAnew_12 : Nat → Int32 → CS → Option CS
  | 0, _, _ => none
  | n + 1, v2, S => f_X1_startAnew_12b  (f_X1_startAnew_12  n) v2 S
def f_X1_startAnew (a1 : Int32) (S : CS) : Option CS := f_X1_startAnew_12 1000 (0 : Int32) (cset (cset S 2 2 a1) 2 3 (0 : Int32))
set_option maxRecDepth 100000 in
set_option maxHeartbeats 4000000 in
theorem w_X1_startAnew_12 {p : Program} {l : Launch} {e : Env} {s : State} {m : MethodId} {args : Array Value} {below : List Frame} {meth : Method} {c : Code} {D : va_G} {cc : Nat → ClassId} {N0 : Nat} {g : Nat → Nat} {E : va_W} {v : CS} (C : q_C p s m args meth c cX1_startAnew 3 none wsX1_startAnew RX1 D cc N0)  : ∀ (n : Nat) (v2 : Int32) (S : CS), f_X1_startAnew_12  n v2 S = some v → q_WA p l e (q_rm 1 22 0 0) s m args below meth c D N0 3 (MQ below (q_Q D N0 (q_p (none) (cw cc g v ++ E))) args s 0 0 (q_A N0)) 0 0 (cw cc g S ++ E) 12 [(0, .ref (g 2)), (2, .int v2)] [] := by
  intro n
  induction n with
  | zero => intro v2 S hf; cases hf
  | succ n ih =>
    intro v2 S hf
    have hk12 : ∀ (v2 : Int32) (S : CS), f_X1_startAnew_12  n v2 S = some v → q_WA p l e (q_rm 1 22 0 0) s m args below meth c D N0 3 (MQ below (q_Q D N0 (q_p (none) (cw cc g v ++ E))) args s 0 0 (q_A N0)) 0 0 (cw cc g S ++ E) 12 [(0, .ref (g 2)), (2, .int v2)] [] := ih
    have hf : f_X1_startAnew_12b  (f_X1_startAnew_12  n) v2 S = some v := hf
    refine q_iload_n (pc := 12) C dX1_startAnew_12 rfl 1 rfl ?_
    refine q_bipush (pc := 13) C (6 : Int32) dX1_startAnew_13 q_cb_6 ?_
    refine q_icmp_ge (pc := 15) (tgt := 33) C dX1_startAnew_15 (by decide) (fun c1 => ?_) (fun c1 => ?_)
    · have hf := q_iteT hf c1
      obtain rfl := q_some hf
      exact q_vret (pc := 33) C dX1_startAnew_33 ⟨rfl, rfl⟩
    · have hf := q_iteF hf c1
      refine q_aload_n (pc := 18) C dX1_startAnew_18 rfl 0 rfl ?_
      refine r_g_2_1 (pc := 19) C n_X1_startAnew_X1 (List.mem_of_getElem? (i := 3) rfl) dX1_startAnew_19 ?_
      refine q_iload_n (pc := 22) C dX1_startAnew_22 rfl 1 rfl ?_
      refine q_iconst (pc := 23) C (0 : Int32) dX1_startAnew_23 q_ci_0 ?_
      refine q_callSN (pc := 24) (host := "Queryschool") (As := [.ref (g 11), .int v2, .int (0 : Int32)]) (rest := []) C (c_X8_put l D cc N0 (cw cc g S ++ E) 11 (g 11) 6 (S.1 11) (by decide) (cw_at_11 cc g E S) v2 (0 : Int32)) gX1_startAnew_X8_put_n25 rfl (List.mem_of_getElem? (i := 15) rfl) (List.mem_of_getElem? (i := 5) rfl) (List.mem_of_getElem? (i := 4) rfl) z_X8_put ⟨Nat.le_of_ble_eq_true rfl, Nat.le_of_ble_eq_true rfl⟩ rfl rfl (Nat.le_of_ble_eq_true rfl) dX1_startAnew_24 ⟨Nat.le_of_ble_eq_true rfl, Nat.le_of_ble_eq_true rfl⟩ ?_
      refine q_after (rv := none) (w0 := (cw cc g (cfun S 11 (q_pu 6 (S.1 11) v2 (0 : Int32))) ++ E)) (st2 := []) (cw_fun_11 cc g E _ _) rfl rfl ?_
      refine q_iinc (pc := 27) (lvq := [(2, .int (v2 + (1 : Int32))), (0, .ref (g 2))]) C (v2 + (1 : Int32)) dX1_startAnew_27 1 rfl q_ca_1 (by decide) rfl ?_
      refine q_goto (pc := 30) (tgt := 12) C dX1_startAnew_30 (by decide) ?_
      refine q_sub (lvq := [(0, .ref (g 2)), (2, .int (v2 + (1 : Int32)))]) [1, 0] rfl ?_
      exact hk12 (v2 + (1 : Int32)) (cfun S 11 (q_pu 6 (S.1 11) v2 (0 : Int32))) hf
set_option maxRecDepth 100000 in
set_option maxHeartbeats 4000000 in
theorem c_X1_startAnew (l : Launch) (D : va_G) (cc : Nat → ClassId) (N0 : Nat) (g : Nat → Nat) (E : va_W) (S : CS) (a1 : Int32) (v : CS) (hf : f_X1_startAnew a1 S = some v) : q_Met l yX1_startAnew wsX1_startAnew 1 22 D cc N0 (cw cc g S ++ E) [.ref (g 2), .int a1] (q_p (none) (cw cc g v ++ E)) 0 0 := by
  refine q_ofW (code := cX1_startAnew) (nL := 3) (ret := none) (by decide +kernel) rfl (Nat.le_of_ble_eq_true rfl) (fun p e s m below meth c C _ => ?_)
  refine q_lv (lv2 := [(0, .ref (g 2)), (1, .int a1)]) rfl ?_
  refine q_aload_n (pc := 0) C dX1_startAnew_0 rfl 0 rfl ?_
  refine q_iload_n (pc := 1) C dX1_startAnew_1 rfl 1 rfl ?_
  refine r_p_2_2 (pc := 2) C n_X1_startAnew_X1 (List.mem_of_getElem? (i := 1) rfl) dX1_startAnew_2 ?_
  refine q_aload_n (pc := 5) C dX1_startAnew_5 rfl 0 rfl ?_
  refine q_iconst (pc := 6) C (0 : Int32) dX1_startAnew_6 q_ci_0 ?_
  refine r_p_2_3 (pc := 7) C n_X1_startAnew_X1 (List.mem_of_getElem? (i := 2) rfl) dX1_startAnew_7 ?_
  refine q_iconst (pc := 10) C (0 : Int32) dX1_startAnew_10 q_ci_0 ?_
  refine q_istore_n (pc := 11) (lvq := [(2, .int (0 : Int32)), (0, .ref (g 2)), (1, .int a1)]) C dX1_startAnew_11 rfl (by decide) rfl ?_
  refine q_sub (lvq := [(0, .ref (g 2)), (2, .int (0 : Int32))]) [1, 0] rfl ?_
  exact w_X1_startAnew_12 C 1000 (0 : Int32) (cset (cset S 2 2 a1) 2 3 (0 : Int32)) hf
theorem z_X1_startAnew : q_dsc yX1_startAnew 1 := ⟨by decide +kernel, by decide +kernel, by decide +kernel⟩
theorem n_X1_isPoint_X1 : ∀ w ∈ wsX10, w ∈ wsX1_isPoint := fun _ h => (List.mem_cons_of_mem _ (List.mem_append_right _ h))
def f_X1_isPoint (S : CS) (a1 : Int32) : Bool := (if a1 < 0 then false else (if (S.1 2 2) ≤ a1 then false else true))
set_option maxRecDepth 100000 in
set_option maxHeartbeats 4000000 in
theorem c_X1_isPoint (l : Launch) (D : va_G) (cc : Nat → ClassId) (N0 : Nat) (g : Nat → Nat) (E : va_W) (S : CS) (a1 : Int32) (v : Bool) (hf : f_X1_isPoint S a1 = v) : q_Met l yX1_isPoint wsX1_isPoint 0 0 D cc N0 (cw cc g S ++ E) [.ref (g 2), .int a1] (q_p (some (.int (q_b v))) (cw cc g S ++ E)) 0 0 := by
  refine q_ofW (code := cX1_isPoint) (nL := 2) (ret := (some .boolean)) (by decide +kernel) rfl (Nat.le_of_ble_eq_true rfl) (fun p e s m below meth c C _ => ?_)
  refine q_lv (lv2 := [(0, .ref (g 2)), (1, .int a1)]) rfl ?_
  refine q_iload_n (pc := 0) C dX1_isPoint_0 rfl 1 rfl ?_
  refine q_if_lt (pc := 1) (tgt := 16) C dX1_isPoint_1 (by decide) (fun c1 => ?_) (fun c1 => ?_)
  · have hf := q_iteT hf c1
    refine q_iconst (pc := 16) C (0 : Int32) dX1_isPoint_16 q_ci_0 ?_
    obtain rfl := hf
    exact q_zret (pc := 17) C (by decide +kernel) dX1_isPoint_17 ⟨rfl, rfl⟩
  · have hf := q_iteF hf c1
    refine q_iload_n (pc := 4) C dX1_isPoint_4 rfl 1 rfl ?_
    refine q_aload_n (pc := 5) C dX1_isPoint_5 rfl 0 rfl ?_
    refine r_g_2_2 (pc := 6) C n_X1_isPoint_X1 (List.mem_of_getElem? (i := 1) rfl) dX1_isPoint_6 ?_
    refine q_icmp_ge (pc := 9) (tgt := 16) C dX1_isPoint_9 (by decide) (fun c2 => ?_) (fun c2 => ?_)
    · have hf := q_iteT hf c2
      refine q_iconst (pc := 16) C (0 : Int32) dX1_isPoint_16 q_ci_0 ?_
      obtain rfl := hf
      exact q_zret (pc := 17) C (by decide +kernel) dX1_isPoint_17 ⟨rfl, rfl⟩
    · have hf := q_iteF hf c2
      refine q_iconst (pc := 12) C (1 : Int32) dX1_isPoint_12 q_ci_1 ?_
      refine q_goto (pc := 13) (tgt := 17) C dX1_isPoint_13 (by decide) ?_
      obtain rfl := hf
      exact q_zret (pc := 17) C (by decide +kernel) dX1_isPoint_17 ⟨rfl, rfl⟩
theorem z_X1_isPoint : q_dsc yX1_isPoint 1 := ⟨by decide +kernel, by decide +kernel, by decide +kernel⟩
theorem n_X1_isSet_X1 : ∀ w ∈ wsX10, w ∈ wsX1_isSet := fun _ h => (List.mem_cons_of_mem _ (List.mem_append_right _ h))
def f_X1_isSet (S : CS) (a1 : Int32) : Bool := (if (a1 >>> ((S.1 2 2) &&& 31)) = 0 then true else false)
set_option maxRecDepth 100000 in
set_option maxHeartbeats 4000000 in
theorem c_X1_isSet (l : Launch) (D : va_G) (cc : Nat → ClassId) (N0 : Nat) (g : Nat → Nat) (E : va_W) (S : CS) (a1 : Int32) (v : Bool) (hf : f_X1_isSet S a1 = v) : q_Met l yX1_isSet wsX1_isSet 0 0 D cc N0 (cw cc g S ++ E) [.ref (g 2), .int a1] (q_p (some (.int (q_b v))) (cw cc g S ++ E)) 0 0 := by
  refine q_ofW (code := cX1_isSet) (nL := 2) (ret := (some .boolean)) (by decide +kernel) rfl (Nat.le_of_ble_eq_true rfl) (fun p e s m below meth c C _ => ?_)
  refine q_lv (lv2 := [(0, .ref (g 2)), (1, .int a1)]) rfl ?_
  refine q_iload_n (pc := 0) C dX1_isSet_0 rfl 1 rfl ?_
  refine q_aload_n (pc := 1) C dX1_isSet_1 rfl 0 rfl ?_
  refine r_g_2_2 (pc := 2) C n_X1_isSet_X1 (List.mem_of_getElem? (i := 1) rfl) dX1_isSet_2 ?_
  refine q_ishr (pc := 5) C dX1_isSet_5 ?_
  refine q_if_ne (pc := 6) (tgt := 13) C dX1_isSet_6 (by decide) (fun c1 => ?_) (fun c1 => ?_)
  · have hf := q_iteF hf c1
    refine q_iconst (pc := 13) C (0 : Int32) dX1_isSet_13 q_ci_0 ?_
    obtain rfl := hf
    exact q_zret (pc := 14) C (by decide +kernel) dX1_isSet_14 ⟨rfl, rfl⟩
  · have hf := q_iteT hf c1
    refine q_iconst (pc := 9) C (1 : Int32) dX1_isSet_9 q_ci_1 ?_
    refine q_goto (pc := 10) (tgt := 14) C dX1_isSet_10 (by decide) ?_
    obtain rfl := hf
    exact q_zret (pc := 14) C (by decide +kernel) dX1_isSet_14 ⟨rfl, rfl⟩
theorem z_X1_isSet : q_dsc yX1_isSet 1 := ⟨by decide +kernel, by decide +kernel, by decide +kernel⟩
theorem n_X1_isNumber_X1 : ∀ w ∈ wsX10, w ∈ wsX1_isNumber := fun _ h => (List.mem_cons_of_mem _ (List.mem_append_right _ h))
def f_X1_isNumber (S : CS) (a1 : Int32) : Bool := (if a1 < 0 then false else (if (S.1 2 3) ≤ a1 then false else true))
set_option maxRecDepth 100000 in
set_option maxHeartbeats 4000000 in
theorem c_X1_isNumber (l : Launch) (D : va_G) (cc : Nat → ClassId) (N0 : Nat) (g : Nat → Nat) (E : va_W) (S : CS) (a1 : Int32) (v : Bool) (hf : f_X1_isNumber S a1 = v) : q_Met l yX1_isNumber wsX1_isNumber 0 0 D cc N0 (cw cc g S ++ E) [.ref (g 2), .int a1] (q_p (some (.int (q_b v))) (cw cc g S ++ E)) 0 0 := by
  refine q_ofW (code := cX1_isNumber) (nL := 2) (ret := (some .boolean)) (by decide +kernel) rfl (Nat.le_of_ble_eq_true rfl) (fun p e s m below meth c C _ => ?_)
  refine q_lv (lv2 := [(0, .ref (g 2)), (1, .int a1)]) rfl ?_
  refine q_iload_n (pc := 0) C dX1_isNumber_0 rfl 1 rfl ?_
  refine q_if_lt (pc := 1) (tgt := 16) C dX1_isNumber_1 (by decide) (fun c1 => ?_) (fun c1 => ?_)
  · have hf := q_iteT hf c1
    refine q_iconst (pc := 16) C (0 : Int32) dX1_isNumber_16 q_ci_0 ?_
    obtain rfl := hf
    exact q_zret (pc := 17) C (by decide +kernel) dX1_isNumber_17 ⟨rfl, rfl⟩
  · have hf := q_iteF hf c1
    refine q_iload_n (pc := 4) C dX1_isNumber_4 rfl 1 rfl ?_
    refine q_aload_n (pc := 5) C dX1_isNumber_5 rfl 0 rfl ?_
    refine r_g_2_3 (pc := 6) C n_X1_isNumber_X1 (List.mem_of_getElem? (i := 1) rfl) dX1_isNumber_6 ?_
    refine q_icmp_ge (pc := 9) (tgt := 16) C dX1_isNumber_9 (by decide) (fun c2 => ?_) (fun c2 => ?_)
    · have hf := q_iteT hf c2
      refine q_iconst (pc := 16) C (0 : Int32) dX1_isNumber_16 q_ci_0 ?_
      obtain rfl := hf
      exact q_zret (pc := 17) C (by decide +kernel) dX1_isNumber_17 ⟨rfl, rfl⟩
    · have hf := q_iteF hf c2
      refine q_iconst (pc := 12) C (1 : Int32) dX1_isNumber_12 q_ci_1 ?_
      refine q_goto (pc := 13) (tgt := 17) C dX1_isNumber_13 (by decide) ?_
      obtain rfl := hf
      exact q_zret (pc := 17) C (by decide +kernel) dX1_isNumber_17 ⟨rfl, rfl⟩
theorem z_X1_isNumber : q_dsc yX1_isNumber 1 := ⟨by decide +kernel, by decide +kernel, by decide +kernel⟩
theorem n_X1_setAt_X1 : ∀ w ∈ wsX10, w ∈ wsX1_setAt := fun _ h => (List.mem_cons_of_mem _ (List.mem_append_right _ h))
def f_X1_setAt (S : CS) (a1 : Int32) : Int32 := (q_at 24 (S.1 10) a1)
set_option maxRecDepth 100000 in
set_option maxHeartbeats 4000000 in
theorem c_X1_setAt (l : Launch) (D : va_G) (cc : Nat → ClassId) (N0 : Nat) (g : Nat → Nat) (E : va_W) (S : CS) (a1 : Int32) (v : Int32) (hf : f_X1_setAt S a1 = v) : q_Met l yX1_setAt wsX1_setAt 1 21 D cc N0 (cw cc g S ++ E) [.ref (g 2), .int a1] (q_p (some (.int v)) (cw cc g S ++ E)) 0 0 := by
  refine q_ofW (code := cX1_setAt) (nL := 2) (ret := (some .int)) (by decide +kernel) rfl (Nat.le_of_ble_eq_true rfl) (fun p e s m below meth c C _ => ?_)
  refine q_lv (lv2 := [(0, .ref (g 2)), (1, .int a1)]) rfl ?_
  refine q_aload_n (pc := 0) C dX1_setAt_0 rfl 0 rfl ?_
  refine r_g_2_0 (pc := 1) C n_X1_setAt_X1 (List.mem_of_getElem? (i := 1) rfl) dX1_setAt_1 ?_
  refine q_iload_n (pc := 4) C dX1_setAt_4 rfl 1 rfl ?_
  refine q_callSN (pc := 5) (host := "Queryschool") (As := [.ref (g 10), .int a1]) (rest := []) C (c_X8_at l D cc N0 (cw cc g S ++ E) 10 (g 10) 24 (S.1 10) (by decide) (cw_at_10 cc g E S) a1) gX1_setAt_X8_at_n29 rfl (List.mem_of_getElem? (i := 9) rfl) (List.mem_of_getElem? (i := 3) rfl) (List.mem_of_getElem? (i := 2) rfl) z_X8_at ⟨Nat.le_of_ble_eq_true rfl, Nat.le_of_ble_eq_true rfl⟩ rfl rfl (Nat.le_of_ble_eq_true rfl) dX1_setAt_5 ⟨Nat.le_of_ble_eq_true rfl, Nat.le_of_ble_eq_true rfl⟩ ?_
  refine q_after (rv := (some (.int (q_at 24 (S.1 10) a1)))) (w0 := (cw cc g S ++ E)) (st2 := [.int (q_at 24 (S.1 10) a1)]) rfl rfl rfl ?_
  obtain rfl := hf
  exact q_iret (pc := 8) C dX1_setAt_8 ⟨rfl, rfl⟩
theorem z_X1_setAt : q_dsc yX1_setAt 1 := ⟨by decide +kernel, by decide +kernel, by decide +kernel⟩
theorem n_X1_numberOf_X1 : ∀ w ∈ wsX10, w ∈ wsX1_numberOf := fun _ h => (List.mem_cons_of_mem _ (List.mem_append_right _ h))
def f_X1_numberOf_2b (S : CS) (k2 : Int32 → Int32 → Option Int32) (v1 : Int32) (v2 : Int32) : Option Int32 := (if (S.1 2 3) ≤ v2 then some (-1 : Int32) else (if (f_X1_setAt S v2) = v1 then some v2 else k2 v1 (v2 + (1 : Int32))))
def f_X1_numberOf_2 (S : CS) : Nat → Int32 → Int32 → Option Int32
  | 0, _, _ => none
  | n + 1, v1, v2 => f_X1_numberOf_2b S (f_X1_numberOf_2 S n) v1 v2
def f_X1_numberOf (S : CS) (a1 : Int32) : Option Int32 := f_X1_numberOf_2 S 1000 a1 (0 : Int32)
set_option maxRecDepth 100000 in
set_option maxHeartbeats 4000000 in
theorem w_X1_numberOf_2 {p : Program} {l : Launch} {e : Env} {s : State} {m : MethodId} {args : Array Value} {below : List Frame} {meth : Method} {c : Code} {D : va_G} {cc : Nat → ClassId} {N0 : Nat} {g : Nat → Nat} {E : va_W} {S : CS} {v : Int32} (C : q_C p s m args meth c cX1_numberOf 3 (some .int) wsX1_numberOf RX1 D cc N0)  : ∀ (n : Nat) (v1 : Int32) (v2 : Int32), f_X1_numberOf_2 S n v1 v2 = some v → q_WA p l e (q_rm 2 42 0 0) s m args below meth c D N0 3 (MQ below (q_Q D N0 (q_p (some (.int v)) (cw cc g S ++ E))) args s 0 0 (q_A N0)) 0 0 (cw cc g S ++ E) 2 [(0, .ref (g 2)), (1, .int v1), (2, .int v2)] [] := by
  intro n
  induction n with
  | zero => intro v1 v2 hf; cases hf
  | succ n ih =>
    intro v1 v2 hf
    have hk2 : ∀ (v1 : Int32) (v2 : Int32), f_X1_numberOf_2 S n v1 v2 = some v → q_WA p l e (q_rm 2 42 0 0) s m args below meth c D N0 3 (MQ below (q_Q D N0 (q_p (some (.int v)) (cw cc g S ++ E))) args s 0 0 (q_A N0)) 0 0 (cw cc g S ++ E) 2 [(0, .ref (g 2)), (1, .int v1), (2, .int v2)] [] := ih
    have hf : f_X1_numberOf_2b S (f_X1_numberOf_2 S n) v1 v2 = some v := hf
    refine q_iload_n (pc := 2) C dX1_numberOf_2 rfl 2 rfl ?_
    refine q_aload_n (pc := 3) C dX1_numberOf_3 rfl 0 rfl ?_
    refine r_g_2_3 (pc := 4) C n_X1_numberOf_X1 (List.mem_of_getElem? (i := 1) rfl) dX1_numberOf_4 ?_
    refine q_icmp_ge (pc := 7) (tgt := 27) C dX1_numberOf_7 (by decide) (fun c1 => ?_) (fun c1 => ?_)
    · have hf := q_iteT hf c1
      refine q_iconst (pc := 27) C (-1 : Int32) dX1_numberOf_27 q_ci_m1 ?_
      obtain rfl := q_some hf
      exact q_iret (pc := 28) C dX1_numberOf_28 ⟨rfl, rfl⟩
    · have hf := q_iteF hf c1
      refine q_aload_n (pc := 10) C dX1_numberOf_10 rfl 0 rfl ?_
      refine q_iload_n (pc := 11) C dX1_numberOf_11 rfl 2 rfl ?_
      refine q_callV (pc := 12) (As := [.int v2]) (rest := []) C (c_X1_setAt l D cc N0 g E S v2 _ rfl) gX1_numberOf_X1_setAt rfl rfl z_X1_setAt ⟨Nat.le_of_ble_eq_true rfl, Nat.le_of_ble_eq_true rfl⟩ (cw_at_2 cc g E _) rfl rfl rfl (Nat.le_of_ble_eq_true rfl) dX1_numberOf_12 ⟨Nat.le_of_ble_eq_true rfl, Nat.le_of_ble_eq_true rfl⟩ ?_
      refine q_after (rv := (some (.int (f_X1_setAt S v2)))) (w0 := (cw cc g S ++ E)) (st2 := [.int (f_X1_setAt S v2)]) rfl rfl rfl ?_
      refine q_iload_n (pc := 15) C dX1_numberOf_15 rfl 1 rfl ?_
      refine q_icmp_ne (pc := 16) (tgt := 21) C dX1_numberOf_16 (by decide) (fun c2 => ?_) (fun c2 => ?_)
      · have hf := q_iteF hf c2
        refine q_iinc (pc := 21) (lvq := [(2, .int (v2 + (1 : Int32))), (0, .ref (g 2)), (1, .int v1)]) C (v2 + (1 : Int32)) dX1_numberOf_21 2 rfl q_ca_1 (by decide) rfl ?_
        refine q_goto (pc := 24) (tgt := 2) C dX1_numberOf_24 (by decide) ?_
        refine q_sub (lvq := [(0, .ref (g 2)), (1, .int v1), (2, .int (v2 + (1 : Int32)))]) [1, 2, 0] rfl ?_
        exact hk2 v1 (v2 + (1 : Int32)) hf
      · have hf := q_iteT hf c2
        refine q_iload_n (pc := 19) C dX1_numberOf_19 rfl 2 rfl ?_
        obtain rfl := q_some hf
        exact q_iret (pc := 20) C dX1_numberOf_20 ⟨rfl, rfl⟩
set_option maxRecDepth 100000 in
set_option maxHeartbeats 4000000 in
theorem c_X1_numberOf (l : Launch) (D : va_G) (cc : Nat → ClassId) (N0 : Nat) (g : Nat → Nat) (E : va_W) (S : CS) (a1 : Int32) (v : Int32) (hf : f_X1_numberOf S a1 = some v) : q_Met l yX1_numberOf wsX1_numberOf 2 42 D cc N0 (cw cc g S ++ E) [.ref (g 2), .int a1] (q_p (some (.int v)) (cw cc g S ++ E)) 0 0 := by
  refine q_ofW (code := cX1_numberOf) (nL := 3) (ret := (some .int)) (by decide +kernel) rfl (Nat.le_of_ble_eq_true rfl) (fun p e s m below meth c C _ => ?_)
  refine q_lv (lv2 := [(0, .ref (g 2)), (1, .int a1)]) rfl ?_
  refine q_iconst (pc := 0) C (0 : Int32) dX1_numberOf_0 q_ci_0 ?_
  refine q_istore_n (pc := 1) (lvq := [(2, .int (0 : Int32)), (0, .ref (g 2)), (1, .int a1)]) C dX1_numberOf_1 rfl (by decide) rfl ?_
  refine q_sub (lvq := [(0, .ref (g 2)), (1, .int a1), (2, .int (0 : Int32))]) [1, 2, 0] rfl ?_
  exact w_X1_numberOf_2 C 1000 a1 (0 : Int32) hf
theorem z_X1_numberOf : q_dsc yX1_numberOf 1 := ⟨by decide +kernel, by decide +kernel, by decide +kernel⟩
theorem n_X1_add_X1 : ∀ w ∈ wsX10, w ∈ wsX1_add := fun _ h => (List.mem_cons_of_mem _ (List.mem_append_right _ h))
def f_X1_add_52 (k16 : Int32 → Int32 → Int32 → CS → Option (Int32 × CS)) (v1 : Int32) (v2 : Int32) (v3 : Int32) (S : CS) : Option (Int32 × CS) := k16 v1 v2 (v3 + (1 : Int32)) S
def f_X1_add_16b (k16 : Int32 → Int32 → Int32 → CS → Option (Int32 × CS)) (v1 : Int32) (v2 : Int32) (v3 : Int32) (S : CS) : Option (Int32 × CS) := (if (S.1 2 2) ≤ v3 then some (v2, (cset S 2 3 ((S.1 2 3) + (1 : Int32)))) else (if (q_b (f_X8_hasBit v1 v3)) = 0 then f_X1_add_52 k16 v1 v2 v3 S else f_X1_add_52 k16 v1 v2 v3 (cfun S 11 (q_pu 6 (S.1 11) v3 ((q_at 6 (S.1 11) v3) ||| ((1 : Int32) <<< (v2 &&& 31)))))))
def f_X1_add_16 : Nat → Int32 → Int32 → Int32 → CS → Option (Int32 × CS)
  | 0, _, _, _, _ => none
  | n + 1, v1, v2, v3, S => f_X1_add_16b  (f_X1_add_16  n) v1 v2 v3 S
def f_X1_add (a1 : Int32) (S : CS) : Option (Int32 × CS) := f_X1_add_16 1000 a1 (S.1 2 3) (0 : Int32) (cfun S 10 (q_pu 24 (S.1 10) (S.1 2 3) a1))
set_option maxRecDepth 100000 in
set_option maxHeartbeats 4000000 in
theorem w_X1_add_52 {p : Program} {l : Launch} {e : Env} {s : State} {m : MethodId} {args : Array Value} {below : List Frame} {meth : Method} {c : Code} {D : va_G} {cc : Nat → ClassId} {N0 : Nat} {g : Nat → Nat} {E : va_W} {k16 : Int32 → Int32 → Int32 → CS → Option (Int32 × CS)} {v : (Int32 × CS)} (C : q_C p s m args meth c cX1_add 4 (some .int) wsX1_add RX1 D cc N0) (hk16 : ∀ (v1 : Int32) (v2 : Int32) (v3 : Int32) (S : CS), k16 v1 v2 v3 S = some v → q_WA p l e (q_rm 1 22 0 0) s m args below meth c D N0 4 (MQ below (q_Q D N0 (q_p (some (.int v.1)) (cw cc g v.2 ++ E))) args s 0 0 (q_A N0)) 0 0 (cw cc g S ++ E) 16 [(0, .ref (g 2)), (1, .int v1), (2, .int v2), (3, .int v3)] []) (v1 : Int32) (v2 : Int32) (v3 : Int32) (S : CS) (hf : f_X1_add_52 k16 v1 v2 v3 S = some v) : q_WA p l e (q_rm 1 22 0 0) s m args below meth c D N0 4 (MQ below (q_Q D N0 (q_p (some (.int v.1)) (cw cc g v.2 ++ E))) args s 0 0 (q_A N0)) 0 0 (cw cc g S ++ E) 52 [(0, .ref (g 2)), (1, .int v1), (2, .int v2), (3, .int v3)] [] := by
  refine q_iinc (pc := 52) (lvq := [(3, .int (v3 + (1 : Int32))), (0, .ref (g 2)), (1, .int v1), (2, .int v2)]) C (v3 + (1 : Int32)) dX1_add_52 3 rfl q_ca_1 (by decide) rfl ?_
  refine q_goto (pc := 55) (tgt := 16) C dX1_add_55 (by decide) ?_
  refine q_sub (lvq := [(0, .ref (g 2)), (1, .int v1), (2, .int v2), (3, .int (v3 + (1 : Int32)))]) [1, 2, 3, 0] rfl ?_
  exact hk16 v1 v2 (v3 + (1 : Int32)) S hf
set_option maxRecDepth 100000 in
set_option maxHeartbeats 4000000 in
theorem w_X1_add_16 {p : Program} {l : Launch} {e : Env} {s : State} {m : MethodId} {args : Array Value} {below : List Frame} {meth : Method} {c : Code} {D : va_G} {cc : Nat → ClassId} {N0 : Nat} {g : Nat → Nat} {E : va_W} {v : (Int32 × CS)} (C : q_C p s m args meth c cX1_add 4 (some .int) wsX1_add RX1 D cc N0)  : ∀ (n : Nat) (v1 : Int32) (v2 : Int32) (v3 : Int32) (S : CS), f_X1_add_16  n v1 v2 v3 S = some v → q_WA p l e (q_rm 1 22 0 0) s m args below meth c D N0 4 (MQ below (q_Q D N0 (q_p (some (.int v.1)) (cw cc g v.2 ++ E))) args s 0 0 (q_A N0)) 0 0 (cw cc g S ++ E) 16 [(0, .ref (g 2)), (1, .int v1), (2, .int v2), (3, .int v3)] [] := by
  intro n
  induction n with
  | zero => intro v1 v2 v3 S hf; cases hf
  | succ n ih =>
    intro v1 v2 v3 S hf
    have hk16 : ∀ (v1 : Int32) (v2 : Int32) (v3 : Int32) (S : CS), f_X1_add_16  n v1 v2 v3 S = some v → q_WA p l e (q_rm 1 22 0 0) s m args below meth c D N0 4 (MQ below (q_Q D N0 (q_p (some (.int v.1)) (cw cc g v.2 ++ E))) args s 0 0 (q_A N0)) 0 0 (cw cc g S ++ E) 16 [(0, .ref (g 2)), (1, .int v1), (2, .int v2), (3, .int v3)] [] := ih
    have hf : f_X1_add_16b  (f_X1_add_16  n) v1 v2 v3 S = some v := hf
    refine q_iload_n (pc := 16) C dX1_add_16 rfl 3 rfl ?_
    refine q_aload_n (pc := 17) C dX1_add_17 rfl 0 rfl ?_
    refine r_g_2_2 (pc := 18) C n_X1_add_X1 (List.mem_of_getElem? (i := 3) rfl) dX1_add_18 ?_
    refine q_icmp_ge (pc := 21) (tgt := 58) C dX1_add_21 (by decide) (fun c1 => ?_) (fun c1 => ?_)
    · have hf := q_iteT hf c1
      refine q_aload_n (pc := 58) C dX1_add_58 rfl 0 rfl ?_
      refine q_dup (pc := 59) C dX1_add_59 rfl ?_
      refine r_g_2_3 (pc := 60) C n_X1_add_X1 (List.mem_of_getElem? (i := 1) rfl) dX1_add_60 ?_
      refine q_iconst (pc := 63) C (1 : Int32) dX1_add_63 q_ci_1 ?_
      refine q_iadd (pc := 64) C dX1_add_64 ?_
      refine r_p_2_3 (pc := 65) C n_X1_add_X1 (List.mem_of_getElem? (i := 1) rfl) dX1_add_65 ?_
      refine q_iload_n (pc := 68) C dX1_add_68 rfl 2 rfl ?_
      obtain rfl := q_some hf
      exact q_iret (pc := 69) C dX1_add_69 ⟨rfl, rfl⟩
    · have hf := q_iteF hf c1
      refine q_iload_n (pc := 24) C dX1_add_24 rfl 1 rfl ?_
      refine q_iload_n (pc := 25) C dX1_add_25 rfl 3 rfl ?_
      refine q_callSN (pc := 26) (host := "Queryschool") (As := [.int v1, .int v3]) (rest := []) C (c_X8_hasBit l D cc N0 (cw cc g S ++ E) v1 v3 _ rfl) gX1_add_X8_hasBit_n37 rfl (List.mem_of_getElem? (i := 17) rfl) (List.mem_of_getElem? (i := 6) rfl) (List.mem_of_getElem? (i := 8) rfl) z_X8_hasBit ⟨Nat.le_of_ble_eq_true rfl, Nat.le_of_ble_eq_true rfl⟩ rfl rfl (Nat.le_of_ble_eq_true rfl) dX1_add_26 ⟨Nat.le_of_ble_eq_true rfl, Nat.le_of_ble_eq_true rfl⟩ ?_
      refine q_after (rv := (some (.int (q_b (f_X8_hasBit v1 v3))))) (w0 := (cw cc g S ++ E)) (st2 := [.int (q_b (f_X8_hasBit v1 v3))]) rfl rfl rfl ?_
      refine q_if_eq (pc := 29) (tgt := 52) C dX1_add_29 (by decide) (fun c2 => ?_) (fun c2 => ?_)
      · have hf := q_iteT hf c2
        refine q_sub (lvq := [(0, .ref (g 2)), (1, .int v1), (2, .int v2), (3, .int v3)]) [0, 1, 2, 3] rfl ?_
        exact w_X1_add_52 C hk16 v1 v2 v3 S hf
      · have hf := q_iteF hf c2
        refine q_aload_n (pc := 32) C dX1_add_32 rfl 0 rfl ?_
        refine r_g_2_1 (pc := 33) C n_X1_add_X1 (List.mem_of_getElem? (i := 4) rfl) dX1_add_33 ?_
        refine q_iload_n (pc := 36) C dX1_add_36 rfl 3 rfl ?_
        refine q_aload_n (pc := 37) C dX1_add_37 rfl 0 rfl ?_
        refine r_g_2_1 (pc := 38) C n_X1_add_X1 (List.mem_of_getElem? (i := 4) rfl) dX1_add_38 ?_
        refine q_iload_n (pc := 41) C dX1_add_41 rfl 3 rfl ?_
        refine q_callSN (pc := 42) (host := "Queryschool") (As := [.ref (g 11), .int v3]) (rest := [.int v3, .ref (g 11)]) C (c_X8_at l D cc N0 (cw cc g S ++ E) 11 (g 11) 6 (S.1 11) (by decide) (cw_at_11 cc g E S) v3) gX1_add_X8_at_n29 rfl (List.mem_of_getElem? (i := 9) rfl) (List.mem_of_getElem? (i := 6) rfl) (List.mem_of_getElem? (i := 10) rfl) z_X8_at ⟨Nat.le_of_ble_eq_true rfl, Nat.le_of_ble_eq_true rfl⟩ rfl rfl (Nat.le_of_ble_eq_true rfl) dX1_add_42 ⟨Nat.le_of_ble_eq_true rfl, Nat.le_of_ble_eq_true rfl⟩ ?_
        refine q_after (rv := (some (.int (q_at 6 (S.1 11) v3)))) (w0 := (cw cc g S ++ E)) (st2 := [.int (q_at 6 (S.1 11) v3), .int v3, .ref (g 11)]) rfl rfl rfl ?_
        refine q_iconst (pc := 45) C (1 : Int32) dX1_add_45 q_ci_1 ?_
        refine q_iload_n (pc := 46) C dX1_add_46 rfl 2 rfl ?_
        refine q_ishl (pc := 47) C dX1_add_47 ?_
        refine q_ior (pc := 48) C dX1_add_48 ?_
        refine q_callSN (pc := 49) (host := "Queryschool") (As := [.ref (g 11), .int v3, .int ((q_at 6 (S.1 11) v3) ||| ((1 : Int32) <<< (v2 &&& 31)))]) (rest := []) C (c_X8_put l D cc N0 (cw cc g S ++ E) 11 (g 11) 6 (S.1 11) (by decide) (cw_at_11 cc g E S) v3 ((q_at 6 (S.1 11) v3) ||| ((1 : Int32) <<< (v2 &&& 31)))) gX1_add_X8_put_n25 rfl (List.mem_of_getElem? (i := 15) rfl) (List.mem_of_getElem? (i := 6) rfl) (List.mem_of_getElem? (i := 5) rfl) z_X8_put ⟨Nat.le_of_ble_eq_true rfl, Nat.le_of_ble_eq_true rfl⟩ rfl rfl (Nat.le_of_ble_eq_true rfl) dX1_add_49 ⟨Nat.le_of_ble_eq_true rfl, Nat.le_of_ble_eq_true rfl⟩ ?_
        refine q_after (rv := none) (w0 := (cw cc g (cfun S 11 (q_pu 6 (S.1 11) v3 ((q_at 6 (S.1 11) v3) ||| ((1 : Int32) <<< (v2 &&& 31))))) ++ E)) (st2 := []) (cw_fun_11 cc g E _ _) rfl rfl ?_
        refine q_sub (lvq := [(0, .ref (g 2)), (1, .int v1), (2, .int v2), (3, .int v3)]) [0, 1, 2, 3] rfl ?_
        exact w_X1_add_52 C hk16 v1 v2 v3 (cfun S 11 (q_pu 6 (S.1 11) v3 ((q_at 6 (S.1 11) v3) ||| ((1 : Int32) <<< (v2 &&& 31))))) hf
set_option maxRecDepth 100000 in
set_option maxHeartbeats 4000000 in
theorem c_X1_add (l : Launch) (D : va_G) (cc : Nat → ClassId) (N0 : Nat) (g : Nat → Nat) (E : va_W) (S : CS) (a1 : Int32) (v : (Int32 × CS)) (hf : f_X1_add a1 S = some v) : q_Met l yX1_add wsX1_add 1 22 D cc N0 (cw cc g S ++ E) [.ref (g 2), .int a1] (q_p (some (.int v.1)) (cw cc g v.2 ++ E)) 0 0 := by
  refine q_ofW (code := cX1_add) (nL := 4) (ret := (some .int)) (by decide +kernel) rfl (Nat.le_of_ble_eq_true rfl) (fun p e s m below meth c C _ => ?_)
  refine q_lv (lv2 := [(0, .ref (g 2)), (1, .int a1)]) rfl ?_
  refine q_aload_n (pc := 0) C dX1_add_0 rfl 0 rfl ?_
  refine r_g_2_3 (pc := 1) C n_X1_add_X1 (List.mem_of_getElem? (i := 1) rfl) dX1_add_1 ?_
  refine q_istore_n (pc := 4) (lvq := [(2, .int (S.1 2 3)), (0, .ref (g 2)), (1, .int a1)]) C dX1_add_4 rfl (by decide) rfl ?_
  refine q_aload_n (pc := 5) C dX1_add_5 rfl 1 rfl ?_
  refine r_g_2_0 (pc := 6) C n_X1_add_X1 (List.mem_of_getElem? (i := 2) rfl) dX1_add_6 ?_
  refine q_iload_n (pc := 9) C dX1_add_9 rfl 0 rfl ?_
  refine q_iload_n (pc := 10) C dX1_add_10 rfl 2 rfl ?_
  refine q_callSN (pc := 11) (host := "Queryschool") (As := [.ref (g 10), .int (S.1 2 3), .int a1]) (rest := []) C (c_X8_put l D cc N0 (cw cc g S ++ E) 10 (g 10) 24 (S.1 10) (by decide) (cw_at_10 cc g E S) (S.1 2 3) a1) gX1_add_X8_put_n25 rfl (List.mem_of_getElem? (i := 15) rfl) (List.mem_of_getElem? (i := 6) rfl) (List.mem_of_getElem? (i := 5) rfl) z_X8_put ⟨Nat.le_of_ble_eq_true rfl, Nat.le_of_ble_eq_true rfl⟩ rfl rfl (Nat.le_of_ble_eq_true rfl) dX1_add_11 ⟨Nat.le_of_ble_eq_true rfl, Nat.le_of_ble_eq_true rfl⟩ ?_
  refine q_after (rv := none) (w0 := (cw cc g (cfun S 10 (q_pu 24 (S.1 10) (S.1 2 3) a1)) ++ E)) (st2 := []) (cw_fun_10 cc g E _ _) rfl rfl ?_
  refine q_iconst (pc := 14) C (0 : Int32) dX1_add_14 q_ci_0 ?_
  refine q_istore_n (pc := 15) (lvq := [(3, .int (0 : Int32)), (2, .int (S.1 2 3)), (0, .ref (g 2)), (1, .int a1)]) C dX1_add_15 rfl (by decide) rfl ?_
  refine q_sub (lvq := [(0, .ref (g 2)), (1, .int a1), (2, .int (S.1 2 3)), (3, .int (0 : Int32))]) [2, 3, 1, 0] rfl ?_
  exact w_X1_add_16 C 1000 a1 (S.1 2 3) (0 : Int32) (cfun S 10 (q_pu 24 (S.1 10) (S.1 2 3) a1)) hf
theorem z_X1_add : q_dsc yX1_add 1 := ⟨by decide +kernel, by decide +kernel, by decide +kernel⟩
theorem n_X1_everyone_X1 : ∀ w ∈ wsX10, w ∈ wsX1_everyone := fun _ h => (List.mem_cons_of_mem _ (List.mem_append_right _ h))
def f_X1_everyone (S : CS) : Int32 := (((1 : Int32) <<< ((S.1 2 3) &&& 31)) - (1 : Int32))
set_option maxRecDepth 100000 in
set_option maxHeartbeats 4000000 in
theorem c_X1_everyone (l : Launch) (D : va_G) (cc : Nat → ClassId) (N0 : Nat) (g : Nat → Nat) (E : va_W) (S : CS) (v : Int32) (hf : f_X1_everyone S = v) : q_Met l yX1_everyone wsX1_everyone 0 0 D cc N0 (cw cc g S ++ E) [.ref (g 2)] (q_p (some (.int v)) (cw cc g S ++ E)) 0 0 := by
  refine q_ofW (code := cX1_everyone) (nL := 1) (ret := (some .int)) (by decide +kernel) rfl (Nat.le_of_ble_eq_true rfl) (fun p e s m below meth c C _ => ?_)
  refine q_lv (lv2 := [(0, .ref (g 2))]) rfl ?_
  refine q_iconst (pc := 0) C (1 : Int32) dX1_everyone_0 q_ci_1 ?_
  refine q_aload_n (pc := 1) C dX1_everyone_1 rfl 0 rfl ?_
  refine r_g_2_3 (pc := 2) C n_X1_everyone_X1 (List.mem_of_getElem? (i := 1) rfl) dX1_everyone_2 ?_
  refine q_ishl (pc := 5) C dX1_everyone_5 ?_
  refine q_iconst (pc := 6) C (1 : Int32) dX1_everyone_6 q_ci_1 ?_
  refine q_isub (pc := 7) C dX1_everyone_7 ?_
  obtain rfl := hf
  exact q_iret (pc := 8) C dX1_everyone_8 ⟨rfl, rfl⟩
theorem z_X1_everyone : q_dsc yX1_everyone 0 := ⟨by decide +kernel, by decide +kernel, by decide +kernel⟩
theorem n_X1_holding_X1 : ∀ w ∈ wsX10, w ∈ wsX1_holding := fun _ h => (List.mem_cons_of_mem _ (List.mem_append_right _ h))
def f_X1_holding (S : CS) (a1 : Int32) : Int32 := (q_at 6 (S.1 11) a1)
set_option maxRecDepth 100000 in
set_option maxHeartbeats 4000000 in
theorem c_X1_holding (l : Launch) (D : va_G) (cc : Nat → ClassId) (N0 : Nat) (g : Nat → Nat) (E : va_W) (S : CS) (a1 : Int32) (v : Int32) (hf : f_X1_holding S a1 = v) : q_Met l yX1_holding wsX1_holding 1 21 D cc N0 (cw cc g S ++ E) [.ref (g 2), .int a1] (q_p (some (.int v)) (cw cc g S ++ E)) 0 0 := by
  refine q_ofW (code := cX1_holding) (nL := 2) (ret := (some .int)) (by decide +kernel) rfl (Nat.le_of_ble_eq_true rfl) (fun p e s m below meth c C _ => ?_)
  refine q_lv (lv2 := [(0, .ref (g 2)), (1, .int a1)]) rfl ?_
  refine q_aload_n (pc := 0) C dX1_holding_0 rfl 0 rfl ?_
  refine r_g_2_1 (pc := 1) C n_X1_holding_X1 (List.mem_of_getElem? (i := 1) rfl) dX1_holding_1 ?_
  refine q_iload_n (pc := 4) C dX1_holding_4 rfl 1 rfl ?_
  refine q_callSN (pc := 5) (host := "Queryschool") (As := [.ref (g 11), .int a1]) (rest := []) C (c_X8_at l D cc N0 (cw cc g S ++ E) 11 (g 11) 6 (S.1 11) (by decide) (cw_at_11 cc g E S) a1) gX1_holding_X8_at_n29 rfl (List.mem_of_getElem? (i := 9) rfl) (List.mem_of_getElem? (i := 3) rfl) (List.mem_of_getElem? (i := 2) rfl) z_X8_at ⟨Nat.le_of_ble_eq_true rfl, Nat.le_of_ble_eq_true rfl⟩ rfl rfl (Nat.le_of_ble_eq_true rfl) dX1_holding_5 ⟨Nat.le_of_ble_eq_true rfl, Nat.le_of_ble_eq_true rfl⟩ ?_
  refine q_after (rv := (some (.int (q_at 6 (S.1 11) a1)))) (w0 := (cw cc g S ++ E)) (st2 := [.int (q_at 6 (S.1 11) a1)]) rfl rfl rfl ?_
  obtain rfl := hf
  exact q_iret (pc := 8) C dX1_holding_8 ⟨rfl, rfl⟩
theorem z_X1_holding : q_dsc yX1_holding 1 := ⟨by decide +kernel, by decide +kernel, by decide +kernel⟩
theorem n_X1_lacking_X1 : ∀ w ∈ wsX10, w ∈ wsX1_lacking := fun _ h => (List.mem_cons_of_mem _ (List.mem_append_right _ h))
def f_X1_lacking (S : CS) (a1 : Int32) : Int32 := ((f_X1_everyone S) &&& ((q_at 6 (S.1 11) a1) ^^^ (-1 : Int32)))
set_option maxRecDepth 100000 in
set_option maxHeartbeats 4000000 in
theorem c_X1_lacking (l : Launch) (D : va_G) (cc : Nat → ClassId) (N0 : Nat) (g : Nat → Nat) (E : va_W) (S : CS) (a1 : Int32) (v : Int32) (hf : f_X1_lacking S a1 = v) : q_Met l yX1_lacking wsX1_lacking 1 21 D cc N0 (cw cc g S ++ E) [.ref (g 2), .int a1] (q_p (some (.int v)) (cw cc g S ++ E)) 0 0 := by
  refine q_ofW (code := cX1_lacking) (nL := 2) (ret := (some .int)) (by decide +kernel) rfl (Nat.le_of_ble_eq_true rfl) (fun p e s m below meth c C _ => ?_)
  refine q_lv (lv2 := [(0, .ref (g 2)), (1, .int a1)]) rfl ?_
  refine q_aload_n (pc := 0) C dX1_lacking_0 rfl 0 rfl ?_
  refine q_callV (pc := 1) (As := []) (rest := []) C (c_X1_everyone l D cc N0 g E S _ rfl) gX1_lacking_X1_everyone rfl rfl z_X1_everyone ⟨Nat.le_of_ble_eq_true rfl, Nat.le_of_ble_eq_true rfl⟩ (cw_at_2 cc g E _) rfl rfl rfl (Nat.le_of_ble_eq_true rfl) dX1_lacking_1 ⟨Nat.le_of_ble_eq_true rfl, Nat.le_of_ble_eq_true rfl⟩ ?_
  refine q_after (rv := (some (.int (f_X1_everyone S)))) (w0 := (cw cc g S ++ E)) (st2 := [.int (f_X1_everyone S)]) rfl rfl rfl ?_
  refine q_aload_n (pc := 4) C dX1_lacking_4 rfl 0 rfl ?_
  refine r_g_2_1 (pc := 5) C n_X1_lacking_X1 (List.mem_of_getElem? (i := 1) rfl) dX1_lacking_5 ?_
  refine q_iload_n (pc := 8) C dX1_lacking_8 rfl 1 rfl ?_
  refine q_callSN (pc := 9) (host := "Queryschool") (As := [.ref (g 11), .int a1]) (rest := [.int (f_X1_everyone S)]) C (c_X8_at l D cc N0 (cw cc g S ++ E) 11 (g 11) 6 (S.1 11) (by decide) (cw_at_11 cc g E S) a1) gX1_lacking_X8_at_n29 rfl (List.mem_of_getElem? (i := 9) rfl) (List.mem_of_getElem? (i := 9) rfl) (List.mem_of_getElem? (i := 8) rfl) z_X8_at ⟨Nat.le_of_ble_eq_true rfl, Nat.le_of_ble_eq_true rfl⟩ rfl rfl (Nat.le_of_ble_eq_true rfl) dX1_lacking_9 ⟨Nat.le_of_ble_eq_true rfl, Nat.le_of_ble_eq_true rfl⟩ ?_
  refine q_after (rv := (some (.int (q_at 6 (S.1 11) a1)))) (w0 := (cw cc g S ++ E)) (st2 := [.int (q_at 6 (S.1 11) a1), .int (f_X1_everyone S)]) rfl rfl rfl ?_
  refine q_iconst (pc := 12) C (-1 : Int32) dX1_lacking_12 q_ci_m1 ?_
  refine q_ixor (pc := 13) C dX1_lacking_13 ?_
  refine q_iand (pc := 14) C dX1_lacking_14 ?_
  obtain rfl := hf
  exact q_iret (pc := 15) C dX1_lacking_15 ⟨rfl, rfl⟩
theorem z_X1_lacking : q_dsc yX1_lacking 1 := ⟨by decide +kernel, by decide +kernel, by decide +kernel⟩
def f_X1_agreeing (S : CS) (a1 : Int32) (a2 : Int32) : Int32 := (if (q_b (f_X8_hasBit a1 a2)) = 0 then (f_X1_lacking S a2) else (f_X1_holding S a2))
set_option maxRecDepth 100000 in
set_option maxHeartbeats 4000000 in
theorem c_X1_agreeing (l : Launch) (D : va_G) (cc : Nat → ClassId) (N0 : Nat) (g : Nat → Nat) (E : va_W) (S : CS) (a1 : Int32) (a2 : Int32) (v : Int32) (hf : f_X1_agreeing S a1 a2 = v) : q_Met l yX1_agreeing wsX1_agreeing 2 42 D cc N0 (cw cc g S ++ E) [.ref (g 2), .int a1, .int a2] (q_p (some (.int v)) (cw cc g S ++ E)) 0 0 := by
  refine q_ofW (code := cX1_agreeing) (nL := 3) (ret := (some .int)) (by decide +kernel) rfl (Nat.le_of_ble_eq_true rfl) (fun p e s m below meth c C _ => ?_)
  refine q_lv (lv2 := [(0, .ref (g 2)), (1, .int a1), (2, .int a2)]) rfl ?_
  refine q_iload_n (pc := 0) C dX1_agreeing_0 rfl 1 rfl ?_
  refine q_iload_n (pc := 1) C dX1_agreeing_1 rfl 2 rfl ?_
  refine q_callSN (pc := 2) (host := "Queryschool") (As := [.int a1, .int a2]) (rest := []) C (c_X8_hasBit l D cc N0 (cw cc g S ++ E) a1 a2 _ rfl) gX1_agreeing_X8_hasBit_n37 rfl (List.mem_of_getElem? (i := 17) rfl) (List.mem_of_getElem? (i := 2) rfl) (List.mem_of_getElem? (i := 1) rfl) z_X8_hasBit ⟨Nat.le_of_ble_eq_true rfl, Nat.le_of_ble_eq_true rfl⟩ rfl rfl (Nat.le_of_ble_eq_true rfl) dX1_agreeing_2 ⟨Nat.le_of_ble_eq_true rfl, Nat.le_of_ble_eq_true rfl⟩ ?_
  refine q_after (rv := (some (.int (q_b (f_X8_hasBit a1 a2))))) (w0 := (cw cc g S ++ E)) (st2 := [.int (q_b (f_X8_hasBit a1 a2))]) rfl rfl rfl ?_
  refine q_if_eq (pc := 5) (tgt := 16) C dX1_agreeing_5 (by decide) (fun c1 => ?_) (fun c1 => ?_)
  · have hf := q_iteT hf c1
    refine q_aload_n (pc := 16) C dX1_agreeing_16 rfl 0 rfl ?_
    refine q_iload_n (pc := 17) C dX1_agreeing_17 rfl 2 rfl ?_
    refine q_callV (pc := 18) (As := [.int a2]) (rest := []) C (c_X1_lacking l D cc N0 g E S a2 _ rfl) gX1_agreeing_X1_lacking rfl rfl z_X1_lacking ⟨Nat.le_of_ble_eq_true rfl, Nat.le_of_ble_eq_true rfl⟩ (cw_at_2 cc g E _) rfl rfl rfl (Nat.le_of_ble_eq_true rfl) dX1_agreeing_18 ⟨Nat.le_of_ble_eq_true rfl, Nat.le_of_ble_eq_true rfl⟩ ?_
    refine q_after (rv := (some (.int (f_X1_lacking S a2)))) (w0 := (cw cc g S ++ E)) (st2 := [.int (f_X1_lacking S a2)]) rfl rfl rfl ?_
    obtain rfl := hf
    exact q_iret (pc := 21) C dX1_agreeing_21 ⟨rfl, rfl⟩
  · have hf := q_iteF hf c1
    refine q_aload_n (pc := 8) C dX1_agreeing_8 rfl 0 rfl ?_
    refine q_iload_n (pc := 9) C dX1_agreeing_9 rfl 2 rfl ?_
    refine q_callV (pc := 10) (As := [.int a2]) (rest := []) C (c_X1_holding l D cc N0 g E S a2 _ rfl) gX1_agreeing_X1_holding rfl rfl z_X1_holding ⟨Nat.le_of_ble_eq_true rfl, Nat.le_of_ble_eq_true rfl⟩ (cw_at_2 cc g E _) rfl rfl rfl (Nat.le_of_ble_eq_true rfl) dX1_agreeing_10 ⟨Nat.le_of_ble_eq_true rfl, Nat.le_of_ble_eq_true rfl⟩ ?_
    refine q_after (rv := (some (.int (f_X1_holding S a2)))) (w0 := (cw cc g S ++ E)) (st2 := [.int (f_X1_holding S a2)]) rfl rfl rfl ?_
    refine q_goto (pc := 13) (tgt := 21) C dX1_agreeing_13 (by decide) ?_
    obtain rfl := hf
    exact q_iret (pc := 21) C dX1_agreeing_21 ⟨rfl, rfl⟩
theorem z_X1_agreeing : q_dsc yX1_agreeing 2 := ⟨by decide +kernel, by decide +kernel, by decide +kernel⟩
def f_X1_isFamily_24 : Bool := true
def f_X1_isFamily (a1 : Int32) : Bool := (if a1 = (116 : Int32) then f_X1_isFamily_24  else (if a1 = (115 : Int32) then f_X1_isFamily_24  else (if a1 = (105 : Int32) then f_X1_isFamily_24  else (if a1 = (112 : Int32) then f_X1_isFamily_24  else false))))
set_option maxRecDepth 100000 in
set_option maxHeartbeats 4000000 in
theorem w_X1_isFamily_24 {p : Program} {l : Launch} {e : Env} {s : State} {m : MethodId} {args : Array Value} {below : List Frame} {meth : Method} {c : Code} {D : va_G} {cc : Nat → ClassId} {N0 : Nat} {ws : va_W} {v : Bool} (C : q_C p s m args meth c cX1_isFamily 1 (some .boolean) wsX1_isFamily RX1 D cc N0)   (hf : f_X1_isFamily_24   = v) : q_WA p l e (q_rm 0 0 0 0) s m args below meth c D N0 1 (MQ below (q_Q D N0 (q_p (some (.int (q_b v))) ws)) args s 0 0 (q_A N0)) 0 0 ws 24 [] [] := by
  refine q_iconst (pc := 24) C (1 : Int32) dX1_isFamily_24 q_ci_1 ?_
  refine q_goto (pc := 25) (tgt := 29) C dX1_isFamily_25 (by decide) ?_
  obtain rfl := hf
  exact q_zret (pc := 29) C (by decide +kernel) dX1_isFamily_29 ⟨rfl, rfl⟩
set_option maxRecDepth 100000 in
set_option maxHeartbeats 4000000 in
theorem c_X1_isFamily (l : Launch) (D : va_G) (cc : Nat → ClassId) (N0 : Nat) (ws : va_W) (a1 : Int32) (v : Bool) (hf : f_X1_isFamily a1 = v) : q_Met l yX1_isFamily wsX1_isFamily 0 0 D cc N0 ws [.int a1] (q_p (some (.int (q_b v))) ws) 0 0 := by
  refine q_ofW (code := cX1_isFamily) (nL := 1) (ret := (some .boolean)) (by decide +kernel) rfl (Nat.le_of_ble_eq_true rfl) (fun p e s m below meth c C _ => ?_)
  refine q_lv (lv2 := [(0, .int a1)]) rfl ?_
  refine q_iload_n (pc := 0) C dX1_isFamily_0 rfl 0 rfl ?_
  refine q_bipush (pc := 1) C (116 : Int32) dX1_isFamily_1 q_cb_116 ?_
  refine q_icmp_eq (pc := 3) (tgt := 24) C dX1_isFamily_3 (by decide) (fun c1 => ?_) (fun c1 => ?_)
  · have hf := q_iteT hf c1
    refine q_sub (lvq := []) [] rfl ?_
    exact w_X1_isFamily_24 C hf
  · have hf := q_iteF hf c1
    refine q_iload_n (pc := 6) C dX1_isFamily_6 rfl 0 rfl ?_
    refine q_bipush (pc := 7) C (115 : Int32) dX1_isFamily_7 q_cb_115 ?_
    refine q_icmp_eq (pc := 9) (tgt := 24) C dX1_isFamily_9 (by decide) (fun c2 => ?_) (fun c2 => ?_)
    · have hf := q_iteT hf c2
      refine q_sub (lvq := []) [] rfl ?_
      exact w_X1_isFamily_24 C hf
    · have hf := q_iteF hf c2
      refine q_iload_n (pc := 12) C dX1_isFamily_12 rfl 0 rfl ?_
      refine q_bipush (pc := 13) C (105 : Int32) dX1_isFamily_13 q_cb_105 ?_
      refine q_icmp_eq (pc := 15) (tgt := 24) C dX1_isFamily_15 (by decide) (fun c3 => ?_) (fun c3 => ?_)
      · have hf := q_iteT hf c3
        refine q_sub (lvq := []) [] rfl ?_
        exact w_X1_isFamily_24 C hf
      · have hf := q_iteF hf c3
        refine q_iload_n (pc := 18) C dX1_isFamily_18 rfl 0 rfl ?_
        refine q_bipush (pc := 19) C (112 : Int32) dX1_isFamily_19 q_cb_112 ?_
        refine q_icmp_ne (pc := 21) (tgt := 28) C dX1_isFamily_21 (by decide) (fun c4 => ?_) (fun c4 => ?_)
        · have hf := q_iteF hf c4
          refine q_iconst (pc := 28) C (0 : Int32) dX1_isFamily_28 q_ci_0 ?_
          obtain rfl := hf
          exact q_zret (pc := 29) C (by decide +kernel) dX1_isFamily_29 ⟨rfl, rfl⟩
        · have hf := q_iteT hf c4
          refine q_sub (lvq := []) [] rfl ?_
          exact w_X1_isFamily_24 C hf
theorem z_X1_isFamily : q_dsc yX1_isFamily 1 := ⟨by decide +kernel, by decide +kernel, by decide +kernel⟩
def f_X1_isOf (a1 : Int32) (a2 : Int32) : Bool := (if a1 = (116 : Int32) then (if (a2 &&& (a2 + (1 : Int32))) = 0 then true else false) else (if a1 = (115 : Int32) then (if (a2 &&& (a2 - (1 : Int32))) = 0 then true else false) else (if a1 = (105 : Int32) then (if (a2 &&& (a2 + (a2 &&& (-a2)))) = 0 then true else false) else (if ((f_J6_bitCount_0f7a4 a2) - (f_J6_bitCount_0f7a4 a2) / (2 : Int32) * (2 : Int32)) = 0 then true else false))))
set_option maxRecDepth 100000 in
set_option maxHeartbeats 4000000 in
theorem c_X1_isOf (l : Launch) (D : va_G) (cc : Nat → ClassId) (N0 : Nat) (ws : va_W) (a1 : Int32) (a2 : Int32) (v : Bool) (hf : f_X1_isOf a1 a2 = v) : q_Met l yX1_isOf wsX1_isOf 1 20 D cc N0 ws [.int a1, .int a2] (q_p (some (.int (q_b v))) ws) 0 0 := by
  refine q_ofW (code := cX1_isOf) (nL := 2) (ret := (some .boolean)) (by decide +kernel) rfl (Nat.le_of_ble_eq_true rfl) (fun p e s m below meth c C _ => ?_)
  refine q_lv (lv2 := [(0, .int a1), (1, .int a2)]) rfl ?_
  refine q_iload_n (pc := 0) C dX1_isOf_0 rfl 0 rfl ?_
  refine q_bipush (pc := 1) C (116 : Int32) dX1_isOf_1 q_cb_116 ?_
  refine q_icmp_ne (pc := 3) (tgt := 20) C dX1_isOf_3 (by decide) (fun c1 => ?_) (fun c1 => ?_)
  · have hf := q_iteF hf c1
    refine q_iload_n (pc := 20) C dX1_isOf_20 rfl 0 rfl ?_
    refine q_bipush (pc := 21) C (115 : Int32) dX1_isOf_21 q_cb_115 ?_
    refine q_icmp_ne (pc := 23) (tgt := 40) C dX1_isOf_23 (by decide) (fun c2 => ?_) (fun c2 => ?_)
    · have hf := q_iteF hf c2
      refine q_iload_n (pc := 40) C dX1_isOf_40 rfl 0 rfl ?_
      refine q_bipush (pc := 41) C (105 : Int32) dX1_isOf_41 q_cb_105 ?_
      refine q_icmp_ne (pc := 43) (tgt := 63) C dX1_isOf_43 (by decide) (fun c3 => ?_) (fun c3 => ?_)
      · have hf := q_iteF hf c3
        refine q_iload_n (pc := 63) C dX1_isOf_63 rfl 1 rfl ?_
        refine q_callS (pc := 64) (As := [.int a2]) (rest := []) C (c_J6_bitCount_0f7a4 l D cc N0 ws a2 _ rfl) gX1_isOf_J6_bitCount_0f7a4 rfl z_J6_bitCount_0f7a4 ⟨Nat.le_of_ble_eq_true rfl, Nat.le_of_ble_eq_true rfl⟩ rfl rfl (Nat.le_of_ble_eq_true rfl) dX1_isOf_64 ⟨Nat.le_of_ble_eq_true rfl, Nat.le_of_ble_eq_true rfl⟩ ?_
        refine q_after (rv := (some (.int (f_J6_bitCount_0f7a4 a2)))) (w0 := ws) (st2 := [.int (f_J6_bitCount_0f7a4 a2)]) rfl rfl rfl ?_
        refine q_iconst (pc := 67) C (2 : Int32) dX1_isOf_67 q_ci_2 ?_
        refine q_irem (pc := 68) C dX1_isOf_68 (by decide +kernel) ?_
        refine q_if_ne (pc := 69) (tgt := 76) C dX1_isOf_69 (by decide) (fun c4 => ?_) (fun c4 => ?_)
        · have hf := q_iteF hf c4
          refine q_iconst (pc := 76) C (0 : Int32) dX1_isOf_76 q_ci_0 ?_
          obtain rfl := hf
          exact q_zret (pc := 77) C (by decide +kernel) dX1_isOf_77 ⟨rfl, rfl⟩
        · have hf := q_iteT hf c4
          refine q_iconst (pc := 72) C (1 : Int32) dX1_isOf_72 q_ci_1 ?_
          refine q_goto (pc := 73) (tgt := 77) C dX1_isOf_73 (by decide) ?_
          obtain rfl := hf
          exact q_zret (pc := 77) C (by decide +kernel) dX1_isOf_77 ⟨rfl, rfl⟩
      · have hf := q_iteT hf c3
        refine q_iload_n (pc := 46) C dX1_isOf_46 rfl 1 rfl ?_
        refine q_iload_n (pc := 47) C dX1_isOf_47 rfl 1 rfl ?_
        refine q_iload_n (pc := 48) C dX1_isOf_48 rfl 1 rfl ?_
        refine q_iload_n (pc := 49) C dX1_isOf_49 rfl 1 rfl ?_
        refine q_ineg (pc := 50) C dX1_isOf_50 ?_
        refine q_iand (pc := 51) C dX1_isOf_51 ?_
        refine q_iadd (pc := 52) C dX1_isOf_52 ?_
        refine q_iand (pc := 53) C dX1_isOf_53 ?_
        refine q_if_ne (pc := 54) (tgt := 61) C dX1_isOf_54 (by decide) (fun c5 => ?_) (fun c5 => ?_)
        · have hf := q_iteF hf c5
          refine q_iconst (pc := 61) C (0 : Int32) dX1_isOf_61 q_ci_0 ?_
          obtain rfl := hf
          exact q_zret (pc := 62) C (by decide +kernel) dX1_isOf_62 ⟨rfl, rfl⟩
        · have hf := q_iteT hf c5
          refine q_iconst (pc := 57) C (1 : Int32) dX1_isOf_57 q_ci_1 ?_
          refine q_goto (pc := 58) (tgt := 62) C dX1_isOf_58 (by decide) ?_
          obtain rfl := hf
          exact q_zret (pc := 62) C (by decide +kernel) dX1_isOf_62 ⟨rfl, rfl⟩
    · have hf := q_iteT hf c2
      refine q_iload_n (pc := 26) C dX1_isOf_26 rfl 1 rfl ?_
      refine q_iload_n (pc := 27) C dX1_isOf_27 rfl 1 rfl ?_
      refine q_iconst (pc := 28) C (1 : Int32) dX1_isOf_28 q_ci_1 ?_
      refine q_isub (pc := 29) C dX1_isOf_29 ?_
      refine q_iand (pc := 30) C dX1_isOf_30 ?_
      refine q_if_ne (pc := 31) (tgt := 38) C dX1_isOf_31 (by decide) (fun c6 => ?_) (fun c6 => ?_)
      · have hf := q_iteF hf c6
        refine q_iconst (pc := 38) C (0 : Int32) dX1_isOf_38 q_ci_0 ?_
        obtain rfl := hf
        exact q_zret (pc := 39) C (by decide +kernel) dX1_isOf_39 ⟨rfl, rfl⟩
      · have hf := q_iteT hf c6
        refine q_iconst (pc := 34) C (1 : Int32) dX1_isOf_34 q_ci_1 ?_
        refine q_goto (pc := 35) (tgt := 39) C dX1_isOf_35 (by decide) ?_
        obtain rfl := hf
        exact q_zret (pc := 39) C (by decide +kernel) dX1_isOf_39 ⟨rfl, rfl⟩
  · have hf := q_iteT hf c1
    refine q_iload_n (pc := 6) C dX1_isOf_6 rfl 1 rfl ?_
    refine q_iload_n (pc := 7) C dX1_isOf_7 rfl 1 rfl ?_
    refine q_iconst (pc := 8) C (1 : Int32) dX1_isOf_8 q_ci_1 ?_
    refine q_iadd (pc := 9) C dX1_isOf_9 ?_
    refine q_iand (pc := 10) C dX1_isOf_10 ?_
    refine q_if_ne (pc := 11) (tgt := 18) C dX1_isOf_11 (by decide) (fun c7 => ?_) (fun c7 => ?_)
    · have hf := q_iteF hf c7
      refine q_iconst (pc := 18) C (0 : Int32) dX1_isOf_18 q_ci_0 ?_
      obtain rfl := hf
      exact q_zret (pc := 19) C (by decide +kernel) dX1_isOf_19 ⟨rfl, rfl⟩
    · have hf := q_iteT hf c7
      refine q_iconst (pc := 14) C (1 : Int32) dX1_isOf_14 q_ci_1 ?_
      refine q_goto (pc := 15) (tgt := 19) C dX1_isOf_15 (by decide) ?_
      obtain rfl := hf
      exact q_zret (pc := 19) C (by decide +kernel) dX1_isOf_19 ⟨rfl, rfl⟩
theorem z_X1_isOf : q_dsc yX1_isOf 2 := ⟨by decide +kernel, by decide +kernel, by decide +kernel⟩
theorem n_X1_missing_X1 : ∀ w ∈ wsX10, w ∈ wsX1_missing := fun _ h => (List.mem_cons_of_mem _ (List.mem_append_right _ h))
def f_X1_missing_33 (S : CS) (k4 : Int32 → Int32 → Int32 → Option Int32) (v1 : Int32) (v2 : Int32) (v3 : Int32) : Option Int32 := k4 v1 v2 (v3 + (1 : Int32))
def f_X1_missing_4b (S : CS) (k4 : Int32 → Int32 → Int32 → Option Int32) (v1 : Int32) (v2 : Int32) (v3 : Int32) : Option Int32 := (if ((1 : Int32) <<< ((S.1 2 2) &&& 31)) ≤ v3 then some v2 else (if (q_b (f_X1_isOf v1 v3)) = 0 then f_X1_missing_33 S k4 v1 v2 v3 else ((f_X1_numberOf S v3).bind fun u3 => (if 0 ≤ u3 then f_X1_missing_33 S k4 v1 v2 v3 else f_X1_missing_33 S k4 v1 (v2 + (1 : Int32)) v3))))
def f_X1_missing_4 (S : CS) : Nat → Int32 → Int32 → Int32 → Option Int32
  | 0, _, _, _ => none
  | n + 1, v1, v2, v3 => f_X1_missing_4b S (f_X1_missing_4 S n) v1 v2 v3
def f_X1_missing (S : CS) (a1 : Int32) : Option Int32 := f_X1_missing_4 S 1000 a1 (0 : Int32) (0 : Int32)
set_option maxRecDepth 100000 in
set_option maxHeartbeats 4000000 in
theorem w_X1_missing_33 {p : Program} {l : Launch} {e : Env} {s : State} {m : MethodId} {args : Array Value} {below : List Frame} {meth : Method} {c : Code} {D : va_G} {cc : Nat → ClassId} {N0 : Nat} {g : Nat → Nat} {E : va_W} {S : CS} {k4 : Int32 → Int32 → Int32 → Option Int32} {v : Int32} (C : q_C p s m args meth c cX1_missing 4 (some .int) wsX1_missing RX1 D cc N0) (hk4 : ∀ (v1 : Int32) (v2 : Int32) (v3 : Int32), k4 v1 v2 v3 = some v → q_WA p l e (q_rm 3 64 0 0) s m args below meth c D N0 4 (MQ below (q_Q D N0 (q_p (some (.int v)) (cw cc g S ++ E))) args s 0 0 (q_A N0)) 0 0 (cw cc g S ++ E) 4 [(0, .ref (g 2)), (1, .int v1), (2, .int v2), (3, .int v3)] []) (v1 : Int32) (v2 : Int32) (v3 : Int32) (hf : f_X1_missing_33 S k4 v1 v2 v3 = some v) : q_WA p l e (q_rm 3 64 0 0) s m args below meth c D N0 4 (MQ below (q_Q D N0 (q_p (some (.int v)) (cw cc g S ++ E))) args s 0 0 (q_A N0)) 0 0 (cw cc g S ++ E) 33 [(0, .ref (g 2)), (1, .int v1), (2, .int v2), (3, .int v3)] [] := by
  refine q_iinc (pc := 33) (lvq := [(3, .int (v3 + (1 : Int32))), (0, .ref (g 2)), (1, .int v1), (2, .int v2)]) C (v3 + (1 : Int32)) dX1_missing_33 3 rfl q_ca_1 (by decide) rfl ?_
  refine q_goto (pc := 36) (tgt := 4) C dX1_missing_36 (by decide) ?_
  refine q_sub (lvq := [(0, .ref (g 2)), (1, .int v1), (2, .int v2), (3, .int (v3 + (1 : Int32)))]) [1, 2, 3, 0] rfl ?_
  exact hk4 v1 v2 (v3 + (1 : Int32)) hf
set_option maxRecDepth 100000 in
set_option maxHeartbeats 4000000 in
theorem w_X1_missing_4 {p : Program} {l : Launch} {e : Env} {s : State} {m : MethodId} {args : Array Value} {below : List Frame} {meth : Method} {c : Code} {D : va_G} {cc : Nat → ClassId} {N0 : Nat} {g : Nat → Nat} {E : va_W} {S : CS} {v : Int32} (C : q_C p s m args meth c cX1_missing 4 (some .int) wsX1_missing RX1 D cc N0)  : ∀ (n : Nat) (v1 : Int32) (v2 : Int32) (v3 : Int32), f_X1_missing_4 S n v1 v2 v3 = some v → q_WA p l e (q_rm 3 64 0 0) s m args below meth c D N0 4 (MQ below (q_Q D N0 (q_p (some (.int v)) (cw cc g S ++ E))) args s 0 0 (q_A N0)) 0 0 (cw cc g S ++ E) 4 [(0, .ref (g 2)), (1, .int v1), (2, .int v2), (3, .int v3)] [] := by
  intro n
  induction n with
  | zero => intro v1 v2 v3 hf; cases hf
  | succ n ih =>
    intro v1 v2 v3 hf
    have hk4 : ∀ (v1 : Int32) (v2 : Int32) (v3 : Int32), f_X1_missing_4 S n v1 v2 v3 = some v → q_WA p l e (q_rm 3 64 0 0) s m args below meth c D N0 4 (MQ below (q_Q D N0 (q_p (some (.int v)) (cw cc g S ++ E))) args s 0 0 (q_A N0)) 0 0 (cw cc g S ++ E) 4 [(0, .ref (g 2)), (1, .int v1), (2, .int v2), (3, .int v3)] [] := ih
    have hf : f_X1_missing_4b S (f_X1_missing_4 S n) v1 v2 v3 = some v := hf
    refine q_iload_n (pc := 4) C dX1_missing_4 rfl 3 rfl ?_
    refine q_iconst (pc := 5) C (1 : Int32) dX1_missing_5 q_ci_1 ?_
    refine q_aload_n (pc := 6) C dX1_missing_6 rfl 0 rfl ?_
    refine r_g_2_2 (pc := 7) C n_X1_missing_X1 (List.mem_of_getElem? (i := 1) rfl) dX1_missing_7 ?_
    refine q_ishl (pc := 10) C dX1_missing_10 ?_
    refine q_icmp_ge (pc := 11) (tgt := 39) C dX1_missing_11 (by decide) (fun c1 => ?_) (fun c1 => ?_)
    · have hf := q_iteT hf c1
      refine q_iload_n (pc := 39) C dX1_missing_39 rfl 2 rfl ?_
      obtain rfl := q_some hf
      exact q_iret (pc := 40) C dX1_missing_40 ⟨rfl, rfl⟩
    · have hf := q_iteF hf c1
      refine q_iload_n (pc := 14) C dX1_missing_14 rfl 1 rfl ?_
      refine q_iload_n (pc := 15) C dX1_missing_15 rfl 3 rfl ?_
      refine q_callS (pc := 16) (As := [.int v1, .int v3]) (rest := []) C (c_X1_isOf l D cc N0 (cw cc g S ++ E) v1 v3 _ rfl) gX1_missing_X1_isOf rfl z_X1_isOf ⟨Nat.le_of_ble_eq_true rfl, Nat.le_of_ble_eq_true rfl⟩ rfl rfl (Nat.le_of_ble_eq_true rfl) dX1_missing_16 ⟨Nat.le_of_ble_eq_true rfl, Nat.le_of_ble_eq_true rfl⟩ ?_
      refine q_after (rv := (some (.int (q_b (f_X1_isOf v1 v3))))) (w0 := (cw cc g S ++ E)) (st2 := [.int (q_b (f_X1_isOf v1 v3))]) rfl rfl rfl ?_
      refine q_if_eq (pc := 19) (tgt := 33) C dX1_missing_19 (by decide) (fun c2 => ?_) (fun c2 => ?_)
      · have hf := q_iteT hf c2
        refine q_sub (lvq := [(0, .ref (g 2)), (1, .int v1), (2, .int v2), (3, .int v3)]) [0, 1, 2, 3] rfl ?_
        exact w_X1_missing_33 C hk4 v1 v2 v3 hf
      · have hf := q_iteF hf c2
        refine q_aload_n (pc := 22) C dX1_missing_22 rfl 0 rfl ?_
        refine q_iload_n (pc := 23) C dX1_missing_23 rfl 3 rfl ?_
        obtain ⟨u3, e4, hf⟩ := q_bind hf
        refine q_callV (pc := 24) (As := [.int v3]) (rest := []) C (c_X1_numberOf l D cc N0 g E S v3 u3 e4) gX1_missing_X1_numberOf rfl rfl z_X1_numberOf ⟨Nat.le_of_ble_eq_true rfl, Nat.le_of_ble_eq_true rfl⟩ (cw_at_2 cc g E _) rfl rfl rfl (Nat.le_of_ble_eq_true rfl) dX1_missing_24 ⟨Nat.le_of_ble_eq_true rfl, Nat.le_of_ble_eq_true rfl⟩ ?_
        refine q_after (rv := (some (.int u3))) (w0 := (cw cc g S ++ E)) (st2 := [.int u3]) rfl rfl rfl ?_
        refine q_if_ge (pc := 27) (tgt := 33) C dX1_missing_27 (by decide) (fun c5 => ?_) (fun c5 => ?_)
        · have hf := q_iteT hf c5
          refine q_sub (lvq := [(0, .ref (g 2)), (1, .int v1), (2, .int v2), (3, .int v3)]) [0, 1, 2, 3] rfl ?_
          exact w_X1_missing_33 C hk4 v1 v2 v3 hf
        · have hf := q_iteF hf c5
          refine q_iinc (pc := 30) (lvq := [(2, .int (v2 + (1 : Int32))), (0, .ref (g 2)), (1, .int v1), (3, .int v3)]) C (v2 + (1 : Int32)) dX1_missing_30 2 rfl q_ca_1 (by decide) rfl ?_
          refine q_sub (lvq := [(0, .ref (g 2)), (1, .int v1), (2, .int (v2 + (1 : Int32))), (3, .int v3)]) [1, 2, 0, 3] rfl ?_
          exact w_X1_missing_33 C hk4 v1 (v2 + (1 : Int32)) v3 hf
set_option maxRecDepth 100000 in
set_option maxHeartbeats 4000000 in
theorem c_X1_missing (l : Launch) (D : va_G) (cc : Nat → ClassId) (N0 : Nat) (g : Nat → Nat) (E : va_W) (S : CS) (a1 : Int32) (v : Int32) (hf : f_X1_missing S a1 = some v) : q_Met l yX1_missing wsX1_missing 3 64 D cc N0 (cw cc g S ++ E) [.ref (g 2), .int a1] (q_p (some (.int v)) (cw cc g S ++ E)) 0 0 := by
  refine q_ofW (code := cX1_missing) (nL := 4) (ret := (some .int)) (by decide +kernel) rfl (Nat.le_of_ble_eq_true rfl) (fun p e s m below meth c C _ => ?_)
  refine q_lv (lv2 := [(0, .ref (g 2)), (1, .int a1)]) rfl ?_
  refine q_iconst (pc := 0) C (0 : Int32) dX1_missing_0 q_ci_0 ?_
  refine q_istore_n (pc := 1) (lvq := [(2, .int (0 : Int32)), (0, .ref (g 2)), (1, .int a1)]) C dX1_missing_1 rfl (by decide) rfl ?_
  refine q_iconst (pc := 2) C (0 : Int32) dX1_missing_2 q_ci_0 ?_
  refine q_istore_n (pc := 3) (lvq := [(3, .int (0 : Int32)), (2, .int (0 : Int32)), (0, .ref (g 2)), (1, .int a1)]) C dX1_missing_3 rfl (by decide) rfl ?_
  refine q_sub (lvq := [(0, .ref (g 2)), (1, .int a1), (2, .int (0 : Int32)), (3, .int (0 : Int32))]) [2, 3, 1, 0] rfl ?_
  exact w_X1_missing_4 C 1000 a1 (0 : Int32) (0 : Int32) hf
theorem z_X1_missing : q_dsc yX1_missing 1 := ⟨by decide +kernel, by decide +kernel, by decide +kernel⟩
theorem n_X1_addAll_X1 : ∀ w ∈ wsX10, w ∈ wsX1_addAll := fun _ h => (List.mem_cons_of_mem _ (List.mem_append_right _ h))
def f_X1_addAll_34 (k2 : Int32 → Int32 → CS → Option CS) (v1 : Int32) (v2 : Int32) (S : CS) : Option CS := k2 v1 (v2 + (1 : Int32)) S
def f_X1_addAll_2b (k2 : Int32 → Int32 → CS → Option CS) (v1 : Int32) (v2 : Int32) (S : CS) : Option CS := (if ((1 : Int32) <<< ((S.1 2 2) &&& 31)) ≤ v2 then some S else (if (q_b (f_X1_isOf v1 v2)) = 0 then f_X1_addAll_34 k2 v1 v2 S else ((f_X1_numberOf S v2).bind fun u3 => (if 0 ≤ u3 then f_X1_addAll_34 k2 v1 v2 S else ((f_X1_add v2 S).bind fun u6 => f_X1_addAll_34 k2 v1 v2 u6.2)))))
def f_X1_addAll_2 : Nat → Int32 → Int32 → CS → Option CS
  | 0, _, _, _ => none
  | n + 1, v1, v2, S => f_X1_addAll_2b  (f_X1_addAll_2  n) v1 v2 S
def f_X1_addAll (a1 : Int32) (S : CS) : Option CS := f_X1_addAll_2 1000 a1 (0 : Int32) S
set_option maxRecDepth 100000 in
set_option maxHeartbeats 4000000 in
theorem w_X1_addAll_34 {p : Program} {l : Launch} {e : Env} {s : State} {m : MethodId} {args : Array Value} {below : List Frame} {meth : Method} {c : Code} {D : va_G} {cc : Nat → ClassId} {N0 : Nat} {g : Nat → Nat} {E : va_W} {k2 : Int32 → Int32 → CS → Option CS} {v : CS} (C : q_C p s m args meth c cX1_addAll 3 none wsX1_addAll RX1 D cc N0) (hk2 : ∀ (v1 : Int32) (v2 : Int32) (S : CS), k2 v1 v2 S = some v → q_WA p l e (q_rm 3 64 0 0) s m args below meth c D N0 3 (MQ below (q_Q D N0 (q_p (none) (cw cc g v ++ E))) args s 0 0 (q_A N0)) 0 0 (cw cc g S ++ E) 2 [(0, .ref (g 2)), (1, .int v1), (2, .int v2)] []) (v1 : Int32) (v2 : Int32) (S : CS) (hf : f_X1_addAll_34 k2 v1 v2 S = some v) : q_WA p l e (q_rm 3 64 0 0) s m args below meth c D N0 3 (MQ below (q_Q D N0 (q_p (none) (cw cc g v ++ E))) args s 0 0 (q_A N0)) 0 0 (cw cc g S ++ E) 34 [(0, .ref (g 2)), (1, .int v1), (2, .int v2)] [] := by
  refine q_iinc (pc := 34) (lvq := [(2, .int (v2 + (1 : Int32))), (0, .ref (g 2)), (1, .int v1)]) C (v2 + (1 : Int32)) dX1_addAll_34 2 rfl q_ca_1 (by decide) rfl ?_
  refine q_goto (pc := 37) (tgt := 2) C dX1_addAll_37 (by decide) ?_
  refine q_sub (lvq := [(0, .ref (g 2)), (1, .int v1), (2, .int (v2 + (1 : Int32)))]) [1, 2, 0] rfl ?_
  exact hk2 v1 (v2 + (1 : Int32)) S hf
set_option maxRecDepth 100000 in
set_option maxHeartbeats 4000000 in
theorem w_X1_addAll_2 {p : Program} {l : Launch} {e : Env} {s : State} {m : MethodId} {args : Array Value} {below : List Frame} {meth : Method} {c : Code} {D : va_G} {cc : Nat → ClassId} {N0 : Nat} {g : Nat → Nat} {E : va_W} {v : CS} (C : q_C p s m args meth c cX1_addAll 3 none wsX1_addAll RX1 D cc N0)  : ∀ (n : Nat) (v1 : Int32) (v2 : Int32) (S : CS), f_X1_addAll_2  n v1 v2 S = some v → q_WA p l e (q_rm 3 64 0 0) s m args below meth c D N0 3 (MQ below (q_Q D N0 (q_p (none) (cw cc g v ++ E))) args s 0 0 (q_A N0)) 0 0 (cw cc g S ++ E) 2 [(0, .ref (g 2)), (1, .int v1), (2, .int v2)] [] := by
  intro n
  induction n with
  | zero => intro v1 v2 S hf; cases hf
  | succ n ih =>
    intro v1 v2 S hf
    have hk2 : ∀ (v1 : Int32) (v2 : Int32) (S : CS), f_X1_addAll_2  n v1 v2 S = some v → q_WA p l e (q_rm 3 64 0 0) s m args below meth c D N0 3 (MQ below (q_Q D N0 (q_p (none) (cw cc g v ++ E))) args s 0 0 (q_A N0)) 0 0 (cw cc g S ++ E) 2 [(0, .ref (g 2)), (1, .int v1), (2, .int v2)] [] := ih
    have hf : f_X1_addAll_2b  (f_X1_addAll_2  n) v1 v2 S = some v := hf
    refine q_iload_n (pc := 2) C dX1_addAll_2 rfl 2 rfl ?_
    refine q_iconst (pc := 3) C (1 : Int32) dX1_addAll_3 q_ci_1 ?_
    refine q_aload_n (pc := 4) C dX1_addAll_4 rfl 0 rfl ?_
    refine r_g_2_2 (pc := 5) C n_X1_addAll_X1 (List.mem_of_getElem? (i := 1) rfl) dX1_addAll_5 ?_
    refine q_ishl (pc := 8) C dX1_addAll_8 ?_
    refine q_icmp_ge (pc := 9) (tgt := 40) C dX1_addAll_9 (by decide) (fun c1 => ?_) (fun c1 => ?_)
    · have hf := q_iteT hf c1
      obtain rfl := q_some hf
      exact q_vret (pc := 40) C dX1_addAll_40 ⟨rfl, rfl⟩
    · have hf := q_iteF hf c1
      refine q_iload_n (pc := 12) C dX1_addAll_12 rfl 1 rfl ?_
      refine q_iload_n (pc := 13) C dX1_addAll_13 rfl 2 rfl ?_
      refine q_callS (pc := 14) (As := [.int v1, .int v2]) (rest := []) C (c_X1_isOf l D cc N0 (cw cc g S ++ E) v1 v2 _ rfl) gX1_addAll_X1_isOf rfl z_X1_isOf ⟨Nat.le_of_ble_eq_true rfl, Nat.le_of_ble_eq_true rfl⟩ rfl rfl (Nat.le_of_ble_eq_true rfl) dX1_addAll_14 ⟨Nat.le_of_ble_eq_true rfl, Nat.le_of_ble_eq_true rfl⟩ ?_
      refine q_after (rv := (some (.int (q_b (f_X1_isOf v1 v2))))) (w0 := (cw cc g S ++ E)) (st2 := [.int (q_b (f_X1_isOf v1 v2))]) rfl rfl rfl ?_
      refine q_if_eq (pc := 17) (tgt := 34) C dX1_addAll_17 (by decide) (fun c2 => ?_) (fun c2 => ?_)
      · have hf := q_iteT hf c2
        refine q_sub (lvq := [(0, .ref (g 2)), (1, .int v1), (2, .int v2)]) [0, 1, 2] rfl ?_
        exact w_X1_addAll_34 C hk2 v1 v2 S hf
      · have hf := q_iteF hf c2
        refine q_aload_n (pc := 20) C dX1_addAll_20 rfl 0 rfl ?_
        refine q_iload_n (pc := 21) C dX1_addAll_21 rfl 2 rfl ?_
        obtain ⟨u3, e4, hf⟩ := q_bind hf
        refine q_callV (pc := 22) (As := [.int v2]) (rest := []) C (c_X1_numberOf l D cc N0 g E S v2 u3 e4) gX1_addAll_X1_numberOf rfl rfl z_X1_numberOf ⟨Nat.le_of_ble_eq_true rfl, Nat.le_of_ble_eq_true rfl⟩ (cw_at_2 cc g E _) rfl rfl rfl (Nat.le_of_ble_eq_true rfl) dX1_addAll_22 ⟨Nat.le_of_ble_eq_true rfl, Nat.le_of_ble_eq_true rfl⟩ ?_
        refine q_after (rv := (some (.int u3))) (w0 := (cw cc g S ++ E)) (st2 := [.int u3]) rfl rfl rfl ?_
        refine q_if_ge (pc := 25) (tgt := 34) C dX1_addAll_25 (by decide) (fun c5 => ?_) (fun c5 => ?_)
        · have hf := q_iteT hf c5
          refine q_sub (lvq := [(0, .ref (g 2)), (1, .int v1), (2, .int v2)]) [0, 1, 2] rfl ?_
          exact w_X1_addAll_34 C hk2 v1 v2 S hf
        · have hf := q_iteF hf c5
          refine q_aload_n (pc := 28) C dX1_addAll_28 rfl 0 rfl ?_
          refine q_iload_n (pc := 29) C dX1_addAll_29 rfl 2 rfl ?_
          obtain ⟨u6, e7, hf⟩ := q_bind hf
          refine q_callV (pc := 30) (As := [.int v2]) (rest := []) C (c_X1_add l D cc N0 g E S v2 u6 e7) gX1_addAll_X1_add rfl rfl z_X1_add ⟨Nat.le_of_ble_eq_true rfl, Nat.le_of_ble_eq_true rfl⟩ (cw_at_2 cc g E _) rfl rfl rfl (Nat.le_of_ble_eq_true rfl) dX1_addAll_30 ⟨Nat.le_of_ble_eq_true rfl, Nat.le_of_ble_eq_true rfl⟩ ?_
          refine q_after (rv := (some (.int u6.1))) (w0 := (cw cc g u6.2 ++ E)) (st2 := [.int u6.1]) rfl rfl rfl ?_
          refine q_pop (pc := 33) C dX1_addAll_33 rfl ?_
          refine q_sub (lvq := [(0, .ref (g 2)), (1, .int v1), (2, .int v2)]) [0, 1, 2] rfl ?_
          exact w_X1_addAll_34 C hk2 v1 v2 u6.2 hf
set_option maxRecDepth 100000 in
set_option maxHeartbeats 4000000 in
theorem c_X1_addAll (l : Launch) (D : va_G) (cc : Nat → ClassId) (N0 : Nat) (g : Nat → Nat) (E : va_W) (S : CS) (a1 : Int32) (v : CS) (hf : f_X1_addAll a1 S = some v) : q_Met l yX1_addAll wsX1_addAll 3 64 D cc N0 (cw cc g S ++ E) [.ref (g 2), .int a1] (q_p (none) (cw cc g v ++ E)) 0 0 := by
  refine q_ofW (code := cX1_addAll) (nL := 3) (ret := none) (by decide +kernel) rfl (Nat.le_of_ble_eq_true rfl) (fun p e s m below meth c C _ => ?_)
  refine q_lv (lv2 := [(0, .ref (g 2)), (1, .int a1)]) rfl ?_
  refine q_iconst (pc := 0) C (0 : Int32) dX1_addAll_0 q_ci_0 ?_
  refine q_istore_n (pc := 1) (lvq := [(2, .int (0 : Int32)), (0, .ref (g 2)), (1, .int a1)]) C dX1_addAll_1 rfl (by decide) rfl ?_
  refine q_sub (lvq := [(0, .ref (g 2)), (1, .int a1), (2, .int (0 : Int32))]) [1, 2, 0] rfl ?_
  exact w_X1_addAll_2 C 1000 a1 (0 : Int32) S hf
theorem z_X1_addAll : q_dsc yX1_addAll 1 := ⟨by decide +kernel, by decide +kernel, by decide +kernel⟩
def f_X1_agreementOn_24 (S : CS) (v2 : Int32) (v3 : Int32) : Int32 := (if v3 = v2 then (43 : Int32) else (45 : Int32))
def f_X1_agreementOn (S : CS) (a1 : Int32) (a2 : Int32) : Int32 := (if a2 = 0 then (63 : Int32) else (if (a2 &&& (f_X1_holding S a1)) = 0 then f_X1_agreementOn_24 S a2 (a2 &&& (f_X1_holding S a1)) else (if (a2 &&& (f_X1_holding S a1)) = a2 then f_X1_agreementOn_24 S a2 (a2 &&& (f_X1_holding S a1)) else (63 : Int32))))
set_option maxRecDepth 100000 in
set_option maxHeartbeats 4000000 in
theorem w_X1_agreementOn_24 {p : Program} {l : Launch} {e : Env} {s : State} {m : MethodId} {args : Array Value} {below : List Frame} {meth : Method} {c : Code} {D : va_G} {cc : Nat → ClassId} {N0 : Nat} {g : Nat → Nat} {E : va_W} {S : CS} {v : Int32} (C : q_C p s m args meth c cX1_agreementOn 4 (some .char) wsX1_agreementOn RX1 D cc N0)  (v2 : Int32) (v3 : Int32) (hf : f_X1_agreementOn_24 S v2 v3 = v) : q_WA p l e (q_rm 2 42 0 0) s m args below meth c D N0 4 (MQ below (q_Q D N0 (q_p (some (.int v)) (cw cc g S ++ E))) args s 0 0 (q_A N0)) 0 0 (cw cc g S ++ E) 24 [(2, .int v2), (3, .int v3)] [] := by
  refine q_iload_n (pc := 24) C dX1_agreementOn_24 rfl 1 rfl ?_
  refine q_iload_n (pc := 25) C dX1_agreementOn_25 rfl 0 rfl ?_
  refine q_icmp_ne (pc := 26) (tgt := 34) C dX1_agreementOn_26 (by decide) (fun c3 => ?_) (fun c3 => ?_)
  · have hf := q_iteF hf c3
    refine q_bipush (pc := 34) C (45 : Int32) dX1_agreementOn_34 q_cb_45 ?_
    obtain rfl := hf
    exact q_zret (pc := 36) C (by decide +kernel) dX1_agreementOn_36 ⟨rfl, rfl⟩
  · have hf := q_iteT hf c3
    refine q_bipush (pc := 29) C (43 : Int32) dX1_agreementOn_29 q_cb_43 ?_
    refine q_goto (pc := 31) (tgt := 36) C dX1_agreementOn_31 (by decide) ?_
    obtain rfl := hf
    exact q_zret (pc := 36) C (by decide +kernel) dX1_agreementOn_36 ⟨rfl, rfl⟩
set_option maxRecDepth 100000 in
set_option maxHeartbeats 4000000 in
theorem c_X1_agreementOn (l : Launch) (D : va_G) (cc : Nat → ClassId) (N0 : Nat) (g : Nat → Nat) (E : va_W) (S : CS) (a1 : Int32) (a2 : Int32) (v : Int32) (hf : f_X1_agreementOn S a1 a2 = v) : q_Met l yX1_agreementOn wsX1_agreementOn 2 42 D cc N0 (cw cc g S ++ E) [.ref (g 2), .int a1, .int a2] (q_p (some (.int v)) (cw cc g S ++ E)) 0 0 := by
  refine q_ofW (code := cX1_agreementOn) (nL := 4) (ret := (some .char)) (by decide +kernel) rfl (Nat.le_of_ble_eq_true rfl) (fun p e s m below meth c C _ => ?_)
  refine q_lv (lv2 := [(0, .ref (g 2)), (1, .int a1), (2, .int a2)]) rfl ?_
  refine q_iload_n (pc := 0) C dX1_agreementOn_0 rfl 2 rfl ?_
  refine q_aload_n (pc := 1) C dX1_agreementOn_1 rfl 0 rfl ?_
  refine q_iload_n (pc := 2) C dX1_agreementOn_2 rfl 1 rfl ?_
  refine q_callV (pc := 3) (As := [.int a1]) (rest := [.int a2]) C (c_X1_holding l D cc N0 g E S a1 _ rfl) gX1_agreementOn_X1_holding rfl rfl z_X1_holding ⟨Nat.le_of_ble_eq_true rfl, Nat.le_of_ble_eq_true rfl⟩ (cw_at_2 cc g E _) rfl rfl rfl (Nat.le_of_ble_eq_true rfl) dX1_agreementOn_3 ⟨Nat.le_of_ble_eq_true rfl, Nat.le_of_ble_eq_true rfl⟩ ?_
  refine q_after (rv := (some (.int (f_X1_holding S a1)))) (w0 := (cw cc g S ++ E)) (st2 := [.int (f_X1_holding S a1), .int a2]) rfl rfl rfl ?_
  refine q_iand (pc := 6) C dX1_agreementOn_6 ?_
  refine q_istore_n (pc := 7) (lvq := [(3, .int (a2 &&& (f_X1_holding S a1))), (0, .ref (g 2)), (1, .int a1), (2, .int a2)]) C dX1_agreementOn_7 rfl (by decide) rfl ?_
  refine q_iload_n (pc := 8) C dX1_agreementOn_8 rfl 3 rfl ?_
  refine q_if_eq (pc := 9) (tgt := 21) C dX1_agreementOn_9 (by decide) (fun c1 => ?_) (fun c1 => ?_)
  · have hf := q_iteT hf c1
    refine q_bipush (pc := 21) C (63 : Int32) dX1_agreementOn_21 q_cb_63 ?_
    obtain rfl := hf
    exact q_zret (pc := 23) C (by decide +kernel) dX1_agreementOn_23 ⟨rfl, rfl⟩
  · have hf := q_iteF hf c1
    refine q_iload_n (pc := 12) C dX1_agreementOn_12 rfl 0 rfl ?_
    refine q_if_eq (pc := 13) (tgt := 24) C dX1_agreementOn_13 (by decide) (fun c2 => ?_) (fun c2 => ?_)
    · have hf := q_iteT hf c2
      refine q_sub (lvq := [(2, .int a2), (3, .int (a2 &&& (f_X1_holding S a1)))]) [3, 0] rfl ?_
      exact w_X1_agreementOn_24 C a2 (a2 &&& (f_X1_holding S a1)) hf
    · have hf := q_iteF hf c2
      refine q_iload_n (pc := 16) C dX1_agreementOn_16 rfl 0 rfl ?_
      refine q_iload_n (pc := 17) C dX1_agreementOn_17 rfl 3 rfl ?_
      refine q_icmp_eq (pc := 18) (tgt := 24) C dX1_agreementOn_18 (by decide) (fun c4 => ?_) (fun c4 => ?_)
      · have hf := q_iteT hf c4
        refine q_sub (lvq := [(2, .int a2), (3, .int (a2 &&& (f_X1_holding S a1)))]) [3, 0] rfl ?_
        exact w_X1_agreementOn_24 C a2 (a2 &&& (f_X1_holding S a1)) hf
      · have hf := q_iteF hf c4
        refine q_bipush (pc := 21) C (63 : Int32) dX1_agreementOn_21 q_cb_63 ?_
        obtain rfl := hf
        exact q_zret (pc := 23) C (by decide +kernel) dX1_agreementOn_23 ⟨rfl, rfl⟩
theorem z_X1_agreementOn : q_dsc yX1_agreementOn 2 := ⟨by decide +kernel, by decide +kernel, by decide +kernel⟩
theorem n_X1_bestQuestion_X1 : ∀ w ∈ wsX10, w ∈ wsX1_bestQuestion := fun _ h => (List.mem_cons_of_mem _ (List.mem_append_right _ h))
def f_X1_bestQuestion_55 (S : CS) (k7 : Int32 → Int32 → Int32 → Int32 → Option Int32) (v1 : Int32) (v2 : Int32) (v3 : Int32) (v4 : Int32) : Option Int32 := k7 v1 v2 v3 (v4 + (1 : Int32))
def f_X1_bestQuestion_7b (S : CS) (k7 : Int32 → Int32 → Int32 → Int32 → Option Int32) (v1 : Int32) (v2 : Int32) (v3 : Int32) (v4 : Int32) : Option Int32 := (if (S.1 2 2) ≤ v4 then some v3 else (if (q_min (f_J6_bitCount_0f7a4 (v1 &&& (f_X1_holding S v4))) (f_J6_bitCount_0f7a4 (v1 &&& (f_X1_lacking S v4)))) ≤ v2 then f_X1_bestQuestion_55 S k7 v1 v2 v3 v4 else f_X1_bestQuestion_55 S k7 v1 (q_min (f_J6_bitCount_0f7a4 (v1 &&& (f_X1_holding S v4))) (f_J6_bitCount_0f7a4 (v1 &&& (f_X1_lacking S v4)))) v4 v4))
def f_X1_bestQuestion_7 (S : CS) : Nat → Int32 → Int32 → Int32 → Int32 → Option Int32
  | 0, _, _, _, _ => none
  | n + 1, v1, v2, v3, v4 => f_X1_bestQuestion_7b S (f_X1_bestQuestion_7 S n) v1 v2 v3 v4
def f_X1_bestQuestion (S : CS) (a1 : Int32) : Option Int32 := f_X1_bestQuestion_7 S 1000 a1 (-1 : Int32) (0 : Int32) (0 : Int32)
set_option maxRecDepth 100000 in
set_option maxHeartbeats 4000000 in
theorem w_X1_bestQuestion_55 {p : Program} {l : Launch} {e : Env} {s : State} {m : MethodId} {args : Array Value} {below : List Frame} {meth : Method} {c : Code} {D : va_G} {cc : Nat → ClassId} {N0 : Nat} {g : Nat → Nat} {E : va_W} {S : CS} {k7 : Int32 → Int32 → Int32 → Int32 → Option Int32} {v : Int32} (C : q_C p s m args meth c cX1_bestQuestion 6 (some .int) wsX1_bestQuestion RX1 D cc N0) (hk7 : ∀ (v1 : Int32) (v2 : Int32) (v3 : Int32) (v4 : Int32), k7 v1 v2 v3 v4 = some v → q_WA p l e (q_rm 2 42 0 0) s m args below meth c D N0 6 (MQ below (q_Q D N0 (q_p (some (.int v)) (cw cc g S ++ E))) args s 0 0 (q_A N0)) 0 0 (cw cc g S ++ E) 7 [(0, .ref (g 2)), (1, .int v1), (2, .int v2), (3, .int v3), (4, .int v4)] []) (v1 : Int32) (v2 : Int32) (v3 : Int32) (v4 : Int32) (hf : f_X1_bestQuestion_55 S k7 v1 v2 v3 v4 = some v) : q_WA p l e (q_rm 2 42 0 0) s m args below meth c D N0 6 (MQ below (q_Q D N0 (q_p (some (.int v)) (cw cc g S ++ E))) args s 0 0 (q_A N0)) 0 0 (cw cc g S ++ E) 55 [(0, .ref (g 2)), (1, .int v1), (2, .int v2), (3, .int v3), (4, .int v4)] [] := by
  refine q_iinc (pc := 55) (lvq := [(4, .int (v4 + (1 : Int32))), (0, .ref (g 2)), (1, .int v1), (2, .int v2), (3, .int v3)]) C (v4 + (1 : Int32)) dX1_bestQuestion_55 4 rfl q_ca_1 (by decide) rfl ?_
  refine q_goto (pc := 58) (tgt := 7) C dX1_bestQuestion_58 (by decide) ?_
  refine q_sub (lvq := [(0, .ref (g 2)), (1, .int v1), (2, .int v2), (3, .int v3), (4, .int (v4 + (1 : Int32)))]) [1, 2, 3, 4, 0] rfl ?_
  exact hk7 v1 v2 v3 (v4 + (1 : Int32)) hf
set_option maxRecDepth 100000 in
set_option maxHeartbeats 4000000 in
theorem w_X1_bestQuestion_7 {p : Program} {l : Launch} {e : Env} {s : State} {m : MethodId} {args : Array Value} {below : List Frame} {meth : Method} {c : Code} {D : va_G} {cc : Nat → ClassId} {N0 : Nat} {g : Nat → Nat} {E : va_W} {S : CS} {v : Int32} (C : q_C p s m args meth c cX1_bestQuestion 6 (some .int) wsX1_bestQuestion RX1 D cc N0)  : ∀ (n : Nat) (v1 : Int32) (v2 : Int32) (v3 : Int32) (v4 : Int32), f_X1_bestQuestion_7 S n v1 v2 v3 v4 = some v → q_WA p l e (q_rm 2 42 0 0) s m args below meth c D N0 6 (MQ below (q_Q D N0 (q_p (some (.int v)) (cw cc g S ++ E))) args s 0 0 (q_A N0)) 0 0 (cw cc g S ++ E) 7 [(0, .ref (g 2)), (1, .int v1), (2, .int v2), (3, .int v3), (4, .int v4)] [] := by
  intro n
  induction n with
  | zero => intro v1 v2 v3 v4 hf; cases hf
  | succ n ih =>
    intro v1 v2 v3 v4 hf
    have hk7 : ∀ (v1 : Int32) (v2 : Int32) (v3 : Int32) (v4 : Int32), f_X1_bestQuestion_7 S n v1 v2 v3 v4 = some v → q_WA p l e (q_rm 2 42 0 0) s m args below meth c D N0 6 (MQ below (q_Q D N0 (q_p (some (.int v)) (cw cc g S ++ E))) args s 0 0 (q_A N0)) 0 0 (cw cc g S ++ E) 7 [(0, .ref (g 2)), (1, .int v1), (2, .int v2), (3, .int v3), (4, .int v4)] [] := ih
    have hf : f_X1_bestQuestion_7b S (f_X1_bestQuestion_7 S n) v1 v2 v3 v4 = some v := hf
    refine q_iload (pc := 7) C dX1_bestQuestion_7 4 rfl ?_
    refine q_aload_n (pc := 9) C dX1_bestQuestion_9 rfl 0 rfl ?_
    refine r_g_2_2 (pc := 10) C n_X1_bestQuestion_X1 (List.mem_of_getElem? (i := 1) rfl) dX1_bestQuestion_10 ?_
    refine q_icmp_ge (pc := 13) (tgt := 61) C dX1_bestQuestion_13 (by decide) (fun c1 => ?_) (fun c1 => ?_)
    · have hf := q_iteT hf c1
      refine q_iload_n (pc := 61) C dX1_bestQuestion_61 rfl 3 rfl ?_
      obtain rfl := q_some hf
      exact q_iret (pc := 62) C dX1_bestQuestion_62 ⟨rfl, rfl⟩
    · have hf := q_iteF hf c1
      refine q_iload_n (pc := 16) C dX1_bestQuestion_16 rfl 1 rfl ?_
      refine q_aload_n (pc := 17) C dX1_bestQuestion_17 rfl 0 rfl ?_
      refine q_iload (pc := 18) C dX1_bestQuestion_18 4 rfl ?_
      refine q_callV (pc := 20) (As := [.int v4]) (rest := [.int v1]) C (c_X1_holding l D cc N0 g E S v4 _ rfl) gX1_bestQuestion_X1_holding rfl rfl z_X1_holding ⟨Nat.le_of_ble_eq_true rfl, Nat.le_of_ble_eq_true rfl⟩ (cw_at_2 cc g E _) rfl rfl rfl (Nat.le_of_ble_eq_true rfl) dX1_bestQuestion_20 ⟨Nat.le_of_ble_eq_true rfl, Nat.le_of_ble_eq_true rfl⟩ ?_
      refine q_after (rv := (some (.int (f_X1_holding S v4)))) (w0 := (cw cc g S ++ E)) (st2 := [.int (f_X1_holding S v4), .int v1]) rfl rfl rfl ?_
      refine q_iand (pc := 23) C dX1_bestQuestion_23 ?_
      refine q_callS (pc := 24) (As := [.int (v1 &&& (f_X1_holding S v4))]) (rest := []) C (c_J6_bitCount_0f7a4 l D cc N0 (cw cc g S ++ E) (v1 &&& (f_X1_holding S v4)) _ rfl) gX1_bestQuestion_J6_bitCount_0f7a4 rfl z_J6_bitCount_0f7a4 ⟨Nat.le_of_ble_eq_true rfl, Nat.le_of_ble_eq_true rfl⟩ rfl rfl (Nat.le_of_ble_eq_true rfl) dX1_bestQuestion_24 ⟨Nat.le_of_ble_eq_true rfl, Nat.le_of_ble_eq_true rfl⟩ ?_
      refine q_after (rv := (some (.int (f_J6_bitCount_0f7a4 (v1 &&& (f_X1_holding S v4)))))) (w0 := (cw cc g S ++ E)) (st2 := [.int (f_J6_bitCount_0f7a4 (v1 &&& (f_X1_holding S v4)))]) rfl rfl rfl ?_
      refine q_iload_n (pc := 27) C dX1_bestQuestion_27 rfl 1 rfl ?_
      refine q_aload_n (pc := 28) C dX1_bestQuestion_28 rfl 0 rfl ?_
      refine q_iload (pc := 29) C dX1_bestQuestion_29 4 rfl ?_
      refine q_callV (pc := 31) (As := [.int v4]) (rest := [.int v1, .int (f_J6_bitCount_0f7a4 (v1 &&& (f_X1_holding S v4)))]) C (c_X1_lacking l D cc N0 g E S v4 _ rfl) gX1_bestQuestion_X1_lacking rfl rfl z_X1_lacking ⟨Nat.le_of_ble_eq_true rfl, Nat.le_of_ble_eq_true rfl⟩ (cw_at_2 cc g E _) rfl rfl rfl (Nat.le_of_ble_eq_true rfl) dX1_bestQuestion_31 ⟨Nat.le_of_ble_eq_true rfl, Nat.le_of_ble_eq_true rfl⟩ ?_
      refine q_after (rv := (some (.int (f_X1_lacking S v4)))) (w0 := (cw cc g S ++ E)) (st2 := [.int (f_X1_lacking S v4), .int v1, .int (f_J6_bitCount_0f7a4 (v1 &&& (f_X1_holding S v4)))]) rfl rfl rfl ?_
      refine q_iand (pc := 34) C dX1_bestQuestion_34 ?_
      refine q_callS (pc := 35) (As := [.int (v1 &&& (f_X1_lacking S v4))]) (rest := [.int (f_J6_bitCount_0f7a4 (v1 &&& (f_X1_holding S v4)))]) C (c_J6_bitCount_0f7a4 l D cc N0 (cw cc g S ++ E) (v1 &&& (f_X1_lacking S v4)) _ rfl) gX1_bestQuestion_J6_bitCount_0f7a4 rfl z_J6_bitCount_0f7a4 ⟨Nat.le_of_ble_eq_true rfl, Nat.le_of_ble_eq_true rfl⟩ rfl rfl (Nat.le_of_ble_eq_true rfl) dX1_bestQuestion_35 ⟨Nat.le_of_ble_eq_true rfl, Nat.le_of_ble_eq_true rfl⟩ ?_
      refine q_after (rv := (some (.int (f_J6_bitCount_0f7a4 (v1 &&& (f_X1_lacking S v4)))))) (w0 := (cw cc g S ++ E)) (st2 := [.int (f_J6_bitCount_0f7a4 (v1 &&& (f_X1_lacking S v4))), .int (f_J6_bitCount_0f7a4 (v1 &&& (f_X1_holding S v4)))]) rfl rfl rfl ?_
      refine q_mmin (pc := 38) C (List.mem_of_getElem? (i := 2) rfl) (List.mem_of_getElem? (i := 3) rfl) (List.mem_of_getElem? (i := 4) rfl) (List.mem_of_getElem? (i := 5) rfl) (Nat.le_of_ble_eq_true rfl) (Nat.le_of_ble_eq_true rfl) ⟨Nat.le_of_ble_eq_true rfl, Nat.le_of_ble_eq_true rfl⟩ dX1_bestQuestion_38 ?_
      refine q_istore (pc := 41) (lvq := [(5, .int (q_min (f_J6_bitCount_0f7a4 (v1 &&& (f_X1_holding S v4))) (f_J6_bitCount_0f7a4 (v1 &&& (f_X1_lacking S v4))))), (0, .ref (g 2)), (1, .int v1), (2, .int v2), (3, .int v3), (4, .int v4)]) C dX1_bestQuestion_41 (by decide) rfl ?_
      refine q_iload (pc := 43) C dX1_bestQuestion_43 0 rfl ?_
      refine q_iload_n (pc := 45) C dX1_bestQuestion_45 rfl 3 rfl ?_
      refine q_icmp_le (pc := 46) (tgt := 55) C dX1_bestQuestion_46 (by decide) (fun c2 => ?_) (fun c2 => ?_)
      · have hf := q_iteT hf c2
        refine q_sub (lvq := [(0, .ref (g 2)), (1, .int v1), (2, .int v2), (3, .int v3), (4, .int v4)]) [1, 2, 3, 4, 5] rfl ?_
        exact w_X1_bestQuestion_55 C hk7 v1 v2 v3 v4 hf
      · have hf := q_iteF hf c2
        refine q_iload (pc := 49) C dX1_bestQuestion_49 0 rfl ?_
        refine q_istore_n (pc := 51) (lvq := [(2, .int (q_min (f_J6_bitCount_0f7a4 (v1 &&& (f_X1_holding S v4))) (f_J6_bitCount_0f7a4 (v1 &&& (f_X1_lacking S v4))))), (5, .int (q_min (f_J6_bitCount_0f7a4 (v1 &&& (f_X1_holding S v4))) (f_J6_bitCount_0f7a4 (v1 &&& (f_X1_lacking S v4))))), (0, .ref (g 2)), (1, .int v1), (3, .int v3), (4, .int v4)]) C dX1_bestQuestion_51 rfl (by decide) rfl ?_
        refine q_iload (pc := 52) C dX1_bestQuestion_52 5 rfl ?_
        refine q_istore_n (pc := 54) (lvq := [(3, .int v4), (2, .int (q_min (f_J6_bitCount_0f7a4 (v1 &&& (f_X1_holding S v4))) (f_J6_bitCount_0f7a4 (v1 &&& (f_X1_lacking S v4))))), (5, .int (q_min (f_J6_bitCount_0f7a4 (v1 &&& (f_X1_holding S v4))) (f_J6_bitCount_0f7a4 (v1 &&& (f_X1_lacking S v4))))), (0, .ref (g 2)), (1, .int v1), (4, .int v4)]) C dX1_bestQuestion_54 rfl (by decide) rfl ?_
        refine q_sub (lvq := [(0, .ref (g 2)), (1, .int v1), (2, .int (q_min (f_J6_bitCount_0f7a4 (v1 &&& (f_X1_holding S v4))) (f_J6_bitCount_0f7a4 (v1 &&& (f_X1_lacking S v4))))), (3, .int v4), (4, .int v4)]) [3, 4, 1, 0, 5] rfl ?_
        exact w_X1_bestQuestion_55 C hk7 v1 (q_min (f_J6_bitCount_0f7a4 (v1 &&& (f_X1_holding S v4))) (f_J6_bitCount_0f7a4 (v1 &&& (f_X1_lacking S v4)))) v4 v4 hf
set_option maxRecDepth 100000 in
set_option maxHeartbeats 4000000 in
theorem c_X1_bestQuestion (l : Launch) (D : va_G) (cc : Nat → ClassId) (N0 : Nat) (g : Nat → Nat) (E : va_W) (S : CS) (a1 : Int32) (v : Int32) (hf : f_X1_bestQuestion S a1 = some v) : q_Met l yX1_bestQuestion wsX1_bestQuestion 2 42 D cc N0 (cw cc g S ++ E) [.ref (g 2), .int a1] (q_p (some (.int v)) (cw cc g S ++ E)) 0 0 := by
  refine q_ofW (code := cX1_bestQuestion) (nL := 6) (ret := (some .int)) (by decide +kernel) rfl (Nat.le_of_ble_eq_true rfl) (fun p e s m below meth c C _ => ?_)
  refine q_lv (lv2 := [(0, .ref (g 2)), (1, .int a1)]) rfl ?_
  refine q_iconst (pc := 0) C (-1 : Int32) dX1_bestQuestion_0 q_ci_m1 ?_
  refine q_istore_n (pc := 1) (lvq := [(2, .int (-1 : Int32)), (0, .ref (g 2)), (1, .int a1)]) C dX1_bestQuestion_1 rfl (by decide) rfl ?_
  refine q_iconst (pc := 2) C (0 : Int32) dX1_bestQuestion_2 q_ci_0 ?_
  refine q_istore_n (pc := 3) (lvq := [(3, .int (0 : Int32)), (2, .int (-1 : Int32)), (0, .ref (g 2)), (1, .int a1)]) C dX1_bestQuestion_3 rfl (by decide) rfl ?_
  refine q_iconst (pc := 4) C (0 : Int32) dX1_bestQuestion_4 q_ci_0 ?_
  refine q_istore (pc := 5) (lvq := [(4, .int (0 : Int32)), (3, .int (0 : Int32)), (2, .int (-1 : Int32)), (0, .ref (g 2)), (1, .int a1)]) C dX1_bestQuestion_5 (by decide) rfl ?_
  refine q_sub (lvq := [(0, .ref (g 2)), (1, .int a1), (2, .int (-1 : Int32)), (3, .int (0 : Int32)), (4, .int (0 : Int32))]) [3, 4, 2, 1, 0] rfl ?_
  exact w_X1_bestQuestion_7 C 1000 a1 (-1 : Int32) (0 : Int32) (0 : Int32) hf
theorem z_X1_bestQuestion : q_dsc yX1_bestQuestion 1 := ⟨by decide +kernel, by decide +kernel, by decide +kernel⟩
def f_X1_isMostlyIn (S : CS) (a1 : Int32) (a2 : Int32) : Bool := (if (f_J6_bitCount_0f7a4 (a2 &&& (f_X1_holding S a1))) < (f_J6_bitCount_0f7a4 (a2 &&& (f_X1_lacking S a1))) then false else true)
set_option maxRecDepth 100000 in
set_option maxHeartbeats 4000000 in
theorem c_X1_isMostlyIn (l : Launch) (D : va_G) (cc : Nat → ClassId) (N0 : Nat) (g : Nat → Nat) (E : va_W) (S : CS) (a1 : Int32) (a2 : Int32) (v : Bool) (hf : f_X1_isMostlyIn S a1 a2 = v) : q_Met l yX1_isMostlyIn wsX1_isMostlyIn 2 42 D cc N0 (cw cc g S ++ E) [.ref (g 2), .int a1, .int a2] (q_p (some (.int (q_b v))) (cw cc g S ++ E)) 0 0 := by
  refine q_ofW (code := cX1_isMostlyIn) (nL := 3) (ret := (some .boolean)) (by decide +kernel) rfl (Nat.le_of_ble_eq_true rfl) (fun p e s m below meth c C _ => ?_)
  refine q_lv (lv2 := [(0, .ref (g 2)), (1, .int a1), (2, .int a2)]) rfl ?_
  refine q_iload_n (pc := 0) C dX1_isMostlyIn_0 rfl 2 rfl ?_
  refine q_aload_n (pc := 1) C dX1_isMostlyIn_1 rfl 0 rfl ?_
  refine q_iload_n (pc := 2) C dX1_isMostlyIn_2 rfl 1 rfl ?_
  refine q_callV (pc := 3) (As := [.int a1]) (rest := [.int a2]) C (c_X1_holding l D cc N0 g E S a1 _ rfl) gX1_isMostlyIn_X1_holding rfl rfl z_X1_holding ⟨Nat.le_of_ble_eq_true rfl, Nat.le_of_ble_eq_true rfl⟩ (cw_at_2 cc g E _) rfl rfl rfl (Nat.le_of_ble_eq_true rfl) dX1_isMostlyIn_3 ⟨Nat.le_of_ble_eq_true rfl, Nat.le_of_ble_eq_true rfl⟩ ?_
  refine q_after (rv := (some (.int (f_X1_holding S a1)))) (w0 := (cw cc g S ++ E)) (st2 := [.int (f_X1_holding S a1), .int a2]) rfl rfl rfl ?_
  refine q_iand (pc := 6) C dX1_isMostlyIn_6 ?_
  refine q_callS (pc := 7) (As := [.int (a2 &&& (f_X1_holding S a1))]) (rest := []) C (c_J6_bitCount_0f7a4 l D cc N0 (cw cc g S ++ E) (a2 &&& (f_X1_holding S a1)) _ rfl) gX1_isMostlyIn_J6_bitCount_0f7a4 rfl z_J6_bitCount_0f7a4 ⟨Nat.le_of_ble_eq_true rfl, Nat.le_of_ble_eq_true rfl⟩ rfl rfl (Nat.le_of_ble_eq_true rfl) dX1_isMostlyIn_7 ⟨Nat.le_of_ble_eq_true rfl, Nat.le_of_ble_eq_true rfl⟩ ?_
  refine q_after (rv := (some (.int (f_J6_bitCount_0f7a4 (a2 &&& (f_X1_holding S a1)))))) (w0 := (cw cc g S ++ E)) (st2 := [.int (f_J6_bitCount_0f7a4 (a2 &&& (f_X1_holding S a1)))]) rfl rfl rfl ?_
  refine q_iload_n (pc := 10) C dX1_isMostlyIn_10 rfl 2 rfl ?_
  refine q_aload_n (pc := 11) C dX1_isMostlyIn_11 rfl 0 rfl ?_
  refine q_iload_n (pc := 12) C dX1_isMostlyIn_12 rfl 1 rfl ?_
  refine q_callV (pc := 13) (As := [.int a1]) (rest := [.int a2, .int (f_J6_bitCount_0f7a4 (a2 &&& (f_X1_holding S a1)))]) C (c_X1_lacking l D cc N0 g E S a1 _ rfl) gX1_isMostlyIn_X1_lacking rfl rfl z_X1_lacking ⟨Nat.le_of_ble_eq_true rfl, Nat.le_of_ble_eq_true rfl⟩ (cw_at_2 cc g E _) rfl rfl rfl (Nat.le_of_ble_eq_true rfl) dX1_isMostlyIn_13 ⟨Nat.le_of_ble_eq_true rfl, Nat.le_of_ble_eq_true rfl⟩ ?_
  refine q_after (rv := (some (.int (f_X1_lacking S a1)))) (w0 := (cw cc g S ++ E)) (st2 := [.int (f_X1_lacking S a1), .int a2, .int (f_J6_bitCount_0f7a4 (a2 &&& (f_X1_holding S a1)))]) rfl rfl rfl ?_
  refine q_iand (pc := 16) C dX1_isMostlyIn_16 ?_
  refine q_callS (pc := 17) (As := [.int (a2 &&& (f_X1_lacking S a1))]) (rest := [.int (f_J6_bitCount_0f7a4 (a2 &&& (f_X1_holding S a1)))]) C (c_J6_bitCount_0f7a4 l D cc N0 (cw cc g S ++ E) (a2 &&& (f_X1_lacking S a1)) _ rfl) gX1_isMostlyIn_J6_bitCount_0f7a4 rfl z_J6_bitCount_0f7a4 ⟨Nat.le_of_ble_eq_true rfl, Nat.le_of_ble_eq_true rfl⟩ rfl rfl (Nat.le_of_ble_eq_true rfl) dX1_isMostlyIn_17 ⟨Nat.le_of_ble_eq_true rfl, Nat.le_of_ble_eq_true rfl⟩ ?_
  refine q_after (rv := (some (.int (f_J6_bitCount_0f7a4 (a2 &&& (f_X1_lacking S a1)))))) (w0 := (cw cc g S ++ E)) (st2 := [.int (f_J6_bitCount_0f7a4 (a2 &&& (f_X1_lacking S a1))), .int (f_J6_bitCount_0f7a4 (a2 &&& (f_X1_holding S a1)))]) rfl rfl rfl ?_
  refine q_icmp_lt (pc := 20) (tgt := 27) C dX1_isMostlyIn_20 (by decide) (fun c1 => ?_) (fun c1 => ?_)
  · have hf := q_iteT hf c1
    refine q_iconst (pc := 27) C (0 : Int32) dX1_isMostlyIn_27 q_ci_0 ?_
    obtain rfl := hf
    exact q_zret (pc := 28) C (by decide +kernel) dX1_isMostlyIn_28 ⟨rfl, rfl⟩
  · have hf := q_iteF hf c1
    refine q_iconst (pc := 23) C (1 : Int32) dX1_isMostlyIn_23 q_ci_1 ?_
    refine q_goto (pc := 24) (tgt := 28) C dX1_isMostlyIn_24 (by decide) ?_
    obtain rfl := hf
    exact q_zret (pc := 28) C (by decide +kernel) dX1_isMostlyIn_28 ⟨rfl, rfl⟩
theorem z_X1_isMostlyIn : q_dsc yX1_isMostlyIn 2 := ⟨by decide +kernel, by decide +kernel, by decide +kernel⟩
theorem n_X1_shatters_X1 : ∀ w ∈ wsX10, w ∈ wsX1_shatters := fun _ h => (List.mem_cons_of_mem _ (List.mem_append_right _ h))
def f_X1_shatters_5b (S : CS) (k5 : Int32 → Int64 → Int32 → Option Bool) (v1 : Int32) (v2 : Int64) (v4 : Int32) : Option Bool := (if (S.1 2 3) ≤ v4 then (if (f_J13_bitCount_95d88 v2) = ((1 : Int32) <<< ((f_J6_bitCount_0f7a4 v1) &&& 31)) then some true else some false) else k5 v1 (v2 ||| ((1 : Int64) <<< (((f_X1_setAt S v4) &&& v1).toInt64 &&& 63))) (v4 + (1 : Int32)))
def f_X1_shatters_5 (S : CS) : Nat → Int32 → Int64 → Int32 → Option Bool
  | 0, _, _, _ => none
  | n + 1, v1, v2, v4 => f_X1_shatters_5b S (f_X1_shatters_5 S n) v1 v2 v4
def f_X1_shatters (S : CS) (a1 : Int32) : Option Bool := f_X1_shatters_5 S 1000 a1 (0 : Int64) (0 : Int32)
set_option maxRecDepth 100000 in
set_option maxHeartbeats 4000000 in
theorem w_X1_shatters_5 {p : Program} {l : Launch} {e : Env} {s : State} {m : MethodId} {args : Array Value} {below : List Frame} {meth : Method} {c : Code} {D : va_G} {cc : Nat → ClassId} {N0 : Nat} {g : Nat → Nat} {E : va_W} {S : CS} {v : Bool} (C : q_C p s m args meth c cX1_shatters 5 (some .boolean) wsX1_shatters RX1 D cc N0)  : ∀ (n : Nat) (v1 : Int32) (v2 : Int64) (v4 : Int32), f_X1_shatters_5 S n v1 v2 v4 = some v → q_WA p l e (q_rm 2 42 0 0) s m args below meth c D N0 5 (MQ below (q_Q D N0 (q_p (some (.int (q_b v))) (cw cc g S ++ E))) args s 0 0 (q_A N0)) 0 0 (cw cc g S ++ E) 5 [(0, .ref (g 2)), (1, .int v1), (2, .long v2), (4, .int v4)] [] := by
  intro n
  induction n with
  | zero => intro v1 v2 v4 hf; cases hf
  | succ n ih =>
    intro v1 v2 v4 hf
    have hk5 : ∀ (v1 : Int32) (v2 : Int64) (v4 : Int32), f_X1_shatters_5 S n v1 v2 v4 = some v → q_WA p l e (q_rm 2 42 0 0) s m args below meth c D N0 5 (MQ below (q_Q D N0 (q_p (some (.int (q_b v))) (cw cc g S ++ E))) args s 0 0 (q_A N0)) 0 0 (cw cc g S ++ E) 5 [(0, .ref (g 2)), (1, .int v1), (2, .long v2), (4, .int v4)] [] := ih
    have hf : f_X1_shatters_5b S (f_X1_shatters_5 S n) v1 v2 v4 = some v := hf
    refine q_iload (pc := 5) C dX1_shatters_5 3 rfl ?_
    refine q_aload_n (pc := 7) C dX1_shatters_7 rfl 0 rfl ?_
    refine r_g_2_3 (pc := 8) C n_X1_shatters_X1 (List.mem_of_getElem? (i := 1) rfl) dX1_shatters_8 ?_
    refine q_icmp_ge (pc := 11) (tgt := 33) C dX1_shatters_11 (by decide) (fun c1 => ?_) (fun c1 => ?_)
    · have hf := q_iteT hf c1
      refine q_lload_n (pc := 33) C dX1_shatters_33 rfl 2 rfl ?_
      refine q_callS (pc := 34) (As := [.long v2]) (rest := []) C (c_J13_bitCount_95d88 l D cc N0 (cw cc g S ++ E) v2 _ rfl) gX1_shatters_J13_bitCount_95d88 rfl z_J13_bitCount_95d88 ⟨Nat.le_of_ble_eq_true rfl, Nat.le_of_ble_eq_true rfl⟩ rfl rfl (Nat.le_of_ble_eq_true rfl) dX1_shatters_34 ⟨Nat.le_of_ble_eq_true rfl, Nat.le_of_ble_eq_true rfl⟩ ?_
      refine q_after (rv := (some (.int (f_J13_bitCount_95d88 v2)))) (w0 := (cw cc g S ++ E)) (st2 := [.int (f_J13_bitCount_95d88 v2)]) rfl rfl rfl ?_
      refine q_iconst (pc := 37) C (1 : Int32) dX1_shatters_37 q_ci_1 ?_
      refine q_iload_n (pc := 38) C dX1_shatters_38 rfl 1 rfl ?_
      refine q_callS (pc := 39) (As := [.int v1]) (rest := [.int (1 : Int32), .int (f_J13_bitCount_95d88 v2)]) C (c_J6_bitCount_0f7a4 l D cc N0 (cw cc g S ++ E) v1 _ rfl) gX1_shatters_J6_bitCount_0f7a4 rfl z_J6_bitCount_0f7a4 ⟨Nat.le_of_ble_eq_true rfl, Nat.le_of_ble_eq_true rfl⟩ rfl rfl (Nat.le_of_ble_eq_true rfl) dX1_shatters_39 ⟨Nat.le_of_ble_eq_true rfl, Nat.le_of_ble_eq_true rfl⟩ ?_
      refine q_after (rv := (some (.int (f_J6_bitCount_0f7a4 v1)))) (w0 := (cw cc g S ++ E)) (st2 := [.int (f_J6_bitCount_0f7a4 v1), .int (1 : Int32), .int (f_J13_bitCount_95d88 v2)]) rfl rfl rfl ?_
      refine q_ishl (pc := 42) C dX1_shatters_42 ?_
      refine q_icmp_ne (pc := 43) (tgt := 50) C dX1_shatters_43 (by decide) (fun c2 => ?_) (fun c2 => ?_)
      · have hf := q_iteF hf c2
        refine q_iconst (pc := 50) C (0 : Int32) dX1_shatters_50 q_ci_0 ?_
        obtain rfl := q_some hf
        exact q_zret (pc := 51) C (by decide +kernel) dX1_shatters_51 ⟨rfl, rfl⟩
      · have hf := q_iteT hf c2
        refine q_iconst (pc := 46) C (1 : Int32) dX1_shatters_46 q_ci_1 ?_
        refine q_goto (pc := 47) (tgt := 51) C dX1_shatters_47 (by decide) ?_
        obtain rfl := q_some hf
        exact q_zret (pc := 51) C (by decide +kernel) dX1_shatters_51 ⟨rfl, rfl⟩
    · have hf := q_iteF hf c1
      refine q_lload_n (pc := 14) C dX1_shatters_14 rfl 2 rfl ?_
      refine q_lconst (pc := 15) C (1 : Int64) dX1_shatters_15 q_cl_1 ?_
      refine q_aload_n (pc := 16) C dX1_shatters_16 rfl 0 rfl ?_
      refine q_iload (pc := 17) C dX1_shatters_17 3 rfl ?_
      refine q_callV (pc := 19) (As := [.int v4]) (rest := [.long (1 : Int64), .long v2]) C (c_X1_setAt l D cc N0 g E S v4 _ rfl) gX1_shatters_X1_setAt rfl rfl z_X1_setAt ⟨Nat.le_of_ble_eq_true rfl, Nat.le_of_ble_eq_true rfl⟩ (cw_at_2 cc g E _) rfl rfl rfl (Nat.le_of_ble_eq_true rfl) dX1_shatters_19 ⟨Nat.le_of_ble_eq_true rfl, Nat.le_of_ble_eq_true rfl⟩ ?_
      refine q_after (rv := (some (.int (f_X1_setAt S v4)))) (w0 := (cw cc g S ++ E)) (st2 := [.int (f_X1_setAt S v4), .long (1 : Int64), .long v2]) rfl rfl rfl ?_
      refine q_iload_n (pc := 22) C dX1_shatters_22 rfl 1 rfl ?_
      refine q_iand (pc := 23) C dX1_shatters_23 ?_
      refine q_lshl (pc := 24) C dX1_shatters_24 rfl ?_
      refine q_lor (pc := 25) C dX1_shatters_25 ?_
      refine q_lstore_n (pc := 26) (lvq := [(2, .long (v2 ||| ((1 : Int64) <<< (((f_X1_setAt S v4) &&& v1).toInt64 &&& 63)))), (0, .ref (g 2)), (1, .int v1), (4, .int v4)]) C dX1_shatters_26 rfl (by decide) rfl ?_
      refine q_iinc (pc := 27) (lvq := [(4, .int (v4 + (1 : Int32))), (2, .long (v2 ||| ((1 : Int64) <<< (((f_X1_setAt S v4) &&& v1).toInt64 &&& 63)))), (0, .ref (g 2)), (1, .int v1)]) C (v4 + (1 : Int32)) dX1_shatters_27 3 rfl q_ca_1 (by decide) rfl ?_
      refine q_goto (pc := 30) (tgt := 5) C dX1_shatters_30 (by decide) ?_
      refine q_sub (lvq := [(0, .ref (g 2)), (1, .int v1), (2, .long (v2 ||| ((1 : Int64) <<< (((f_X1_setAt S v4) &&& v1).toInt64 &&& 63)))), (4, .int (v4 + (1 : Int32)))]) [2, 3, 1, 0] rfl ?_
      exact hk5 v1 (v2 ||| ((1 : Int64) <<< (((f_X1_setAt S v4) &&& v1).toInt64 &&& 63))) (v4 + (1 : Int32)) hf
set_option maxRecDepth 100000 in
set_option maxHeartbeats 4000000 in
theorem c_X1_shatters (l : Launch) (D : va_G) (cc : Nat → ClassId) (N0 : Nat) (g : Nat → Nat) (E : va_W) (S : CS) (a1 : Int32) (v : Bool) (hf : f_X1_shatters S a1 = some v) : q_Met l yX1_shatters wsX1_shatters 2 42 D cc N0 (cw cc g S ++ E) [.ref (g 2), .int a1] (q_p (some (.int (q_b v))) (cw cc g S ++ E)) 0 0 := by
  refine q_ofW (code := cX1_shatters) (nL := 5) (ret := (some .boolean)) (by decide +kernel) rfl (Nat.le_of_ble_eq_true rfl) (fun p e s m below meth c C _ => ?_)
  refine q_lv (lv2 := [(0, .ref (g 2)), (1, .int a1)]) rfl ?_
  refine q_lconst (pc := 0) C (0 : Int64) dX1_shatters_0 q_cl_0 ?_
  refine q_lstore_n (pc := 1) (lvq := [(2, .long (0 : Int64)), (0, .ref (g 2)), (1, .int a1)]) C dX1_shatters_1 rfl (by decide) rfl ?_
  refine q_iconst (pc := 2) C (0 : Int32) dX1_shatters_2 q_ci_0 ?_
  refine q_istore (pc := 3) (lvq := [(4, .int (0 : Int32)), (2, .long (0 : Int64)), (0, .ref (g 2)), (1, .int a1)]) C dX1_shatters_3 (by decide) rfl ?_
  refine q_sub (lvq := [(0, .ref (g 2)), (1, .int a1), (2, .long (0 : Int64)), (4, .int (0 : Int32))]) [2, 3, 1, 0] rfl ?_
  exact w_X1_shatters_5 C 1000 a1 (0 : Int64) (0 : Int32) hf
theorem z_X1_shatters : q_dsc yX1_shatters 1 := ⟨by decide +kernel, by decide +kernel, by decide +kernel⟩
theorem n_X1_greatestShattered_X1 : ∀ w ∈ wsX10, w ∈ wsX1_greatestShattered := fun _ h => (List.mem_cons_of_mem _ (List.mem_append_right _ h))
def f_X1_greatestShattered_35 (S : CS) (k4 : Int32 → Int32 → Option Int32) (v1 : Int32) (v2 : Int32) : Option Int32 := k4 v1 (v2 + (1 : Int32))
def f_X1_greatestShattered_4b (S : CS) (k4 : Int32 → Int32 → Option Int32) (v1 : Int32) (v2 : Int32) : Option Int32 := (if ((1 : Int32) <<< ((S.1 2 2) &&& 31)) ≤ v2 then some v1 else (if (f_J6_bitCount_0f7a4 v2) ≤ v1 then f_X1_greatestShattered_35 S k4 v1 v2 else ((f_X1_shatters S v2).bind fun u3 => (if (q_b u3) = 0 then f_X1_greatestShattered_35 S k4 v1 v2 else f_X1_greatestShattered_35 S k4 (f_J6_bitCount_0f7a4 v2) v2))))
def f_X1_greatestShattered_4 (S : CS) : Nat → Int32 → Int32 → Option Int32
  | 0, _, _ => none
  | n + 1, v1, v2 => f_X1_greatestShattered_4b S (f_X1_greatestShattered_4 S n) v1 v2
def f_X1_greatestShattered (S : CS) : Option Int32 := f_X1_greatestShattered_4 S 1000 (-1 : Int32) (0 : Int32)
set_option maxRecDepth 100000 in
set_option maxHeartbeats 4000000 in
theorem w_X1_greatestShattered_35 {p : Program} {l : Launch} {e : Env} {s : State} {m : MethodId} {args : Array Value} {below : List Frame} {meth : Method} {c : Code} {D : va_G} {cc : Nat → ClassId} {N0 : Nat} {g : Nat → Nat} {E : va_W} {S : CS} {k4 : Int32 → Int32 → Option Int32} {v : Int32} (C : q_C p s m args meth c cX1_greatestShattered 3 (some .int) wsX1_greatestShattered RX1 D cc N0) (hk4 : ∀ (v1 : Int32) (v2 : Int32), k4 v1 v2 = some v → q_WA p l e (q_rm 3 66 0 0) s m args below meth c D N0 3 (MQ below (q_Q D N0 (q_p (some (.int v)) (cw cc g S ++ E))) args s 0 0 (q_A N0)) 0 0 (cw cc g S ++ E) 4 [(0, .ref (g 2)), (1, .int v1), (2, .int v2)] []) (v1 : Int32) (v2 : Int32) (hf : f_X1_greatestShattered_35 S k4 v1 v2 = some v) : q_WA p l e (q_rm 3 66 0 0) s m args below meth c D N0 3 (MQ below (q_Q D N0 (q_p (some (.int v)) (cw cc g S ++ E))) args s 0 0 (q_A N0)) 0 0 (cw cc g S ++ E) 35 [(0, .ref (g 2)), (1, .int v1), (2, .int v2)] [] := by
  refine q_iinc (pc := 35) (lvq := [(2, .int (v2 + (1 : Int32))), (0, .ref (g 2)), (1, .int v1)]) C (v2 + (1 : Int32)) dX1_greatestShattered_35 2 rfl q_ca_1 (by decide) rfl ?_
  refine q_goto (pc := 38) (tgt := 4) C dX1_greatestShattered_38 (by decide) ?_
  refine q_sub (lvq := [(0, .ref (g 2)), (1, .int v1), (2, .int (v2 + (1 : Int32)))]) [1, 2, 0] rfl ?_
  exact hk4 v1 (v2 + (1 : Int32)) hf
set_option maxRecDepth 100000 in
set_option maxHeartbeats 4000000 in
theorem w_X1_greatestShattered_4 {p : Program} {l : Launch} {e : Env} {s : State} {m : MethodId} {args : Array Value} {below : List Frame} {meth : Method} {c : Code} {D : va_G} {cc : Nat → ClassId} {N0 : Nat} {g : Nat → Nat} {E : va_W} {S : CS} {v : Int32} (C : q_C p s m args meth c cX1_greatestShattered 3 (some .int) wsX1_greatestShattered RX1 D cc N0)  : ∀ (n : Nat) (v1 : Int32) (v2 : Int32), f_X1_greatestShattered_4 S n v1 v2 = some v → q_WA p l e (q_rm 3 66 0 0) s m args below meth c D N0 3 (MQ below (q_Q D N0 (q_p (some (.int v)) (cw cc g S ++ E))) args s 0 0 (q_A N0)) 0 0 (cw cc g S ++ E) 4 [(0, .ref (g 2)), (1, .int v1), (2, .int v2)] [] := by
  intro n
  induction n with
  | zero => intro v1 v2 hf; cases hf
  | succ n ih =>
    intro v1 v2 hf
    have hk4 : ∀ (v1 : Int32) (v2 : Int32), f_X1_greatestShattered_4 S n v1 v2 = some v → q_WA p l e (q_rm 3 66 0 0) s m args below meth c D N0 3 (MQ below (q_Q D N0 (q_p (some (.int v)) (cw cc g S ++ E))) args s 0 0 (q_A N0)) 0 0 (cw cc g S ++ E) 4 [(0, .ref (g 2)), (1, .int v1), (2, .int v2)] [] := ih
    have hf : f_X1_greatestShattered_4b S (f_X1_greatestShattered_4 S n) v1 v2 = some v := hf
    refine q_iload_n (pc := 4) C dX1_greatestShattered_4 rfl 2 rfl ?_
    refine q_iconst (pc := 5) C (1 : Int32) dX1_greatestShattered_5 q_ci_1 ?_
    refine q_aload_n (pc := 6) C dX1_greatestShattered_6 rfl 0 rfl ?_
    refine r_g_2_2 (pc := 7) C n_X1_greatestShattered_X1 (List.mem_of_getElem? (i := 1) rfl) dX1_greatestShattered_7 ?_
    refine q_ishl (pc := 10) C dX1_greatestShattered_10 ?_
    refine q_icmp_ge (pc := 11) (tgt := 41) C dX1_greatestShattered_11 (by decide) (fun c1 => ?_) (fun c1 => ?_)
    · have hf := q_iteT hf c1
      refine q_iload_n (pc := 41) C dX1_greatestShattered_41 rfl 1 rfl ?_
      obtain rfl := q_some hf
      exact q_iret (pc := 42) C dX1_greatestShattered_42 ⟨rfl, rfl⟩
    · have hf := q_iteF hf c1
      refine q_iload_n (pc := 14) C dX1_greatestShattered_14 rfl 2 rfl ?_
      refine q_callS (pc := 15) (As := [.int v2]) (rest := []) C (c_J6_bitCount_0f7a4 l D cc N0 (cw cc g S ++ E) v2 _ rfl) gX1_greatestShattered_J6_bitCount_0f7a4 rfl z_J6_bitCount_0f7a4 ⟨Nat.le_of_ble_eq_true rfl, Nat.le_of_ble_eq_true rfl⟩ rfl rfl (Nat.le_of_ble_eq_true rfl) dX1_greatestShattered_15 ⟨Nat.le_of_ble_eq_true rfl, Nat.le_of_ble_eq_true rfl⟩ ?_
      refine q_after (rv := (some (.int (f_J6_bitCount_0f7a4 v2)))) (w0 := (cw cc g S ++ E)) (st2 := [.int (f_J6_bitCount_0f7a4 v2)]) rfl rfl rfl ?_
      refine q_iload_n (pc := 18) C dX1_greatestShattered_18 rfl 1 rfl ?_
      refine q_icmp_le (pc := 19) (tgt := 35) C dX1_greatestShattered_19 (by decide) (fun c2 => ?_) (fun c2 => ?_)
      · have hf := q_iteT hf c2
        refine q_sub (lvq := [(0, .ref (g 2)), (1, .int v1), (2, .int v2)]) [0, 1, 2] rfl ?_
        exact w_X1_greatestShattered_35 C hk4 v1 v2 hf
      · have hf := q_iteF hf c2
        refine q_aload_n (pc := 22) C dX1_greatestShattered_22 rfl 0 rfl ?_
        refine q_iload_n (pc := 23) C dX1_greatestShattered_23 rfl 2 rfl ?_
        obtain ⟨u3, e4, hf⟩ := q_bind hf
        refine q_callV (pc := 24) (As := [.int v2]) (rest := []) C (c_X1_shatters l D cc N0 g E S v2 u3 e4) gX1_greatestShattered_X1_shatters rfl rfl z_X1_shatters ⟨Nat.le_of_ble_eq_true rfl, Nat.le_of_ble_eq_true rfl⟩ (cw_at_2 cc g E _) rfl rfl rfl (Nat.le_of_ble_eq_true rfl) dX1_greatestShattered_24 ⟨Nat.le_of_ble_eq_true rfl, Nat.le_of_ble_eq_true rfl⟩ ?_
        refine q_after (rv := (some (.int (q_b u3)))) (w0 := (cw cc g S ++ E)) (st2 := [.int (q_b u3)]) rfl rfl rfl ?_
        refine q_if_eq (pc := 27) (tgt := 35) C dX1_greatestShattered_27 (by decide) (fun c5 => ?_) (fun c5 => ?_)
        · have hf := q_iteT hf c5
          refine q_sub (lvq := [(0, .ref (g 2)), (1, .int v1), (2, .int v2)]) [0, 1, 2] rfl ?_
          exact w_X1_greatestShattered_35 C hk4 v1 v2 hf
        · have hf := q_iteF hf c5
          refine q_iload_n (pc := 30) C dX1_greatestShattered_30 rfl 2 rfl ?_
          refine q_callS (pc := 31) (As := [.int v2]) (rest := []) C (c_J6_bitCount_0f7a4 l D cc N0 (cw cc g S ++ E) v2 _ rfl) gX1_greatestShattered_J6_bitCount_0f7a4 rfl z_J6_bitCount_0f7a4 ⟨Nat.le_of_ble_eq_true rfl, Nat.le_of_ble_eq_true rfl⟩ rfl rfl (Nat.le_of_ble_eq_true rfl) dX1_greatestShattered_31 ⟨Nat.le_of_ble_eq_true rfl, Nat.le_of_ble_eq_true rfl⟩ ?_
          refine q_after (rv := (some (.int (f_J6_bitCount_0f7a4 v2)))) (w0 := (cw cc g S ++ E)) (st2 := [.int (f_J6_bitCount_0f7a4 v2)]) rfl rfl rfl ?_
          refine q_istore_n (pc := 34) (lvq := [(1, .int (f_J6_bitCount_0f7a4 v2)), (0, .ref (g 2)), (2, .int v2)]) C dX1_greatestShattered_34 rfl (by decide) rfl ?_
          refine q_sub (lvq := [(0, .ref (g 2)), (1, .int (f_J6_bitCount_0f7a4 v2)), (2, .int v2)]) [1, 0, 2] rfl ?_
          exact w_X1_greatestShattered_35 C hk4 (f_J6_bitCount_0f7a4 v2) v2 hf
set_option maxRecDepth 100000 in
set_option maxHeartbeats 4000000 in
theorem c_X1_greatestShattered (l : Launch) (D : va_G) (cc : Nat → ClassId) (N0 : Nat) (g : Nat → Nat) (E : va_W) (S : CS) (v : Int32) (hf : f_X1_greatestShattered S = some v) : q_Met l yX1_greatestShattered wsX1_greatestShattered 3 66 D cc N0 (cw cc g S ++ E) [.ref (g 2)] (q_p (some (.int v)) (cw cc g S ++ E)) 0 0 := by
  refine q_ofW (code := cX1_greatestShattered) (nL := 3) (ret := (some .int)) (by decide +kernel) rfl (Nat.le_of_ble_eq_true rfl) (fun p e s m below meth c C _ => ?_)
  refine q_lv (lv2 := [(0, .ref (g 2))]) rfl ?_
  refine q_iconst (pc := 0) C (-1 : Int32) dX1_greatestShattered_0 q_ci_m1 ?_
  refine q_istore_n (pc := 1) (lvq := [(1, .int (-1 : Int32)), (0, .ref (g 2))]) C dX1_greatestShattered_1 rfl (by decide) rfl ?_
  refine q_iconst (pc := 2) C (0 : Int32) dX1_greatestShattered_2 q_ci_0 ?_
  refine q_istore_n (pc := 3) (lvq := [(2, .int (0 : Int32)), (1, .int (-1 : Int32)), (0, .ref (g 2))]) C dX1_greatestShattered_3 rfl (by decide) rfl ?_
  refine q_sub (lvq := [(0, .ref (g 2)), (1, .int (-1 : Int32)), (2, .int (0 : Int32))]) [2, 1, 0] rfl ?_
  exact w_X1_greatestShattered_4 C 1000 (-1 : Int32) (0 : Int32) hf
theorem z_X1_greatestShattered : q_dsc yX1_greatestShattered 0 := ⟨by decide +kernel, by decide +kernel, by decide +kernel⟩
theorem n_X1_isLesson_X1 : ∀ w ∈ wsX10, w ∈ wsX1_isLesson := fun _ h => (List.mem_cons_of_mem _ (List.mem_append_right _ h))
def f_X1_isLesson_39 (S : CS) (k9 : Int32 → Int32 → Int32 → Int32 → Option Bool) (v1 : Int32) (v2 : Int32) (v3 : Int32) (v4 : Int32) : Option Bool := k9 v1 v2 v3 (v4 + (1 : Int32))
def f_X1_isLesson_9b (S : CS) (k9 : Int32 → Int32 → Int32 → Int32 → Option Bool) (v1 : Int32) (v2 : Int32) (v3 : Int32) (v4 : Int32) : Option Bool := (if (S.1 2 3) ≤ v4 then some true else (if v4 = v2 then f_X1_isLesson_39 S k9 v1 v2 v3 v4 else (if ((v3 ^^^ (f_X1_setAt S v4)) &&& v1) = 0 then some false else f_X1_isLesson_39 S k9 v1 v2 v3 v4)))
def f_X1_isLesson_9 (S : CS) : Nat → Int32 → Int32 → Int32 → Int32 → Option Bool
  | 0, _, _, _, _ => none
  | n + 1, v1, v2, v3, v4 => f_X1_isLesson_9b S (f_X1_isLesson_9 S n) v1 v2 v3 v4
def f_X1_isLesson (S : CS) (a1 : Int32) (a2 : Int32) : Option Bool := f_X1_isLesson_9 S 1000 a1 a2 (f_X1_setAt S a2) (0 : Int32)
set_option maxRecDepth 100000 in
set_option maxHeartbeats 4000000 in
theorem w_X1_isLesson_39 {p : Program} {l : Launch} {e : Env} {s : State} {m : MethodId} {args : Array Value} {below : List Frame} {meth : Method} {c : Code} {D : va_G} {cc : Nat → ClassId} {N0 : Nat} {g : Nat → Nat} {E : va_W} {S : CS} {k9 : Int32 → Int32 → Int32 → Int32 → Option Bool} {v : Bool} (C : q_C p s m args meth c cX1_isLesson 5 (some .boolean) wsX1_isLesson RX1 D cc N0) (hk9 : ∀ (v1 : Int32) (v2 : Int32) (v3 : Int32) (v4 : Int32), k9 v1 v2 v3 v4 = some v → q_WA p l e (q_rm 2 42 0 0) s m args below meth c D N0 5 (MQ below (q_Q D N0 (q_p (some (.int (q_b v))) (cw cc g S ++ E))) args s 0 0 (q_A N0)) 0 0 (cw cc g S ++ E) 9 [(0, .ref (g 2)), (1, .int v1), (2, .int v2), (3, .int v3), (4, .int v4)] []) (v1 : Int32) (v2 : Int32) (v3 : Int32) (v4 : Int32) (hf : f_X1_isLesson_39 S k9 v1 v2 v3 v4 = some v) : q_WA p l e (q_rm 2 42 0 0) s m args below meth c D N0 5 (MQ below (q_Q D N0 (q_p (some (.int (q_b v))) (cw cc g S ++ E))) args s 0 0 (q_A N0)) 0 0 (cw cc g S ++ E) 39 [(0, .ref (g 2)), (1, .int v1), (2, .int v2), (3, .int v3), (4, .int v4)] [] := by
  refine q_iinc (pc := 39) (lvq := [(4, .int (v4 + (1 : Int32))), (0, .ref (g 2)), (1, .int v1), (2, .int v2), (3, .int v3)]) C (v4 + (1 : Int32)) dX1_isLesson_39 4 rfl q_ca_1 (by decide) rfl ?_
  refine q_goto (pc := 42) (tgt := 9) C dX1_isLesson_42 (by decide) ?_
  refine q_sub (lvq := [(0, .ref (g 2)), (1, .int v1), (2, .int v2), (3, .int v3), (4, .int (v4 + (1 : Int32)))]) [1, 2, 3, 4, 0] rfl ?_
  exact hk9 v1 v2 v3 (v4 + (1 : Int32)) hf
set_option maxRecDepth 100000 in
set_option maxHeartbeats 4000000 in
theorem w_X1_isLesson_9 {p : Program} {l : Launch} {e : Env} {s : State} {m : MethodId} {args : Array Value} {below : List Frame} {meth : Method} {c : Code} {D : va_G} {cc : Nat → ClassId} {N0 : Nat} {g : Nat → Nat} {E : va_W} {S : CS} {v : Bool} (C : q_C p s m args meth c cX1_isLesson 5 (some .boolean) wsX1_isLesson RX1 D cc N0)  : ∀ (n : Nat) (v1 : Int32) (v2 : Int32) (v3 : Int32) (v4 : Int32), f_X1_isLesson_9 S n v1 v2 v3 v4 = some v → q_WA p l e (q_rm 2 42 0 0) s m args below meth c D N0 5 (MQ below (q_Q D N0 (q_p (some (.int (q_b v))) (cw cc g S ++ E))) args s 0 0 (q_A N0)) 0 0 (cw cc g S ++ E) 9 [(0, .ref (g 2)), (1, .int v1), (2, .int v2), (3, .int v3), (4, .int v4)] [] := by
  intro n
  induction n with
  | zero => intro v1 v2 v3 v4 hf; cases hf
  | succ n ih =>
    intro v1 v2 v3 v4 hf
    have hk9 : ∀ (v1 : Int32) (v2 : Int32) (v3 : Int32) (v4 : Int32), f_X1_isLesson_9 S n v1 v2 v3 v4 = some v → q_WA p l e (q_rm 2 42 0 0) s m args below meth c D N0 5 (MQ below (q_Q D N0 (q_p (some (.int (q_b v))) (cw cc g S ++ E))) args s 0 0 (q_A N0)) 0 0 (cw cc g S ++ E) 9 [(0, .ref (g 2)), (1, .int v1), (2, .int v2), (3, .int v3), (4, .int v4)] [] := ih
    have hf : f_X1_isLesson_9b S (f_X1_isLesson_9 S n) v1 v2 v3 v4 = some v := hf
    refine q_iload (pc := 9) C dX1_isLesson_9 4 rfl ?_
    refine q_aload_n (pc := 11) C dX1_isLesson_11 rfl 0 rfl ?_
    refine r_g_2_3 (pc := 12) C n_X1_isLesson_X1 (List.mem_of_getElem? (i := 1) rfl) dX1_isLesson_12 ?_
    refine q_icmp_ge (pc := 15) (tgt := 45) C dX1_isLesson_15 (by decide) (fun c1 => ?_) (fun c1 => ?_)
    · have hf := q_iteT hf c1
      refine q_iconst (pc := 45) C (1 : Int32) dX1_isLesson_45 q_ci_1 ?_
      obtain rfl := q_some hf
      exact q_zret (pc := 46) C (by decide +kernel) dX1_isLesson_46 ⟨rfl, rfl⟩
    · have hf := q_iteF hf c1
      refine q_iload (pc := 18) C dX1_isLesson_18 4 rfl ?_
      refine q_iload_n (pc := 20) C dX1_isLesson_20 rfl 2 rfl ?_
      refine q_icmp_eq (pc := 21) (tgt := 39) C dX1_isLesson_21 (by decide) (fun c2 => ?_) (fun c2 => ?_)
      · have hf := q_iteT hf c2
        refine q_sub (lvq := [(0, .ref (g 2)), (1, .int v1), (2, .int v2), (3, .int v3), (4, .int v4)]) [0, 1, 2, 3, 4] rfl ?_
        exact w_X1_isLesson_39 C hk9 v1 v2 v3 v4 hf
      · have hf := q_iteF hf c2
        refine q_iload_n (pc := 24) C dX1_isLesson_24 rfl 3 rfl ?_
        refine q_aload_n (pc := 25) C dX1_isLesson_25 rfl 0 rfl ?_
        refine q_iload (pc := 26) C dX1_isLesson_26 4 rfl ?_
        refine q_callV (pc := 28) (As := [.int v4]) (rest := [.int v3]) C (c_X1_setAt l D cc N0 g E S v4 _ rfl) gX1_isLesson_X1_setAt rfl rfl z_X1_setAt ⟨Nat.le_of_ble_eq_true rfl, Nat.le_of_ble_eq_true rfl⟩ (cw_at_2 cc g E _) rfl rfl rfl (Nat.le_of_ble_eq_true rfl) dX1_isLesson_28 ⟨Nat.le_of_ble_eq_true rfl, Nat.le_of_ble_eq_true rfl⟩ ?_
        refine q_after (rv := (some (.int (f_X1_setAt S v4)))) (w0 := (cw cc g S ++ E)) (st2 := [.int (f_X1_setAt S v4), .int v3]) rfl rfl rfl ?_
        refine q_ixor (pc := 31) C dX1_isLesson_31 ?_
        refine q_iload_n (pc := 32) C dX1_isLesson_32 rfl 1 rfl ?_
        refine q_iand (pc := 33) C dX1_isLesson_33 ?_
        refine q_if_ne (pc := 34) (tgt := 39) C dX1_isLesson_34 (by decide) (fun c3 => ?_) (fun c3 => ?_)
        · have hf := q_iteF hf c3
          refine q_sub (lvq := [(0, .ref (g 2)), (1, .int v1), (2, .int v2), (3, .int v3), (4, .int v4)]) [0, 1, 2, 3, 4] rfl ?_
          exact w_X1_isLesson_39 C hk9 v1 v2 v3 v4 hf
        · have hf := q_iteT hf c3
          refine q_iconst (pc := 37) C (0 : Int32) dX1_isLesson_37 q_ci_0 ?_
          obtain rfl := q_some hf
          exact q_zret (pc := 38) C (by decide +kernel) dX1_isLesson_38 ⟨rfl, rfl⟩
set_option maxRecDepth 100000 in
set_option maxHeartbeats 4000000 in
theorem c_X1_isLesson (l : Launch) (D : va_G) (cc : Nat → ClassId) (N0 : Nat) (g : Nat → Nat) (E : va_W) (S : CS) (a1 : Int32) (a2 : Int32) (v : Bool) (hf : f_X1_isLesson S a1 a2 = some v) : q_Met l yX1_isLesson wsX1_isLesson 2 42 D cc N0 (cw cc g S ++ E) [.ref (g 2), .int a1, .int a2] (q_p (some (.int (q_b v))) (cw cc g S ++ E)) 0 0 := by
  refine q_ofW (code := cX1_isLesson) (nL := 5) (ret := (some .boolean)) (by decide +kernel) rfl (Nat.le_of_ble_eq_true rfl) (fun p e s m below meth c C _ => ?_)
  refine q_lv (lv2 := [(0, .ref (g 2)), (1, .int a1), (2, .int a2)]) rfl ?_
  refine q_aload_n (pc := 0) C dX1_isLesson_0 rfl 0 rfl ?_
  refine q_iload_n (pc := 1) C dX1_isLesson_1 rfl 2 rfl ?_
  refine q_callV (pc := 2) (As := [.int a2]) (rest := []) C (c_X1_setAt l D cc N0 g E S a2 _ rfl) gX1_isLesson_X1_setAt rfl rfl z_X1_setAt ⟨Nat.le_of_ble_eq_true rfl, Nat.le_of_ble_eq_true rfl⟩ (cw_at_2 cc g E _) rfl rfl rfl (Nat.le_of_ble_eq_true rfl) dX1_isLesson_2 ⟨Nat.le_of_ble_eq_true rfl, Nat.le_of_ble_eq_true rfl⟩ ?_
  refine q_after (rv := (some (.int (f_X1_setAt S a2)))) (w0 := (cw cc g S ++ E)) (st2 := [.int (f_X1_setAt S a2)]) rfl rfl rfl ?_
  refine q_istore_n (pc := 5) (lvq := [(3, .int (f_X1_setAt S a2)), (0, .ref (g 2)), (1, .int a1), (2, .int a2)]) C dX1_isLesson_5 rfl (by decide) rfl ?_
  refine q_iconst (pc := 6) C (0 : Int32) dX1_isLesson_6 q_ci_0 ?_
  refine q_istore (pc := 7) (lvq := [(4, .int (0 : Int32)), (3, .int (f_X1_setAt S a2)), (0, .ref (g 2)), (1, .int a1), (2, .int a2)]) C dX1_isLesson_7 (by decide) rfl ?_
  refine q_sub (lvq := [(0, .ref (g 2)), (1, .int a1), (2, .int a2), (3, .int (f_X1_setAt S a2)), (4, .int (0 : Int32))]) [2, 3, 4, 1, 0] rfl ?_
  exact w_X1_isLesson_9 C 1000 a1 a2 (f_X1_setAt S a2) (0 : Int32) hf
theorem z_X1_isLesson : q_dsc yX1_isLesson 2 := ⟨by decide +kernel, by decide +kernel, by decide +kernel⟩
theorem n_X1_leastLesson_X1 : ∀ w ∈ wsX10, w ∈ wsX1_leastLesson := fun _ h => (List.mem_cons_of_mem _ (List.mem_append_right _ h))
def f_X1_leastLesson_39 (S : CS) (k7 : Int32 → Int32 → Int32 → Option Int32) (v1 : Int32) (v2 : Int32) (v3 : Int32) : Option Int32 := k7 v1 v2 (v3 + (1 : Int32))
def f_X1_leastLesson_7b (S : CS) (k7 : Int32 → Int32 → Int32 → Option Int32) (v1 : Int32) (v2 : Int32) (v3 : Int32) : Option Int32 := (if ((1 : Int32) <<< ((S.1 2 2) &&& 31)) ≤ v3 then some v2 else (if v2 ≤ (f_J6_bitCount_0f7a4 v3) then f_X1_leastLesson_39 S k7 v1 v2 v3 else ((f_X1_isLesson S v3 v1).bind fun u3 => (if (q_b u3) = 0 then f_X1_leastLesson_39 S k7 v1 v2 v3 else f_X1_leastLesson_39 S k7 v1 (f_J6_bitCount_0f7a4 v3) v3))))
def f_X1_leastLesson_7 (S : CS) : Nat → Int32 → Int32 → Int32 → Option Int32
  | 0, _, _, _ => none
  | n + 1, v1, v2, v3 => f_X1_leastLesson_7b S (f_X1_leastLesson_7 S n) v1 v2 v3
def f_X1_leastLesson (S : CS) (a1 : Int32) : Option Int32 := f_X1_leastLesson_7 S 1000 a1 (S.1 2 2) (0 : Int32)
set_option maxRecDepth 100000 in
set_option maxHeartbeats 4000000 in
theorem w_X1_leastLesson_39 {p : Program} {l : Launch} {e : Env} {s : State} {m : MethodId} {args : Array Value} {below : List Frame} {meth : Method} {c : Code} {D : va_G} {cc : Nat → ClassId} {N0 : Nat} {g : Nat → Nat} {E : va_W} {S : CS} {k7 : Int32 → Int32 → Int32 → Option Int32} {v : Int32} (C : q_C p s m args meth c cX1_leastLesson 4 (some .int) wsX1_leastLesson RX1 D cc N0) (hk7 : ∀ (v1 : Int32) (v2 : Int32) (v3 : Int32), k7 v1 v2 v3 = some v → q_WA p l e (q_rm 3 66 0 0) s m args below meth c D N0 4 (MQ below (q_Q D N0 (q_p (some (.int v)) (cw cc g S ++ E))) args s 0 0 (q_A N0)) 0 0 (cw cc g S ++ E) 7 [(0, .ref (g 2)), (1, .int v1), (2, .int v2), (3, .int v3)] []) (v1 : Int32) (v2 : Int32) (v3 : Int32) (hf : f_X1_leastLesson_39 S k7 v1 v2 v3 = some v) : q_WA p l e (q_rm 3 66 0 0) s m args below meth c D N0 4 (MQ below (q_Q D N0 (q_p (some (.int v)) (cw cc g S ++ E))) args s 0 0 (q_A N0)) 0 0 (cw cc g S ++ E) 39 [(0, .ref (g 2)), (1, .int v1), (2, .int v2), (3, .int v3)] [] := by
  refine q_iinc (pc := 39) (lvq := [(3, .int (v3 + (1 : Int32))), (0, .ref (g 2)), (1, .int v1), (2, .int v2)]) C (v3 + (1 : Int32)) dX1_leastLesson_39 3 rfl q_ca_1 (by decide) rfl ?_
  refine q_goto (pc := 42) (tgt := 7) C dX1_leastLesson_42 (by decide) ?_
  refine q_sub (lvq := [(0, .ref (g 2)), (1, .int v1), (2, .int v2), (3, .int (v3 + (1 : Int32)))]) [1, 2, 3, 0] rfl ?_
  exact hk7 v1 v2 (v3 + (1 : Int32)) hf
set_option maxRecDepth 100000 in
set_option maxHeartbeats 4000000 in
theorem w_X1_leastLesson_7 {p : Program} {l : Launch} {e : Env} {s : State} {m : MethodId} {args : Array Value} {below : List Frame} {meth : Method} {c : Code} {D : va_G} {cc : Nat → ClassId} {N0 : Nat} {g : Nat → Nat} {E : va_W} {S : CS} {v : Int32} (C : q_C p s m args meth c cX1_leastLesson 4 (some .int) wsX1_leastLesson RX1 D cc N0)  : ∀ (n : Nat) (v1 : Int32) (v2 : Int32) (v3 : Int32), f_X1_leastLesson_7 S n v1 v2 v3 = some v → q_WA p l e (q_rm 3 66 0 0) s m args below meth c D N0 4 (MQ below (q_Q D N0 (q_p (some (.int v)) (cw cc g S ++ E))) args s 0 0 (q_A N0)) 0 0 (cw cc g S ++ E) 7 [(0, .ref (g 2)), (1, .int v1), (2, .int v2), (3, .int v3)] [] := by
  intro n
  induction n with
  | zero => intro v1 v2 v3 hf; cases hf
  | succ n ih =>
    intro v1 v2 v3 hf
    have hk7 : ∀ (v1 : Int32) (v2 : Int32) (v3 : Int32), f_X1_leastLesson_7 S n v1 v2 v3 = some v → q_WA p l e (q_rm 3 66 0 0) s m args below meth c D N0 4 (MQ below (q_Q D N0 (q_p (some (.int v)) (cw cc g S ++ E))) args s 0 0 (q_A N0)) 0 0 (cw cc g S ++ E) 7 [(0, .ref (g 2)), (1, .int v1), (2, .int v2), (3, .int v3)] [] := ih
    have hf : f_X1_leastLesson_7b S (f_X1_leastLesson_7 S n) v1 v2 v3 = some v := hf
    refine q_iload_n (pc := 7) C dX1_leastLesson_7 rfl 3 rfl ?_
    refine q_iconst (pc := 8) C (1 : Int32) dX1_leastLesson_8 q_ci_1 ?_
    refine q_aload_n (pc := 9) C dX1_leastLesson_9 rfl 0 rfl ?_
    refine r_g_2_2 (pc := 10) C n_X1_leastLesson_X1 (List.mem_of_getElem? (i := 1) rfl) dX1_leastLesson_10 ?_
    refine q_ishl (pc := 13) C dX1_leastLesson_13 ?_
    refine q_icmp_ge (pc := 14) (tgt := 45) C dX1_leastLesson_14 (by decide) (fun c1 => ?_) (fun c1 => ?_)
    · have hf := q_iteT hf c1
      refine q_iload_n (pc := 45) C dX1_leastLesson_45 rfl 2 rfl ?_
      obtain rfl := q_some hf
      exact q_iret (pc := 46) C dX1_leastLesson_46 ⟨rfl, rfl⟩
    · have hf := q_iteF hf c1
      refine q_iload_n (pc := 17) C dX1_leastLesson_17 rfl 3 rfl ?_
      refine q_callS (pc := 18) (As := [.int v3]) (rest := []) C (c_J6_bitCount_0f7a4 l D cc N0 (cw cc g S ++ E) v3 _ rfl) gX1_leastLesson_J6_bitCount_0f7a4 rfl z_J6_bitCount_0f7a4 ⟨Nat.le_of_ble_eq_true rfl, Nat.le_of_ble_eq_true rfl⟩ rfl rfl (Nat.le_of_ble_eq_true rfl) dX1_leastLesson_18 ⟨Nat.le_of_ble_eq_true rfl, Nat.le_of_ble_eq_true rfl⟩ ?_
      refine q_after (rv := (some (.int (f_J6_bitCount_0f7a4 v3)))) (w0 := (cw cc g S ++ E)) (st2 := [.int (f_J6_bitCount_0f7a4 v3)]) rfl rfl rfl ?_
      refine q_iload_n (pc := 21) C dX1_leastLesson_21 rfl 2 rfl ?_
      refine q_icmp_ge (pc := 22) (tgt := 39) C dX1_leastLesson_22 (by decide) (fun c2 => ?_) (fun c2 => ?_)
      · have hf := q_iteT hf c2
        refine q_sub (lvq := [(0, .ref (g 2)), (1, .int v1), (2, .int v2), (3, .int v3)]) [0, 1, 2, 3] rfl ?_
        exact w_X1_leastLesson_39 C hk7 v1 v2 v3 hf
      · have hf := q_iteF hf c2
        refine q_aload_n (pc := 25) C dX1_leastLesson_25 rfl 0 rfl ?_
        refine q_iload_n (pc := 26) C dX1_leastLesson_26 rfl 3 rfl ?_
        refine q_iload_n (pc := 27) C dX1_leastLesson_27 rfl 1 rfl ?_
        obtain ⟨u3, e4, hf⟩ := q_bind hf
        refine q_callV (pc := 28) (As := [.int v3, .int v1]) (rest := []) C (c_X1_isLesson l D cc N0 g E S v3 v1 u3 e4) gX1_leastLesson_X1_isLesson rfl rfl z_X1_isLesson ⟨Nat.le_of_ble_eq_true rfl, Nat.le_of_ble_eq_true rfl⟩ (cw_at_2 cc g E _) rfl rfl rfl (Nat.le_of_ble_eq_true rfl) dX1_leastLesson_28 ⟨Nat.le_of_ble_eq_true rfl, Nat.le_of_ble_eq_true rfl⟩ ?_
        refine q_after (rv := (some (.int (q_b u3)))) (w0 := (cw cc g S ++ E)) (st2 := [.int (q_b u3)]) rfl rfl rfl ?_
        refine q_if_eq (pc := 31) (tgt := 39) C dX1_leastLesson_31 (by decide) (fun c5 => ?_) (fun c5 => ?_)
        · have hf := q_iteT hf c5
          refine q_sub (lvq := [(0, .ref (g 2)), (1, .int v1), (2, .int v2), (3, .int v3)]) [0, 1, 2, 3] rfl ?_
          exact w_X1_leastLesson_39 C hk7 v1 v2 v3 hf
        · have hf := q_iteF hf c5
          refine q_iload_n (pc := 34) C dX1_leastLesson_34 rfl 3 rfl ?_
          refine q_callS (pc := 35) (As := [.int v3]) (rest := []) C (c_J6_bitCount_0f7a4 l D cc N0 (cw cc g S ++ E) v3 _ rfl) gX1_leastLesson_J6_bitCount_0f7a4 rfl z_J6_bitCount_0f7a4 ⟨Nat.le_of_ble_eq_true rfl, Nat.le_of_ble_eq_true rfl⟩ rfl rfl (Nat.le_of_ble_eq_true rfl) dX1_leastLesson_35 ⟨Nat.le_of_ble_eq_true rfl, Nat.le_of_ble_eq_true rfl⟩ ?_
          refine q_after (rv := (some (.int (f_J6_bitCount_0f7a4 v3)))) (w0 := (cw cc g S ++ E)) (st2 := [.int (f_J6_bitCount_0f7a4 v3)]) rfl rfl rfl ?_
          refine q_istore_n (pc := 38) (lvq := [(2, .int (f_J6_bitCount_0f7a4 v3)), (0, .ref (g 2)), (1, .int v1), (3, .int v3)]) C dX1_leastLesson_38 rfl (by decide) rfl ?_
          refine q_sub (lvq := [(0, .ref (g 2)), (1, .int v1), (2, .int (f_J6_bitCount_0f7a4 v3)), (3, .int v3)]) [1, 2, 0, 3] rfl ?_
          exact w_X1_leastLesson_39 C hk7 v1 (f_J6_bitCount_0f7a4 v3) v3 hf
set_option maxRecDepth 100000 in
set_option maxHeartbeats 4000000 in
theorem c_X1_leastLesson (l : Launch) (D : va_G) (cc : Nat → ClassId) (N0 : Nat) (g : Nat → Nat) (E : va_W) (S : CS) (a1 : Int32) (v : Int32) (hf : f_X1_leastLesson S a1 = some v) : q_Met l yX1_leastLesson wsX1_leastLesson 3 66 D cc N0 (cw cc g S ++ E) [.ref (g 2), .int a1] (q_p (some (.int v)) (cw cc g S ++ E)) 0 0 := by
  refine q_ofW (code := cX1_leastLesson) (nL := 4) (ret := (some .int)) (by decide +kernel) rfl (Nat.le_of_ble_eq_true rfl) (fun p e s m below meth c C _ => ?_)
  refine q_lv (lv2 := [(0, .ref (g 2)), (1, .int a1)]) rfl ?_
  refine q_aload_n (pc := 0) C dX1_leastLesson_0 rfl 0 rfl ?_
  refine r_g_2_2 (pc := 1) C n_X1_leastLesson_X1 (List.mem_of_getElem? (i := 1) rfl) dX1_leastLesson_1 ?_
  refine q_istore_n (pc := 4) (lvq := [(2, .int (S.1 2 2)), (0, .ref (g 2)), (1, .int a1)]) C dX1_leastLesson_4 rfl (by decide) rfl ?_
  refine q_iconst (pc := 5) C (0 : Int32) dX1_leastLesson_5 q_ci_0 ?_
  refine q_istore_n (pc := 6) (lvq := [(3, .int (0 : Int32)), (2, .int (S.1 2 2)), (0, .ref (g 2)), (1, .int a1)]) C dX1_leastLesson_6 rfl (by decide) rfl ?_
  refine q_sub (lvq := [(0, .ref (g 2)), (1, .int a1), (2, .int (S.1 2 2)), (3, .int (0 : Int32))]) [2, 3, 1, 0] rfl ?_
  exact w_X1_leastLesson_7 C 1000 a1 (S.1 2 2) (0 : Int32) hf
theorem z_X1_leastLesson : q_dsc yX1_leastLesson 1 := ⟨by decide +kernel, by decide +kernel, by decide +kernel⟩
theorem n_X1_lessonSum_X1 : ∀ w ∈ wsX10, w ∈ wsX1_lessonSum := fun _ h => (List.mem_cons_of_mem _ (List.mem_append_right _ h))
def f_X1_lessonSum_4b (S : CS) (k4 : Int32 → Int32 → Option Int32) (v1 : Int32) (v2 : Int32) : Option Int32 := (if (S.1 2 3) ≤ v2 then some v1 else ((f_X1_leastLesson S v2).bind fun u2 => k4 (v1 + u2) (v2 + (1 : Int32))))
def f_X1_lessonSum_4 (S : CS) : Nat → Int32 → Int32 → Option Int32
  | 0, _, _ => none
  | n + 1, v1, v2 => f_X1_lessonSum_4b S (f_X1_lessonSum_4 S n) v1 v2
def f_X1_lessonSum (S : CS) : Option Int32 := f_X1_lessonSum_4 S 1000 (0 : Int32) (0 : Int32)
set_option maxRecDepth 100000 in
set_option maxHeartbeats 4000000 in
theorem w_X1_lessonSum_4 {p : Program} {l : Launch} {e : Env} {s : State} {m : MethodId} {args : Array Value} {below : List Frame} {meth : Method} {c : Code} {D : va_G} {cc : Nat → ClassId} {N0 : Nat} {g : Nat → Nat} {E : va_W} {S : CS} {v : Int32} (C : q_C p s m args meth c cX1_lessonSum 3 (some .int) wsX1_lessonSum RX1 D cc N0)  : ∀ (n : Nat) (v1 : Int32) (v2 : Int32), f_X1_lessonSum_4 S n v1 v2 = some v → q_WA p l e (q_rm 4 89 0 0) s m args below meth c D N0 3 (MQ below (q_Q D N0 (q_p (some (.int v)) (cw cc g S ++ E))) args s 0 0 (q_A N0)) 0 0 (cw cc g S ++ E) 4 [(0, .ref (g 2)), (1, .int v1), (2, .int v2)] [] := by
  intro n
  induction n with
  | zero => intro v1 v2 hf; cases hf
  | succ n ih =>
    intro v1 v2 hf
    have hk4 : ∀ (v1 : Int32) (v2 : Int32), f_X1_lessonSum_4 S n v1 v2 = some v → q_WA p l e (q_rm 4 89 0 0) s m args below meth c D N0 3 (MQ below (q_Q D N0 (q_p (some (.int v)) (cw cc g S ++ E))) args s 0 0 (q_A N0)) 0 0 (cw cc g S ++ E) 4 [(0, .ref (g 2)), (1, .int v1), (2, .int v2)] [] := ih
    have hf : f_X1_lessonSum_4b S (f_X1_lessonSum_4 S n) v1 v2 = some v := hf
    refine q_iload_n (pc := 4) C dX1_lessonSum_4 rfl 2 rfl ?_
    refine q_aload_n (pc := 5) C dX1_lessonSum_5 rfl 0 rfl ?_
    refine r_g_2_3 (pc := 6) C n_X1_lessonSum_X1 (List.mem_of_getElem? (i := 1) rfl) dX1_lessonSum_6 ?_
    refine q_icmp_ge (pc := 9) (tgt := 26) C dX1_lessonSum_9 (by decide) (fun c1 => ?_) (fun c1 => ?_)
    · have hf := q_iteT hf c1
      refine q_iload_n (pc := 26) C dX1_lessonSum_26 rfl 1 rfl ?_
      obtain rfl := q_some hf
      exact q_iret (pc := 27) C dX1_lessonSum_27 ⟨rfl, rfl⟩
    · have hf := q_iteF hf c1
      refine q_iload_n (pc := 12) C dX1_lessonSum_12 rfl 1 rfl ?_
      refine q_aload_n (pc := 13) C dX1_lessonSum_13 rfl 0 rfl ?_
      refine q_iload_n (pc := 14) C dX1_lessonSum_14 rfl 2 rfl ?_
      obtain ⟨u2, e3, hf⟩ := q_bind hf
      refine q_callV (pc := 15) (As := [.int v2]) (rest := [.int v1]) C (c_X1_leastLesson l D cc N0 g E S v2 u2 e3) gX1_lessonSum_X1_leastLesson rfl rfl z_X1_leastLesson ⟨Nat.le_of_ble_eq_true rfl, Nat.le_of_ble_eq_true rfl⟩ (cw_at_2 cc g E _) rfl rfl rfl (Nat.le_of_ble_eq_true rfl) dX1_lessonSum_15 ⟨Nat.le_of_ble_eq_true rfl, Nat.le_of_ble_eq_true rfl⟩ ?_
      refine q_after (rv := (some (.int u2))) (w0 := (cw cc g S ++ E)) (st2 := [.int u2, .int v1]) rfl rfl rfl ?_
      refine q_iadd (pc := 18) C dX1_lessonSum_18 ?_
      refine q_istore_n (pc := 19) (lvq := [(1, .int (v1 + u2)), (0, .ref (g 2)), (2, .int v2)]) C dX1_lessonSum_19 rfl (by decide) rfl ?_
      refine q_iinc (pc := 20) (lvq := [(2, .int (v2 + (1 : Int32))), (1, .int (v1 + u2)), (0, .ref (g 2))]) C (v2 + (1 : Int32)) dX1_lessonSum_20 2 rfl q_ca_1 (by decide) rfl ?_
      refine q_goto (pc := 23) (tgt := 4) C dX1_lessonSum_23 (by decide) ?_
      refine q_sub (lvq := [(0, .ref (g 2)), (1, .int (v1 + u2)), (2, .int (v2 + (1 : Int32)))]) [2, 1, 0] rfl ?_
      exact hk4 (v1 + u2) (v2 + (1 : Int32)) hf
set_option maxRecDepth 100000 in
set_option maxHeartbeats 4000000 in
theorem c_X1_lessonSum (l : Launch) (D : va_G) (cc : Nat → ClassId) (N0 : Nat) (g : Nat → Nat) (E : va_W) (S : CS) (v : Int32) (hf : f_X1_lessonSum S = some v) : q_Met l yX1_lessonSum wsX1_lessonSum 4 89 D cc N0 (cw cc g S ++ E) [.ref (g 2)] (q_p (some (.int v)) (cw cc g S ++ E)) 0 0 := by
  refine q_ofW (code := cX1_lessonSum) (nL := 3) (ret := (some .int)) (by decide +kernel) rfl (Nat.le_of_ble_eq_true rfl) (fun p e s m below meth c C _ => ?_)
  refine q_lv (lv2 := [(0, .ref (g 2))]) rfl ?_
  refine q_iconst (pc := 0) C (0 : Int32) dX1_lessonSum_0 q_ci_0 ?_
  refine q_istore_n (pc := 1) (lvq := [(1, .int (0 : Int32)), (0, .ref (g 2))]) C dX1_lessonSum_1 rfl (by decide) rfl ?_
  refine q_iconst (pc := 2) C (0 : Int32) dX1_lessonSum_2 q_ci_0 ?_
  refine q_istore_n (pc := 3) (lvq := [(2, .int (0 : Int32)), (1, .int (0 : Int32)), (0, .ref (g 2))]) C dX1_lessonSum_3 rfl (by decide) rfl ?_
  refine q_sub (lvq := [(0, .ref (g 2)), (1, .int (0 : Int32)), (2, .int (0 : Int32))]) [2, 1, 0] rfl ?_
  exact w_X1_lessonSum_4 C 1000 (0 : Int32) (0 : Int32) hf
theorem z_X1_lessonSum : q_dsc yX1_lessonSum 0 := ⟨by decide +kernel, by decide +kernel, by decide +kernel⟩
theorem n_X1_halvingMistakes_X1 : ∀ w ∈ wsX10, w ∈ wsX1_halvingMistakes := fun _ h => (List.mem_cons_of_mem _ (List.mem_append_right _ h))
def f_X1_halvingMistakes_45 (S : CS) (k17 : Int32 → Int32 → Int32 → Int32 → Option Int32) (v2 : Int32) (v3 : Int32) (v4 : Int32) (v5 : Int32) : Option Int32 := k17 v2 (v3 &&& (f_X1_agreeing S v2 v5)) v4 (v5 + (1 : Int32))
def f_X1_halvingMistakes_17b (S : CS) (k17 : Int32 → Int32 → Int32 → Int32 → Option Int32) (v2 : Int32) (v3 : Int32) (v4 : Int32) (v5 : Int32) : Option Int32 := (if (S.1 2 2) ≤ v5 then some v4 else (if (q_b (f_X1_isMostlyIn S v5 v3)) = (q_b (f_X8_hasBit v2 v5)) then f_X1_halvingMistakes_45 S k17 v2 v3 v4 v5 else f_X1_halvingMistakes_45 S k17 v2 v3 (v4 + (1 : Int32)) v5))
def f_X1_halvingMistakes_17 (S : CS) : Nat → Int32 → Int32 → Int32 → Int32 → Option Int32
  | 0, _, _, _, _ => none
  | n + 1, v2, v3, v4, v5 => f_X1_halvingMistakes_17b S (f_X1_halvingMistakes_17 S n) v2 v3 v4 v5
def f_X1_halvingMistakes (S : CS) (a1 : Int32) : Option Int32 := f_X1_halvingMistakes_17 S 1000 (f_X1_setAt S a1) (f_X1_everyone S) (0 : Int32) (0 : Int32)
set_option maxRecDepth 100000 in
set_option maxHeartbeats 4000000 in
theorem w_X1_halvingMistakes_45 {p : Program} {l : Launch} {e : Env} {s : State} {m : MethodId} {args : Array Value} {below : List Frame} {meth : Method} {c : Code} {D : va_G} {cc : Nat → ClassId} {N0 : Nat} {g : Nat → Nat} {E : va_W} {S : CS} {k17 : Int32 → Int32 → Int32 → Int32 → Option Int32} {v : Int32} (C : q_C p s m args meth c cX1_halvingMistakes 6 (some .int) wsX1_halvingMistakes RX1 D cc N0) (hk17 : ∀ (v2 : Int32) (v3 : Int32) (v4 : Int32) (v5 : Int32), k17 v2 v3 v4 v5 = some v → q_WA p l e (q_rm 3 64 0 0) s m args below meth c D N0 6 (MQ below (q_Q D N0 (q_p (some (.int v)) (cw cc g S ++ E))) args s 0 0 (q_A N0)) 0 0 (cw cc g S ++ E) 17 [(0, .ref (g 2)), (2, .int v2), (3, .int v3), (4, .int v4), (5, .int v5)] []) (v2 : Int32) (v3 : Int32) (v4 : Int32) (v5 : Int32) (hf : f_X1_halvingMistakes_45 S k17 v2 v3 v4 v5 = some v) : q_WA p l e (q_rm 3 64 0 0) s m args below meth c D N0 6 (MQ below (q_Q D N0 (q_p (some (.int v)) (cw cc g S ++ E))) args s 0 0 (q_A N0)) 0 0 (cw cc g S ++ E) 45 [(0, .ref (g 2)), (2, .int v2), (3, .int v3), (4, .int v4), (5, .int v5)] [] := by
  refine q_iload_n (pc := 45) C dX1_halvingMistakes_45 rfl 2 rfl ?_
  refine q_aload_n (pc := 46) C dX1_halvingMistakes_46 rfl 0 rfl ?_
  refine q_iload_n (pc := 47) C dX1_halvingMistakes_47 rfl 1 rfl ?_
  refine q_iload (pc := 48) C dX1_halvingMistakes_48 4 rfl ?_
  refine q_callV (pc := 50) (As := [.int v2, .int v5]) (rest := [.int v3]) C (c_X1_agreeing l D cc N0 g E S v2 v5 _ rfl) gX1_halvingMistakes_X1_agreeing rfl rfl z_X1_agreeing ⟨Nat.le_of_ble_eq_true rfl, Nat.le_of_ble_eq_true rfl⟩ (cw_at_2 cc g E _) rfl rfl rfl (Nat.le_of_ble_eq_true rfl) dX1_halvingMistakes_50 ⟨Nat.le_of_ble_eq_true rfl, Nat.le_of_ble_eq_true rfl⟩ ?_
  refine q_after (rv := (some (.int (f_X1_agreeing S v2 v5)))) (w0 := (cw cc g S ++ E)) (st2 := [.int (f_X1_agreeing S v2 v5), .int v3]) rfl rfl rfl ?_
  refine q_iand (pc := 53) C dX1_halvingMistakes_53 ?_
  refine q_istore_n (pc := 54) (lvq := [(3, .int (v3 &&& (f_X1_agreeing S v2 v5))), (0, .ref (g 2)), (2, .int v2), (4, .int v4), (5, .int v5)]) C dX1_halvingMistakes_54 rfl (by decide) rfl ?_
  refine q_iinc (pc := 55) (lvq := [(5, .int (v5 + (1 : Int32))), (3, .int (v3 &&& (f_X1_agreeing S v2 v5))), (0, .ref (g 2)), (2, .int v2), (4, .int v4)]) C (v5 + (1 : Int32)) dX1_halvingMistakes_55 4 rfl q_ca_1 (by decide) rfl ?_
  refine q_goto (pc := 58) (tgt := 17) C dX1_halvingMistakes_58 (by decide) ?_
  refine q_sub (lvq := [(0, .ref (g 2)), (2, .int v2), (3, .int (v3 &&& (f_X1_agreeing S v2 v5))), (4, .int v4), (5, .int (v5 + (1 : Int32)))]) [2, 3, 1, 4, 0] rfl ?_
  exact hk17 v2 (v3 &&& (f_X1_agreeing S v2 v5)) v4 (v5 + (1 : Int32)) hf
set_option maxRecDepth 100000 in
set_option maxHeartbeats 4000000 in
theorem w_X1_halvingMistakes_17 {p : Program} {l : Launch} {e : Env} {s : State} {m : MethodId} {args : Array Value} {below : List Frame} {meth : Method} {c : Code} {D : va_G} {cc : Nat → ClassId} {N0 : Nat} {g : Nat → Nat} {E : va_W} {S : CS} {v : Int32} (C : q_C p s m args meth c cX1_halvingMistakes 6 (some .int) wsX1_halvingMistakes RX1 D cc N0)  : ∀ (n : Nat) (v2 : Int32) (v3 : Int32) (v4 : Int32) (v5 : Int32), f_X1_halvingMistakes_17 S n v2 v3 v4 v5 = some v → q_WA p l e (q_rm 3 64 0 0) s m args below meth c D N0 6 (MQ below (q_Q D N0 (q_p (some (.int v)) (cw cc g S ++ E))) args s 0 0 (q_A N0)) 0 0 (cw cc g S ++ E) 17 [(0, .ref (g 2)), (2, .int v2), (3, .int v3), (4, .int v4), (5, .int v5)] [] := by
  intro n
  induction n with
  | zero => intro v2 v3 v4 v5 hf; cases hf
  | succ n ih =>
    intro v2 v3 v4 v5 hf
    have hk17 : ∀ (v2 : Int32) (v3 : Int32) (v4 : Int32) (v5 : Int32), f_X1_halvingMistakes_17 S n v2 v3 v4 v5 = some v → q_WA p l e (q_rm 3 64 0 0) s m args below meth c D N0 6 (MQ below (q_Q D N0 (q_p (some (.int v)) (cw cc g S ++ E))) args s 0 0 (q_A N0)) 0 0 (cw cc g S ++ E) 17 [(0, .ref (g 2)), (2, .int v2), (3, .int v3), (4, .int v4), (5, .int v5)] [] := ih
    have hf : f_X1_halvingMistakes_17b S (f_X1_halvingMistakes_17 S n) v2 v3 v4 v5 = some v := hf
    refine q_iload (pc := 17) C dX1_halvingMistakes_17 4 rfl ?_
    refine q_aload_n (pc := 19) C dX1_halvingMistakes_19 rfl 0 rfl ?_
    refine r_g_2_2 (pc := 20) C n_X1_halvingMistakes_X1 (List.mem_of_getElem? (i := 1) rfl) dX1_halvingMistakes_20 ?_
    refine q_icmp_ge (pc := 23) (tgt := 61) C dX1_halvingMistakes_23 (by decide) (fun c1 => ?_) (fun c1 => ?_)
    · have hf := q_iteT hf c1
      refine q_iload (pc := 61) C dX1_halvingMistakes_61 3 rfl ?_
      obtain rfl := q_some hf
      exact q_iret (pc := 63) C dX1_halvingMistakes_63 ⟨rfl, rfl⟩
    · have hf := q_iteF hf c1
      refine q_aload_n (pc := 26) C dX1_halvingMistakes_26 rfl 0 rfl ?_
      refine q_iload (pc := 27) C dX1_halvingMistakes_27 4 rfl ?_
      refine q_iload_n (pc := 29) C dX1_halvingMistakes_29 rfl 2 rfl ?_
      refine q_callV (pc := 30) (As := [.int v5, .int v3]) (rest := []) C (c_X1_isMostlyIn l D cc N0 g E S v5 v3 _ rfl) gX1_halvingMistakes_X1_isMostlyIn rfl rfl z_X1_isMostlyIn ⟨Nat.le_of_ble_eq_true rfl, Nat.le_of_ble_eq_true rfl⟩ (cw_at_2 cc g E _) rfl rfl rfl (Nat.le_of_ble_eq_true rfl) dX1_halvingMistakes_30 ⟨Nat.le_of_ble_eq_true rfl, Nat.le_of_ble_eq_true rfl⟩ ?_
      refine q_after (rv := (some (.int (q_b (f_X1_isMostlyIn S v5 v3))))) (w0 := (cw cc g S ++ E)) (st2 := [.int (q_b (f_X1_isMostlyIn S v5 v3))]) rfl rfl rfl ?_
      refine q_iload_n (pc := 33) C dX1_halvingMistakes_33 rfl 1 rfl ?_
      refine q_iload (pc := 34) C dX1_halvingMistakes_34 4 rfl ?_
      refine q_callSN (pc := 36) (host := "Queryschool") (As := [.int v2, .int v5]) (rest := [.int (q_b (f_X1_isMostlyIn S v5 v3))]) C (c_X8_hasBit l D cc N0 (cw cc g S ++ E) v2 v5 _ rfl) gX1_halvingMistakes_X8_hasBit_n37 rfl (List.mem_of_getElem? (i := 17) rfl) (List.mem_of_getElem? (i := 9) rfl) (List.mem_of_getElem? (i := 36) rfl) z_X8_hasBit ⟨Nat.le_of_ble_eq_true rfl, Nat.le_of_ble_eq_true rfl⟩ rfl rfl (Nat.le_of_ble_eq_true rfl) dX1_halvingMistakes_36 ⟨Nat.le_of_ble_eq_true rfl, Nat.le_of_ble_eq_true rfl⟩ ?_
      refine q_after (rv := (some (.int (q_b (f_X8_hasBit v2 v5))))) (w0 := (cw cc g S ++ E)) (st2 := [.int (q_b (f_X8_hasBit v2 v5)), .int (q_b (f_X1_isMostlyIn S v5 v3))]) rfl rfl rfl ?_
      refine q_icmp_eq (pc := 39) (tgt := 45) C dX1_halvingMistakes_39 (by decide) (fun c2 => ?_) (fun c2 => ?_)
      · have hf := q_iteT hf c2
        refine q_sub (lvq := [(0, .ref (g 2)), (2, .int v2), (3, .int v3), (4, .int v4), (5, .int v5)]) [0, 1, 2, 3, 4] rfl ?_
        exact w_X1_halvingMistakes_45 C hk17 v2 v3 v4 v5 hf
      · have hf := q_iteF hf c2
        refine q_iinc (pc := 42) (lvq := [(4, .int (v4 + (1 : Int32))), (0, .ref (g 2)), (2, .int v2), (3, .int v3), (5, .int v5)]) C (v4 + (1 : Int32)) dX1_halvingMistakes_42 3 rfl q_ca_1 (by decide) rfl ?_
        refine q_sub (lvq := [(0, .ref (g 2)), (2, .int v2), (3, .int v3), (4, .int (v4 + (1 : Int32))), (5, .int v5)]) [1, 2, 3, 0, 4] rfl ?_
        exact w_X1_halvingMistakes_45 C hk17 v2 v3 (v4 + (1 : Int32)) v5 hf
set_option maxRecDepth 100000 in
set_option maxHeartbeats 4000000 in
theorem c_X1_halvingMistakes (l : Launch) (D : va_G) (cc : Nat → ClassId) (N0 : Nat) (g : Nat → Nat) (E : va_W) (S : CS) (a1 : Int32) (v : Int32) (hf : f_X1_halvingMistakes S a1 = some v) : q_Met l yX1_halvingMistakes wsX1_halvingMistakes 3 64 D cc N0 (cw cc g S ++ E) [.ref (g 2), .int a1] (q_p (some (.int v)) (cw cc g S ++ E)) 0 0 := by
  refine q_ofW (code := cX1_halvingMistakes) (nL := 6) (ret := (some .int)) (by decide +kernel) rfl (Nat.le_of_ble_eq_true rfl) (fun p e s m below meth c C _ => ?_)
  refine q_lv (lv2 := [(0, .ref (g 2)), (1, .int a1)]) rfl ?_
  refine q_aload_n (pc := 0) C dX1_halvingMistakes_0 rfl 0 rfl ?_
  refine q_iload_n (pc := 1) C dX1_halvingMistakes_1 rfl 1 rfl ?_
  refine q_callV (pc := 2) (As := [.int a1]) (rest := []) C (c_X1_setAt l D cc N0 g E S a1 _ rfl) gX1_halvingMistakes_X1_setAt rfl rfl z_X1_setAt ⟨Nat.le_of_ble_eq_true rfl, Nat.le_of_ble_eq_true rfl⟩ (cw_at_2 cc g E _) rfl rfl rfl (Nat.le_of_ble_eq_true rfl) dX1_halvingMistakes_2 ⟨Nat.le_of_ble_eq_true rfl, Nat.le_of_ble_eq_true rfl⟩ ?_
  refine q_after (rv := (some (.int (f_X1_setAt S a1)))) (w0 := (cw cc g S ++ E)) (st2 := [.int (f_X1_setAt S a1)]) rfl rfl rfl ?_
  refine q_istore_n (pc := 5) (lvq := [(2, .int (f_X1_setAt S a1)), (0, .ref (g 2)), (1, .int a1)]) C dX1_halvingMistakes_5 rfl (by decide) rfl ?_
  refine q_aload_n (pc := 6) C dX1_halvingMistakes_6 rfl 1 rfl ?_
  refine q_callV (pc := 7) (As := []) (rest := []) C (c_X1_everyone l D cc N0 g E S _ rfl) gX1_halvingMistakes_X1_everyone rfl rfl z_X1_everyone ⟨Nat.le_of_ble_eq_true rfl, Nat.le_of_ble_eq_true rfl⟩ (cw_at_2 cc g E _) rfl rfl rfl (Nat.le_of_ble_eq_true rfl) dX1_halvingMistakes_7 ⟨Nat.le_of_ble_eq_true rfl, Nat.le_of_ble_eq_true rfl⟩ ?_
  refine q_after (rv := (some (.int (f_X1_everyone S)))) (w0 := (cw cc g S ++ E)) (st2 := [.int (f_X1_everyone S)]) rfl rfl rfl ?_
  refine q_istore_n (pc := 10) (lvq := [(3, .int (f_X1_everyone S)), (2, .int (f_X1_setAt S a1)), (0, .ref (g 2)), (1, .int a1)]) C dX1_halvingMistakes_10 rfl (by decide) rfl ?_
  refine q_iconst (pc := 11) C (0 : Int32) dX1_halvingMistakes_11 q_ci_0 ?_
  refine q_istore (pc := 12) (lvq := [(4, .int (0 : Int32)), (3, .int (f_X1_everyone S)), (2, .int (f_X1_setAt S a1)), (0, .ref (g 2)), (1, .int a1)]) C dX1_halvingMistakes_12 (by decide) rfl ?_
  refine q_iconst (pc := 14) C (0 : Int32) dX1_halvingMistakes_14 q_ci_0 ?_
  refine q_istore (pc := 15) (lvq := [(5, .int (0 : Int32)), (4, .int (0 : Int32)), (3, .int (f_X1_everyone S)), (2, .int (f_X1_setAt S a1)), (0, .ref (g 2)), (1, .int a1)]) C dX1_halvingMistakes_15 (by decide) rfl ?_
  refine q_sub (lvq := [(0, .ref (g 2)), (2, .int (f_X1_setAt S a1)), (3, .int (f_X1_everyone S)), (4, .int (0 : Int32)), (5, .int (0 : Int32))]) [4, 3, 2, 1, 0] rfl ?_
  exact w_X1_halvingMistakes_17 C 1000 (f_X1_setAt S a1) (f_X1_everyone S) (0 : Int32) (0 : Int32) hf
theorem z_X1_halvingMistakes : q_dsc yX1_halvingMistakes 1 := ⟨by decide +kernel, by decide +kernel, by decide +kernel⟩
