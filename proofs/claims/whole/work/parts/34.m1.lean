theorem z_X9_thrown : q_dsc yX9_thrown 0 := ⟨by decide +kernel, by decide +kernel, by decide +kernel⟩
theorem n_X9_thrown_X9 : ∀ w ∈ wsX90, w ∈ wsX9_thrown := fun _ h => (List.mem_cons_of_mem _ (List.mem_append_right _ h))
def f_X9_thrown (S : MS) : Option Int32 := some (S.1 0)
set_option maxRecDepth 100000 in
set_option maxHeartbeats 8000000 in
theorem c_X9_thrown (l : Launch) (D : va_G) (cc : Nat → ClassId) (N0 : Nat) (ga : Nat → Nat) (ad : Nat → Nat → Nat) (E : va_W) (S : MS) (v : Int32) (hf : f_X9_thrown S = some v) (ws : va_W) (hW : mW cc ga ad S E ws) : q_Met l yX9_thrown wsX9_thrown 0 0 D cc N0 ws [.ref (ga 0)] (fun rv w1 => rv = some (.int v) ∧ mW cc ga ad S E w1) 0 0 := by
  refine q_ofW (code := cX9_thrown) (nL := 1) (ret := (some .int)) (by decide +kernel) rfl (Nat.le_of_ble_eq_true rfl) (fun p e s m below meth c C _ => ?_)
  refine q_lv (lv2 := [(0, .ref (ga 0))]) rfl ?_
  refine q_aload_n (pc := 0) C dX9_thrown_0 rfl 0 rfl ?_
  refine m_g_0 (pc := 1) C hW n_X9_thrown_X9 (List.mem_of_getElem? (i := 1) rfl) dX9_thrown_1 ?_
  obtain rfl := q_some hf
  exact q_iret (pc := 4) C dX9_thrown_4 ⟨rfl, hW⟩
theorem z_X9_isWrong : q_dsc yX9_isWrong 1 := ⟨by decide +kernel, by decide +kernel, by decide +kernel⟩
theorem n_X9_isWrong_X9 : ∀ w ∈ wsX90, w ∈ wsX9_isWrong := fun _ h => (List.mem_cons_of_mem _ (List.mem_append_right _ h))
def f_X9_isWrong (a1 : Int32) (S : MS) : Option (Bool × MS) := (if a1 ≤ 0 then some (false, (mset S 0 a1)) else some (true, (mset S 0 a1)))
set_option maxRecDepth 100000 in
set_option maxHeartbeats 8000000 in
theorem c_X9_isWrong (l : Launch) (D : va_G) (cc : Nat → ClassId) (N0 : Nat) (ga : Nat → Nat) (ad : Nat → Nat → Nat) (E : va_W) (S : MS) (a1 : Int32) (v : (Bool × MS)) (hf : f_X9_isWrong a1 S = some v) (ws : va_W) (hW : mW cc ga ad S E ws) : q_Met l yX9_isWrong wsX9_isWrong 0 0 D cc N0 ws [.ref (ga 0), .int a1] (fun rv w1 => rv = some (.int (q_b v.1)) ∧ mW cc ga ad v.2 E w1) 0 0 := by
  refine q_ofW (code := cX9_isWrong) (nL := 2) (ret := (some .boolean)) (by decide +kernel) rfl (Nat.le_of_ble_eq_true rfl) (fun p e s m below meth c C _ => ?_)
  refine q_lv (lv2 := [(0, .ref (ga 0)), (1, .int a1)]) rfl ?_
  refine q_aload_n (pc := 0) C dX9_isWrong_0 rfl 0 rfl ?_
  refine q_iload_n (pc := 1) C dX9_isWrong_1 rfl 1 rfl ?_
  refine m_p_0 (pc := 2) C hW n_X9_isWrong_X9 (List.mem_of_getElem? (i := 1) rfl) dX9_isWrong_2 (fun ws hW => ?_)
  refine q_iload_n (pc := 5) C dX9_isWrong_5 rfl 1 rfl ?_
  refine q_if_le (pc := 6) (tgt := 13) C dX9_isWrong_6 (by decide) (fun c1 => ?_) (fun c1 => ?_)
  · have hf := q_iteT hf c1
    refine q_iconst (pc := 13) C (0 : Int32) dX9_isWrong_13 q_ci_0 ?_
    obtain rfl := q_some hf
    exact q_zret (pc := 14) C (by decide +kernel) dX9_isWrong_14 ⟨rfl, hW⟩
  · have hf := q_iteF hf c1
    refine q_iconst (pc := 9) C (1 : Int32) dX9_isWrong_9 q_ci_1 ?_
    refine q_goto (pc := 10) (tgt := 14) C dX9_isWrong_10 (by decide) ?_
    obtain rfl := q_some hf
    exact q_zret (pc := 14) C (by decide +kernel) dX9_isWrong_14 ⟨rfl, hW⟩
theorem z_X9_isOf_0 : q_dsc yX9_isOf 2 := ⟨by decide +kernel, by decide +kernel, by decide +kernel⟩
def f_X9_isOf_0 (S : MS) (a2 : Int32) : Option Bool := (if a2 < 0 then some false else (if (nI (S.2.1 0)) ≤ a2 then some false else some true))
set_option maxRecDepth 100000 in
set_option maxHeartbeats 8000000 in
theorem c_X9_isOf_0 (l : Launch) (D : va_G) (cc : Nat → ClassId) (N0 : Nat) (ga : Nat → Nat) (ad : Nat → Nat → Nat) (E : va_W) (S : MS) (a2 : Int32) (v : Bool) (hf : f_X9_isOf_0 S a2 = some v) (ws : va_W) (hW : mW cc ga ad S E ws) : q_Met l yX9_isOf wsX9_isOf 1 30 D cc N0 ws [.ref (ga 1), .int a2] (fun rv w1 => rv = some (.int (q_b v)) ∧ mW cc ga ad S E w1) 0 0 := by
  refine q_ofW (code := cX9_isOf) (nL := 2) (ret := (some .boolean)) (by decide +kernel) rfl (Nat.le_of_ble_eq_true rfl) (fun p e s m below meth c C _ => ?_)
  refine q_lv (lv2 := [(0, .ref (ga 1)), (1, .int a2)]) rfl ?_
  refine q_iload_n (pc := 0) C dX9_isOf_0 rfl 1 rfl ?_
  refine q_if_lt (pc := 1) (tgt := 18) C dX9_isOf_1 (by decide) (fun c1 => ?_) (fun c1 => ?_)
  · have hf := q_iteT hf c1
    refine q_iconst (pc := 18) C (0 : Int32) dX9_isOf_18 q_ci_0 ?_
    obtain rfl := q_some hf
    exact q_zret (pc := 19) C (by decide +kernel) dX9_isOf_19 ⟨rfl, hW⟩
  · have hf := q_iteF hf c1
    refine q_iload_n (pc := 4) C dX9_isOf_4 rfl 1 rfl ?_
    refine q_aload_n (pc := 5) C dX9_isOf_5 rfl 0 rfl ?_
    refine m_size_0 (pc := 6) C hW gX9_isOf_Jx4a65c_size_8abf5_f50Jx4a65c ⟨Nat.le_of_ble_eq_true rfl, Nat.le_of_ble_eq_true rfl⟩ (Nat.le_of_ble_eq_true rfl) dX9_isOf_6 ⟨Nat.le_of_ble_eq_true rfl, Nat.le_of_ble_eq_true rfl⟩ ?_
    refine q_icmp_ge (pc := 11) (tgt := 18) C dX9_isOf_11 (by decide) (fun c2 => ?_) (fun c2 => ?_)
    · have hf := q_iteT hf c2
      refine q_iconst (pc := 18) C (0 : Int32) dX9_isOf_18 q_ci_0 ?_
      obtain rfl := q_some hf
      exact q_zret (pc := 19) C (by decide +kernel) dX9_isOf_19 ⟨rfl, hW⟩
    · have hf := q_iteF hf c2
      refine q_iconst (pc := 14) C (1 : Int32) dX9_isOf_14 q_ci_1 ?_
      refine q_goto (pc := 15) (tgt := 19) C dX9_isOf_15 (by decide) ?_
      obtain rfl := q_some hf
      exact q_zret (pc := 19) C (by decide +kernel) dX9_isOf_19 ⟨rfl, hW⟩
theorem z_X9_isOf_1 : q_dsc yX9_isOf 2 := ⟨by decide +kernel, by decide +kernel, by decide +kernel⟩
def f_X9_isOf_1 (S : MS) (a2 : Int32) : Option Bool := (if a2 < 0 then some false else (if (nI (S.2.1 1)) ≤ a2 then some false else some true))
set_option maxRecDepth 100000 in
set_option maxHeartbeats 8000000 in
theorem c_X9_isOf_1 (l : Launch) (D : va_G) (cc : Nat → ClassId) (N0 : Nat) (ga : Nat → Nat) (ad : Nat → Nat → Nat) (E : va_W) (S : MS) (a2 : Int32) (v : Bool) (hf : f_X9_isOf_1 S a2 = some v) (ws : va_W) (hW : mW cc ga ad S E ws) : q_Met l yX9_isOf wsX9_isOf 1 30 D cc N0 ws [.ref (ga 2), .int a2] (fun rv w1 => rv = some (.int (q_b v)) ∧ mW cc ga ad S E w1) 0 0 := by
  refine q_ofW (code := cX9_isOf) (nL := 2) (ret := (some .boolean)) (by decide +kernel) rfl (Nat.le_of_ble_eq_true rfl) (fun p e s m below meth c C _ => ?_)
  refine q_lv (lv2 := [(0, .ref (ga 2)), (1, .int a2)]) rfl ?_
  refine q_iload_n (pc := 0) C dX9_isOf_0 rfl 1 rfl ?_
  refine q_if_lt (pc := 1) (tgt := 18) C dX9_isOf_1 (by decide) (fun c1 => ?_) (fun c1 => ?_)
  · have hf := q_iteT hf c1
    refine q_iconst (pc := 18) C (0 : Int32) dX9_isOf_18 q_ci_0 ?_
    obtain rfl := q_some hf
    exact q_zret (pc := 19) C (by decide +kernel) dX9_isOf_19 ⟨rfl, hW⟩
  · have hf := q_iteF hf c1
    refine q_iload_n (pc := 4) C dX9_isOf_4 rfl 1 rfl ?_
    refine q_aload_n (pc := 5) C dX9_isOf_5 rfl 0 rfl ?_
    refine m_size_1 (pc := 6) C hW gX9_isOf_Jx4a65c_size_8abf5_f50Jx4a65c ⟨Nat.le_of_ble_eq_true rfl, Nat.le_of_ble_eq_true rfl⟩ (Nat.le_of_ble_eq_true rfl) dX9_isOf_6 ⟨Nat.le_of_ble_eq_true rfl, Nat.le_of_ble_eq_true rfl⟩ ?_
    refine q_icmp_ge (pc := 11) (tgt := 18) C dX9_isOf_11 (by decide) (fun c2 => ?_) (fun c2 => ?_)
    · have hf := q_iteT hf c2
      refine q_iconst (pc := 18) C (0 : Int32) dX9_isOf_18 q_ci_0 ?_
      obtain rfl := q_some hf
      exact q_zret (pc := 19) C (by decide +kernel) dX9_isOf_19 ⟨rfl, hW⟩
    · have hf := q_iteF hf c2
      refine q_iconst (pc := 14) C (1 : Int32) dX9_isOf_14 q_ci_1 ?_
      refine q_goto (pc := 15) (tgt := 19) C dX9_isOf_15 (by decide) ?_
      obtain rfl := q_some hf
      exact q_zret (pc := 19) C (by decide +kernel) dX9_isOf_19 ⟨rfl, hW⟩
theorem z_X9_isOf_2 : q_dsc yX9_isOf 2 := ⟨by decide +kernel, by decide +kernel, by decide +kernel⟩
def f_X9_isOf_2 (S : MS) (a2 : Int32) : Option Bool := (if a2 < 0 then some false else (if (nI (S.2.1 2)) ≤ a2 then some false else some true))
set_option maxRecDepth 100000 in
set_option maxHeartbeats 8000000 in
theorem c_X9_isOf_2 (l : Launch) (D : va_G) (cc : Nat → ClassId) (N0 : Nat) (ga : Nat → Nat) (ad : Nat → Nat → Nat) (E : va_W) (S : MS) (a2 : Int32) (v : Bool) (hf : f_X9_isOf_2 S a2 = some v) (ws : va_W) (hW : mW cc ga ad S E ws) : q_Met l yX9_isOf wsX9_isOf 1 30 D cc N0 ws [.ref (ga 3), .int a2] (fun rv w1 => rv = some (.int (q_b v)) ∧ mW cc ga ad S E w1) 0 0 := by
  refine q_ofW (code := cX9_isOf) (nL := 2) (ret := (some .boolean)) (by decide +kernel) rfl (Nat.le_of_ble_eq_true rfl) (fun p e s m below meth c C _ => ?_)
  refine q_lv (lv2 := [(0, .ref (ga 3)), (1, .int a2)]) rfl ?_
  refine q_iload_n (pc := 0) C dX9_isOf_0 rfl 1 rfl ?_
  refine q_if_lt (pc := 1) (tgt := 18) C dX9_isOf_1 (by decide) (fun c1 => ?_) (fun c1 => ?_)
  · have hf := q_iteT hf c1
    refine q_iconst (pc := 18) C (0 : Int32) dX9_isOf_18 q_ci_0 ?_
    obtain rfl := q_some hf
    exact q_zret (pc := 19) C (by decide +kernel) dX9_isOf_19 ⟨rfl, hW⟩
  · have hf := q_iteF hf c1
    refine q_iload_n (pc := 4) C dX9_isOf_4 rfl 1 rfl ?_
    refine q_aload_n (pc := 5) C dX9_isOf_5 rfl 0 rfl ?_
    refine m_size_2 (pc := 6) C hW gX9_isOf_Jx4a65c_size_8abf5_f50Jx4a65c ⟨Nat.le_of_ble_eq_true rfl, Nat.le_of_ble_eq_true rfl⟩ (Nat.le_of_ble_eq_true rfl) dX9_isOf_6 ⟨Nat.le_of_ble_eq_true rfl, Nat.le_of_ble_eq_true rfl⟩ ?_
    refine q_icmp_ge (pc := 11) (tgt := 18) C dX9_isOf_11 (by decide) (fun c2 => ?_) (fun c2 => ?_)
    · have hf := q_iteT hf c2
      refine q_iconst (pc := 18) C (0 : Int32) dX9_isOf_18 q_ci_0 ?_
      obtain rfl := q_some hf
      exact q_zret (pc := 19) C (by decide +kernel) dX9_isOf_19 ⟨rfl, hW⟩
    · have hf := q_iteF hf c2
      refine q_iconst (pc := 14) C (1 : Int32) dX9_isOf_14 q_ci_1 ?_
      refine q_goto (pc := 15) (tgt := 19) C dX9_isOf_15 (by decide) ?_
      obtain rfl := q_some hf
      exact q_zret (pc := 19) C (by decide +kernel) dX9_isOf_19 ⟨rfl, hW⟩
theorem z_X9_isSet : q_dsc yX9_isSet 1 := ⟨by decide +kernel, by decide +kernel, by decide +kernel⟩
theorem n_X9_isSet_X9 : ∀ w ∈ wsX90, w ∈ wsX9_isSet := fun _ h => (List.mem_cons_of_mem _ (List.mem_append_right _ h))
def f_X9_isSet (S : MS) (a1 : Int32) : Option Bool := some (f_X9_isBetween a1.toInt64 (0 : Int64) ((((1 : Int32) <<< ((S.1 2) &&& 31)) - (1 : Int32)).toInt64))
set_option maxRecDepth 100000 in
set_option maxHeartbeats 8000000 in
theorem c_X9_isSet (l : Launch) (D : va_G) (cc : Nat → ClassId) (N0 : Nat) (ga : Nat → Nat) (ad : Nat → Nat → Nat) (E : va_W) (S : MS) (a1 : Int32) (v : Bool) (hf : f_X9_isSet S a1 = some v) (ws : va_W) (hW : mW cc ga ad S E ws) : q_Met l yX9_isSet wsX9_isSet 1 25 D cc N0 ws [.ref (ga 0), .int a1] (fun rv w1 => rv = some (.int (q_b v)) ∧ mW cc ga ad S E w1) 0 0 := by
  refine q_ofW (code := cX9_isSet) (nL := 2) (ret := (some .boolean)) (by decide +kernel) rfl (Nat.le_of_ble_eq_true rfl) (fun p e s m below meth c C _ => ?_)
  refine q_lv (lv2 := [(0, .ref (ga 0)), (1, .int a1)]) rfl ?_
  refine q_iload_n (pc := 0) C dX9_isSet_0 rfl 1 rfl ?_
  refine q_i2l (pc := 1) C dX9_isSet_1 rfl ?_
  refine q_lconst (pc := 2) C (0 : Int64) dX9_isSet_2 q_cl_0 ?_
  refine q_iconst (pc := 3) C (1 : Int32) dX9_isSet_3 q_ci_1 ?_
  refine q_aload_n (pc := 4) C dX9_isSet_4 rfl 0 rfl ?_
  refine m_g_2 (pc := 5) C hW n_X9_isSet_X9 (List.mem_of_getElem? (i := 1) rfl) dX9_isSet_5 ?_
  refine q_ishl (pc := 8) C dX9_isSet_8 ?_
  refine q_iconst (pc := 9) C (1 : Int32) dX9_isSet_9 q_ci_1 ?_
  refine q_isub (pc := 10) C dX9_isSet_10 ?_
  refine q_i2l (pc := 11) C dX9_isSet_11 rfl ?_
  refine q_callS (pc := 12) (As := [.long a1.toInt64, .long (0 : Int64), .long ((((1 : Int32) <<< ((S.1 2) &&& 31)) - (1 : Int32)).toInt64)]) (rest := []) C (c_X9_isBetween l D cc N0 ws a1.toInt64 (0 : Int64) ((((1 : Int32) <<< ((S.1 2) &&& 31)) - (1 : Int32)).toInt64) _ rfl) gX9_isSet_X9_isBetween rfl z_X9_isBetween ⟨Nat.le_of_ble_eq_true rfl, Nat.le_of_ble_eq_true rfl⟩ rfl rfl (Nat.le_of_ble_eq_true rfl) dX9_isSet_12 ⟨Nat.le_of_ble_eq_true rfl, Nat.le_of_ble_eq_true rfl⟩ ?_
  refine q_after (rv := (some (.int (q_b (f_X9_isBetween a1.toInt64 (0 : Int64) ((((1 : Int32) <<< ((S.1 2) &&& 31)) - (1 : Int32)).toInt64)))))) (w0 := ws) (st2 := [.int (q_b (f_X9_isBetween a1.toInt64 (0 : Int64) ((((1 : Int32) <<< ((S.1 2) &&& 31)) - (1 : Int32)).toInt64)))]) rfl rfl rfl ?_
  obtain rfl := q_some hf
  exact q_zret (pc := 15) C (q_b_nar _) dX9_isSet_15 ⟨rfl, hW⟩
theorem z_X9_points : q_dsc yX9_points 1 := ⟨by decide +kernel, by decide +kernel, by decide +kernel⟩
theorem n_X9_points_X9 : ∀ w ∈ wsX90, w ∈ wsX9_points := fun _ h => (List.mem_cons_of_mem _ (List.mem_append_left _ (List.mem_append_right _ h)))
def f_X9_points_18 (v1 : Int32) (vt0 : Int32) (S : MS) : Option (Int32 × MS) := ((f_X9_isWrong vt0 S).bind fun u2 => (if (q_b u2.1) = 0 then (if q_ch (45 : Int32) then some ((nI (u2.2.2.1 0)), (mset (mset (mclr (mset u2.2 2 v1) 0) 7 (45 : Int32)) 3 (0 : Int32))) else none) else some ((0 : Int32), u2.2)))
def f_X9_points (a1 : Int32) (S : MS) : Option (Int32 × MS) := (if (q_b (f_X9_isBetween a1.toInt64 (1 : Int64) (6 : Int64))) = 0 then f_X9_points_18 a1 (1 : Int32) S else f_X9_points_18 a1 (0 : Int32) S)
set_option maxRecDepth 100000 in
set_option maxHeartbeats 8000000 in
theorem w_X9_points_18 {p : Program} {l : Launch} {e : Env} {s : State} {m : MethodId} {args : Array Value} {below : List Frame} {meth : Method} {c : Code} {D : va_G} {cc : Nat → ClassId} {N0 : Nat} {ga : Nat → Nat} {E : va_W} {ad : Nat → Nat → Nat} {v : (Int32 × MS)} (C : q_C p s m args meth c cX9_points 3 (some .int) wsX9_points RX9 D cc N0)  (v1 : Int32) (vt0 : Int32) (S : MS)  (ws : va_W) : f_X9_points_18  v1 vt0 S = some v → mW cc ga ad S E ws → q_WA p l e (q_rm (1) (30) 0 0) s m args below meth c D N0 3 (MQ below (q_Q D N0 (fun rv w1 => rv = some (.int v.1) ∧ mW cc ga ad v.2 E w1)) args s 0 0 (q_A N0)) 0 0 ws 18 [(0, .ref (ga 0)), (1, .int v1)] [.int vt0, .ref (ga 0)] := by
  intro hf hW
  obtain ⟨u2, e3, hf⟩ := q_bind hf
  obtain ⟨_, he⟩ := hW.obj
  refine q_callV (pc := 18) (As := [.int vt0]) (rest := []) C (c_X9_isWrong l D cc N0 ga ad  E S vt0 u2 e3 ws hW) gX9_points_X9_isWrong rfl rfl z_X9_isWrong ⟨Nat.le_of_ble_eq_true rfl, Nat.le_of_ble_eq_true rfl⟩ he rfl rfl rfl (Nat.le_of_ble_eq_true rfl) dX9_points_18 ⟨Nat.le_of_ble_eq_true rfl, Nat.le_of_ble_eq_true rfl⟩ ?_
  rintro _ ws ⟨rfl, hW⟩
  refine q_nm (wz := ws) (ka := 0) (kb := 0) (sz := [.int (q_b u2.1)]) rfl rfl rfl rfl ?_
  refine q_if_eq (pc := 21) (tgt := 26) C dX9_points_21 (by decide) (fun c4 => ?_) (fun c4 => ?_)
  · have hf := q_iteT hf c4
    refine q_aload_n (pc := 26) C dX9_points_26 rfl 0 rfl ?_
    refine m_g_1 (pc := 27) C hW n_X9_points_X9 (List.mem_of_getElem? (i := 2) rfl) dX9_points_27 ?_
    refine m_size_0 (pc := 30) C hW gX9_points_Jx4a65c_size_8abf5_f50Jx4a65c ⟨Nat.le_of_ble_eq_true rfl, Nat.le_of_ble_eq_true rfl⟩ (Nat.le_of_ble_eq_true rfl) dX9_points_30 ⟨Nat.le_of_ble_eq_true rfl, Nat.le_of_ble_eq_true rfl⟩ ?_
    refine q_istore_n (pc := 35) (lvq := [(2, .int (nI (u2.2.2.1 0))), (0, .ref (ga 0)), (1, .int v1)]) C dX9_points_35 rfl (by decide) rfl ?_
    refine q_aload_n (pc := 36) C dX9_points_36 rfl 1 rfl ?_
    refine q_iload_n (pc := 37) C dX9_points_37 rfl 2 rfl ?_
    refine m_p_2 (pc := 38) C hW n_X9_points_X9 (List.mem_of_getElem? (i := 3) rfl) dX9_points_38 (fun ws hW => ?_)
    refine q_aload_n (pc := 41) C dX9_points_41 rfl 1 rfl ?_
    refine m_g_1 (pc := 42) C hW n_X9_points_X9 (List.mem_of_getElem? (i := 2) rfl) dX9_points_42 ?_
    refine m_clear_0 (pc := 45) C hW gX9_points_Jx4a65c_clear_da8c8_f66Jx4a65c ⟨Nat.le_of_ble_eq_true rfl, Nat.le_of_ble_eq_true rfl⟩ (Nat.le_of_ble_eq_true rfl) dX9_points_45 ⟨Nat.le_of_ble_eq_true rfl, Nat.le_of_ble_eq_true rfl⟩ (fun ws hW => ?_)
    refine q_aload_n (pc := 50) C dX9_points_50 rfl 1 rfl ?_
    refine q_bipush (pc := 51) C (45 : Int32) dX9_points_51 q_cb_45 ?_
    obtain ⟨g5, hf⟩ := q_gd hf
    refine m_p_7 (pc := 53) C hW n_X9_points_X9 (List.mem_of_getElem? (i := 4) rfl) g5.1 g5.2 dX9_points_53 (fun ws hW => ?_)
    refine q_aload_n (pc := 56) C dX9_points_56 rfl 1 rfl ?_
    refine q_iconst (pc := 57) C (0 : Int32) dX9_points_57 q_ci_0 ?_
    refine m_p_3 (pc := 58) C hW n_X9_points_X9 (List.mem_of_getElem? (i := 5) rfl) dX9_points_58 (fun ws hW => ?_)
    refine q_iload_n (pc := 61) C dX9_points_61 rfl 0 rfl ?_
    obtain rfl := q_some hf
    exact q_iret (pc := 62) C dX9_points_62 ⟨rfl, hW⟩
  · have hf := q_iteF hf c4
    refine q_iconst (pc := 24) C (0 : Int32) dX9_points_24 q_ci_0 ?_
    obtain rfl := q_some hf
    exact q_iret (pc := 25) C dX9_points_25 ⟨rfl, hW⟩
set_option maxRecDepth 100000 in
set_option maxHeartbeats 8000000 in
theorem c_X9_points (l : Launch) (D : va_G) (cc : Nat → ClassId) (N0 : Nat) (ga : Nat → Nat) (ad : Nat → Nat → Nat) (E : va_W) (S : MS) (a1 : Int32) (v : (Int32 × MS)) (hf : f_X9_points a1 S = some v) (ws : va_W) (hW : mW cc ga ad S E ws) : q_Met l yX9_points wsX9_points 1 30 D cc N0 ws [.ref (ga 0), .int a1] (fun rv w1 => rv = some (.int v.1) ∧ mW cc ga ad v.2 E w1) 0 0 := by
  refine q_ofW (code := cX9_points) (nL := 3) (ret := (some .int)) (by decide +kernel) rfl (Nat.le_of_ble_eq_true rfl) (fun p e s m below meth c C _ => ?_)
  refine q_lv (lv2 := [(0, .ref (ga 0)), (1, .int a1)]) rfl ?_
  refine q_aload_n (pc := 0) C dX9_points_0 rfl 0 rfl ?_
  refine q_iload_n (pc := 1) C dX9_points_1 rfl 1 rfl ?_
  refine q_i2l (pc := 2) C dX9_points_2 rfl ?_
  refine q_lconst (pc := 3) C (1 : Int64) dX9_points_3 q_cl_1 ?_
  refine q_ldc2 (pc := 4) (v := (6 : Int64)) C (List.mem_of_getElem? (i := 1) rfl) dX9_points_4 ?_
  refine q_callS (pc := 7) (As := [.long a1.toInt64, .long (1 : Int64), .long (6 : Int64)]) (rest := [.ref (ga 0)]) C (c_X9_isBetween l D cc N0 ws a1.toInt64 (1 : Int64) (6 : Int64) _ rfl) gX9_points_X9_isBetween rfl z_X9_isBetween ⟨Nat.le_of_ble_eq_true rfl, Nat.le_of_ble_eq_true rfl⟩ rfl rfl (Nat.le_of_ble_eq_true rfl) dX9_points_7 ⟨Nat.le_of_ble_eq_true rfl, Nat.le_of_ble_eq_true rfl⟩ ?_
  refine q_after (rv := (some (.int (q_b (f_X9_isBetween a1.toInt64 (1 : Int64) (6 : Int64)))))) (w0 := ws) (st2 := [.int (q_b (f_X9_isBetween a1.toInt64 (1 : Int64) (6 : Int64))), .ref (ga 0)]) rfl rfl rfl ?_
  refine q_if_eq (pc := 10) (tgt := 17) C dX9_points_10 (by decide) (fun c1 => ?_) (fun c1 => ?_)
  · have hf := q_iteT hf c1
    refine q_iconst (pc := 17) C (1 : Int32) dX9_points_17 q_ci_1 ?_
    refine q_sub (lvq := [(0, .ref (ga 0)), (1, .int a1)]) [0, 1] rfl ?_
    exact w_X9_points_18 C a1 (1 : Int32) S ws hf hW
  · have hf := q_iteF hf c1
    refine q_iconst (pc := 13) C (0 : Int32) dX9_points_13 q_ci_0 ?_
    refine q_goto (pc := 14) (tgt := 18) C dX9_points_14 (by decide) ?_
    refine q_sub (lvq := [(0, .ref (ga 0)), (1, .int a1)]) [0, 1] rfl ?_
    exact w_X9_points_18 C a1 (0 : Int32) S ws hf hW
theorem z_X9_has : q_dsc yX9_has 1 := ⟨by decide +kernel, by decide +kernel, by decide +kernel⟩
theorem n_X9_has_X9 : ∀ w ∈ wsX90, w ∈ wsX9_has := fun _ h => (List.mem_cons_of_mem _ (List.mem_append_left _ (List.mem_append_left _ (List.mem_append_right _ h))))
def f_X9_has_46 (S : MS) (k12 : Int32 → Int32 → Int32 → Int32 → Option Bool) (v1 : Int32) (vt0 : Int32) (vt1 : Int32) (u3 : Int32) (x3 : Int32) : Option Bool := k12 v1 (vt1 ||| vt0) u3 x3
def f_X9_has_12b (S : MS) (k12 : Int32 → Int32 → Int32 → Int32 → Option Bool) (v1 : Int32) (v2 : Int32) (u3 : Int32) (x3 : Int32) : Option Bool := (if (q_b (!decide (u3 = nI (S.2.1 0)))) = 0 then (if v2 = 0 then some false else if v2 = 1 then some true else none) else (if q_in u3 (S.2.1 0) ∧ x3 = S.1 20 then (if u3.toNatClampNeg < S.2.1 0 then (if (S.2.2.1 0 u3.toNatClampNeg 0) = v1 then f_X9_has_46 S k12 v1 (1 : Int32) v2 (u3 + (1 : Int32)) x3 else f_X9_has_46 S k12 v1 (0 : Int32) v2 (u3 + (1 : Int32)) x3) else none) else none))
def f_X9_has_12 (S : MS) : Nat → Int32 → Int32 → Int32 → Int32 → Option Bool
  | 0, _, _, _, _ => none
  | n + 1, v1, v2, u3, x3 => f_X9_has_12b S (f_X9_has_12 S n) v1 v2 u3 x3
def f_X9_has (S : MS) (a1 : Int32) : Option Bool := f_X9_has_12 S 1000 a1 (0 : Int32) (0 : Int32) (S.1 20)
set_option maxRecDepth 100000 in
set_option maxHeartbeats 8000000 in
theorem w_X9_has_46 {p : Program} {l : Launch} {e : Env} {s : State} {m : MethodId} {args : Array Value} {below : List Frame} {meth : Method} {c : Code} {D : va_G} {cc : Nat → ClassId} {N0 : Nat} {ga : Nat → Nat} {E : va_W} {ad : Nat → Nat → Nat} {S : MS} {k12 : Int32 → Int32 → Int32 → Int32 → Option Bool} {n12 : Nat} {v : Bool} (C : q_C p s m args meth c cX9_has 5 (some .boolean) wsX9_has RX9 D cc N0) (hk12 : ∀ (kc : Nat) (ks : Nat) (v1 : Int32) (v2 : Int32) (u3 : Int32) (x3 : Int32) (q3 : Nat) (z3 : Int32)  (ws : va_W), k12 v1 v2 u3 x3 = some v → mW cc ga ad S ((q3, q_it u3 z3 x3 (ga 1)) :: E) ws → kc + 0 + n12 * 0 ≤ 1 → ks + 0 + n12 * 0 ≤ 4 → q_WA p l e (q_rm (3) (90) 1 4) s m args below meth c D N0 5 (MQ below (q_Q D N0 (fun rv w1 => rv = some (.int (q_b v)) ∧ mW cc ga ad S E w1)) args s 1 4 (q_A N0)) kc ks ws 12 [(1, .int v1), (2, .int v2), (3, .ref q3)] []) (kc : Nat) (ks : Nat) (v1 : Int32) (vt0 : Int32) (vt1 : Int32) (u3 : Int32) (x3 : Int32) (q3 : Nat) (z3 : Int32)  (ws : va_W) : f_X9_has_46 S k12 v1 vt0 vt1 u3 x3 = some v → mW cc ga ad S ((q3, q_it u3 z3 x3 (ga 1)) :: E) ws → kc + 0 + n12 * 0 ≤ 1 → ks + 0 + n12 * 0 ≤ 4 → q_WA p l e (q_rm (3) (90) 1 4) s m args below meth c D N0 5 (MQ below (q_Q D N0 (fun rv w1 => rv = some (.int (q_b v)) ∧ mW cc ga ad S E w1)) args s 1 4 (q_A N0)) kc ks ws 46 [(1, .int v1), (3, .ref q3)] [.int vt0, .int vt1] := by
  intro hf hW b1 b2
  refine q_ior (pc := 46) C dX9_has_46 ?_
  refine q_istore_n (pc := 47) (lvq := [(2, .int (vt1 ||| vt0)), (1, .int v1), (3, .ref q3)]) C dX9_has_47 rfl (by decide) rfl ?_
  refine q_goto (pc := 48) (tgt := 12) C dX9_has_48 (by decide) ?_
  refine q_sub (lvq := [(1, .int v1), (2, .int (vt1 ||| vt0)), (3, .ref q3)]) [1, 0, 2] rfl ?_
  exact hk12 (kc) (ks) v1 (vt1 ||| vt0) u3 x3 q3 z3 ws hf hW (by omega) (by omega)
set_option maxRecDepth 100000 in
set_option maxHeartbeats 8000000 in
theorem w_X9_has_12 {p : Program} {l : Launch} {e : Env} {s : State} {m : MethodId} {args : Array Value} {below : List Frame} {meth : Method} {c : Code} {D : va_G} {cc : Nat → ClassId} {N0 : Nat} {ga : Nat → Nat} {E : va_W} {ad : Nat → Nat → Nat} {S : MS} {v : Bool} (C : q_C p s m args meth c cX9_has 5 (some .boolean) wsX9_has RX9 D cc N0)  : ∀ (n : Nat) (kc : Nat) (ks : Nat) (v1 : Int32) (v2 : Int32) (u3 : Int32) (x3 : Int32) (q3 : Nat) (z3 : Int32)  (ws : va_W), f_X9_has_12 S n v1 v2 u3 x3 = some v → mW cc ga ad S ((q3, q_it u3 z3 x3 (ga 1)) :: E) ws → kc + 0 + n * 0 ≤ 1 → ks + 0 + n * 0 ≤ 4 → q_WA p l e (q_rm (3) (90) 1 4) s m args below meth c D N0 5 (MQ below (q_Q D N0 (fun rv w1 => rv = some (.int (q_b v)) ∧ mW cc ga ad S E w1)) args s 1 4 (q_A N0)) kc ks ws 12 [(1, .int v1), (2, .int v2), (3, .ref q3)] [] := by
  intro n
  induction n with
  | zero => intro kc ks v1 v2 u3 x3 q3 z3 ws hf; cases hf
  | succ n ih =>
    intro kc ks v1 v2 u3 x3 q3 z3 ws hf hW b1 b2
    have hk12 : ∀ (kc : Nat) (ks : Nat) (v1 : Int32) (v2 : Int32) (u3 : Int32) (x3 : Int32) (q3 : Nat) (z3 : Int32)  (ws : va_W), f_X9_has_12 S n v1 v2 u3 x3 = some v → mW cc ga ad S ((q3, q_it u3 z3 x3 (ga 1)) :: E) ws → kc + 0 + n * 0 ≤ 1 → ks + 0 + n * 0 ≤ 4 → q_WA p l e (q_rm (3) (90) 1 4) s m args below meth c D N0 5 (MQ below (q_Q D N0 (fun rv w1 => rv = some (.int (q_b v)) ∧ mW cc ga ad S E w1)) args s 1 4 (q_A N0)) kc ks ws 12 [(1, .int v1), (2, .int v2), (3, .ref q3)] [] := ih
    have hf : f_X9_has_12b S (f_X9_has_12 S n) v1 v2 u3 x3 = some v := hf
    simp only [Nat.succ_mul, Nat.add_mul] at b1 b2
    refine q_aload_n (pc := 12) C dX9_has_12 rfl 2 rfl ?_
    refine m_has_0 (pc := 13) C hW gX9_has_Jx35411_hasNext_aae02_f76Jx35411 ⟨Nat.le_of_ble_eq_true rfl, Nat.le_of_ble_eq_true rfl⟩ (Nat.le_of_ble_eq_true rfl) dX9_has_13 ⟨(show (kc) ≤ 1 by omega), (show (ks) ≤ 4 by omega)⟩ ?_
    refine q_if_eq (pc := 18) (tgt := 51) C dX9_has_18 (by decide) (fun c2 => ?_) (fun c2 => ?_)
    · have hf := q_iteT hf c2
      refine q_iload_n (pc := 51) C dX9_has_51 rfl 1 rfl ?_
      refine q_wid (show kc ≤ 1 by omega) (show ks ≤ 4 by omega) ?_
      refine t_drop hW (fun ws hW => ?_)
      have hz := q_z01 hf
      rcases hz with ⟨c3, hf⟩ | ⟨c3, hf⟩
      · obtain rfl := q_some hf
        rw [c3]
        exact q_zret (pc := 52) C (by decide +kernel) dX9_has_52 ⟨rfl, hW⟩
      · obtain rfl := q_some hf
        rw [c3]
        exact q_zret (pc := 52) C (by decide +kernel) dX9_has_52 ⟨rfl, hW⟩
    · have hf := q_iteF hf c2
      refine q_aload_n (pc := 21) C dX9_has_21 rfl 2 rfl ?_
      obtain ⟨g4, hf⟩ := q_gd hf
      refine m_next_0 (pc := 22) C hW g4 gX9_has_Jx35411_next_0502b_f82Jx35411 ⟨Nat.le_of_ble_eq_true rfl, Nat.le_of_ble_eq_true rfl⟩ (Nat.le_of_ble_eq_true rfl) dX9_has_22 ⟨(show (kc) ≤ 1 by omega), (show (ks) ≤ 4 by omega)⟩ (fun ws hW => ?_)
      refine m_cast_0 (pc := 27) C hW g4.1.2 (List.mem_of_getElem? (i := 2) rfl) dX9_has_27 ?_
      refine q_astore (pc := 30) (lvq := [(4, .ref (ad 0 u3.toNatClampNeg)), (1, .int v1), (2, .int v2), (3, .ref q3)]) C dX9_has_30 (by decide) rfl ?_
      refine q_iload_n (pc := 32) C dX9_has_32 rfl 2 rfl ?_
      refine q_aload (pc := 33) C dX9_has_33 0 rfl ?_
      refine q_iconst (pc := 35) C (0 : Int32) dX9_has_35 q_ci_0 ?_
      obtain ⟨g5, hf⟩ := q_gd hf
      refine m_rald_0 (pc := 36) C hW g5 ⟨by decide, by decide⟩ dX9_has_36 ?_
      refine q_nm (wz := ws) (ka := kc) (kb := ks) (sz := [.int (S.2.2.1 0 u3.toNatClampNeg 0), .int v2]) rfl rfl rfl rfl ?_
      refine q_iload_n (pc := 37) C dX9_has_37 rfl 1 rfl ?_
      refine q_icmp_ne (pc := 38) (tgt := 45) C dX9_has_38 (by decide) (fun c6 => ?_) (fun c6 => ?_)
      · have hf := q_iteF hf c6
        refine q_iconst (pc := 45) C (0 : Int32) dX9_has_45 q_ci_0 ?_
        refine q_sub (lvq := [(1, .int v1), (3, .ref q3)]) [1, 3] rfl ?_
        exact w_X9_has_46 C hk12 (kc) (ks) v1 (0 : Int32) v2 (u3 + (1 : Int32)) x3 q3 u3 ws hf hW (by omega) (by omega)
      · have hf := q_iteT hf c6
        refine q_iconst (pc := 41) C (1 : Int32) dX9_has_41 q_ci_1 ?_
        refine q_goto (pc := 42) (tgt := 46) C dX9_has_42 (by decide) ?_
        refine q_sub (lvq := [(1, .int v1), (3, .ref q3)]) [1, 3] rfl ?_
        exact w_X9_has_46 C hk12 (kc) (ks) v1 (1 : Int32) v2 (u3 + (1 : Int32)) x3 q3 u3 ws hf hW (by omega) (by omega)
set_option maxRecDepth 100000 in
set_option maxHeartbeats 8000000 in
theorem c_X9_has (l : Launch) (D : va_G) (cc : Nat → ClassId) (N0 : Nat) (ga : Nat → Nat) (ad : Nat → Nat → Nat) (E : va_W) (S : MS) (a1 : Int32) (v : Bool) (hf : f_X9_has S a1 = some v) (ws : va_W) (hW : mW cc ga ad S E ws) : q_Met l yX9_has wsX9_has 3 90 D cc N0 ws [.ref (ga 0), .int a1] (fun rv w1 => rv = some (.int (q_b v)) ∧ mW cc ga ad S E w1) 1 4 := by
  refine q_ofW (code := cX9_has) (nL := 5) (ret := (some .boolean)) (by decide +kernel) rfl (Nat.le_of_ble_eq_true rfl) (fun p e s m below meth c C _ => ?_)
  refine q_lv (lv2 := [(0, .ref (ga 0)), (1, .int a1)]) rfl ?_
  obtain ⟨kc, hkc⟩ : ∃ z, z = 0 := ⟨_, rfl⟩
  obtain ⟨ks, hks⟩ : ∃ z, z = 0 := ⟨_, rfl⟩
  refine q_nm (wz := ws) (ka := kc) (kb := ks) (sz := []) rfl hkc.symm hks.symm rfl ?_
  refine q_iconst (pc := 0) C (0 : Int32) dX9_has_0 q_ci_0 ?_
  refine q_istore_n (pc := 1) (lvq := [(2, .int (0 : Int32)), (0, .ref (ga 0)), (1, .int a1)]) C dX9_has_1 rfl (by decide) rfl ?_
  refine q_aload_n (pc := 2) C dX9_has_2 rfl 1 rfl ?_
  refine m_g_1 (pc := 3) C hW n_X9_has_X9 (List.mem_of_getElem? (i := 1) rfl) dX9_has_3 ?_
  refine m_iter_0 (pc := 6) C hW gX9_has_Jx4a65c_iterator_32c93_f72Jx4a65c ⟨Nat.le_of_ble_eq_true rfl, Nat.le_of_ble_eq_true rfl⟩ (Nat.le_of_ble_eq_true rfl) dX9_has_6 ⟨(show (kc) + 1 ≤ 1 by omega), (show (ks) + 4 ≤ 4 by omega)⟩ (fun it1 ws hW => ?_)
  refine q_nm (wz := ws) (ka := kc + 1) (kb := ks + 4) (sz := [.ref it1]) rfl rfl rfl rfl ?_
  refine q_astore_n (pc := 11) (lvq := [(3, .ref it1), (2, .int (0 : Int32)), (0, .ref (ga 0)), (1, .int a1)]) C dX9_has_11 rfl (by decide) rfl ?_
  refine q_sub (lvq := [(1, .int a1), (2, .int (0 : Int32)), (3, .ref it1)]) [3, 1, 0] rfl ?_
  exact w_X9_has_12 C 1000 (kc + 1) (ks + 4) a1 (0 : Int32) (0 : Int32) (S.1 20) it1 (-1 : Int32) ws hf hW (by omega) (by omega)
theorem z_X9_concept : q_dsc yX9_concept 1 := ⟨by decide +kernel, by decide +kernel, by decide +kernel⟩
theorem n_X9_concept_X9 : ∀ w ∈ wsX90, w ∈ wsX9_concept := fun _ h => (List.mem_cons_of_mem _ (List.mem_append_left _ (List.mem_append_left _ (List.mem_append_right _ h))))
def f_X9_concept_51 (v1 : Int32) (vt0 : Int32) (S : MS) : Option (Int32 × MS) := ((f_X9_isWrong vt0 S).bind fun u7 => (if (q_b u7.1) = 0 then (if u7.2.2.1 0 < 64 then some (((nI ((madd u7.2 0 (upd (upd (upd (fun _ => 0) 0 v1) 1 (0 : Int32)) 2 (0 : Int32))).2.1 0)) - (1 : Int32)), (madd u7.2 0 (upd (upd (upd (fun _ => 0) 0 v1) 1 (0 : Int32)) 2 (0 : Int32)))) else none) else some ((0 : Int32), u7.2)))
def f_X9_concept_28 (v1 : Int32) (S : MS) : Option (Int32 × MS) := f_X9_concept_51 v1 (2 : Int32) S
def f_X9_concept (a1 : Int32) (S : MS) : Option (Int32 × MS) := ((f_X9_isSet S a1).bind fun u1 => (if (q_b u1) = 0 then f_X9_concept_51 a1 (1 : Int32) S else ((f_X9_has S a1).bind fun u4 => (if (q_b u4) = 0 then (if (S.1 3) ≤ 0 then (if (nI (S.2.1 0)) = (24 : Int32) then f_X9_concept_51 a1 (3 : Int32) S else f_X9_concept_51 a1 (0 : Int32) S) else f_X9_concept_28 a1 S) else f_X9_concept_28 a1 S))))
set_option maxRecDepth 100000 in
set_option maxHeartbeats 8000000 in
theorem w_X9_concept_51 {p : Program} {l : Launch} {e : Env} {s : State} {m : MethodId} {args : Array Value} {below : List Frame} {meth : Method} {c : Code} {D : va_G} {cc : Nat → ClassId} {N0 : Nat} {ga : Nat → Nat} {E : va_W} {v : (Int32 × MS)} (C : q_C p s m args meth c cX9_concept 2 (some .int) wsX9_concept RX9 D cc N0)  (kc : Nat) (ks : Nat) (v1 : Int32) (vt0 : Int32) (S : MS) (ad : Nat → Nat → Nat) (ws : va_W) : f_X9_concept_51  v1 vt0 S = some v → mW cc ga ad S E ws → kc + 2 ≤ 3 → ks + 103 ≤ 110 → q_WA p l e (q_rm (10) (400) 3 110) s m args below meth c D N0 2 (MQ below (q_Q D N0 (fun rv w1 => rv = some (.int v.1) ∧ ∃ ad : Nat → Nat → Nat, mW cc ga ad v.2 E w1)) args s 3 110 (q_A N0)) kc ks ws 51 [(0, .ref (ga 0)), (1, .int v1)] [.int vt0, .ref (ga 0)] := by
  intro hf hW b1 b2
  obtain ⟨u7, e8, hf⟩ := q_bind hf
  obtain ⟨_, he⟩ := hW.obj
  refine q_callV (pc := 51) (As := [.int vt0]) (rest := []) C (c_X9_isWrong l D cc N0 ga ad  E S vt0 u7 e8 ws hW) gX9_concept_X9_isWrong rfl rfl z_X9_isWrong ⟨Nat.le_of_ble_eq_true rfl, Nat.le_of_ble_eq_true rfl⟩ he rfl rfl rfl (Nat.le_of_ble_eq_true rfl) dX9_concept_51 ⟨(show (kc) + 0 ≤ 3 by omega), (show (ks) + 0 ≤ 110 by omega)⟩ ?_
  rintro _ ws ⟨rfl, hW⟩
  refine q_nm (wz := ws) (ka := kc) (kb := ks) (sz := [.int (q_b u7.1)]) rfl rfl rfl rfl ?_
  refine q_if_eq (pc := 54) (tgt := 59) C dX9_concept_54 (by decide) (fun c9 => ?_) (fun c9 => ?_)
  · have hf := q_iteT hf c9
    refine q_aload_n (pc := 59) C dX9_concept_59 rfl 0 rfl ?_
    refine m_g_1 (pc := 60) C hW n_X9_concept_X9 (List.mem_of_getElem? (i := 2) rfl) dX9_concept_60 ?_
    refine q_iconst (pc := 63) C (3 : Int32) dX9_concept_63 q_ci_3 ?_
    refine t_new (pc := 64) C hW (ty := .int) 0 rfl (fun _ h => by cases h) (List.mem_of_getElem? (i := 3) rfl) rfl (N' := 3) (3, .inl fun _ => 0) (fun _ => rfl) (by decide) (by decide) (by decide) (show (kc) + 1 ≤ 3 by omega) (show (ks) + 3 ≤ 110 by omega) dX9_concept_64 (fun qa10 ws hW => ?_)
    refine q_nm (wz := ws) (ka := kc + 1) (kb := ks + 3) (sz := [.ref qa10, .ref (ga 1)]) rfl rfl rfl rfl ?_
    refine q_dup (pc := 66) C dX9_concept_66 rfl ?_
    refine q_iconst (pc := 67) C (0 : Int32) dX9_concept_67 q_ci_0 ?_
    refine q_iload_n (pc := 68) C dX9_concept_68 rfl 1 rfl ?_
    refine t_iast (pc := 69) C hW ⟨by decide, by decide⟩ dX9_concept_69 (fun ws hW => ?_)
    have hW : mW cc ga ad u7.2 ((qa10, .inl (cc 0, 3, .inl (upd (fun _ => 0) 0 v1))) :: E) ws := hW
    refine q_dup (pc := 70) C dX9_concept_70 rfl ?_
    refine q_iconst (pc := 71) C (1 : Int32) dX9_concept_71 q_ci_1 ?_
    refine q_iconst (pc := 72) C (0 : Int32) dX9_concept_72 q_ci_0 ?_
    refine t_iast (pc := 73) C hW ⟨by decide, by decide⟩ dX9_concept_73 (fun ws hW => ?_)
    have hW : mW cc ga ad u7.2 ((qa10, .inl (cc 0, 3, .inl (upd (upd (fun _ => 0) 0 v1) 1 (0 : Int32)))) :: E) ws := hW
    refine q_dup (pc := 74) C dX9_concept_74 rfl ?_
    refine q_iconst (pc := 75) C (2 : Int32) dX9_concept_75 q_ci_2 ?_
    refine q_iconst (pc := 76) C (0 : Int32) dX9_concept_76 q_ci_0 ?_
    refine t_iast (pc := 77) C hW ⟨by decide, by decide⟩ dX9_concept_77 (fun ws hW => ?_)
    have hW : mW cc ga ad u7.2 ((qa10, .inl (cc 0, 3, .inl (upd (upd (upd (fun _ => 0) 0 v1) 1 (0 : Int32)) 2 (0 : Int32)))) :: E) ws := hW
    obtain ⟨g11, hf⟩ := q_gd hf
    refine m_add_0 (pc := 78) C hW g11 gX9_concept_Jx4a65c_add_9ea2d_f94Jx4a65c ⟨Nat.le_of_ble_eq_true rfl, Nat.le_of_ble_eq_true rfl⟩ (Nat.le_of_ble_eq_true rfl) dX9_concept_78 ⟨(show (kc + 1) + 1 ≤ 3 by omega), (show (ks + 3) + 100 ≤ 110 by omega)⟩ (fun ad ws hW => ?_)
    refine q_nm (wz := ws) (ka := kc + 2) (kb := ks + 103) (sz := [.int (1 : Int32)]) rfl rfl rfl rfl ?_
    refine q_pop (pc := 83) C dX9_concept_83 rfl ?_
    refine q_aload_n (pc := 84) C dX9_concept_84 rfl 0 rfl ?_
    refine m_g_1 (pc := 85) C hW n_X9_concept_X9 (List.mem_of_getElem? (i := 2) rfl) dX9_concept_85 ?_
    refine m_size_0 (pc := 88) C hW gX9_concept_Jx4a65c_size_8abf5_f50Jx4a65c ⟨Nat.le_of_ble_eq_true rfl, Nat.le_of_ble_eq_true rfl⟩ (Nat.le_of_ble_eq_true rfl) dX9_concept_88 ⟨(show (kc + 2) ≤ 3 by omega), (show (ks + 103) ≤ 110 by omega)⟩ ?_
    refine q_iconst (pc := 93) C (1 : Int32) dX9_concept_93 q_ci_1 ?_
    refine q_isub (pc := 94) C dX9_concept_94 ?_
    refine q_wid (show kc + 2 ≤ 3 by omega) (show ks + 103 ≤ 110 by omega) ?_
    obtain rfl := q_some hf
    exact q_iret (pc := 95) C dX9_concept_95 ⟨rfl, ad, hW⟩
  · have hf := q_iteF hf c9
    refine q_iconst (pc := 57) C (0 : Int32) dX9_concept_57 q_ci_0 ?_
    refine q_wid (show kc ≤ 3 by omega) (show ks ≤ 110 by omega) ?_
    obtain rfl := q_some hf
    exact q_iret (pc := 58) C dX9_concept_58 ⟨rfl, ad, hW⟩
set_option maxRecDepth 100000 in
set_option maxHeartbeats 8000000 in
theorem w_X9_concept_28 {p : Program} {l : Launch} {e : Env} {s : State} {m : MethodId} {args : Array Value} {below : List Frame} {meth : Method} {c : Code} {D : va_G} {cc : Nat → ClassId} {N0 : Nat} {ga : Nat → Nat} {E : va_W} {v : (Int32 × MS)} (C : q_C p s m args meth c cX9_concept 2 (some .int) wsX9_concept RX9 D cc N0)  (kc : Nat) (ks : Nat) (v1 : Int32) (S : MS) (ad : Nat → Nat → Nat) (ws : va_W) : f_X9_concept_28  v1 S = some v → mW cc ga ad S E ws → kc + 2 ≤ 3 → ks + 103 ≤ 110 → q_WA p l e (q_rm (10) (400) 3 110) s m args below meth c D N0 2 (MQ below (q_Q D N0 (fun rv w1 => rv = some (.int v.1) ∧ ∃ ad : Nat → Nat → Nat, mW cc ga ad v.2 E w1)) args s 3 110 (q_A N0)) kc ks ws 28 [(0, .ref (ga 0)), (1, .int v1)] [.ref (ga 0)] := by
  intro hf hW b1 b2
  refine q_iconst (pc := 28) C (2 : Int32) dX9_concept_28 q_ci_2 ?_
  refine q_goto (pc := 29) (tgt := 51) C dX9_concept_29 (by decide) ?_
  refine q_sub (lvq := [(0, .ref (ga 0)), (1, .int v1)]) [0, 1] rfl ?_
  exact w_X9_concept_51 C (kc) (ks) v1 (2 : Int32) S ad ws hf hW (by omega) (by omega)
set_option maxRecDepth 100000 in
set_option maxHeartbeats 8000000 in
theorem c_X9_concept (l : Launch) (D : va_G) (cc : Nat → ClassId) (N0 : Nat) (ga : Nat → Nat) (ad : Nat → Nat → Nat) (E : va_W) (S : MS) (a1 : Int32) (v : (Int32 × MS)) (hf : f_X9_concept a1 S = some v) (ws : va_W) (hW : mW cc ga ad S E ws) : q_Met l yX9_concept wsX9_concept 10 400 D cc N0 ws [.ref (ga 0), .int a1] (fun rv w1 => rv = some (.int v.1) ∧ ∃ ad : Nat → Nat → Nat, mW cc ga ad v.2 E w1) 3 110 := by
  refine q_ofW (code := cX9_concept) (nL := 2) (ret := (some .int)) (by decide +kernel) rfl (Nat.le_of_ble_eq_true rfl) (fun p e s m below meth c C _ => ?_)
  refine q_lv (lv2 := [(0, .ref (ga 0)), (1, .int a1)]) rfl ?_
  obtain ⟨kc, hkc⟩ : ∃ z, z = 0 := ⟨_, rfl⟩
  obtain ⟨ks, hks⟩ : ∃ z, z = 0 := ⟨_, rfl⟩
  refine q_nm (wz := ws) (ka := kc) (kb := ks) (sz := []) rfl hkc.symm hks.symm rfl ?_
  refine q_aload_n (pc := 0) C dX9_concept_0 rfl 0 rfl ?_
  refine q_aload_n (pc := 1) C dX9_concept_1 rfl 0 rfl ?_
  refine q_iload_n (pc := 2) C dX9_concept_2 rfl 1 rfl ?_
  obtain ⟨u1, e2, hf⟩ := q_bind hf
  obtain ⟨_, he⟩ := hW.obj
  refine q_callV (pc := 3) (As := [.int a1]) (rest := [.ref (ga 0)]) C (c_X9_isSet l D cc N0 ga ad  E S a1 u1 e2 ws hW) gX9_concept_X9_isSet rfl rfl z_X9_isSet ⟨Nat.le_of_ble_eq_true rfl, Nat.le_of_ble_eq_true rfl⟩ he rfl rfl rfl (Nat.le_of_ble_eq_true rfl) dX9_concept_3 ⟨(show (kc) + 0 ≤ 3 by omega), (show (ks) + 0 ≤ 110 by omega)⟩ ?_
  rintro _ ws ⟨rfl, hW⟩
  refine q_nm (wz := ws) (ka := kc) (kb := ks) (sz := [.int (q_b u1), .ref (ga 0)]) rfl rfl rfl rfl ?_
  refine q_if_ne (pc := 6) (tgt := 13) C dX9_concept_6 (by decide) (fun c3 => ?_) (fun c3 => ?_)
  · have hf := q_iteF hf c3
    refine q_aload_n (pc := 13) C dX9_concept_13 rfl 0 rfl ?_
    refine q_iload_n (pc := 14) C dX9_concept_14 rfl 1 rfl ?_
    obtain ⟨u4, e5, hf⟩ := q_bind hf
    obtain ⟨_, he⟩ := hW.obj
    refine q_callV (pc := 15) (As := [.int a1]) (rest := [.ref (ga 0)]) C (c_X9_has l D cc N0 ga ad  E S a1 u4 e5 ws hW) gX9_concept_X9_has rfl rfl z_X9_has ⟨Nat.le_of_ble_eq_true rfl, Nat.le_of_ble_eq_true rfl⟩ he rfl rfl rfl (Nat.le_of_ble_eq_true rfl) dX9_concept_15 ⟨(show (kc) + 1 ≤ 3 by omega), (show (ks) + 4 ≤ 110 by omega)⟩ ?_
    rintro _ ws ⟨rfl, hW⟩
    refine q_nm (wz := ws) (ka := kc + 1) (kb := ks + 4) (sz := [.int (q_b u4), .ref (ga 0)]) rfl rfl rfl rfl ?_
    refine q_if_ne (pc := 18) (tgt := 28) C dX9_concept_18 (by decide) (fun c6 => ?_) (fun c6 => ?_)
    · have hf := q_iteF hf c6
      refine q_sub (lvq := [(0, .ref (ga 0)), (1, .int a1)]) [0, 1] rfl ?_
      exact w_X9_concept_28 C (kc + 1) (ks + 4) a1 S ad ws hf hW (by omega) (by omega)
    · have hf := q_iteT hf c6
      refine q_aload_n (pc := 21) C dX9_concept_21 rfl 0 rfl ?_
      refine m_g_3 (pc := 22) C hW n_X9_concept_X9 (List.mem_of_getElem? (i := 1) rfl) dX9_concept_22 ?_
      refine q_if_le (pc := 25) (tgt := 32) C dX9_concept_25 (by decide) (fun c12 => ?_) (fun c12 => ?_)
      · have hf := q_iteT hf c12
        refine q_aload_n (pc := 32) C dX9_concept_32 rfl 0 rfl ?_
        refine m_g_1 (pc := 33) C hW n_X9_concept_X9 (List.mem_of_getElem? (i := 2) rfl) dX9_concept_33 ?_
        refine m_size_0 (pc := 36) C hW gX9_concept_Jx4a65c_size_8abf5_f50Jx4a65c ⟨Nat.le_of_ble_eq_true rfl, Nat.le_of_ble_eq_true rfl⟩ (Nat.le_of_ble_eq_true rfl) dX9_concept_36 ⟨(show (kc + 1) ≤ 3 by omega), (show (ks + 4) ≤ 110 by omega)⟩ ?_
        refine q_bipush (pc := 41) C (24 : Int32) dX9_concept_41 q_cb_24 ?_
        refine q_icmp_ne (pc := 43) (tgt := 50) C dX9_concept_43 (by decide) (fun c13 => ?_) (fun c13 => ?_)
        · have hf := q_iteF hf c13
          refine q_iconst (pc := 50) C (0 : Int32) dX9_concept_50 q_ci_0 ?_
          refine q_sub (lvq := [(0, .ref (ga 0)), (1, .int a1)]) [0, 1] rfl ?_
          exact w_X9_concept_51 C (kc + 1) (ks + 4) a1 (0 : Int32) S ad ws hf hW (by omega) (by omega)
        · have hf := q_iteT hf c13
          refine q_iconst (pc := 46) C (3 : Int32) dX9_concept_46 q_ci_3 ?_
          refine q_goto (pc := 47) (tgt := 51) C dX9_concept_47 (by decide) ?_
          refine q_sub (lvq := [(0, .ref (ga 0)), (1, .int a1)]) [0, 1] rfl ?_
          exact w_X9_concept_51 C (kc + 1) (ks + 4) a1 (3 : Int32) S ad ws hf hW (by omega) (by omega)
      · have hf := q_iteF hf c12
        refine q_sub (lvq := [(0, .ref (ga 0)), (1, .int a1)]) [0, 1] rfl ?_
        exact w_X9_concept_28 C (kc + 1) (ks + 4) a1 S ad ws hf hW (by omega) (by omega)
  · have hf := q_iteT hf c3
    refine q_iconst (pc := 9) C (1 : Int32) dX9_concept_9 q_ci_1 ?_
    refine q_goto (pc := 10) (tgt := 51) C dX9_concept_10 (by decide) ?_
    refine q_sub (lvq := [(0, .ref (ga 0)), (1, .int a1)]) [0, 1] rfl ?_
    exact w_X9_concept_51 C (kc) (ks) a1 (1 : Int32) S ad ws hf hW (by omega) (by omega)
theorem z_X9_isNoConcept : q_dsc yX9_isNoConcept 1 := ⟨by decide +kernel, by decide +kernel, by decide +kernel⟩
theorem n_X9_isNoConcept_X9 : ∀ w ∈ wsX90, w ∈ wsX9_isNoConcept := fun _ h => (List.mem_cons_of_mem _ (List.mem_append_left _ (List.mem_append_right _ h)))
def f_X9_isNoConcept_17 (vt0 : Int32) (S : MS) : Option (Bool × MS) := ((f_X9_isWrong vt0 S).bind fun u4 => some (u4.1, u4.2))
def f_X9_isNoConcept (a1 : Int32) (S : MS) : Option (Bool × MS) := ((f_X9_isOf_0 S a1).bind fun u1 => (if (q_b u1) = 0 then f_X9_isNoConcept_17 (1 : Int32) S else f_X9_isNoConcept_17 (0 : Int32) S))
set_option maxRecDepth 100000 in
set_option maxHeartbeats 8000000 in
theorem w_X9_isNoConcept_17 {p : Program} {l : Launch} {e : Env} {s : State} {m : MethodId} {args : Array Value} {below : List Frame} {meth : Method} {c : Code} {D : va_G} {cc : Nat → ClassId} {N0 : Nat} {ga : Nat → Nat} {E : va_W} {ad : Nat → Nat → Nat} {v : (Bool × MS)} (C : q_C p s m args meth c cX9_isNoConcept 2 (some .boolean) wsX9_isNoConcept RX9 D cc N0)  (vt0 : Int32) (S : MS)  (ws : va_W) : f_X9_isNoConcept_17  vt0 S = some v → mW cc ga ad S E ws → q_WA p l e (q_rm (2) (51) 0 0) s m args below meth c D N0 2 (MQ below (q_Q D N0 (fun rv w1 => rv = some (.int (q_b v.1)) ∧ mW cc ga ad v.2 E w1)) args s 0 0 (q_A N0)) 0 0 ws 17 [] [.int vt0, .ref (ga 0)] := by
  intro hf hW
  obtain ⟨u4, e5, hf⟩ := q_bind hf
  obtain ⟨_, he⟩ := hW.obj
  refine q_callV (pc := 17) (As := [.int vt0]) (rest := []) C (c_X9_isWrong l D cc N0 ga ad  E S vt0 u4 e5 ws hW) gX9_isNoConcept_X9_isWrong rfl rfl z_X9_isWrong ⟨Nat.le_of_ble_eq_true rfl, Nat.le_of_ble_eq_true rfl⟩ he rfl rfl rfl (Nat.le_of_ble_eq_true rfl) dX9_isNoConcept_17 ⟨Nat.le_of_ble_eq_true rfl, Nat.le_of_ble_eq_true rfl⟩ ?_
  rintro _ ws ⟨rfl, hW⟩
  refine q_nm (wz := ws) (ka := 0) (kb := 0) (sz := [.int (q_b u4.1)]) rfl rfl rfl rfl ?_
  obtain rfl := q_some hf
  exact q_zret (pc := 20) C (q_b_nar _) dX9_isNoConcept_20 ⟨rfl, hW⟩
set_option maxRecDepth 100000 in
set_option maxHeartbeats 8000000 in
theorem c_X9_isNoConcept (l : Launch) (D : va_G) (cc : Nat → ClassId) (N0 : Nat) (ga : Nat → Nat) (ad : Nat → Nat → Nat) (E : va_W) (S : MS) (a1 : Int32) (v : (Bool × MS)) (hf : f_X9_isNoConcept a1 S = some v) (ws : va_W) (hW : mW cc ga ad S E ws) : q_Met l yX9_isNoConcept wsX9_isNoConcept 2 51 D cc N0 ws [.ref (ga 0), .int a1] (fun rv w1 => rv = some (.int (q_b v.1)) ∧ mW cc ga ad v.2 E w1) 0 0 := by
  refine q_ofW (code := cX9_isNoConcept) (nL := 2) (ret := (some .boolean)) (by decide +kernel) rfl (Nat.le_of_ble_eq_true rfl) (fun p e s m below meth c C _ => ?_)
  refine q_lv (lv2 := [(0, .ref (ga 0)), (1, .int a1)]) rfl ?_
  refine q_aload_n (pc := 0) C dX9_isNoConcept_0 rfl 0 rfl ?_
  refine q_aload_n (pc := 1) C dX9_isNoConcept_1 rfl 0 rfl ?_
  refine m_g_1 (pc := 2) C hW n_X9_isNoConcept_X9 (List.mem_of_getElem? (i := 1) rfl) dX9_isNoConcept_2 ?_
  refine q_iload_n (pc := 5) C dX9_isNoConcept_5 rfl 1 rfl ?_
  obtain ⟨u1, e2, hf⟩ := q_bind hf
  refine q_callS (pc := 6) (As := [.ref (ga 1), .int a1]) (rest := [.ref (ga 0)]) C (c_X9_isOf_0 l D cc N0 ga ad  E S a1 u1 e2 ws hW) gX9_isNoConcept_X9_isOf rfl z_X9_isOf_0 ⟨Nat.le_of_ble_eq_true rfl, Nat.le_of_ble_eq_true rfl⟩ rfl rfl (Nat.le_of_ble_eq_true rfl) dX9_isNoConcept_6 ⟨Nat.le_of_ble_eq_true rfl, Nat.le_of_ble_eq_true rfl⟩ ?_
  rintro _ ws ⟨rfl, hW⟩
  refine q_nm (wz := ws) (ka := 0) (kb := 0) (sz := [.int (q_b u1), .ref (ga 0)]) rfl rfl rfl rfl ?_
  refine q_if_eq (pc := 9) (tgt := 16) C dX9_isNoConcept_9 (by decide) (fun c3 => ?_) (fun c3 => ?_)
  · have hf := q_iteT hf c3
    refine q_iconst (pc := 16) C (1 : Int32) dX9_isNoConcept_16 q_ci_1 ?_
    refine q_sub (lvq := []) [] rfl ?_
    exact w_X9_isNoConcept_17 C (1 : Int32) S ws hf hW
  · have hf := q_iteF hf c3
    refine q_iconst (pc := 12) C (0 : Int32) dX9_isNoConcept_12 q_ci_0 ?_
    refine q_goto (pc := 13) (tgt := 17) C dX9_isNoConcept_13 (by decide) ?_
    refine q_sub (lvq := []) [] rfl ?_
    exact w_X9_isNoConcept_17 C (0 : Int32) S ws hf hW
theorem z_X9_setOf : q_dsc yX9_setOf 1 := ⟨by decide +kernel, by decide +kernel, by decide +kernel⟩
theorem n_X9_setOf_X9 : ∀ w ∈ wsX90, w ∈ wsX9_setOf := fun _ h => (List.mem_cons_of_mem _ (List.mem_append_left _ (List.mem_append_right _ h)))
def f_X9_setOf (a1 : Int32) (S : MS) : Option (Int32 × MS) := ((f_X9_isNoConcept a1 S).bind fun u1 => (if (q_b u1.1) = 0 then (if q_in a1 (u1.2.2.1 0) then (if a1.toNatClampNeg < u1.2.2.1 0 then some ((u1.2.2.2.1 0 a1.toNatClampNeg 0), u1.2) else none) else none) else some ((0 : Int32), u1.2)))
set_option maxRecDepth 100000 in
set_option maxHeartbeats 8000000 in
theorem c_X9_setOf (l : Launch) (D : va_G) (cc : Nat → ClassId) (N0 : Nat) (ga : Nat → Nat) (ad : Nat → Nat → Nat) (E : va_W) (S : MS) (a1 : Int32) (v : (Int32 × MS)) (hf : f_X9_setOf a1 S = some v) (ws : va_W) (hW : mW cc ga ad S E ws) : q_Met l yX9_setOf wsX9_setOf 4 100 D cc N0 ws [.ref (ga 0), .int a1] (fun rv w1 => rv = some (.int v.1) ∧ mW cc ga ad v.2 E w1) 0 0 := by
  refine q_ofW (code := cX9_setOf) (nL := 2) (ret := (some .int)) (by decide +kernel) rfl (Nat.le_of_ble_eq_true rfl) (fun p e s m below meth c C _ => ?_)
  refine q_lv (lv2 := [(0, .ref (ga 0)), (1, .int a1)]) rfl ?_
  refine q_aload_n (pc := 0) C dX9_setOf_0 rfl 0 rfl ?_
  refine q_iload_n (pc := 1) C dX9_setOf_1 rfl 1 rfl ?_
  obtain ⟨u1, e2, hf⟩ := q_bind hf
  obtain ⟨_, he⟩ := hW.obj
  refine q_callV (pc := 2) (As := [.int a1]) (rest := []) C (c_X9_isNoConcept l D cc N0 ga ad  E S a1 u1 e2 ws hW) gX9_setOf_X9_isNoConcept rfl rfl z_X9_isNoConcept ⟨Nat.le_of_ble_eq_true rfl, Nat.le_of_ble_eq_true rfl⟩ he rfl rfl rfl (Nat.le_of_ble_eq_true rfl) dX9_setOf_2 ⟨Nat.le_of_ble_eq_true rfl, Nat.le_of_ble_eq_true rfl⟩ ?_
  rintro _ ws ⟨rfl, hW⟩
  refine q_nm (wz := ws) (ka := 0) (kb := 0) (sz := [.int (q_b u1.1)]) rfl rfl rfl rfl ?_
  refine q_if_eq (pc := 5) (tgt := 12) C dX9_setOf_5 (by decide) (fun c3 => ?_) (fun c3 => ?_)
  · have hf := q_iteT hf c3
    refine q_aload_n (pc := 12) C dX9_setOf_12 rfl 0 rfl ?_
    refine m_g_1 (pc := 13) C hW n_X9_setOf_X9 (List.mem_of_getElem? (i := 1) rfl) dX9_setOf_13 ?_
    refine q_iload_n (pc := 16) C dX9_setOf_16 rfl 1 rfl ?_
    obtain ⟨g4, hf⟩ := q_gd hf
    refine m_get_0 (pc := 17) C hW g4 gX9_setOf_Jx4a65c_get_915e3_f129Jx4a65c ⟨Nat.le_of_ble_eq_true rfl, Nat.le_of_ble_eq_true rfl⟩ (Nat.le_of_ble_eq_true rfl) dX9_setOf_17 ⟨Nat.le_of_ble_eq_true rfl, Nat.le_of_ble_eq_true rfl⟩ ?_
    refine m_cast_0 (pc := 22) C hW g4.2 (List.mem_of_getElem? (i := 2) rfl) dX9_setOf_22 ?_
    refine q_iconst (pc := 25) C (0 : Int32) dX9_setOf_25 q_ci_0 ?_
    obtain ⟨g5, hf⟩ := q_gd hf
    refine m_rald_0 (pc := 26) C hW g5 ⟨by decide, by decide⟩ dX9_setOf_26 ?_
    refine q_nm (wz := ws) (ka := 0) (kb := 0) (sz := [.int (u1.2.2.2.1 0 a1.toNatClampNeg 0)]) rfl rfl rfl rfl ?_
    obtain rfl := q_some hf
    exact q_iret (pc := 27) C dX9_setOf_27 ⟨rfl, hW⟩
  · have hf := q_iteF hf c3
    refine q_iconst (pc := 8) C (0 : Int32) dX9_setOf_8 q_ci_0 ?_
    refine q_goto (pc := 9) (tgt := 27) C dX9_setOf_9 (by decide) ?_
    obtain rfl := q_some hf
    exact q_iret (pc := 27) C dX9_setOf_27 ⟨rfl, hW⟩
theorem z_X9_teach : q_dsc yX9_teach 3 := ⟨by decide +kernel, by decide +kernel, by decide +kernel⟩
theorem n_X9_teach_X9 : ∀ w ∈ wsX90, w ∈ wsX9_teach := fun _ h => (List.mem_cons_of_mem _ (List.mem_append_left _ (List.mem_append_left _ (List.mem_append_right _ h))))
def f_X9_teach_161b (k161 : Int32 → Int32 → Int32 → MS → Option (Bool × MS)) (v5 : Int32) (u6 : Int32) (x6 : Int32) (S : MS) : Option (Bool × MS) := (if (q_b (!decide (u6 = nI (S.2.1 0)))) = 0 then (if v5 = 0 then some (false, S) else if v5 = 1 then some (true, S) else none) else (if q_in u6 (S.2.1 0) ∧ x6 = S.1 20 then (if u6.toNatClampNeg < S.2.1 0 then (if u6.toNatClampNeg < (mrow S 0 u6.toNatClampNeg 1 (0 : Int32)).2.1 0 then k161 v5 (u6 + (1 : Int32)) x6 (mrow (mrow S 0 u6.toNatClampNeg 1 (0 : Int32)) 0 u6.toNatClampNeg 2 (0 : Int32)) else none) else none) else none))
def f_X9_teach_161 : Nat → Int32 → Int32 → Int32 → MS → Option (Bool × MS)
  | 0, _, _, _, _ => none
  | n + 1, v5, u6, x6, S => f_X9_teach_161b  (f_X9_teach_161  n) v5 u6 x6 S
def f_X9_teach_137 (v5 : Int32) (vt0 : Int32) (S : MS) : Option (Bool × MS) := f_X9_teach_161 1000 v5 (0 : Int32) ((mset (mset (mset S 5 vt0) 3 (0 : Int32)) 4 (0 : Int32)).1 20) (mset (mset (mset S 5 vt0) 3 (0 : Int32)) 4 (0 : Int32))
def f_X9_teach_113 (v1 : Int32) (v2 : Int32) (v3 : Int32) (vt0 : Int32) (S : MS) : Option (Bool × MS) := (if q_ch v1 then (if v1 = (108 : Int32) then f_X9_teach_137 vt0 v3 (mset (mset S 7 v1) 8 v2) else f_X9_teach_137 vt0 (0 : Int32) (mset (mset S 7 v1) 8 v2)) else none)
def f_X9_teach_91 (v1 : Int32) (v2 : Int32) (v3 : Int32) (vt0 : Int32) (S : MS) : Option (Bool × MS) := ((f_X9_isWrong vt0 S).bind fun u3 => (if (q_b u3.1) = 0 then (if (u3.2.1 7) = (45 : Int32) then f_X9_teach_113 v1 v2 v3 (0 : Int32) u3.2 else f_X9_teach_113 v1 v2 v3 (1 : Int32) u3.2) else some (false, u3.2)))
def f_X9_teach_49 (v1 : Int32) (v2 : Int32) (v3 : Int32) (S : MS) : Option (Bool × MS) := f_X9_teach_91 v1 v2 v3 (1 : Int32) S
def f_X9_teach_74 (v1 : Int32) (v2 : Int32) (v3 : Int32) (S : MS) : Option (Bool × MS) := (if (q_b (decide (S.2.1 0 = 0))) = 0 then f_X9_teach_91 v1 v2 v3 (0 : Int32) S else f_X9_teach_91 v1 v2 v3 (3 : Int32) S)
def f_X9_teach_53 (v1 : Int32) (v2 : Int32) (v3 : Int32) (S : MS) : Option (Bool × MS) := (if v1 = (97 : Int32) then f_X9_teach_74 v1 v2 v3 S else ((f_X9_isOf_0 S v2).bind fun u18 => (if (q_b u18) = 0 then f_X9_teach_91 v1 v2 v3 (2 : Int32) S else f_X9_teach_74 v1 v2 v3 S)))
def f_X9_teach_23 (v1 : Int32) (v2 : Int32) (v3 : Int32) (vt0 : Int32) (S : MS) : Option (Bool × MS) := (if vt0 = 0 then f_X9_teach_49 v1 v2 v3 S else (if v1 = (108 : Int32) then (if (q_b (f_X9_isBetween v3.toInt64 (0 : Int64) (2 : Int64))) = 0 then f_X9_teach_49 v1 v2 v3 S else f_X9_teach_53 v1 v2 v3 S) else f_X9_teach_53 v1 v2 v3 S))
def f_X9_teach_18 (v1 : Int32) (v2 : Int32) (v3 : Int32) (S : MS) : Option (Bool × MS) := f_X9_teach_23 v1 v2 v3 (1 : Int32) S
def f_X9_teach (a1 : Int32) (a2 : Int32) (a3 : Int32) (S : MS) : Option (Bool × MS) := (if a1 = (104 : Int32) then f_X9_teach_18 a1 a2 a3 S else (if a1 = (108 : Int32) then f_X9_teach_18 a1 a2 a3 S else (if a1 = (97 : Int32) then f_X9_teach_18 a1 a2 a3 S else f_X9_teach_23 a1 a2 a3 (0 : Int32) S)))
set_option maxRecDepth 100000 in
set_option maxHeartbeats 8000000 in
theorem w_X9_teach_161 {p : Program} {l : Launch} {e : Env} {s : State} {m : MethodId} {args : Array Value} {below : List Frame} {meth : Method} {c : Code} {D : va_G} {cc : Nat → ClassId} {N0 : Nat} {ga : Nat → Nat} {E : va_W} {ad : Nat → Nat → Nat} {v : (Bool × MS)} (C : q_C p s m args meth c cX9_teach 8 (some .boolean) wsX9_teach RX9 D cc N0)  : ∀ (n : Nat) (kc : Nat) (ks : Nat) (v5 : Int32) (u6 : Int32) (x6 : Int32) (S : MS) (q6 : Nat) (z6 : Int32)  (ws : va_W), f_X9_teach_161  n v5 u6 x6 S = some v → mW cc ga ad S ((q6, q_it u6 z6 x6 (ga 1)) :: E) ws → kc + 0 + n * 0 ≤ 1 → ks + 0 + n * 0 ≤ 4 → q_WA p l e (q_rm (3) (90) 1 4) s m args below meth c D N0 8 (MQ below (q_Q D N0 (fun rv w1 => rv = some (.int (q_b v.1)) ∧ mW cc ga ad v.2 E w1)) args s 1 4 (q_A N0)) kc ks ws 161 [(5, .int v5), (6, .ref q6)] [] := by
  intro n
  induction n with
  | zero => intro kc ks v5 u6 x6 S q6 z6 ws hf; cases hf
  | succ n ih =>
    intro kc ks v5 u6 x6 S q6 z6 ws hf hW b1 b2
    have hk161 : ∀ (kc : Nat) (ks : Nat) (v5 : Int32) (u6 : Int32) (x6 : Int32) (S : MS) (q6 : Nat) (z6 : Int32)  (ws : va_W), f_X9_teach_161  n v5 u6 x6 S = some v → mW cc ga ad S ((q6, q_it u6 z6 x6 (ga 1)) :: E) ws → kc + 0 + n * 0 ≤ 1 → ks + 0 + n * 0 ≤ 4 → q_WA p l e (q_rm (3) (90) 1 4) s m args below meth c D N0 8 (MQ below (q_Q D N0 (fun rv w1 => rv = some (.int (q_b v.1)) ∧ mW cc ga ad v.2 E w1)) args s 1 4 (q_A N0)) kc ks ws 161 [(5, .int v5), (6, .ref q6)] [] := ih
    have hf : f_X9_teach_161b  (f_X9_teach_161  n) v5 u6 x6 S = some v := hf
    simp only [Nat.succ_mul, Nat.add_mul] at b1 b2
    refine q_aload (pc := 161) C dX9_teach_161 1 rfl ?_
    refine m_has_0 (pc := 163) C hW gX9_teach_Jx35411_hasNext_aae02_f76Jx35411 ⟨Nat.le_of_ble_eq_true rfl, Nat.le_of_ble_eq_true rfl⟩ (Nat.le_of_ble_eq_true rfl) dX9_teach_163 ⟨(show (kc) ≤ 1 by omega), (show (ks) ≤ 4 by omega)⟩ ?_
    refine q_if_eq (pc := 168) (tgt := 196) C dX9_teach_168 (by decide) (fun c10 => ?_) (fun c10 => ?_)
    · have hf := q_iteT hf c10
      refine q_iload (pc := 196) C dX9_teach_196 0 rfl ?_
      refine q_wid (show kc ≤ 1 by omega) (show ks ≤ 4 by omega) ?_
      refine t_drop hW (fun ws hW => ?_)
      have hz := q_z01 hf
      rcases hz with ⟨c11, hf⟩ | ⟨c11, hf⟩
      · obtain rfl := q_some hf
        rw [c11]
        exact q_zret (pc := 198) C (by decide +kernel) dX9_teach_198 ⟨rfl, hW⟩
      · obtain rfl := q_some hf
        rw [c11]
        exact q_zret (pc := 198) C (by decide +kernel) dX9_teach_198 ⟨rfl, hW⟩
    · have hf := q_iteF hf c10
      refine q_aload (pc := 171) C dX9_teach_171 1 rfl ?_
      obtain ⟨g12, hf⟩ := q_gd hf
      refine m_next_0 (pc := 173) C hW g12 gX9_teach_Jx35411_next_0502b_f82Jx35411 ⟨Nat.le_of_ble_eq_true rfl, Nat.le_of_ble_eq_true rfl⟩ (Nat.le_of_ble_eq_true rfl) dX9_teach_173 ⟨(show (kc) ≤ 1 by omega), (show (ks) ≤ 4 by omega)⟩ (fun ws hW => ?_)
      refine m_cast_0 (pc := 178) C hW g12.1.2 (List.mem_of_getElem? (i := 8) rfl) dX9_teach_178 ?_
      refine q_astore (pc := 181) (lvq := [(7, .ref (ad 0 u6.toNatClampNeg)), (5, .int v5), (6, .ref q6)]) C dX9_teach_181 (by decide) rfl ?_
      refine q_aload (pc := 183) C dX9_teach_183 0 rfl ?_
      refine q_iconst (pc := 185) C (1 : Int32) dX9_teach_185 q_ci_1 ?_
      refine q_iconst (pc := 186) C (0 : Int32) dX9_teach_186 q_ci_0 ?_
      obtain ⟨g13, hf⟩ := q_gd hf
      refine m_rast_0 (pc := 187) C hW g13 ⟨by decide, by decide⟩ dX9_teach_187 (fun ws hW => ?_)
      have hW : mW cc ga ad (mrow S 0 u6.toNatClampNeg 1 (0 : Int32)) ((q6, q_it (u6 + (1 : Int32)) u6 x6 (ga 1)) :: E) ws := hW
      refine q_aload (pc := 188) C dX9_teach_188 0 rfl ?_
      refine q_iconst (pc := 190) C (2 : Int32) dX9_teach_190 q_ci_2 ?_
      refine q_iconst (pc := 191) C (0 : Int32) dX9_teach_191 q_ci_0 ?_
      obtain ⟨g14, hf⟩ := q_gd hf
      refine m_rast_0 (pc := 192) C hW g14 ⟨by decide, by decide⟩ dX9_teach_192 (fun ws hW => ?_)
      have hW : mW cc ga ad (mrow (mrow S 0 u6.toNatClampNeg 1 (0 : Int32)) 0 u6.toNatClampNeg 2 (0 : Int32)) ((q6, q_it (u6 + (1 : Int32)) u6 x6 (ga 1)) :: E) ws := hW
      refine q_goto (pc := 193) (tgt := 161) C dX9_teach_193 (by decide) ?_
      refine q_sub (lvq := [(5, .int v5), (6, .ref q6)]) [1, 2] rfl ?_
      exact hk161 (kc) (ks) v5 (u6 + (1 : Int32)) x6 (mrow (mrow S 0 u6.toNatClampNeg 1 (0 : Int32)) 0 u6.toNatClampNeg 2 (0 : Int32)) q6 u6 ws hf hW (by omega) (by omega)
set_option maxRecDepth 100000 in
set_option maxHeartbeats 8000000 in
theorem w_X9_teach_137 {p : Program} {l : Launch} {e : Env} {s : State} {m : MethodId} {args : Array Value} {below : List Frame} {meth : Method} {c : Code} {D : va_G} {cc : Nat → ClassId} {N0 : Nat} {ga : Nat → Nat} {E : va_W} {ad : Nat → Nat → Nat} {v : (Bool × MS)} (C : q_C p s m args meth c cX9_teach 8 (some .boolean) wsX9_teach RX9 D cc N0)  (kc : Nat) (ks : Nat) (v5 : Int32) (vt0 : Int32) (S : MS)  (ws : va_W) : f_X9_teach_137  v5 vt0 S = some v → mW cc ga ad S E ws → kc + 1 ≤ 1 → ks + 4 ≤ 4 → q_WA p l e (q_rm (3) (90) 1 4) s m args below meth c D N0 8 (MQ below (q_Q D N0 (fun rv w1 => rv = some (.int (q_b v.1)) ∧ mW cc ga ad v.2 E w1)) args s 1 4 (q_A N0)) kc ks ws 137 [(0, .ref (ga 0)), (5, .int v5)] [.int vt0, .ref (ga 0)] := by
  intro hf hW b1 b2
  refine m_p_5 (pc := 137) C hW n_X9_teach_X9 (List.mem_of_getElem? (i := 5) rfl) dX9_teach_137 (fun ws hW => ?_)
  refine q_aload_n (pc := 140) C dX9_teach_140 rfl 0 rfl ?_
  refine q_iconst (pc := 141) C (0 : Int32) dX9_teach_141 q_ci_0 ?_
  refine m_p_3 (pc := 142) C hW n_X9_teach_X9 (List.mem_of_getElem? (i := 6) rfl) dX9_teach_142 (fun ws hW => ?_)
  refine q_aload_n (pc := 145) C dX9_teach_145 rfl 0 rfl ?_
  refine q_iconst (pc := 146) C (0 : Int32) dX9_teach_146 q_ci_0 ?_
  refine m_p_4 (pc := 147) C hW n_X9_teach_X9 (List.mem_of_getElem? (i := 7) rfl) dX9_teach_147 (fun ws hW => ?_)
  refine q_aload_n (pc := 150) C dX9_teach_150 rfl 0 rfl ?_
  refine m_g_1 (pc := 151) C hW n_X9_teach_X9 (List.mem_of_getElem? (i := 2) rfl) dX9_teach_151 ?_
  refine m_iter_0 (pc := 154) C hW gX9_teach_Jx4a65c_iterator_32c93_f72Jx4a65c ⟨Nat.le_of_ble_eq_true rfl, Nat.le_of_ble_eq_true rfl⟩ (Nat.le_of_ble_eq_true rfl) dX9_teach_154 ⟨(show (kc) + 1 ≤ 1 by omega), (show (ks) + 4 ≤ 4 by omega)⟩ (fun it9 ws hW => ?_)
  refine q_nm (wz := ws) (ka := kc + 1) (kb := ks + 4) (sz := [.ref it9]) rfl rfl rfl rfl ?_
  refine q_astore (pc := 159) (lvq := [(6, .ref it9), (0, .ref (ga 0)), (5, .int v5)]) C dX9_teach_159 (by decide) rfl ?_
  refine q_sub (lvq := [(5, .int v5), (6, .ref it9)]) [2, 0] rfl ?_
  exact w_X9_teach_161 C 1000 (kc + 1) (ks + 4) v5 (0 : Int32) ((mset (mset (mset S 5 vt0) 3 (0 : Int32)) 4 (0 : Int32)).1 20) (mset (mset (mset S 5 vt0) 3 (0 : Int32)) 4 (0 : Int32)) it9 (-1 : Int32) ws hf hW (by omega) (by omega)
set_option maxRecDepth 100000 in
set_option maxHeartbeats 8000000 in
theorem w_X9_teach_113 {p : Program} {l : Launch} {e : Env} {s : State} {m : MethodId} {args : Array Value} {below : List Frame} {meth : Method} {c : Code} {D : va_G} {cc : Nat → ClassId} {N0 : Nat} {ga : Nat → Nat} {E : va_W} {ad : Nat → Nat → Nat} {v : (Bool × MS)} (C : q_C p s m args meth c cX9_teach 8 (some .boolean) wsX9_teach RX9 D cc N0)  (kc : Nat) (ks : Nat) (v1 : Int32) (v2 : Int32) (v3 : Int32) (vt0 : Int32) (S : MS)  (ws : va_W) : f_X9_teach_113  v1 v2 v3 vt0 S = some v → mW cc ga ad S E ws → kc + 1 ≤ 1 → ks + 4 ≤ 4 → q_WA p l e (q_rm (3) (90) 1 4) s m args below meth c D N0 8 (MQ below (q_Q D N0 (fun rv w1 => rv = some (.int (q_b v.1)) ∧ mW cc ga ad v.2 E w1)) args s 1 4 (q_A N0)) kc ks ws 113 [(0, .ref (ga 0)), (1, .int v1), (2, .int v2), (3, .int v3)] [.int vt0] := by
  intro hf hW b1 b2
  refine q_istore (pc := 113) (lvq := [(5, .int vt0), (0, .ref (ga 0)), (1, .int v1), (2, .int v2), (3, .int v3)]) C dX9_teach_113 (by decide) rfl ?_
  refine q_aload_n (pc := 115) C dX9_teach_115 rfl 1 rfl ?_
  refine q_iload_n (pc := 116) C dX9_teach_116 rfl 2 rfl ?_
  obtain ⟨g7, hf⟩ := q_gd hf
  refine m_p_7 (pc := 117) C hW n_X9_teach_X9 (List.mem_of_getElem? (i := 3) rfl) g7.1 g7.2 dX9_teach_117 (fun ws hW => ?_)
  refine q_aload_n (pc := 120) C dX9_teach_120 rfl 1 rfl ?_
  refine q_iload_n (pc := 121) C dX9_teach_121 rfl 3 rfl ?_
  refine m_p_8 (pc := 122) C hW n_X9_teach_X9 (List.mem_of_getElem? (i := 4) rfl) dX9_teach_122 (fun ws hW => ?_)
  refine q_aload_n (pc := 125) C dX9_teach_125 rfl 1 rfl ?_
  refine q_iload_n (pc := 126) C dX9_teach_126 rfl 2 rfl ?_
  refine q_bipush (pc := 127) C (108 : Int32) dX9_teach_127 q_cb_108 ?_
  refine q_icmp_ne (pc := 129) (tgt := 136) C dX9_teach_129 (by decide) (fun c8 => ?_) (fun c8 => ?_)
  · have hf := q_iteF hf c8
    refine q_iconst (pc := 136) C (0 : Int32) dX9_teach_136 q_ci_0 ?_
    refine q_sub (lvq := [(0, .ref (ga 0)), (5, .int vt0)]) [1, 0] rfl ?_
    exact w_X9_teach_137 C (kc) (ks) vt0 (0 : Int32) (mset (mset S 7 v1) 8 v2) ws hf hW (by omega) (by omega)
  · have hf := q_iteT hf c8
    refine q_iload_n (pc := 132) C dX9_teach_132 rfl 4 rfl ?_
    refine q_goto (pc := 133) (tgt := 137) C dX9_teach_133 (by decide) ?_
    refine q_sub (lvq := [(0, .ref (ga 0)), (5, .int vt0)]) [1, 0] rfl ?_
    exact w_X9_teach_137 C (kc) (ks) vt0 v3 (mset (mset S 7 v1) 8 v2) ws hf hW (by omega) (by omega)
set_option maxRecDepth 100000 in
set_option maxHeartbeats 8000000 in
theorem w_X9_teach_91 {p : Program} {l : Launch} {e : Env} {s : State} {m : MethodId} {args : Array Value} {below : List Frame} {meth : Method} {c : Code} {D : va_G} {cc : Nat → ClassId} {N0 : Nat} {ga : Nat → Nat} {E : va_W} {ad : Nat → Nat → Nat} {v : (Bool × MS)} (C : q_C p s m args meth c cX9_teach 8 (some .boolean) wsX9_teach RX9 D cc N0)  (kc : Nat) (ks : Nat) (v1 : Int32) (v2 : Int32) (v3 : Int32) (vt0 : Int32) (S : MS)  (ws : va_W) : f_X9_teach_91  v1 v2 v3 vt0 S = some v → mW cc ga ad S E ws → kc + 1 ≤ 1 → ks + 4 ≤ 4 → q_WA p l e (q_rm (3) (90) 1 4) s m args below meth c D N0 8 (MQ below (q_Q D N0 (fun rv w1 => rv = some (.int (q_b v.1)) ∧ mW cc ga ad v.2 E w1)) args s 1 4 (q_A N0)) kc ks ws 91 [(0, .ref (ga 0)), (1, .int v1), (2, .int v2), (3, .int v3)] [.int vt0, .ref (ga 0)] := by
  intro hf hW b1 b2
  obtain ⟨u3, e4, hf⟩ := q_bind hf
  obtain ⟨_, he⟩ := hW.obj
  refine q_callV (pc := 91) (As := [.int vt0]) (rest := []) C (c_X9_isWrong l D cc N0 ga ad  E S vt0 u3 e4 ws hW) gX9_teach_X9_isWrong rfl rfl z_X9_isWrong ⟨Nat.le_of_ble_eq_true rfl, Nat.le_of_ble_eq_true rfl⟩ he rfl rfl rfl (Nat.le_of_ble_eq_true rfl) dX9_teach_91 ⟨(show (kc) + 0 ≤ 1 by omega), (show (ks) + 0 ≤ 4 by omega)⟩ ?_
  rintro _ ws ⟨rfl, hW⟩
  refine q_nm (wz := ws) (ka := kc) (kb := ks) (sz := [.int (q_b u3.1)]) rfl rfl rfl rfl ?_
  refine q_if_eq (pc := 94) (tgt := 99) C dX9_teach_94 (by decide) (fun c5 => ?_) (fun c5 => ?_)
  · have hf := q_iteT hf c5
    refine q_aload_n (pc := 99) C dX9_teach_99 rfl 0 rfl ?_
    refine m_g_7 (pc := 100) C hW n_X9_teach_X9 (List.mem_of_getElem? (i := 3) rfl) dX9_teach_100 ?_
    refine q_bipush (pc := 103) C (45 : Int32) dX9_teach_103 q_cb_45 ?_
    refine q_icmp_eq (pc := 105) (tgt := 112) C dX9_teach_105 (by decide) (fun c6 => ?_) (fun c6 => ?_)
    · have hf := q_iteT hf c6
      refine q_iconst (pc := 112) C (0 : Int32) dX9_teach_112 q_ci_0 ?_
      refine q_sub (lvq := [(0, .ref (ga 0)), (1, .int v1), (2, .int v2), (3, .int v3)]) [0, 1, 2, 3] rfl ?_
      exact w_X9_teach_113 C (kc) (ks) v1 v2 v3 (0 : Int32) u3.2 ws hf hW (by omega) (by omega)
    · have hf := q_iteF hf c6
      refine q_iconst (pc := 108) C (1 : Int32) dX9_teach_108 q_ci_1 ?_
      refine q_goto (pc := 109) (tgt := 113) C dX9_teach_109 (by decide) ?_
      refine q_sub (lvq := [(0, .ref (ga 0)), (1, .int v1), (2, .int v2), (3, .int v3)]) [0, 1, 2, 3] rfl ?_
      exact w_X9_teach_113 C (kc) (ks) v1 v2 v3 (1 : Int32) u3.2 ws hf hW (by omega) (by omega)
  · have hf := q_iteF hf c5
    refine q_iconst (pc := 97) C (0 : Int32) dX9_teach_97 q_ci_0 ?_
    refine q_wid (show kc ≤ 1 by omega) (show ks ≤ 4 by omega) ?_
    obtain rfl := q_some hf
    exact q_zret (pc := 98) C (by decide +kernel) dX9_teach_98 ⟨rfl, hW⟩
set_option maxRecDepth 100000 in
set_option maxHeartbeats 8000000 in
theorem w_X9_teach_49 {p : Program} {l : Launch} {e : Env} {s : State} {m : MethodId} {args : Array Value} {below : List Frame} {meth : Method} {c : Code} {D : va_G} {cc : Nat → ClassId} {N0 : Nat} {ga : Nat → Nat} {E : va_W} {ad : Nat → Nat → Nat} {v : (Bool × MS)} (C : q_C p s m args meth c cX9_teach 8 (some .boolean) wsX9_teach RX9 D cc N0)  (kc : Nat) (ks : Nat) (v1 : Int32) (v2 : Int32) (v3 : Int32) (S : MS)  (ws : va_W) : f_X9_teach_49  v1 v2 v3 S = some v → mW cc ga ad S E ws → kc + 1 ≤ 1 → ks + 4 ≤ 4 → q_WA p l e (q_rm (3) (90) 1 4) s m args below meth c D N0 8 (MQ below (q_Q D N0 (fun rv w1 => rv = some (.int (q_b v.1)) ∧ mW cc ga ad v.2 E w1)) args s 1 4 (q_A N0)) kc ks ws 49 [(0, .ref (ga 0)), (1, .int v1), (2, .int v2), (3, .int v3)] [.ref (ga 0)] := by
  intro hf hW b1 b2
  refine q_iconst (pc := 49) C (1 : Int32) dX9_teach_49 q_ci_1 ?_
  refine q_goto (pc := 50) (tgt := 91) C dX9_teach_50 (by decide) ?_
  refine q_sub (lvq := [(0, .ref (ga 0)), (1, .int v1), (2, .int v2), (3, .int v3)]) [0, 1, 2, 3] rfl ?_
  exact w_X9_teach_91 C (kc) (ks) v1 v2 v3 (1 : Int32) S ws hf hW (by omega) (by omega)
set_option maxRecDepth 100000 in
set_option maxHeartbeats 8000000 in
theorem w_X9_teach_74 {p : Program} {l : Launch} {e : Env} {s : State} {m : MethodId} {args : Array Value} {below : List Frame} {meth : Method} {c : Code} {D : va_G} {cc : Nat → ClassId} {N0 : Nat} {ga : Nat → Nat} {E : va_W} {ad : Nat → Nat → Nat} {v : (Bool × MS)} (C : q_C p s m args meth c cX9_teach 8 (some .boolean) wsX9_teach RX9 D cc N0)  (kc : Nat) (ks : Nat) (v1 : Int32) (v2 : Int32) (v3 : Int32) (S : MS)  (ws : va_W) : f_X9_teach_74  v1 v2 v3 S = some v → mW cc ga ad S E ws → kc + 1 ≤ 1 → ks + 4 ≤ 4 → q_WA p l e (q_rm (3) (90) 1 4) s m args below meth c D N0 8 (MQ below (q_Q D N0 (fun rv w1 => rv = some (.int (q_b v.1)) ∧ mW cc ga ad v.2 E w1)) args s 1 4 (q_A N0)) kc ks ws 74 [(0, .ref (ga 0)), (1, .int v1), (2, .int v2), (3, .int v3)] [.ref (ga 0)] := by
  intro hf hW b1 b2
  refine q_aload_n (pc := 74) C dX9_teach_74 rfl 0 rfl ?_
  refine m_g_1 (pc := 75) C hW n_X9_teach_X9 (List.mem_of_getElem? (i := 2) rfl) dX9_teach_75 ?_
  refine m_isEmpty_0 (pc := 78) C hW gX9_teach_Jx4a65c_isEmpty_aae02_f135Jx4a65c ⟨Nat.le_of_ble_eq_true rfl, Nat.le_of_ble_eq_true rfl⟩ (Nat.le_of_ble_eq_true rfl) dX9_teach_78 ⟨(show (kc) ≤ 1 by omega), (show (ks) ≤ 4 by omega)⟩ ?_
  refine q_if_eq (pc := 83) (tgt := 90) C dX9_teach_83 (by decide) (fun c17 => ?_) (fun c17 => ?_)
  · have hf := q_iteT hf c17
    refine q_iconst (pc := 90) C (0 : Int32) dX9_teach_90 q_ci_0 ?_
    refine q_sub (lvq := [(0, .ref (ga 0)), (1, .int v1), (2, .int v2), (3, .int v3)]) [0, 1, 2, 3] rfl ?_
    exact w_X9_teach_91 C (kc) (ks) v1 v2 v3 (0 : Int32) S ws hf hW (by omega) (by omega)
  · have hf := q_iteF hf c17
    refine q_iconst (pc := 86) C (3 : Int32) dX9_teach_86 q_ci_3 ?_
    refine q_goto (pc := 87) (tgt := 91) C dX9_teach_87 (by decide) ?_
    refine q_sub (lvq := [(0, .ref (ga 0)), (1, .int v1), (2, .int v2), (3, .int v3)]) [0, 1, 2, 3] rfl ?_
    exact w_X9_teach_91 C (kc) (ks) v1 v2 v3 (3 : Int32) S ws hf hW (by omega) (by omega)
set_option maxRecDepth 100000 in
set_option maxHeartbeats 8000000 in
theorem w_X9_teach_53 {p : Program} {l : Launch} {e : Env} {s : State} {m : MethodId} {args : Array Value} {below : List Frame} {meth : Method} {c : Code} {D : va_G} {cc : Nat → ClassId} {N0 : Nat} {ga : Nat → Nat} {E : va_W} {ad : Nat → Nat → Nat} {v : (Bool × MS)} (C : q_C p s m args meth c cX9_teach 8 (some .boolean) wsX9_teach RX9 D cc N0)  (kc : Nat) (ks : Nat) (v1 : Int32) (v2 : Int32) (v3 : Int32) (S : MS)  (ws : va_W) : f_X9_teach_53  v1 v2 v3 S = some v → mW cc ga ad S E ws → kc + 1 ≤ 1 → ks + 4 ≤ 4 → q_WA p l e (q_rm (3) (90) 1 4) s m args below meth c D N0 8 (MQ below (q_Q D N0 (fun rv w1 => rv = some (.int (q_b v.1)) ∧ mW cc ga ad v.2 E w1)) args s 1 4 (q_A N0)) kc ks ws 53 [(0, .ref (ga 0)), (1, .int v1), (2, .int v2), (3, .int v3)] [.ref (ga 0)] := by
  intro hf hW b1 b2
  refine q_iload_n (pc := 53) C dX9_teach_53 rfl 1 rfl ?_
  refine q_bipush (pc := 54) C (97 : Int32) dX9_teach_54 q_cb_97 ?_
  refine q_icmp_eq (pc := 56) (tgt := 74) C dX9_teach_56 (by decide) (fun c16 => ?_) (fun c16 => ?_)
  · have hf := q_iteT hf c16
    refine q_sub (lvq := [(0, .ref (ga 0)), (1, .int v1), (2, .int v2), (3, .int v3)]) [0, 1, 2, 3] rfl ?_
    exact w_X9_teach_74 C (kc) (ks) v1 v2 v3 S ws hf hW (by omega) (by omega)
  · have hf := q_iteF hf c16
    refine q_aload_n (pc := 59) C dX9_teach_59 rfl 0 rfl ?_
    refine m_g_1 (pc := 60) C hW n_X9_teach_X9 (List.mem_of_getElem? (i := 2) rfl) dX9_teach_60 ?_
    refine q_iload_n (pc := 63) C dX9_teach_63 rfl 2 rfl ?_
    obtain ⟨u18, e19, hf⟩ := q_bind hf
    refine q_callS (pc := 64) (As := [.ref (ga 1), .int v2]) (rest := [.ref (ga 0)]) C (c_X9_isOf_0 l D cc N0 ga ad  E S v2 u18 e19 ws hW) gX9_teach_X9_isOf rfl z_X9_isOf_0 ⟨Nat.le_of_ble_eq_true rfl, Nat.le_of_ble_eq_true rfl⟩ rfl rfl (Nat.le_of_ble_eq_true rfl) dX9_teach_64 ⟨(show (kc) + 0 ≤ 1 by omega), (show (ks) + 0 ≤ 4 by omega)⟩ ?_
    rintro _ ws ⟨rfl, hW⟩
    refine q_nm (wz := ws) (ka := kc) (kb := ks) (sz := [.int (q_b u18), .ref (ga 0)]) rfl rfl rfl rfl ?_
    refine q_if_ne (pc := 67) (tgt := 74) C dX9_teach_67 (by decide) (fun c20 => ?_) (fun c20 => ?_)
    · have hf := q_iteF hf c20
      refine q_sub (lvq := [(0, .ref (ga 0)), (1, .int v1), (2, .int v2), (3, .int v3)]) [0, 1, 2, 3] rfl ?_
      exact w_X9_teach_74 C (kc) (ks) v1 v2 v3 S ws hf hW (by omega) (by omega)
    · have hf := q_iteT hf c20
      refine q_iconst (pc := 70) C (2 : Int32) dX9_teach_70 q_ci_2 ?_
      refine q_goto (pc := 71) (tgt := 91) C dX9_teach_71 (by decide) ?_
      refine q_sub (lvq := [(0, .ref (ga 0)), (1, .int v1), (2, .int v2), (3, .int v3)]) [0, 1, 2, 3] rfl ?_
      exact w_X9_teach_91 C (kc) (ks) v1 v2 v3 (2 : Int32) S ws hf hW (by omega) (by omega)
set_option maxRecDepth 100000 in
set_option maxHeartbeats 8000000 in
theorem w_X9_teach_23 {p : Program} {l : Launch} {e : Env} {s : State} {m : MethodId} {args : Array Value} {below : List Frame} {meth : Method} {c : Code} {D : va_G} {cc : Nat → ClassId} {N0 : Nat} {ga : Nat → Nat} {E : va_W} {ad : Nat → Nat → Nat} {v : (Bool × MS)} (C : q_C p s m args meth c cX9_teach 8 (some .boolean) wsX9_teach RX9 D cc N0)  (kc : Nat) (ks : Nat) (v1 : Int32) (v2 : Int32) (v3 : Int32) (vt0 : Int32) (S : MS)  (ws : va_W) : f_X9_teach_23  v1 v2 v3 vt0 S = some v → mW cc ga ad S E ws → kc + 1 ≤ 1 → ks + 4 ≤ 4 → q_WA p l e (q_rm (3) (90) 1 4) s m args below meth c D N0 8 (MQ below (q_Q D N0 (fun rv w1 => rv = some (.int (q_b v.1)) ∧ mW cc ga ad v.2 E w1)) args s 1 4 (q_A N0)) kc ks ws 23 [(0, .ref (ga 0)), (1, .int v1), (2, .int v2), (3, .int v3)] [.int vt0] := by
  intro hf hW b1 b2
  refine q_istore (pc := 23) (lvq := [(4, .int vt0), (0, .ref (ga 0)), (1, .int v1), (2, .int v2), (3, .int v3)]) C dX9_teach_23 (by decide) rfl ?_
  refine q_aload_n (pc := 25) C dX9_teach_25 rfl 1 rfl ?_
  refine q_iload (pc := 26) C dX9_teach_26 0 rfl ?_
  refine q_if_eq (pc := 28) (tgt := 49) C dX9_teach_28 (by decide) (fun c2 => ?_) (fun c2 => ?_)
  · have hf := q_iteT hf c2
    refine q_sub (lvq := [(0, .ref (ga 0)), (1, .int v1), (2, .int v2), (3, .int v3)]) [1, 2, 3, 4] rfl ?_
    exact w_X9_teach_49 C (kc) (ks) v1 v2 v3 S ws hf hW (by omega) (by omega)
  · have hf := q_iteF hf c2
    refine q_iload_n (pc := 31) C dX9_teach_31 rfl 2 rfl ?_
    refine q_bipush (pc := 32) C (108 : Int32) dX9_teach_32 q_cb_108 ?_
    refine q_icmp_ne (pc := 34) (tgt := 53) C dX9_teach_34 (by decide) (fun c15 => ?_) (fun c15 => ?_)
    · have hf := q_iteF hf c15
      refine q_sub (lvq := [(0, .ref (ga 0)), (1, .int v1), (2, .int v2), (3, .int v3)]) [1, 2, 3, 4] rfl ?_
      exact w_X9_teach_53 C (kc) (ks) v1 v2 v3 S ws hf hW (by omega) (by omega)
    · have hf := q_iteT hf c15
      refine q_iload_n (pc := 37) C dX9_teach_37 rfl 4 rfl ?_
      refine q_i2l (pc := 38) C dX9_teach_38 rfl ?_
      refine q_lconst (pc := 39) C (0 : Int64) dX9_teach_39 q_cl_0 ?_
      refine q_ldc2 (pc := 40) (v := (2 : Int64)) C (List.mem_of_getElem? (i := 1) rfl) dX9_teach_40 ?_
      refine q_callS (pc := 43) (As := [.long v3.toInt64, .long (0 : Int64), .long (2 : Int64)]) (rest := [.ref (ga 0)]) C (c_X9_isBetween l D cc N0 ws v3.toInt64 (0 : Int64) (2 : Int64) _ rfl) gX9_teach_X9_isBetween rfl z_X9_isBetween ⟨Nat.le_of_ble_eq_true rfl, Nat.le_of_ble_eq_true rfl⟩ rfl rfl (Nat.le_of_ble_eq_true rfl) dX9_teach_43 ⟨(show (kc) ≤ 1 by omega), (show (ks) ≤ 4 by omega)⟩ ?_
      refine q_after (rv := (some (.int (q_b (f_X9_isBetween v3.toInt64 (0 : Int64) (2 : Int64)))))) (w0 := ws) (st2 := [.int (q_b (f_X9_isBetween v3.toInt64 (0 : Int64) (2 : Int64))), .ref (ga 0)]) rfl rfl rfl ?_
      refine q_if_ne (pc := 46) (tgt := 53) C dX9_teach_46 (by decide) (fun c21 => ?_) (fun c21 => ?_)
      · have hf := q_iteF hf c21
        refine q_sub (lvq := [(0, .ref (ga 0)), (1, .int v1), (2, .int v2), (3, .int v3)]) [1, 2, 3, 4] rfl ?_
        exact w_X9_teach_53 C (kc) (ks) v1 v2 v3 S ws hf hW (by omega) (by omega)
      · have hf := q_iteT hf c21
        refine q_sub (lvq := [(0, .ref (ga 0)), (1, .int v1), (2, .int v2), (3, .int v3)]) [1, 2, 3, 4] rfl ?_
        exact w_X9_teach_49 C (kc) (ks) v1 v2 v3 S ws hf hW (by omega) (by omega)
set_option maxRecDepth 100000 in
set_option maxHeartbeats 8000000 in
theorem w_X9_teach_18 {p : Program} {l : Launch} {e : Env} {s : State} {m : MethodId} {args : Array Value} {below : List Frame} {meth : Method} {c : Code} {D : va_G} {cc : Nat → ClassId} {N0 : Nat} {ga : Nat → Nat} {E : va_W} {ad : Nat → Nat → Nat} {v : (Bool × MS)} (C : q_C p s m args meth c cX9_teach 8 (some .boolean) wsX9_teach RX9 D cc N0)  (kc : Nat) (ks : Nat) (v1 : Int32) (v2 : Int32) (v3 : Int32) (S : MS)  (ws : va_W) : f_X9_teach_18  v1 v2 v3 S = some v → mW cc ga ad S E ws → kc + 1 ≤ 1 → ks + 4 ≤ 4 → q_WA p l e (q_rm (3) (90) 1 4) s m args below meth c D N0 8 (MQ below (q_Q D N0 (fun rv w1 => rv = some (.int (q_b v.1)) ∧ mW cc ga ad v.2 E w1)) args s 1 4 (q_A N0)) kc ks ws 18 [(0, .ref (ga 0)), (1, .int v1), (2, .int v2), (3, .int v3)] [] := by
  intro hf hW b1 b2
  refine q_iconst (pc := 18) C (1 : Int32) dX9_teach_18 q_ci_1 ?_
  refine q_goto (pc := 19) (tgt := 23) C dX9_teach_19 (by decide) ?_
  refine q_sub (lvq := [(0, .ref (ga 0)), (1, .int v1), (2, .int v2), (3, .int v3)]) [0, 1, 2, 3] rfl ?_
  exact w_X9_teach_23 C (kc) (ks) v1 v2 v3 (1 : Int32) S ws hf hW (by omega) (by omega)
set_option maxRecDepth 100000 in
set_option maxHeartbeats 8000000 in
theorem c_X9_teach (l : Launch) (D : va_G) (cc : Nat → ClassId) (N0 : Nat) (ga : Nat → Nat) (ad : Nat → Nat → Nat) (E : va_W) (S : MS) (a1 : Int32) (a2 : Int32) (a3 : Int32) (v : (Bool × MS)) (hf : f_X9_teach a1 a2 a3 S = some v) (ws : va_W) (hW : mW cc ga ad S E ws) : q_Met l yX9_teach wsX9_teach 3 90 D cc N0 ws [.ref (ga 0), .int a1, .int a2, .int a3] (fun rv w1 => rv = some (.int (q_b v.1)) ∧ mW cc ga ad v.2 E w1) 1 4 := by
  refine q_ofW (code := cX9_teach) (nL := 8) (ret := (some .boolean)) (by decide +kernel) rfl (Nat.le_of_ble_eq_true rfl) (fun p e s m below meth c C _ => ?_)
  refine q_lv (lv2 := [(0, .ref (ga 0)), (1, .int a1), (2, .int a2), (3, .int a3)]) rfl ?_
  obtain ⟨kc, hkc⟩ : ∃ z, z = 0 := ⟨_, rfl⟩
  obtain ⟨ks, hks⟩ : ∃ z, z = 0 := ⟨_, rfl⟩
  refine q_nm (wz := ws) (ka := kc) (kb := ks) (sz := []) rfl hkc.symm hks.symm rfl ?_
  refine q_iload_n (pc := 0) C dX9_teach_0 rfl 1 rfl ?_
  refine q_bipush (pc := 1) C (104 : Int32) dX9_teach_1 q_cb_104 ?_
  refine q_icmp_eq (pc := 3) (tgt := 18) C dX9_teach_3 (by decide) (fun c1 => ?_) (fun c1 => ?_)
  · have hf := q_iteT hf c1
    refine q_sub (lvq := [(0, .ref (ga 0)), (1, .int a1), (2, .int a2), (3, .int a3)]) [0, 1, 2, 3] rfl ?_
    exact w_X9_teach_18 C (kc) (ks) a1 a2 a3 S ws hf hW (by omega) (by omega)
  · have hf := q_iteF hf c1
    refine q_iload_n (pc := 6) C dX9_teach_6 rfl 1 rfl ?_
    refine q_bipush (pc := 7) C (108 : Int32) dX9_teach_7 q_cb_108 ?_
    refine q_icmp_eq (pc := 9) (tgt := 18) C dX9_teach_9 (by decide) (fun c22 => ?_) (fun c22 => ?_)
    · have hf := q_iteT hf c22
      refine q_sub (lvq := [(0, .ref (ga 0)), (1, .int a1), (2, .int a2), (3, .int a3)]) [0, 1, 2, 3] rfl ?_
      exact w_X9_teach_18 C (kc) (ks) a1 a2 a3 S ws hf hW (by omega) (by omega)
    · have hf := q_iteF hf c22
      refine q_iload_n (pc := 12) C dX9_teach_12 rfl 1 rfl ?_
      refine q_bipush (pc := 13) C (97 : Int32) dX9_teach_13 q_cb_97 ?_
      refine q_icmp_ne (pc := 15) (tgt := 22) C dX9_teach_15 (by decide) (fun c23 => ?_) (fun c23 => ?_)
      · have hf := q_iteF hf c23
        refine q_iconst (pc := 22) C (0 : Int32) dX9_teach_22 q_ci_0 ?_
        refine q_sub (lvq := [(0, .ref (ga 0)), (1, .int a1), (2, .int a2), (3, .int a3)]) [0, 1, 2, 3] rfl ?_
        exact w_X9_teach_23 C (kc) (ks) a1 a2 a3 (0 : Int32) S ws hf hW (by omega) (by omega)
      · have hf := q_iteT hf c23
        refine q_sub (lvq := [(0, .ref (ga 0)), (1, .int a1), (2, .int a2), (3, .int a3)]) [0, 1, 2, 3] rfl ?_
        exact w_X9_teach_18 C (kc) (ks) a1 a2 a3 S ws hf hW (by omega) (by omega)
theorem z_X9_seed : q_dsc yX9_seed 1 := ⟨by decide +kernel, by decide +kernel, by decide +kernel⟩
theorem n_X9_seed_X9 : ∀ w ∈ wsX90, w ∈ wsX9_seed := fun _ h => (List.mem_cons_of_mem _ (List.mem_append_right _ h))
def f_X9_seed_18 (v1 : Int32) (vt0 : Int32) (S : MS) : Option (Int32 × MS) := ((f_X9_isWrong vt0 S).bind fun u2 => (if (q_b u2.1) = 0 then some ((u2.2.1 6), (mset u2.2 6 v1)) else some ((0 : Int32), u2.2)))
def f_X9_seed (a1 : Int32) (S : MS) : Option (Int32 × MS) := (if (q_b (f_X9_isBetween a1.toInt64 (1 : Int64) (2147483646 : Int64))) = 0 then f_X9_seed_18 a1 (1 : Int32) S else f_X9_seed_18 a1 (0 : Int32) S)
set_option maxRecDepth 100000 in
set_option maxHeartbeats 8000000 in
theorem w_X9_seed_18 {p : Program} {l : Launch} {e : Env} {s : State} {m : MethodId} {args : Array Value} {below : List Frame} {meth : Method} {c : Code} {D : va_G} {cc : Nat → ClassId} {N0 : Nat} {ga : Nat → Nat} {E : va_W} {ad : Nat → Nat → Nat} {v : (Int32 × MS)} (C : q_C p s m args meth c cX9_seed 3 (some .int) wsX9_seed RX9 D cc N0)  (v1 : Int32) (vt0 : Int32) (S : MS)  (ws : va_W) : f_X9_seed_18  v1 vt0 S = some v → mW cc ga ad S E ws → q_WA p l e (q_rm (1) (25) 0 0) s m args below meth c D N0 3 (MQ below (q_Q D N0 (fun rv w1 => rv = some (.int v.1) ∧ mW cc ga ad v.2 E w1)) args s 0 0 (q_A N0)) 0 0 ws 18 [(0, .ref (ga 0)), (1, .int v1)] [.int vt0, .ref (ga 0)] := by
  intro hf hW
  obtain ⟨u2, e3, hf⟩ := q_bind hf
  obtain ⟨_, he⟩ := hW.obj
  refine q_callV (pc := 18) (As := [.int vt0]) (rest := []) C (c_X9_isWrong l D cc N0 ga ad  E S vt0 u2 e3 ws hW) gX9_seed_X9_isWrong rfl rfl z_X9_isWrong ⟨Nat.le_of_ble_eq_true rfl, Nat.le_of_ble_eq_true rfl⟩ he rfl rfl rfl (Nat.le_of_ble_eq_true rfl) dX9_seed_18 ⟨Nat.le_of_ble_eq_true rfl, Nat.le_of_ble_eq_true rfl⟩ ?_
  rintro _ ws ⟨rfl, hW⟩
  refine q_nm (wz := ws) (ka := 0) (kb := 0) (sz := [.int (q_b u2.1)]) rfl rfl rfl rfl ?_
  refine q_if_eq (pc := 21) (tgt := 26) C dX9_seed_21 (by decide) (fun c4 => ?_) (fun c4 => ?_)
  · have hf := q_iteT hf c4
    refine q_aload_n (pc := 26) C dX9_seed_26 rfl 0 rfl ?_
    refine m_g_6 (pc := 27) C hW n_X9_seed_X9 (List.mem_of_getElem? (i := 2) rfl) dX9_seed_27 ?_
    refine q_istore_n (pc := 30) (lvq := [(2, .int (u2.2.1 6)), (0, .ref (ga 0)), (1, .int v1)]) C dX9_seed_30 rfl (by decide) rfl ?_
    refine q_aload_n (pc := 31) C dX9_seed_31 rfl 1 rfl ?_
    refine q_iload_n (pc := 32) C dX9_seed_32 rfl 2 rfl ?_
    refine m_p_6 (pc := 33) C hW n_X9_seed_X9 (List.mem_of_getElem? (i := 2) rfl) dX9_seed_33 (fun ws hW => ?_)
    refine q_iload_n (pc := 36) C dX9_seed_36 rfl 0 rfl ?_
    obtain rfl := q_some hf
    exact q_iret (pc := 37) C dX9_seed_37 ⟨rfl, hW⟩
  · have hf := q_iteF hf c4
    refine q_iconst (pc := 24) C (0 : Int32) dX9_seed_24 q_ci_0 ?_
    obtain rfl := q_some hf
    exact q_iret (pc := 25) C dX9_seed_25 ⟨rfl, hW⟩
set_option maxRecDepth 100000 in
set_option maxHeartbeats 8000000 in
theorem c_X9_seed (l : Launch) (D : va_G) (cc : Nat → ClassId) (N0 : Nat) (ga : Nat → Nat) (ad : Nat → Nat → Nat) (E : va_W) (S : MS) (a1 : Int32) (v : (Int32 × MS)) (hf : f_X9_seed a1 S = some v) (ws : va_W) (hW : mW cc ga ad S E ws) : q_Met l yX9_seed wsX9_seed 1 25 D cc N0 ws [.ref (ga 0), .int a1] (fun rv w1 => rv = some (.int v.1) ∧ mW cc ga ad v.2 E w1) 0 0 := by
  refine q_ofW (code := cX9_seed) (nL := 3) (ret := (some .int)) (by decide +kernel) rfl (Nat.le_of_ble_eq_true rfl) (fun p e s m below meth c C _ => ?_)
  refine q_lv (lv2 := [(0, .ref (ga 0)), (1, .int a1)]) rfl ?_
  refine q_aload_n (pc := 0) C dX9_seed_0 rfl 0 rfl ?_
  refine q_iload_n (pc := 1) C dX9_seed_1 rfl 1 rfl ?_
  refine q_i2l (pc := 2) C dX9_seed_2 rfl ?_
  refine q_lconst (pc := 3) C (1 : Int64) dX9_seed_3 q_cl_1 ?_
  refine q_ldc2 (pc := 4) (v := (2147483646 : Int64)) C (List.mem_of_getElem? (i := 1) rfl) dX9_seed_4 ?_
  refine q_callS (pc := 7) (As := [.long a1.toInt64, .long (1 : Int64), .long (2147483646 : Int64)]) (rest := [.ref (ga 0)]) C (c_X9_isBetween l D cc N0 ws a1.toInt64 (1 : Int64) (2147483646 : Int64) _ rfl) gX9_seed_X9_isBetween rfl z_X9_isBetween ⟨Nat.le_of_ble_eq_true rfl, Nat.le_of_ble_eq_true rfl⟩ rfl rfl (Nat.le_of_ble_eq_true rfl) dX9_seed_7 ⟨Nat.le_of_ble_eq_true rfl, Nat.le_of_ble_eq_true rfl⟩ ?_
  refine q_after (rv := (some (.int (q_b (f_X9_isBetween a1.toInt64 (1 : Int64) (2147483646 : Int64)))))) (w0 := ws) (st2 := [.int (q_b (f_X9_isBetween a1.toInt64 (1 : Int64) (2147483646 : Int64))), .ref (ga 0)]) rfl rfl rfl ?_
  refine q_if_eq (pc := 10) (tgt := 17) C dX9_seed_10 (by decide) (fun c1 => ?_) (fun c1 => ?_)
  · have hf := q_iteT hf c1
    refine q_iconst (pc := 17) C (1 : Int32) dX9_seed_17 q_ci_1 ?_
    refine q_sub (lvq := [(0, .ref (ga 0)), (1, .int a1)]) [0, 1] rfl ?_
    exact w_X9_seed_18 C a1 (1 : Int32) S ws hf hW
  · have hf := q_iteF hf c1
    refine q_iconst (pc := 13) C (0 : Int32) dX9_seed_13 q_ci_0 ?_
    refine q_goto (pc := 14) (tgt := 18) C dX9_seed_14 (by decide) ?_
    refine q_sub (lvq := [(0, .ref (ga 0)), (1, .int a1)]) [0, 1] rfl ?_
    exact w_X9_seed_18 C a1 (0 : Int32) S ws hf hW
theorem z_X9_lives : q_dsc yX9_lives 1 := ⟨by decide +kernel, by decide +kernel, by decide +kernel⟩
theorem n_X9_lives_X9 : ∀ w ∈ wsX90, w ∈ wsX9_lives := fun _ h => (List.mem_cons_of_mem _ (List.mem_append_right _ h))
def f_X9_lives (S : MS) (r1 : Nat) : Option Bool := (if r1 < S.2.1 0 then (if (S.2.2.1 0 r1 2) = 0 then (if r1 < S.2.1 0 then (if (S.1 5) < (S.2.2.1 0 r1 1) then some false else some true) else none) else some false) else none)
set_option maxRecDepth 100000 in
set_option maxHeartbeats 8000000 in
theorem c_X9_lives (l : Launch) (D : va_G) (cc : Nat → ClassId) (N0 : Nat) (ga : Nat → Nat) (ad : Nat → Nat → Nat) (E : va_W) (S : MS) (r1 : Nat) (v : Bool) (hf : f_X9_lives S r1 = some v) (ws : va_W) (hW : mW cc ga ad S E ws) : q_Met l yX9_lives wsX9_lives 0 0 D cc N0 ws [.ref (ga 0), .ref (ad 0 r1)] (fun rv w1 => rv = some (.int (q_b v)) ∧ mW cc ga ad S E w1) 0 0 := by
  refine q_ofW (code := cX9_lives) (nL := 2) (ret := (some .boolean)) (by decide +kernel) rfl (Nat.le_of_ble_eq_true rfl) (fun p e s m below meth c C _ => ?_)
  refine q_lv (lv2 := [(0, .ref (ga 0)), (1, .ref (ad 0 r1))]) rfl ?_
  refine q_aload_n (pc := 0) C dX9_lives_0 rfl 1 rfl ?_
  refine q_iconst (pc := 1) C (2 : Int32) dX9_lives_1 q_ci_2 ?_
  obtain ⟨g1, hf⟩ := q_gd hf
  refine m_rald_0 (pc := 2) C hW g1 ⟨by decide, by decide⟩ dX9_lives_2 ?_
  refine q_nm (wz := ws) (ka := 0) (kb := 0) (sz := [.int (S.2.2.1 0 r1 2)]) rfl rfl rfl rfl ?_
  refine q_if_ne (pc := 3) (tgt := 20) C dX9_lives_3 (by decide) (fun c2 => ?_) (fun c2 => ?_)
  · have hf := q_iteF hf c2
    refine q_iconst (pc := 20) C (0 : Int32) dX9_lives_20 q_ci_0 ?_
    obtain rfl := q_some hf
    exact q_zret (pc := 21) C (by decide +kernel) dX9_lives_21 ⟨rfl, hW⟩
  · have hf := q_iteT hf c2
    refine q_aload_n (pc := 6) C dX9_lives_6 rfl 1 rfl ?_
    refine q_iconst (pc := 7) C (1 : Int32) dX9_lives_7 q_ci_1 ?_
    obtain ⟨g3, hf⟩ := q_gd hf
    refine m_rald_0 (pc := 8) C hW g3 ⟨by decide, by decide⟩ dX9_lives_8 ?_
    refine q_nm (wz := ws) (ka := 0) (kb := 0) (sz := [.int (S.2.2.1 0 r1 1)]) rfl rfl rfl rfl ?_
    refine q_aload_n (pc := 9) C dX9_lives_9 rfl 0 rfl ?_
    refine m_g_5 (pc := 10) C hW n_X9_lives_X9 (List.mem_of_getElem? (i := 1) rfl) dX9_lives_10 ?_
    refine q_icmp_gt (pc := 13) (tgt := 20) C dX9_lives_13 (by decide) (fun c4 => ?_) (fun c4 => ?_)
    · have hf := q_iteT hf c4
      refine q_iconst (pc := 20) C (0 : Int32) dX9_lives_20 q_ci_0 ?_
      obtain rfl := q_some hf
      exact q_zret (pc := 21) C (by decide +kernel) dX9_lives_21 ⟨rfl, hW⟩
    · have hf := q_iteF hf c4
      refine q_iconst (pc := 16) C (1 : Int32) dX9_lives_16 q_ci_1 ?_
      refine q_goto (pc := 17) (tgt := 21) C dX9_lives_17 (by decide) ?_
      obtain rfl := q_some hf
      exact q_zret (pc := 21) C (by decide +kernel) dX9_lives_21 ⟨rfl, hW⟩
theorem z_X9_living : q_dsc yX9_living 0 := ⟨by decide +kernel, by decide +kernel, by decide +kernel⟩
theorem n_X9_living_X9 : ∀ w ∈ wsX90, w ∈ wsX9_living := fun _ h => (List.mem_cons_of_mem _ (List.mem_append_left _ (List.mem_append_left _ (List.mem_append_right _ h))))
def f_X9_living_45 (S : MS) (k12 : Int32 → Int32 → Int32 → Option Int32) (vt0 : Int32) (vt1 : Int32) (u2 : Int32) (x2 : Int32) : Option Int32 := k12 (vt1 + vt0) u2 x2
def f_X9_living_12b (S : MS) (k12 : Int32 → Int32 → Int32 → Option Int32) (v1 : Int32) (u2 : Int32) (x2 : Int32) : Option Int32 := (if (q_b (!decide (u2 = nI (S.2.1 0)))) = 0 then some v1 else (if q_in u2 (S.2.1 0) ∧ x2 = S.1 20 then ((f_X9_lives S u2.toNatClampNeg).bind fun u4 => (if (q_b u4) = 0 then f_X9_living_45 S k12 (0 : Int32) v1 (u2 + (1 : Int32)) x2 else f_X9_living_45 S k12 (1 : Int32) v1 (u2 + (1 : Int32)) x2)) else none))
def f_X9_living_12 (S : MS) : Nat → Int32 → Int32 → Int32 → Option Int32
  | 0, _, _, _ => none
  | n + 1, v1, u2, x2 => f_X9_living_12b S (f_X9_living_12 S n) v1 u2 x2
def f_X9_living (S : MS) : Option Int32 := f_X9_living_12 S 1000 (0 : Int32) (0 : Int32) (S.1 20)
set_option maxRecDepth 100000 in
set_option maxHeartbeats 8000000 in
theorem w_X9_living_45 {p : Program} {l : Launch} {e : Env} {s : State} {m : MethodId} {args : Array Value} {below : List Frame} {meth : Method} {c : Code} {D : va_G} {cc : Nat → ClassId} {N0 : Nat} {ga : Nat → Nat} {E : va_W} {ad : Nat → Nat → Nat} {S : MS} {k12 : Int32 → Int32 → Int32 → Option Int32} {n12 : Nat} {v : Int32} (C : q_C p s m args meth c cX9_living 4 (some .int) wsX9_living RX9 D cc N0) (hk12 : ∀ (kc : Nat) (ks : Nat) (v1 : Int32) (u2 : Int32) (x2 : Int32) (q2 : Nat) (z2 : Int32)  (ws : va_W), k12 v1 u2 x2 = some v → mW cc ga ad S ((q2, q_it u2 z2 x2 (ga 1)) :: E) ws → kc + 0 + n12 * 0 ≤ 1 → ks + 0 + n12 * 0 ≤ 4 → q_WA p l e (q_rm (3) (90) 1 4) s m args below meth c D N0 4 (MQ below (q_Q D N0 (fun rv w1 => rv = some (.int v) ∧ mW cc ga ad S E w1)) args s 1 4 (q_A N0)) kc ks ws 12 [(0, .ref (ga 0)), (1, .int v1), (2, .ref q2)] []) (kc : Nat) (ks : Nat) (vt0 : Int32) (vt1 : Int32) (u2 : Int32) (x2 : Int32) (q2 : Nat) (z2 : Int32)  (ws : va_W) : f_X9_living_45 S k12 vt0 vt1 u2 x2 = some v → mW cc ga ad S ((q2, q_it u2 z2 x2 (ga 1)) :: E) ws → kc + 0 + n12 * 0 ≤ 1 → ks + 0 + n12 * 0 ≤ 4 → q_WA p l e (q_rm (3) (90) 1 4) s m args below meth c D N0 4 (MQ below (q_Q D N0 (fun rv w1 => rv = some (.int v) ∧ mW cc ga ad S E w1)) args s 1 4 (q_A N0)) kc ks ws 45 [(0, .ref (ga 0)), (2, .ref q2)] [.int vt0, .int vt1] := by
  intro hf hW b1 b2
  refine q_iadd (pc := 45) C dX9_living_45 ?_
  refine q_istore_n (pc := 46) (lvq := [(1, .int (vt1 + vt0)), (0, .ref (ga 0)), (2, .ref q2)]) C dX9_living_46 rfl (by decide) rfl ?_
  refine q_goto (pc := 47) (tgt := 12) C dX9_living_47 (by decide) ?_
  refine q_sub (lvq := [(0, .ref (ga 0)), (1, .int (vt1 + vt0)), (2, .ref q2)]) [1, 0, 2] rfl ?_
  exact hk12 (kc) (ks) (vt1 + vt0) u2 x2 q2 z2 ws hf hW (by omega) (by omega)
set_option maxRecDepth 100000 in
set_option maxHeartbeats 8000000 in
theorem w_X9_living_12 {p : Program} {l : Launch} {e : Env} {s : State} {m : MethodId} {args : Array Value} {below : List Frame} {meth : Method} {c : Code} {D : va_G} {cc : Nat → ClassId} {N0 : Nat} {ga : Nat → Nat} {E : va_W} {ad : Nat → Nat → Nat} {S : MS} {v : Int32} (C : q_C p s m args meth c cX9_living 4 (some .int) wsX9_living RX9 D cc N0)  : ∀ (n : Nat) (kc : Nat) (ks : Nat) (v1 : Int32) (u2 : Int32) (x2 : Int32) (q2 : Nat) (z2 : Int32)  (ws : va_W), f_X9_living_12 S n v1 u2 x2 = some v → mW cc ga ad S ((q2, q_it u2 z2 x2 (ga 1)) :: E) ws → kc + 0 + n * 0 ≤ 1 → ks + 0 + n * 0 ≤ 4 → q_WA p l e (q_rm (3) (90) 1 4) s m args below meth c D N0 4 (MQ below (q_Q D N0 (fun rv w1 => rv = some (.int v) ∧ mW cc ga ad S E w1)) args s 1 4 (q_A N0)) kc ks ws 12 [(0, .ref (ga 0)), (1, .int v1), (2, .ref q2)] [] := by
  intro n
  induction n with
  | zero => intro kc ks v1 u2 x2 q2 z2 ws hf; cases hf
  | succ n ih =>
    intro kc ks v1 u2 x2 q2 z2 ws hf hW b1 b2
    have hk12 : ∀ (kc : Nat) (ks : Nat) (v1 : Int32) (u2 : Int32) (x2 : Int32) (q2 : Nat) (z2 : Int32)  (ws : va_W), f_X9_living_12 S n v1 u2 x2 = some v → mW cc ga ad S ((q2, q_it u2 z2 x2 (ga 1)) :: E) ws → kc + 0 + n * 0 ≤ 1 → ks + 0 + n * 0 ≤ 4 → q_WA p l e (q_rm (3) (90) 1 4) s m args below meth c D N0 4 (MQ below (q_Q D N0 (fun rv w1 => rv = some (.int v) ∧ mW cc ga ad S E w1)) args s 1 4 (q_A N0)) kc ks ws 12 [(0, .ref (ga 0)), (1, .int v1), (2, .ref q2)] [] := ih
    have hf : f_X9_living_12b S (f_X9_living_12 S n) v1 u2 x2 = some v := hf
    simp only [Nat.succ_mul, Nat.add_mul] at b1 b2
    refine q_aload_n (pc := 12) C dX9_living_12 rfl 2 rfl ?_
    refine m_has_0 (pc := 13) C hW gX9_living_Jx35411_hasNext_aae02_f76Jx35411 ⟨Nat.le_of_ble_eq_true rfl, Nat.le_of_ble_eq_true rfl⟩ (Nat.le_of_ble_eq_true rfl) dX9_living_13 ⟨(show (kc) ≤ 1 by omega), (show (ks) ≤ 4 by omega)⟩ ?_
    refine q_if_eq (pc := 18) (tgt := 50) C dX9_living_18 (by decide) (fun c2 => ?_) (fun c2 => ?_)
    · have hf := q_iteT hf c2
      refine q_iload_n (pc := 50) C dX9_living_50 rfl 1 rfl ?_
      refine q_wid (show kc ≤ 1 by omega) (show ks ≤ 4 by omega) ?_
      refine t_drop hW (fun ws hW => ?_)
      obtain rfl := q_some hf
      exact q_iret (pc := 51) C dX9_living_51 ⟨rfl, hW⟩
    · have hf := q_iteF hf c2
      refine q_aload_n (pc := 21) C dX9_living_21 rfl 2 rfl ?_
      obtain ⟨g3, hf⟩ := q_gd hf
      refine m_next_0 (pc := 22) C hW g3 gX9_living_Jx35411_next_0502b_f82Jx35411 ⟨Nat.le_of_ble_eq_true rfl, Nat.le_of_ble_eq_true rfl⟩ (Nat.le_of_ble_eq_true rfl) dX9_living_22 ⟨(show (kc) ≤ 1 by omega), (show (ks) ≤ 4 by omega)⟩ (fun ws hW => ?_)
      refine m_cast_0 (pc := 27) C hW g3.1.2 (List.mem_of_getElem? (i := 2) rfl) dX9_living_27 ?_
      refine q_astore_n (pc := 30) (lvq := [(3, .ref (ad 0 u2.toNatClampNeg)), (0, .ref (ga 0)), (1, .int v1), (2, .ref q2)]) C dX9_living_30 rfl (by decide) rfl ?_
      refine q_iload_n (pc := 31) C dX9_living_31 rfl 2 rfl ?_
      refine q_aload_n (pc := 32) C dX9_living_32 rfl 1 rfl ?_
      refine q_aload_n (pc := 33) C dX9_living_33 rfl 0 rfl ?_
      obtain ⟨u4, e5, hf⟩ := q_bind hf
      obtain ⟨_, he⟩ := hW.obj
      refine q_callV (pc := 34) (As := [.ref (ad 0 u2.toNatClampNeg)]) (rest := [.int v1]) C (c_X9_lives l D cc N0 ga ad  ((q2, q_it (u2 + (1 : Int32)) u2 x2 (ga 1)) :: E) S u2.toNatClampNeg u4 e5 ws hW) gX9_living_X9_lives rfl rfl z_X9_lives ⟨Nat.le_of_ble_eq_true rfl, Nat.le_of_ble_eq_true rfl⟩ he rfl rfl rfl (Nat.le_of_ble_eq_true rfl) dX9_living_34 ⟨(show (kc) + 0 ≤ 1 by omega), (show (ks) + 0 ≤ 4 by omega)⟩ ?_
      rintro _ ws ⟨rfl, hW⟩
      refine q_nm (wz := ws) (ka := kc) (kb := ks) (sz := [.int (q_b u4), .int v1]) rfl rfl rfl rfl ?_
      refine q_if_eq (pc := 37) (tgt := 44) C dX9_living_37 (by decide) (fun c6 => ?_) (fun c6 => ?_)
      · have hf := q_iteT hf c6
        refine q_iconst (pc := 44) C (0 : Int32) dX9_living_44 q_ci_0 ?_
        refine q_sub (lvq := [(0, .ref (ga 0)), (2, .ref q2)]) [1, 3] rfl ?_
        exact w_X9_living_45 C hk12 (kc) (ks) (0 : Int32) v1 (u2 + (1 : Int32)) x2 q2 u2 ws hf hW (by omega) (by omega)
      · have hf := q_iteF hf c6
        refine q_iconst (pc := 40) C (1 : Int32) dX9_living_40 q_ci_1 ?_
        refine q_goto (pc := 41) (tgt := 45) C dX9_living_41 (by decide) ?_
        refine q_sub (lvq := [(0, .ref (ga 0)), (2, .ref q2)]) [1, 3] rfl ?_
        exact w_X9_living_45 C hk12 (kc) (ks) (1 : Int32) v1 (u2 + (1 : Int32)) x2 q2 u2 ws hf hW (by omega) (by omega)
set_option maxRecDepth 100000 in
set_option maxHeartbeats 8000000 in
theorem c_X9_living (l : Launch) (D : va_G) (cc : Nat → ClassId) (N0 : Nat) (ga : Nat → Nat) (ad : Nat → Nat → Nat) (E : va_W) (S : MS) (v : Int32) (hf : f_X9_living S = some v) (ws : va_W) (hW : mW cc ga ad S E ws) : q_Met l yX9_living wsX9_living 3 90 D cc N0 ws [.ref (ga 0)] (fun rv w1 => rv = some (.int v) ∧ mW cc ga ad S E w1) 1 4 := by
  refine q_ofW (code := cX9_living) (nL := 4) (ret := (some .int)) (by decide +kernel) rfl (Nat.le_of_ble_eq_true rfl) (fun p e s m below meth c C _ => ?_)
  refine q_lv (lv2 := [(0, .ref (ga 0))]) rfl ?_
  obtain ⟨kc, hkc⟩ : ∃ z, z = 0 := ⟨_, rfl⟩
  obtain ⟨ks, hks⟩ : ∃ z, z = 0 := ⟨_, rfl⟩
  refine q_nm (wz := ws) (ka := kc) (kb := ks) (sz := []) rfl hkc.symm hks.symm rfl ?_
  refine q_iconst (pc := 0) C (0 : Int32) dX9_living_0 q_ci_0 ?_
  refine q_istore_n (pc := 1) (lvq := [(1, .int (0 : Int32)), (0, .ref (ga 0))]) C dX9_living_1 rfl (by decide) rfl ?_
  refine q_aload_n (pc := 2) C dX9_living_2 rfl 1 rfl ?_
  refine m_g_1 (pc := 3) C hW n_X9_living_X9 (List.mem_of_getElem? (i := 1) rfl) dX9_living_3 ?_
  refine m_iter_0 (pc := 6) C hW gX9_living_Jx4a65c_iterator_32c93_f72Jx4a65c ⟨Nat.le_of_ble_eq_true rfl, Nat.le_of_ble_eq_true rfl⟩ (Nat.le_of_ble_eq_true rfl) dX9_living_6 ⟨(show (kc) + 1 ≤ 1 by omega), (show (ks) + 4 ≤ 4 by omega)⟩ (fun it1 ws hW => ?_)
  refine q_nm (wz := ws) (ka := kc + 1) (kb := ks + 4) (sz := [.ref it1]) rfl rfl rfl rfl ?_
  refine q_astore_n (pc := 11) (lvq := [(2, .ref it1), (1, .int (0 : Int32)), (0, .ref (ga 0))]) C dX9_living_11 rfl (by decide) rfl ?_
  refine q_sub (lvq := [(0, .ref (ga 0)), (1, .int (0 : Int32)), (2, .ref it1)]) [2, 1, 0] rfl ?_
  exact w_X9_living_12 C 1000 (kc + 1) (ks + 4) (0 : Int32) (0 : Int32) (S.1 20) it1 (-1 : Int32) ws hf hW (by omega) (by omega)
theorem z_X9_livingWith : q_dsc yX9_livingWith 1 := ⟨by decide +kernel, by decide +kernel, by decide +kernel⟩
theorem n_X9_livingWith_X9 : ∀ w ∈ wsX90, w ∈ wsX9_livingWith := fun _ h => (List.mem_cons_of_mem _ (List.mem_append_left _ (List.mem_append_left _ (List.mem_append_right _ h))))
def f_X9_livingWith_58 (S : MS) (k12 : Int32 → Int32 → Int32 → Int32 → Option Int32) (v1 : Int32) (vt0 : Int32) (vt1 : Int32) (u3 : Int32) (x3 : Int32) : Option Int32 := k12 v1 (vt1 + vt0) u3 x3
def f_X9_livingWith_57 (S : MS) (k12 : Int32 → Int32 → Int32 → Int32 → Option Int32) (v1 : Int32) (vt0 : Int32) (u3 : Int32) (x3 : Int32) : Option Int32 := f_X9_livingWith_58 S k12 v1 (0 : Int32) vt0 u3 x3
def f_X9_livingWith_12b (S : MS) (k12 : Int32 → Int32 → Int32 → Int32 → Option Int32) (v1 : Int32) (v2 : Int32) (u3 : Int32) (x3 : Int32) : Option Int32 := (if (q_b (!decide (u3 = nI (S.2.1 0)))) = 0 then some v2 else (if q_in u3 (S.2.1 0) ∧ x3 = S.1 20 then ((f_X9_lives S u3.toNatClampNeg).bind fun u4 => (if (q_b u4) = 0 then f_X9_livingWith_57 S k12 v1 v2 (u3 + (1 : Int32)) x3 else (if u3.toNatClampNeg < S.2.1 0 then (if (q_b (f_X9_hasPoint (S.2.2.1 0 u3.toNatClampNeg 0) v1)) = 0 then f_X9_livingWith_57 S k12 v1 v2 (u3 + (1 : Int32)) x3 else f_X9_livingWith_58 S k12 v1 (1 : Int32) v2 (u3 + (1 : Int32)) x3) else none))) else none))
def f_X9_livingWith_12 (S : MS) : Nat → Int32 → Int32 → Int32 → Int32 → Option Int32
  | 0, _, _, _, _ => none
  | n + 1, v1, v2, u3, x3 => f_X9_livingWith_12b S (f_X9_livingWith_12 S n) v1 v2 u3 x3
def f_X9_livingWith (S : MS) (a1 : Int32) : Option Int32 := f_X9_livingWith_12 S 1000 a1 (0 : Int32) (0 : Int32) (S.1 20)
set_option maxRecDepth 100000 in
set_option maxHeartbeats 8000000 in
theorem w_X9_livingWith_58 {p : Program} {l : Launch} {e : Env} {s : State} {m : MethodId} {args : Array Value} {below : List Frame} {meth : Method} {c : Code} {D : va_G} {cc : Nat → ClassId} {N0 : Nat} {ga : Nat → Nat} {E : va_W} {ad : Nat → Nat → Nat} {S : MS} {k12 : Int32 → Int32 → Int32 → Int32 → Option Int32} {n12 : Nat} {v : Int32} (C : q_C p s m args meth c cX9_livingWith 5 (some .int) wsX9_livingWith RX9 D cc N0) (hk12 : ∀ (kc : Nat) (ks : Nat) (v1 : Int32) (v2 : Int32) (u3 : Int32) (x3 : Int32) (q3 : Nat) (z3 : Int32)  (ws : va_W), k12 v1 v2 u3 x3 = some v → mW cc ga ad S ((q3, q_it u3 z3 x3 (ga 1)) :: E) ws → kc + 0 + n12 * 0 ≤ 1 → ks + 0 + n12 * 0 ≤ 4 → q_WA p l e (q_rm (3) (90) 1 4) s m args below meth c D N0 5 (MQ below (q_Q D N0 (fun rv w1 => rv = some (.int v) ∧ mW cc ga ad S E w1)) args s 1 4 (q_A N0)) kc ks ws 12 [(0, .ref (ga 0)), (1, .int v1), (2, .int v2), (3, .ref q3)] []) (kc : Nat) (ks : Nat) (v1 : Int32) (vt0 : Int32) (vt1 : Int32) (u3 : Int32) (x3 : Int32) (q3 : Nat) (z3 : Int32)  (ws : va_W) : f_X9_livingWith_58 S k12 v1 vt0 vt1 u3 x3 = some v → mW cc ga ad S ((q3, q_it u3 z3 x3 (ga 1)) :: E) ws → kc + 0 + n12 * 0 ≤ 1 → ks + 0 + n12 * 0 ≤ 4 → q_WA p l e (q_rm (3) (90) 1 4) s m args below meth c D N0 5 (MQ below (q_Q D N0 (fun rv w1 => rv = some (.int v) ∧ mW cc ga ad S E w1)) args s 1 4 (q_A N0)) kc ks ws 58 [(0, .ref (ga 0)), (1, .int v1), (3, .ref q3)] [.int vt0, .int vt1] := by
  intro hf hW b1 b2
  refine q_iadd (pc := 58) C dX9_livingWith_58 ?_
  refine q_istore_n (pc := 59) (lvq := [(2, .int (vt1 + vt0)), (0, .ref (ga 0)), (1, .int v1), (3, .ref q3)]) C dX9_livingWith_59 rfl (by decide) rfl ?_
  refine q_goto (pc := 60) (tgt := 12) C dX9_livingWith_60 (by decide) ?_
  refine q_sub (lvq := [(0, .ref (ga 0)), (1, .int v1), (2, .int (vt1 + vt0)), (3, .ref q3)]) [1, 2, 0, 3] rfl ?_
  exact hk12 (kc) (ks) v1 (vt1 + vt0) u3 x3 q3 z3 ws hf hW (by omega) (by omega)
set_option maxRecDepth 100000 in
set_option maxHeartbeats 8000000 in
theorem w_X9_livingWith_57 {p : Program} {l : Launch} {e : Env} {s : State} {m : MethodId} {args : Array Value} {below : List Frame} {meth : Method} {c : Code} {D : va_G} {cc : Nat → ClassId} {N0 : Nat} {ga : Nat → Nat} {E : va_W} {ad : Nat → Nat → Nat} {S : MS} {k12 : Int32 → Int32 → Int32 → Int32 → Option Int32} {n12 : Nat} {v : Int32} (C : q_C p s m args meth c cX9_livingWith 5 (some .int) wsX9_livingWith RX9 D cc N0) (hk12 : ∀ (kc : Nat) (ks : Nat) (v1 : Int32) (v2 : Int32) (u3 : Int32) (x3 : Int32) (q3 : Nat) (z3 : Int32)  (ws : va_W), k12 v1 v2 u3 x3 = some v → mW cc ga ad S ((q3, q_it u3 z3 x3 (ga 1)) :: E) ws → kc + 0 + n12 * 0 ≤ 1 → ks + 0 + n12 * 0 ≤ 4 → q_WA p l e (q_rm (3) (90) 1 4) s m args below meth c D N0 5 (MQ below (q_Q D N0 (fun rv w1 => rv = some (.int v) ∧ mW cc ga ad S E w1)) args s 1 4 (q_A N0)) kc ks ws 12 [(0, .ref (ga 0)), (1, .int v1), (2, .int v2), (3, .ref q3)] []) (kc : Nat) (ks : Nat) (v1 : Int32) (vt0 : Int32) (u3 : Int32) (x3 : Int32) (q3 : Nat) (z3 : Int32)  (ws : va_W) : f_X9_livingWith_57 S k12 v1 vt0 u3 x3 = some v → mW cc ga ad S ((q3, q_it u3 z3 x3 (ga 1)) :: E) ws → kc + 0 + n12 * 0 ≤ 1 → ks + 0 + n12 * 0 ≤ 4 → q_WA p l e (q_rm (3) (90) 1 4) s m args below meth c D N0 5 (MQ below (q_Q D N0 (fun rv w1 => rv = some (.int v) ∧ mW cc ga ad S E w1)) args s 1 4 (q_A N0)) kc ks ws 57 [(0, .ref (ga 0)), (1, .int v1), (3, .ref q3)] [.int vt0] := by
  intro hf hW b1 b2
  refine q_iconst (pc := 57) C (0 : Int32) dX9_livingWith_57 q_ci_0 ?_
  refine q_sub (lvq := [(0, .ref (ga 0)), (1, .int v1), (3, .ref q3)]) [0, 1, 2] rfl ?_
  exact w_X9_livingWith_58 C hk12 (kc) (ks) v1 (0 : Int32) vt0 u3 x3 q3 z3 ws hf hW (by omega) (by omega)
set_option maxRecDepth 100000 in
set_option maxHeartbeats 8000000 in
theorem w_X9_livingWith_12 {p : Program} {l : Launch} {e : Env} {s : State} {m : MethodId} {args : Array Value} {below : List Frame} {meth : Method} {c : Code} {D : va_G} {cc : Nat → ClassId} {N0 : Nat} {ga : Nat → Nat} {E : va_W} {ad : Nat → Nat → Nat} {S : MS} {v : Int32} (C : q_C p s m args meth c cX9_livingWith 5 (some .int) wsX9_livingWith RX9 D cc N0)  : ∀ (n : Nat) (kc : Nat) (ks : Nat) (v1 : Int32) (v2 : Int32) (u3 : Int32) (x3 : Int32) (q3 : Nat) (z3 : Int32)  (ws : va_W), f_X9_livingWith_12 S n v1 v2 u3 x3 = some v → mW cc ga ad S ((q3, q_it u3 z3 x3 (ga 1)) :: E) ws → kc + 0 + n * 0 ≤ 1 → ks + 0 + n * 0 ≤ 4 → q_WA p l e (q_rm (3) (90) 1 4) s m args below meth c D N0 5 (MQ below (q_Q D N0 (fun rv w1 => rv = some (.int v) ∧ mW cc ga ad S E w1)) args s 1 4 (q_A N0)) kc ks ws 12 [(0, .ref (ga 0)), (1, .int v1), (2, .int v2), (3, .ref q3)] [] := by
  intro n
  induction n with
  | zero => intro kc ks v1 v2 u3 x3 q3 z3 ws hf; cases hf
  | succ n ih =>
    intro kc ks v1 v2 u3 x3 q3 z3 ws hf hW b1 b2
    have hk12 : ∀ (kc : Nat) (ks : Nat) (v1 : Int32) (v2 : Int32) (u3 : Int32) (x3 : Int32) (q3 : Nat) (z3 : Int32)  (ws : va_W), f_X9_livingWith_12 S n v1 v2 u3 x3 = some v → mW cc ga ad S ((q3, q_it u3 z3 x3 (ga 1)) :: E) ws → kc + 0 + n * 0 ≤ 1 → ks + 0 + n * 0 ≤ 4 → q_WA p l e (q_rm (3) (90) 1 4) s m args below meth c D N0 5 (MQ below (q_Q D N0 (fun rv w1 => rv = some (.int v) ∧ mW cc ga ad S E w1)) args s 1 4 (q_A N0)) kc ks ws 12 [(0, .ref (ga 0)), (1, .int v1), (2, .int v2), (3, .ref q3)] [] := ih
    have hf : f_X9_livingWith_12b S (f_X9_livingWith_12 S n) v1 v2 u3 x3 = some v := hf
    simp only [Nat.succ_mul, Nat.add_mul] at b1 b2
    refine q_aload_n (pc := 12) C dX9_livingWith_12 rfl 3 rfl ?_
    refine m_has_0 (pc := 13) C hW gX9_livingWith_Jx35411_hasNext_aae02_f76Jx35411 ⟨Nat.le_of_ble_eq_true rfl, Nat.le_of_ble_eq_true rfl⟩ (Nat.le_of_ble_eq_true rfl) dX9_livingWith_13 ⟨(show (kc) ≤ 1 by omega), (show (ks) ≤ 4 by omega)⟩ ?_
    refine q_if_eq (pc := 18) (tgt := 63) C dX9_livingWith_18 (by decide) (fun c2 => ?_) (fun c2 => ?_)
    · have hf := q_iteT hf c2
      refine q_iload_n (pc := 63) C dX9_livingWith_63 rfl 2 rfl ?_
      refine q_wid (show kc ≤ 1 by omega) (show ks ≤ 4 by omega) ?_
      refine t_drop hW (fun ws hW => ?_)
      obtain rfl := q_some hf
      exact q_iret (pc := 64) C dX9_livingWith_64 ⟨rfl, hW⟩
    · have hf := q_iteF hf c2
      refine q_aload_n (pc := 21) C dX9_livingWith_21 rfl 3 rfl ?_
      obtain ⟨g3, hf⟩ := q_gd hf
      refine m_next_0 (pc := 22) C hW g3 gX9_livingWith_Jx35411_next_0502b_f82Jx35411 ⟨Nat.le_of_ble_eq_true rfl, Nat.le_of_ble_eq_true rfl⟩ (Nat.le_of_ble_eq_true rfl) dX9_livingWith_22 ⟨(show (kc) ≤ 1 by omega), (show (ks) ≤ 4 by omega)⟩ (fun ws hW => ?_)
      refine m_cast_0 (pc := 27) C hW g3.1.2 (List.mem_of_getElem? (i := 2) rfl) dX9_livingWith_27 ?_
      refine q_astore (pc := 30) (lvq := [(4, .ref (ad 0 u3.toNatClampNeg)), (0, .ref (ga 0)), (1, .int v1), (2, .int v2), (3, .ref q3)]) C dX9_livingWith_30 (by decide) rfl ?_
      refine q_iload_n (pc := 32) C dX9_livingWith_32 rfl 3 rfl ?_
      refine q_aload_n (pc := 33) C dX9_livingWith_33 rfl 1 rfl ?_
      refine q_aload (pc := 34) C dX9_livingWith_34 0 rfl ?_
      obtain ⟨u4, e5, hf⟩ := q_bind hf
      obtain ⟨_, he⟩ := hW.obj
      refine q_callV (pc := 36) (As := [.ref (ad 0 u3.toNatClampNeg)]) (rest := [.int v2]) C (c_X9_lives l D cc N0 ga ad  ((q3, q_it (u3 + (1 : Int32)) u3 x3 (ga 1)) :: E) S u3.toNatClampNeg u4 e5 ws hW) gX9_livingWith_X9_lives rfl rfl z_X9_lives ⟨Nat.le_of_ble_eq_true rfl, Nat.le_of_ble_eq_true rfl⟩ he rfl rfl rfl (Nat.le_of_ble_eq_true rfl) dX9_livingWith_36 ⟨(show (kc) + 0 ≤ 1 by omega), (show (ks) + 0 ≤ 4 by omega)⟩ ?_
      rintro _ ws ⟨rfl, hW⟩
      refine q_nm (wz := ws) (ka := kc) (kb := ks) (sz := [.int (q_b u4), .int v2]) rfl rfl rfl rfl ?_
      refine q_if_eq (pc := 39) (tgt := 57) C dX9_livingWith_39 (by decide) (fun c6 => ?_) (fun c6 => ?_)
      · have hf := q_iteT hf c6
        refine q_sub (lvq := [(0, .ref (ga 0)), (1, .int v1), (3, .ref q3)]) [1, 2, 4] rfl ?_
        exact w_X9_livingWith_57 C hk12 (kc) (ks) v1 v2 (u3 + (1 : Int32)) x3 q3 u3 ws hf hW (by omega) (by omega)
      · have hf := q_iteF hf c6
        refine q_aload (pc := 42) C dX9_livingWith_42 0 rfl ?_
        refine q_iconst (pc := 44) C (0 : Int32) dX9_livingWith_44 q_ci_0 ?_
        obtain ⟨g7, hf⟩ := q_gd hf
        refine m_rald_0 (pc := 45) C hW g7 ⟨by decide, by decide⟩ dX9_livingWith_45 ?_
        refine q_nm (wz := ws) (ka := kc) (kb := ks) (sz := [.int (S.2.2.1 0 u3.toNatClampNeg 0), .int v2]) rfl rfl rfl rfl ?_
        refine q_iload_n (pc := 46) C dX9_livingWith_46 rfl 2 rfl ?_
        refine q_callS (pc := 47) (As := [.int (S.2.2.1 0 u3.toNatClampNeg 0), .int v1]) (rest := [.int v2]) C (c_X9_hasPoint l D cc N0 ws (S.2.2.1 0 u3.toNatClampNeg 0) v1 _ rfl) gX9_livingWith_X9_hasPoint rfl z_X9_hasPoint ⟨Nat.le_of_ble_eq_true rfl, Nat.le_of_ble_eq_true rfl⟩ rfl rfl (Nat.le_of_ble_eq_true rfl) dX9_livingWith_47 ⟨(show (kc) ≤ 1 by omega), (show (ks) ≤ 4 by omega)⟩ ?_
        refine q_after (rv := (some (.int (q_b (f_X9_hasPoint (S.2.2.1 0 u3.toNatClampNeg 0) v1))))) (w0 := ws) (st2 := [.int (q_b (f_X9_hasPoint (S.2.2.1 0 u3.toNatClampNeg 0) v1)), .int v2]) rfl rfl rfl ?_
        refine q_if_eq (pc := 50) (tgt := 57) C dX9_livingWith_50 (by decide) (fun c8 => ?_) (fun c8 => ?_)
        · have hf := q_iteT hf c8
          refine q_sub (lvq := [(0, .ref (ga 0)), (1, .int v1), (3, .ref q3)]) [1, 2, 4] rfl ?_
          exact w_X9_livingWith_57 C hk12 (kc) (ks) v1 v2 (u3 + (1 : Int32)) x3 q3 u3 ws hf hW (by omega) (by omega)
        · have hf := q_iteF hf c8
          refine q_iconst (pc := 53) C (1 : Int32) dX9_livingWith_53 q_ci_1 ?_
          refine q_goto (pc := 54) (tgt := 58) C dX9_livingWith_54 (by decide) ?_
          refine q_sub (lvq := [(0, .ref (ga 0)), (1, .int v1), (3, .ref q3)]) [1, 2, 4] rfl ?_
          exact w_X9_livingWith_58 C hk12 (kc) (ks) v1 (1 : Int32) v2 (u3 + (1 : Int32)) x3 q3 u3 ws hf hW (by omega) (by omega)
set_option maxRecDepth 100000 in
set_option maxHeartbeats 8000000 in
theorem c_X9_livingWith (l : Launch) (D : va_G) (cc : Nat → ClassId) (N0 : Nat) (ga : Nat → Nat) (ad : Nat → Nat → Nat) (E : va_W) (S : MS) (a1 : Int32) (v : Int32) (hf : f_X9_livingWith S a1 = some v) (ws : va_W) (hW : mW cc ga ad S E ws) : q_Met l yX9_livingWith wsX9_livingWith 3 90 D cc N0 ws [.ref (ga 0), .int a1] (fun rv w1 => rv = some (.int v) ∧ mW cc ga ad S E w1) 1 4 := by
  refine q_ofW (code := cX9_livingWith) (nL := 5) (ret := (some .int)) (by decide +kernel) rfl (Nat.le_of_ble_eq_true rfl) (fun p e s m below meth c C _ => ?_)
  refine q_lv (lv2 := [(0, .ref (ga 0)), (1, .int a1)]) rfl ?_
  obtain ⟨kc, hkc⟩ : ∃ z, z = 0 := ⟨_, rfl⟩
  obtain ⟨ks, hks⟩ : ∃ z, z = 0 := ⟨_, rfl⟩
  refine q_nm (wz := ws) (ka := kc) (kb := ks) (sz := []) rfl hkc.symm hks.symm rfl ?_
  refine q_iconst (pc := 0) C (0 : Int32) dX9_livingWith_0 q_ci_0 ?_
  refine q_istore_n (pc := 1) (lvq := [(2, .int (0 : Int32)), (0, .ref (ga 0)), (1, .int a1)]) C dX9_livingWith_1 rfl (by decide) rfl ?_
  refine q_aload_n (pc := 2) C dX9_livingWith_2 rfl 1 rfl ?_
  refine m_g_1 (pc := 3) C hW n_X9_livingWith_X9 (List.mem_of_getElem? (i := 1) rfl) dX9_livingWith_3 ?_
  refine m_iter_0 (pc := 6) C hW gX9_livingWith_Jx4a65c_iterator_32c93_f72Jx4a65c ⟨Nat.le_of_ble_eq_true rfl, Nat.le_of_ble_eq_true rfl⟩ (Nat.le_of_ble_eq_true rfl) dX9_livingWith_6 ⟨(show (kc) + 1 ≤ 1 by omega), (show (ks) + 4 ≤ 4 by omega)⟩ (fun it1 ws hW => ?_)
  refine q_nm (wz := ws) (ka := kc + 1) (kb := ks + 4) (sz := [.ref it1]) rfl rfl rfl rfl ?_
  refine q_astore_n (pc := 11) (lvq := [(3, .ref it1), (2, .int (0 : Int32)), (0, .ref (ga 0)), (1, .int a1)]) C dX9_livingWith_11 rfl (by decide) rfl ?_
  refine q_sub (lvq := [(0, .ref (ga 0)), (1, .int a1), (2, .int (0 : Int32)), (3, .ref it1)]) [2, 3, 1, 0] rfl ?_
  exact w_X9_livingWith_12 C 1000 (kc + 1) (ks + 4) a1 (0 : Int32) (0 : Int32) (S.1 20) it1 (-1 : Int32) ws hf hW (by omega) (by omega)
theorem z_X9_answer : q_dsc yX9_answer 1 := ⟨by decide +kernel, by decide +kernel, by decide +kernel⟩
theorem n_X9_answer_X9 : ∀ w ∈ wsX90, w ∈ wsX9_answer := fun _ h => (List.mem_cons_of_mem _ (List.mem_append_left _ (List.mem_append_left _ (List.mem_append_right _ h))))
def f_X9_answer (a1 : Int32) (S : MS) : Option (Bool × MS) := (if (S.1 7) = (97 : Int32) then ((f_X9_livingWith S a1).bind fun u8 => ((f_X9_living S).bind fun u10 => (if ((2 : Int32) * u8) < u10 then some (false, S) else some (true, S)))) else (if q_in (S.1 8) (S.2.1 0) then (if (S.1 8).toNatClampNeg < S.2.1 0 then (if (S.1 7) = (104 : Int32) then some ((f_X9_hasPoint (S.2.2.1 0 ((S.1 8).toNatClampNeg) 0) a1), S) else (if (S.1 4) = (S.1 5) then some ((f_X9_hasPoint (S.2.2.1 0 ((S.1 8).toNatClampNeg) 0) a1), S) else (if (((mset S 6 ((((S.1 6).toInt64 * (48271 : Int64)) - ((S.1 6).toInt64 * (48271 : Int64)) / (2147483647 : Int64) * (2147483647 : Int64)).toInt32)).1 6) - ((mset S 6 ((((S.1 6).toInt64 * (48271 : Int64)) - ((S.1 6).toInt64 * (48271 : Int64)) / (2147483647 : Int64) * (2147483647 : Int64)).toInt32)).1 6) / (3 : Int32) * (3 : Int32)) = 0 then (if (q_b (f_X9_hasPoint (S.2.2.1 0 ((S.1 8).toNatClampNeg) 0) a1)) = 0 then some (true, (mset (mset S 6 ((((S.1 6).toInt64 * (48271 : Int64)) - ((S.1 6).toInt64 * (48271 : Int64)) / (2147483647 : Int64) * (2147483647 : Int64)).toInt32)) 4 (((mset S 6 ((((S.1 6).toInt64 * (48271 : Int64)) - ((S.1 6).toInt64 * (48271 : Int64)) / (2147483647 : Int64) * (2147483647 : Int64)).toInt32)).1 4) + (1 : Int32)))) else some (false, (mset (mset S 6 ((((S.1 6).toInt64 * (48271 : Int64)) - ((S.1 6).toInt64 * (48271 : Int64)) / (2147483647 : Int64) * (2147483647 : Int64)).toInt32)) 4 (((mset S 6 ((((S.1 6).toInt64 * (48271 : Int64)) - ((S.1 6).toInt64 * (48271 : Int64)) / (2147483647 : Int64) * (2147483647 : Int64)).toInt32)).1 4) + (1 : Int32))))) else some ((f_X9_hasPoint (S.2.2.1 0 ((S.1 8).toNatClampNeg) 0) a1), (mset S 6 ((((S.1 6).toInt64 * (48271 : Int64)) - ((S.1 6).toInt64 * (48271 : Int64)) / (2147483647 : Int64) * (2147483647 : Int64)).toInt32)))))) else none) else none))
set_option maxRecDepth 100000 in
set_option maxHeartbeats 8000000 in
theorem c_X9_answer (l : Launch) (D : va_G) (cc : Nat → ClassId) (N0 : Nat) (ga : Nat → Nat) (ad : Nat → Nat → Nat) (E : va_W) (S : MS) (a1 : Int32) (v : (Bool × MS)) (hf : f_X9_answer a1 S = some v) (ws : va_W) (hW : mW cc ga ad S E ws) : q_Met l yX9_answer wsX9_answer 4 114 D cc N0 ws [.ref (ga 0), .int a1] (fun rv w1 => rv = some (.int (q_b v.1)) ∧ mW cc ga ad v.2 E w1) 2 8 := by
  refine q_ofW (code := cX9_answer) (nL := 3) (ret := (some .boolean)) (by decide +kernel) rfl (Nat.le_of_ble_eq_true rfl) (fun p e s m below meth c C _ => ?_)
  refine q_lv (lv2 := [(0, .ref (ga 0)), (1, .int a1)]) rfl ?_
  obtain ⟨kc, hkc⟩ : ∃ z, z = 0 := ⟨_, rfl⟩
  obtain ⟨ks, hks⟩ : ∃ z, z = 0 := ⟨_, rfl⟩
  refine q_nm (wz := ws) (ka := kc) (kb := ks) (sz := []) rfl hkc.symm hks.symm rfl ?_
  refine q_aload_n (pc := 0) C dX9_answer_0 rfl 0 rfl ?_
  refine m_g_7 (pc := 1) C hW n_X9_answer_X9 (List.mem_of_getElem? (i := 1) rfl) dX9_answer_1 ?_
  refine q_bipush (pc := 4) C (97 : Int32) dX9_answer_4 q_cb_97 ?_
  refine q_icmp_ne (pc := 6) (tgt := 29) C dX9_answer_6 (by decide) (fun c1 => ?_) (fun c1 => ?_)
  · have hf := q_iteF hf c1
    refine q_aload_n (pc := 29) C dX9_answer_29 rfl 0 rfl ?_
    refine m_g_1 (pc := 30) C hW n_X9_answer_X9 (List.mem_of_getElem? (i := 2) rfl) dX9_answer_30 ?_
    refine q_aload_n (pc := 33) C dX9_answer_33 rfl 0 rfl ?_
    refine m_g_8 (pc := 34) C hW n_X9_answer_X9 (List.mem_of_getElem? (i := 3) rfl) dX9_answer_34 ?_
    obtain ⟨g2, hf⟩ := q_gd hf
    refine m_get_0 (pc := 37) C hW g2 gX9_answer_Jx4a65c_get_915e3_f129Jx4a65c ⟨Nat.le_of_ble_eq_true rfl, Nat.le_of_ble_eq_true rfl⟩ (Nat.le_of_ble_eq_true rfl) dX9_answer_37 ⟨(show (kc) ≤ 2 by omega), (show (ks) ≤ 8 by omega)⟩ ?_
    refine m_cast_0 (pc := 42) C hW g2.2 (List.mem_of_getElem? (i := 4) rfl) dX9_answer_42 ?_
    refine q_iconst (pc := 45) C (0 : Int32) dX9_answer_45 q_ci_0 ?_
    obtain ⟨g3, hf⟩ := q_gd hf
    refine m_rald_0 (pc := 46) C hW g3 ⟨by decide, by decide⟩ dX9_answer_46 ?_
    refine q_nm (wz := ws) (ka := kc) (kb := ks) (sz := [.int (S.2.2.1 0 ((S.1 8).toNatClampNeg) 0)]) rfl rfl rfl rfl ?_
    refine q_iload_n (pc := 47) C dX9_answer_47 rfl 1 rfl ?_
    refine q_callS (pc := 48) (As := [.int (S.2.2.1 0 ((S.1 8).toNatClampNeg) 0), .int a1]) (rest := []) C (c_X9_hasPoint l D cc N0 ws (S.2.2.1 0 ((S.1 8).toNatClampNeg) 0) a1 _ rfl) gX9_answer_X9_hasPoint rfl z_X9_hasPoint ⟨Nat.le_of_ble_eq_true rfl, Nat.le_of_ble_eq_true rfl⟩ rfl rfl (Nat.le_of_ble_eq_true rfl) dX9_answer_48 ⟨(show (kc) ≤ 2 by omega), (show (ks) ≤ 8 by omega)⟩ ?_
    refine q_after (rv := (some (.int (q_b (f_X9_hasPoint (S.2.2.1 0 ((S.1 8).toNatClampNeg) 0) a1))))) (w0 := ws) (st2 := [.int (q_b (f_X9_hasPoint (S.2.2.1 0 ((S.1 8).toNatClampNeg) 0) a1))]) rfl rfl rfl ?_
    refine q_istore_n (pc := 51) (lvq := [(2, .int (q_b (f_X9_hasPoint (S.2.2.1 0 ((S.1 8).toNatClampNeg) 0) a1))), (0, .ref (ga 0)), (1, .int a1)]) C dX9_answer_51 rfl (by decide) rfl ?_
    refine q_aload_n (pc := 52) C dX9_answer_52 rfl 1 rfl ?_
    refine m_g_7 (pc := 53) C hW n_X9_answer_X9 (List.mem_of_getElem? (i := 1) rfl) dX9_answer_53 ?_
    refine q_bipush (pc := 56) C (104 : Int32) dX9_answer_56 q_cb_104 ?_
    refine q_icmp_eq (pc := 58) (tgt := 72) C dX9_answer_58 (by decide) (fun c4 => ?_) (fun c4 => ?_)
    · have hf := q_iteT hf c4
      refine q_iload_n (pc := 72) C dX9_answer_72 rfl 0 rfl ?_
      refine q_wid (show kc ≤ 2 by omega) (show ks ≤ 8 by omega) ?_
      obtain rfl := q_some hf
      exact q_zret (pc := 73) C (q_b_nar _) dX9_answer_73 ⟨rfl, hW⟩
    · have hf := q_iteF hf c4
      refine q_aload_n (pc := 61) C dX9_answer_61 rfl 1 rfl ?_
      refine m_g_4 (pc := 62) C hW n_X9_answer_X9 (List.mem_of_getElem? (i := 5) rfl) dX9_answer_62 ?_
      refine q_aload_n (pc := 65) C dX9_answer_65 rfl 1 rfl ?_
      refine m_g_5 (pc := 66) C hW n_X9_answer_X9 (List.mem_of_getElem? (i := 6) rfl) dX9_answer_66 ?_
      refine q_icmp_ne (pc := 69) (tgt := 74) C dX9_answer_69 (by decide) (fun c5 => ?_) (fun c5 => ?_)
      · have hf := q_iteF hf c5
        refine q_aload_n (pc := 74) C dX9_answer_74 rfl 1 rfl ?_
        refine q_aload_n (pc := 75) C dX9_answer_75 rfl 1 rfl ?_
        refine m_g_6 (pc := 76) C hW n_X9_answer_X9 (List.mem_of_getElem? (i := 7) rfl) dX9_answer_76 ?_
        refine q_i2l (pc := 79) C dX9_answer_79 rfl ?_
        refine q_ldc2 (pc := 80) (v := (48271 : Int64)) C (List.mem_of_getElem? (i := 8) rfl) dX9_answer_80 ?_
        refine q_lmul (pc := 83) C dX9_answer_83 ?_
        refine q_ldc2 (pc := 84) (v := (2147483647 : Int64)) C (List.mem_of_getElem? (i := 9) rfl) dX9_answer_84 ?_
        refine q_lrem (pc := 87) C dX9_answer_87 (by decide +kernel) ?_
        refine q_l2i (pc := 88) C dX9_answer_88 rfl ?_
        refine m_p_6 (pc := 89) C hW n_X9_answer_X9 (List.mem_of_getElem? (i := 7) rfl) dX9_answer_89 (fun ws hW => ?_)
        refine q_aload_n (pc := 92) C dX9_answer_92 rfl 1 rfl ?_
        refine m_g_6 (pc := 93) C hW n_X9_answer_X9 (List.mem_of_getElem? (i := 7) rfl) dX9_answer_93 ?_
        refine q_iconst (pc := 96) C (3 : Int32) dX9_answer_96 q_ci_3 ?_
        refine q_irem (pc := 97) C dX9_answer_97 (by decide +kernel) ?_
        refine q_if_eq (pc := 98) (tgt := 103) C dX9_answer_98 (by decide) (fun c6 => ?_) (fun c6 => ?_)
        · have hf := q_iteT hf c6
          refine q_aload_n (pc := 103) C dX9_answer_103 rfl 1 rfl ?_
          refine q_dup (pc := 104) C dX9_answer_104 rfl ?_
          refine m_g_4 (pc := 105) C hW n_X9_answer_X9 (List.mem_of_getElem? (i := 5) rfl) dX9_answer_105 ?_
          refine q_iconst (pc := 108) C (1 : Int32) dX9_answer_108 q_ci_1 ?_
          refine q_iadd (pc := 109) C dX9_answer_109 ?_
          refine m_p_4 (pc := 110) C hW n_X9_answer_X9 (List.mem_of_getElem? (i := 5) rfl) dX9_answer_110 (fun ws hW => ?_)
          refine q_iload_n (pc := 113) C dX9_answer_113 rfl 0 rfl ?_
          refine q_if_ne (pc := 114) (tgt := 121) C dX9_answer_114 (by decide) (fun c7 => ?_) (fun c7 => ?_)
          · have hf := q_iteF hf c7
            refine q_iconst (pc := 121) C (0 : Int32) dX9_answer_121 q_ci_0 ?_
            refine q_wid (show kc ≤ 2 by omega) (show ks ≤ 8 by omega) ?_
            obtain rfl := q_some hf
            exact q_zret (pc := 122) C (by decide +kernel) dX9_answer_122 ⟨rfl, hW⟩
          · have hf := q_iteT hf c7
            refine q_iconst (pc := 117) C (1 : Int32) dX9_answer_117 q_ci_1 ?_
            refine q_goto (pc := 118) (tgt := 122) C dX9_answer_118 (by decide) ?_
            refine q_wid (show kc ≤ 2 by omega) (show ks ≤ 8 by omega) ?_
            obtain rfl := q_some hf
            exact q_zret (pc := 122) C (by decide +kernel) dX9_answer_122 ⟨rfl, hW⟩
        · have hf := q_iteF hf c6
          refine q_iload_n (pc := 101) C dX9_answer_101 rfl 0 rfl ?_
          refine q_wid (show kc ≤ 2 by omega) (show ks ≤ 8 by omega) ?_
          obtain rfl := q_some hf
          exact q_zret (pc := 102) C (q_b_nar _) dX9_answer_102 ⟨rfl, hW⟩
      · have hf := q_iteT hf c5
        refine q_iload_n (pc := 72) C dX9_answer_72 rfl 0 rfl ?_
        refine q_wid (show kc ≤ 2 by omega) (show ks ≤ 8 by omega) ?_
        obtain rfl := q_some hf
        exact q_zret (pc := 73) C (q_b_nar _) dX9_answer_73 ⟨rfl, hW⟩
  · have hf := q_iteT hf c1
    refine q_iconst (pc := 9) C (2 : Int32) dX9_answer_9 q_ci_2 ?_
    refine q_aload_n (pc := 10) C dX9_answer_10 rfl 0 rfl ?_
    refine q_iload_n (pc := 11) C dX9_answer_11 rfl 1 rfl ?_
    obtain ⟨u8, e9, hf⟩ := q_bind hf
    obtain ⟨_, he⟩ := hW.obj
    refine q_callV (pc := 12) (As := [.int a1]) (rest := [.int (2 : Int32)]) C (c_X9_livingWith l D cc N0 ga ad  E S a1 u8 e9 ws hW) gX9_answer_X9_livingWith rfl rfl z_X9_livingWith ⟨Nat.le_of_ble_eq_true rfl, Nat.le_of_ble_eq_true rfl⟩ he rfl rfl rfl (Nat.le_of_ble_eq_true rfl) dX9_answer_12 ⟨(show (kc) + 1 ≤ 2 by omega), (show (ks) + 4 ≤ 8 by omega)⟩ ?_
    rintro _ ws ⟨rfl, hW⟩
    refine q_nm (wz := ws) (ka := kc + 1) (kb := ks + 4) (sz := [.int u8, .int (2 : Int32)]) rfl rfl rfl rfl ?_
    refine q_imul (pc := 15) C dX9_answer_15 ?_
    refine q_aload_n (pc := 16) C dX9_answer_16 rfl 0 rfl ?_
    obtain ⟨u10, e11, hf⟩ := q_bind hf
    obtain ⟨_, he⟩ := hW.obj
    refine q_callV (pc := 17) (As := []) (rest := [.int ((2 : Int32) * u8)]) C (c_X9_living l D cc N0 ga ad  E S  u10 e11 ws hW) gX9_answer_X9_living rfl rfl z_X9_living ⟨Nat.le_of_ble_eq_true rfl, Nat.le_of_ble_eq_true rfl⟩ he rfl rfl rfl (Nat.le_of_ble_eq_true rfl) dX9_answer_17 ⟨(show (kc + 1) + 1 ≤ 2 by omega), (show (ks + 4) + 4 ≤ 8 by omega)⟩ ?_
    rintro _ ws ⟨rfl, hW⟩
    refine q_nm (wz := ws) (ka := kc + 2) (kb := ks + 8) (sz := [.int u10, .int ((2 : Int32) * u8)]) rfl rfl rfl rfl ?_
    refine q_icmp_lt (pc := 20) (tgt := 27) C dX9_answer_20 (by decide) (fun c12 => ?_) (fun c12 => ?_)
    · have hf := q_iteT hf c12
      refine q_iconst (pc := 27) C (0 : Int32) dX9_answer_27 q_ci_0 ?_
      refine q_wid (show kc + 2 ≤ 2 by omega) (show ks + 8 ≤ 8 by omega) ?_
      obtain rfl := q_some hf
      exact q_zret (pc := 28) C (by decide +kernel) dX9_answer_28 ⟨rfl, hW⟩
    · have hf := q_iteF hf c12
      refine q_iconst (pc := 23) C (1 : Int32) dX9_answer_23 q_ci_1 ?_
      refine q_goto (pc := 24) (tgt := 28) C dX9_answer_24 (by decide) ?_
      refine q_wid (show kc + 2 ≤ 2 by omega) (show ks + 8 ≤ 8 by omega) ?_
      obtain rfl := q_some hf
      exact q_zret (pc := 28) C (by decide +kernel) dX9_answer_28 ⟨rfl, hW⟩
theorem z_X9_asks : q_dsc yX9_asks 1 := ⟨by decide +kernel, by decide +kernel, by decide +kernel⟩
theorem n_X9_asks_X9 : ∀ w ∈ wsX90, w ∈ wsX9_asks := fun _ h => (List.mem_cons_of_mem _ (List.mem_append_left _ (List.mem_append_left _ (List.mem_append_right _ h))))
def f_X9_asks_58 (k16 : Int32 → Int32 → Int32 → Int32 → MS → Option (Bool × MS)) (v1 : Int32) (v2 : Int32) (vt0 : Int32) (vt1 : Int32) (vt2 : Int32) (rt3 : Nat) (u3 : Int32) (x3 : Int32) (S : MS) : Option (Bool × MS) := (if rt3 < S.2.1 0 ∧ q_in vt2 3 then k16 v1 v2 u3 x3 (mrow S 0 rt3 vt2.toNatClampNeg (vt1 + vt0)) else none)
def f_X9_asks_16b (k16 : Int32 → Int32 → Int32 → Int32 → MS → Option (Bool × MS)) (v1 : Int32) (v2 : Int32) (u3 : Int32) (x3 : Int32) (S : MS) : Option (Bool × MS) := (if (q_b (!decide (u3 = nI (S.2.1 0)))) = 0 then (if v2 = 0 then some (false, (mset S 3 ((S.1 3) + (1 : Int32)))) else if v2 = 1 then some (true, (mset S 3 ((S.1 3) + (1 : Int32)))) else none) else (if q_in u3 (S.2.1 0) ∧ x3 = S.1 20 then (if u3.toNatClampNeg < S.2.1 0 then (if u3.toNatClampNeg < S.2.1 0 then (if (q_b (f_X9_hasPoint (S.2.2.1 0 u3.toNatClampNeg 0) v1)) = v2 then f_X9_asks_58 k16 v1 v2 (0 : Int32) (S.2.2.1 0 u3.toNatClampNeg 1) (1 : Int32) u3.toNatClampNeg (u3 + (1 : Int32)) x3 S else f_X9_asks_58 k16 v1 v2 (1 : Int32) (S.2.2.1 0 u3.toNatClampNeg 1) (1 : Int32) u3.toNatClampNeg (u3 + (1 : Int32)) x3 S) else none) else none) else none))
def f_X9_asks_16 : Nat → Int32 → Int32 → Int32 → Int32 → MS → Option (Bool × MS)
  | 0, _, _, _, _, _ => none
  | n + 1, v1, v2, u3, x3, S => f_X9_asks_16b  (f_X9_asks_16  n) v1 v2 u3 x3 S
def f_X9_asks (a1 : Int32) (S : MS) : Option (Bool × MS) := ((f_X9_answer a1 S).bind fun u1 => f_X9_asks_16 1000 a1 (q_b u1.1) (0 : Int32) (u1.2.1 20) u1.2)
set_option maxRecDepth 100000 in
set_option maxHeartbeats 8000000 in
theorem w_X9_asks_58 {p : Program} {l : Launch} {e : Env} {s : State} {m : MethodId} {args : Array Value} {below : List Frame} {meth : Method} {c : Code} {D : va_G} {cc : Nat → ClassId} {N0 : Nat} {ga : Nat → Nat} {E : va_W} {ad : Nat → Nat → Nat} {k16 : Int32 → Int32 → Int32 → Int32 → MS → Option (Bool × MS)} {n16 : Nat} {v : (Bool × MS)} (C : q_C p s m args meth c cX9_asks 5 (some .boolean) wsX9_asks RX9 D cc N0) (hk16 : ∀ (kc : Nat) (ks : Nat) (v1 : Int32) (v2 : Int32) (u3 : Int32) (x3 : Int32) (S : MS) (q3 : Nat) (z3 : Int32)  (ws : va_W), k16 v1 v2 u3 x3 S = some v → mW cc ga ad S ((q3, q_it u3 z3 x3 (ga 1)) :: E) ws → kc + 0 + n16 * 0 ≤ 3 → ks + 0 + n16 * 0 ≤ 12 → q_WA p l e (q_rm (5) (136) 3 12) s m args below meth c D N0 5 (MQ below (q_Q D N0 (fun rv w1 => rv = some (.int (q_b v.1)) ∧ mW cc ga ad v.2 E w1)) args s 3 12 (q_A N0)) kc ks ws 16 [(0, .ref (ga 0)), (1, .int v1), (2, .int v2), (3, .ref q3)] []) (kc : Nat) (ks : Nat) (v1 : Int32) (v2 : Int32) (vt0 : Int32) (vt1 : Int32) (vt2 : Int32) (rt3 : Nat) (u3 : Int32) (x3 : Int32) (S : MS) (q3 : Nat) (z3 : Int32)  (ws : va_W) : f_X9_asks_58 k16 v1 v2 vt0 vt1 vt2 rt3 u3 x3 S = some v → mW cc ga ad S ((q3, q_it u3 z3 x3 (ga 1)) :: E) ws → kc + 0 + n16 * 0 ≤ 3 → ks + 0 + n16 * 0 ≤ 12 → q_WA p l e (q_rm (5) (136) 3 12) s m args below meth c D N0 5 (MQ below (q_Q D N0 (fun rv w1 => rv = some (.int (q_b v.1)) ∧ mW cc ga ad v.2 E w1)) args s 3 12 (q_A N0)) kc ks ws 58 [(0, .ref (ga 0)), (1, .int v1), (2, .int v2), (3, .ref q3)] [.int vt0, .int vt1, .int vt2, .ref (ad 0 rt3)] := by
  intro hf hW b1 b2
  refine q_iadd (pc := 58) C dX9_asks_58 ?_
  obtain ⟨g10, hf⟩ := q_gd hf
  refine m_rast_0 (pc := 59) C hW g10.1 g10.2 dX9_asks_59 (fun ws hW => ?_)
  have hW : mW cc ga ad (mrow S 0 rt3 vt2.toNatClampNeg (vt1 + vt0)) ((q3, q_it u3 z3 x3 (ga 1)) :: E) ws := hW
  refine q_goto (pc := 60) (tgt := 16) C dX9_asks_60 (by decide) ?_
  refine q_sub (lvq := [(0, .ref (ga 0)), (1, .int v1), (2, .int v2), (3, .ref q3)]) [0, 1, 2, 3] rfl ?_
  exact hk16 (kc) (ks) v1 v2 u3 x3 (mrow S 0 rt3 vt2.toNatClampNeg (vt1 + vt0)) q3 z3 ws hf hW (by omega) (by omega)
set_option maxRecDepth 100000 in
set_option maxHeartbeats 8000000 in
theorem w_X9_asks_16 {p : Program} {l : Launch} {e : Env} {s : State} {m : MethodId} {args : Array Value} {below : List Frame} {meth : Method} {c : Code} {D : va_G} {cc : Nat → ClassId} {N0 : Nat} {ga : Nat → Nat} {E : va_W} {ad : Nat → Nat → Nat} {v : (Bool × MS)} (C : q_C p s m args meth c cX9_asks 5 (some .boolean) wsX9_asks RX9 D cc N0)  : ∀ (n : Nat) (kc : Nat) (ks : Nat) (v1 : Int32) (v2 : Int32) (u3 : Int32) (x3 : Int32) (S : MS) (q3 : Nat) (z3 : Int32)  (ws : va_W), f_X9_asks_16  n v1 v2 u3 x3 S = some v → mW cc ga ad S ((q3, q_it u3 z3 x3 (ga 1)) :: E) ws → kc + 0 + n * 0 ≤ 3 → ks + 0 + n * 0 ≤ 12 → q_WA p l e (q_rm (5) (136) 3 12) s m args below meth c D N0 5 (MQ below (q_Q D N0 (fun rv w1 => rv = some (.int (q_b v.1)) ∧ mW cc ga ad v.2 E w1)) args s 3 12 (q_A N0)) kc ks ws 16 [(0, .ref (ga 0)), (1, .int v1), (2, .int v2), (3, .ref q3)] [] := by
  intro n
  induction n with
  | zero => intro kc ks v1 v2 u3 x3 S q3 z3 ws hf; cases hf
  | succ n ih =>
    intro kc ks v1 v2 u3 x3 S q3 z3 ws hf hW b1 b2
    have hk16 : ∀ (kc : Nat) (ks : Nat) (v1 : Int32) (v2 : Int32) (u3 : Int32) (x3 : Int32) (S : MS) (q3 : Nat) (z3 : Int32)  (ws : va_W), f_X9_asks_16  n v1 v2 u3 x3 S = some v → mW cc ga ad S ((q3, q_it u3 z3 x3 (ga 1)) :: E) ws → kc + 0 + n * 0 ≤ 3 → ks + 0 + n * 0 ≤ 12 → q_WA p l e (q_rm (5) (136) 3 12) s m args below meth c D N0 5 (MQ below (q_Q D N0 (fun rv w1 => rv = some (.int (q_b v.1)) ∧ mW cc ga ad v.2 E w1)) args s 3 12 (q_A N0)) kc ks ws 16 [(0, .ref (ga 0)), (1, .int v1), (2, .int v2), (3, .ref q3)] [] := ih
    have hf : f_X9_asks_16b  (f_X9_asks_16  n) v1 v2 u3 x3 S = some v := hf
    simp only [Nat.succ_mul, Nat.add_mul] at b1 b2
    refine q_aload_n (pc := 16) C dX9_asks_16 rfl 3 rfl ?_
    refine m_has_0 (pc := 17) C hW gX9_asks_Jx35411_hasNext_aae02_f76Jx35411 ⟨Nat.le_of_ble_eq_true rfl, Nat.le_of_ble_eq_true rfl⟩ (Nat.le_of_ble_eq_true rfl) dX9_asks_17 ⟨(show (kc) ≤ 3 by omega), (show (ks) ≤ 12 by omega)⟩ ?_
    refine q_if_eq (pc := 22) (tgt := 63) C dX9_asks_22 (by decide) (fun c4 => ?_) (fun c4 => ?_)
    · have hf := q_iteT hf c4
      refine q_aload_n (pc := 63) C dX9_asks_63 rfl 0 rfl ?_
      refine q_dup (pc := 64) C dX9_asks_64 rfl ?_
      refine m_g_3 (pc := 65) C hW n_X9_asks_X9 (List.mem_of_getElem? (i := 3) rfl) dX9_asks_65 ?_
      refine q_iconst (pc := 68) C (1 : Int32) dX9_asks_68 q_ci_1 ?_
      refine q_iadd (pc := 69) C dX9_asks_69 ?_
      refine m_p_3 (pc := 70) C hW n_X9_asks_X9 (List.mem_of_getElem? (i := 3) rfl) dX9_asks_70 (fun ws hW => ?_)
      refine q_iload_n (pc := 73) C dX9_asks_73 rfl 2 rfl ?_
      refine q_wid (show kc ≤ 3 by omega) (show ks ≤ 12 by omega) ?_
      refine t_drop hW (fun ws hW => ?_)
      have hz := q_z01 hf
      rcases hz with ⟨c5, hf⟩ | ⟨c5, hf⟩
      · obtain rfl := q_some hf
        rw [c5]
        exact q_zret (pc := 74) C (by decide +kernel) dX9_asks_74 ⟨rfl, hW⟩
      · obtain rfl := q_some hf
        rw [c5]
        exact q_zret (pc := 74) C (by decide +kernel) dX9_asks_74 ⟨rfl, hW⟩
    · have hf := q_iteF hf c4
      refine q_aload_n (pc := 25) C dX9_asks_25 rfl 3 rfl ?_
      obtain ⟨g6, hf⟩ := q_gd hf
      refine m_next_0 (pc := 26) C hW g6 gX9_asks_Jx35411_next_0502b_f82Jx35411 ⟨Nat.le_of_ble_eq_true rfl, Nat.le_of_ble_eq_true rfl⟩ (Nat.le_of_ble_eq_true rfl) dX9_asks_26 ⟨(show (kc) ≤ 3 by omega), (show (ks) ≤ 12 by omega)⟩ (fun ws hW => ?_)
      refine m_cast_0 (pc := 31) C hW g6.1.2 (List.mem_of_getElem? (i := 2) rfl) dX9_asks_31 ?_
      refine q_astore (pc := 34) (lvq := [(4, .ref (ad 0 u3.toNatClampNeg)), (0, .ref (ga 0)), (1, .int v1), (2, .int v2), (3, .ref q3)]) C dX9_asks_34 (by decide) rfl ?_
      refine q_aload (pc := 36) C dX9_asks_36 0 rfl ?_
      refine q_iconst (pc := 38) C (1 : Int32) dX9_asks_38 q_ci_1 ?_
      refine q_dup2_11 (pc := 39) C dX9_asks_39 rfl rfl ?_
      obtain ⟨g7, hf⟩ := q_gd hf
      refine m_rald_0 (pc := 40) C hW g7 ⟨by decide, by decide⟩ dX9_asks_40 ?_
      refine q_nm (wz := ws) (ka := kc) (kb := ks) (sz := [.int (S.2.2.1 0 u3.toNatClampNeg 1), .int (1 : Int32), .ref (ad 0 u3.toNatClampNeg)]) rfl rfl rfl rfl ?_
      refine q_aload (pc := 41) C dX9_asks_41 0 rfl ?_
      refine q_iconst (pc := 43) C (0 : Int32) dX9_asks_43 q_ci_0 ?_
      obtain ⟨g8, hf⟩ := q_gd hf
      refine m_rald_0 (pc := 44) C hW g8 ⟨by decide, by decide⟩ dX9_asks_44 ?_
      refine q_nm (wz := ws) (ka := kc) (kb := ks) (sz := [.int (S.2.2.1 0 u3.toNatClampNeg 0), .int (S.2.2.1 0 u3.toNatClampNeg 1), .int (1 : Int32), .ref (ad 0 u3.toNatClampNeg)]) rfl rfl rfl rfl ?_
      refine q_iload_n (pc := 45) C dX9_asks_45 rfl 2 rfl ?_
      refine q_callS (pc := 46) (As := [.int (S.2.2.1 0 u3.toNatClampNeg 0), .int v1]) (rest := [.int (S.2.2.1 0 u3.toNatClampNeg 1), .int (1 : Int32), .ref (ad 0 u3.toNatClampNeg)]) C (c_X9_hasPoint l D cc N0 ws (S.2.2.1 0 u3.toNatClampNeg 0) v1 _ rfl) gX9_asks_X9_hasPoint rfl z_X9_hasPoint ⟨Nat.le_of_ble_eq_true rfl, Nat.le_of_ble_eq_true rfl⟩ rfl rfl (Nat.le_of_ble_eq_true rfl) dX9_asks_46 ⟨(show (kc) ≤ 3 by omega), (show (ks) ≤ 12 by omega)⟩ ?_
      refine q_after (rv := (some (.int (q_b (f_X9_hasPoint (S.2.2.1 0 u3.toNatClampNeg 0) v1))))) (w0 := ws) (st2 := [.int (q_b (f_X9_hasPoint (S.2.2.1 0 u3.toNatClampNeg 0) v1)), .int (S.2.2.1 0 u3.toNatClampNeg 1), .int (1 : Int32), .ref (ad 0 u3.toNatClampNeg)]) rfl rfl rfl ?_
      refine q_iload_n (pc := 49) C dX9_asks_49 rfl 3 rfl ?_
      refine q_icmp_ne (pc := 50) (tgt := 57) C dX9_asks_50 (by decide) (fun c9 => ?_) (fun c9 => ?_)
      · have hf := q_iteF hf c9
        refine q_iconst (pc := 57) C (1 : Int32) dX9_asks_57 q_ci_1 ?_
        refine q_sub (lvq := [(0, .ref (ga 0)), (1, .int v1), (2, .int v2), (3, .ref q3)]) [1, 2, 3, 4] rfl ?_
        exact w_X9_asks_58 C hk16 (kc) (ks) v1 v2 (1 : Int32) (S.2.2.1 0 u3.toNatClampNeg 1) (1 : Int32) u3.toNatClampNeg (u3 + (1 : Int32)) x3 S q3 u3 ws hf hW (by omega) (by omega)
      · have hf := q_iteT hf c9
        refine q_iconst (pc := 53) C (0 : Int32) dX9_asks_53 q_ci_0 ?_
        refine q_goto (pc := 54) (tgt := 58) C dX9_asks_54 (by decide) ?_
        refine q_sub (lvq := [(0, .ref (ga 0)), (1, .int v1), (2, .int v2), (3, .ref q3)]) [1, 2, 3, 4] rfl ?_
        exact w_X9_asks_58 C hk16 (kc) (ks) v1 v2 (0 : Int32) (S.2.2.1 0 u3.toNatClampNeg 1) (1 : Int32) u3.toNatClampNeg (u3 + (1 : Int32)) x3 S q3 u3 ws hf hW (by omega) (by omega)
set_option maxRecDepth 100000 in
set_option maxHeartbeats 8000000 in
theorem c_X9_asks (l : Launch) (D : va_G) (cc : Nat → ClassId) (N0 : Nat) (ga : Nat → Nat) (ad : Nat → Nat → Nat) (E : va_W) (S : MS) (a1 : Int32) (v : (Bool × MS)) (hf : f_X9_asks a1 S = some v) (ws : va_W) (hW : mW cc ga ad S E ws) : q_Met l yX9_asks wsX9_asks 5 136 D cc N0 ws [.ref (ga 0), .int a1] (fun rv w1 => rv = some (.int (q_b v.1)) ∧ mW cc ga ad v.2 E w1) 3 12 := by
  refine q_ofW (code := cX9_asks) (nL := 5) (ret := (some .boolean)) (by decide +kernel) rfl (Nat.le_of_ble_eq_true rfl) (fun p e s m below meth c C _ => ?_)
  refine q_lv (lv2 := [(0, .ref (ga 0)), (1, .int a1)]) rfl ?_
  obtain ⟨kc, hkc⟩ : ∃ z, z = 0 := ⟨_, rfl⟩
  obtain ⟨ks, hks⟩ : ∃ z, z = 0 := ⟨_, rfl⟩
  refine q_nm (wz := ws) (ka := kc) (kb := ks) (sz := []) rfl hkc.symm hks.symm rfl ?_
  refine q_aload_n (pc := 0) C dX9_asks_0 rfl 0 rfl ?_
  refine q_iload_n (pc := 1) C dX9_asks_1 rfl 1 rfl ?_
  obtain ⟨u1, e2, hf⟩ := q_bind hf
  obtain ⟨_, he⟩ := hW.obj
  refine q_callV (pc := 2) (As := [.int a1]) (rest := []) C (c_X9_answer l D cc N0 ga ad  E S a1 u1 e2 ws hW) gX9_asks_X9_answer rfl rfl z_X9_answer ⟨Nat.le_of_ble_eq_true rfl, Nat.le_of_ble_eq_true rfl⟩ he rfl rfl rfl (Nat.le_of_ble_eq_true rfl) dX9_asks_2 ⟨(show (kc) + 2 ≤ 3 by omega), (show (ks) + 8 ≤ 12 by omega)⟩ ?_
  rintro _ ws ⟨rfl, hW⟩
  refine q_nm (wz := ws) (ka := kc + 2) (kb := ks + 8) (sz := [.int (q_b u1.1)]) rfl rfl rfl rfl ?_
  refine q_istore_n (pc := 5) (lvq := [(2, .int (q_b u1.1)), (0, .ref (ga 0)), (1, .int a1)]) C dX9_asks_5 rfl (by decide) rfl ?_
  refine q_aload_n (pc := 6) C dX9_asks_6 rfl 1 rfl ?_
  refine m_g_1 (pc := 7) C hW n_X9_asks_X9 (List.mem_of_getElem? (i := 1) rfl) dX9_asks_7 ?_
  refine m_iter_0 (pc := 10) C hW gX9_asks_Jx4a65c_iterator_32c93_f72Jx4a65c ⟨Nat.le_of_ble_eq_true rfl, Nat.le_of_ble_eq_true rfl⟩ (Nat.le_of_ble_eq_true rfl) dX9_asks_10 ⟨(show (kc + 2) + 1 ≤ 3 by omega), (show (ks + 8) + 4 ≤ 12 by omega)⟩ (fun it3 ws hW => ?_)
  refine q_nm (wz := ws) (ka := kc + 3) (kb := ks + 12) (sz := [.ref it3]) rfl rfl rfl rfl ?_
  refine q_astore_n (pc := 15) (lvq := [(3, .ref it3), (2, .int (q_b u1.1)), (0, .ref (ga 0)), (1, .int a1)]) C dX9_asks_15 rfl (by decide) rfl ?_
  refine q_sub (lvq := [(0, .ref (ga 0)), (1, .int a1), (2, .int (q_b u1.1)), (3, .ref it3)]) [2, 3, 1, 0] rfl ?_
  exact w_X9_asks_16 C 1000 (kc + 3) (ks + 12) a1 (q_b u1.1) (0 : Int32) (u1.2.1 20) u1.2 it3 (-1 : Int32) ws hf hW (by omega) (by omega)
theorem z_X9_ask : q_dsc yX9_ask 1 := ⟨by decide +kernel, by decide +kernel, by decide +kernel⟩
theorem n_X9_ask_X9 : ∀ w ∈ wsX90, w ∈ wsX9_ask := fun _ h => (List.mem_cons_of_mem _ (List.mem_append_left _ (List.mem_append_left _ (List.mem_append_right _ h))))
def f_X9_ask_48 (v1 : Int32) (vt0 : Int32) (S : MS) : Option (Bool × MS) := ((f_X9_isWrong vt0 S).bind fun u4 => (if (q_b u4.1) = 0 then ((f_X9_asks v1 u4.2).bind fun u7 => (if (q_b u7.1) = 0 then some (false, u7.2) else some (true, u7.2))) else some (false, u4.2)))
def f_X9_ask (a1 : Int32) (S : MS) : Option (Bool × MS) := (if (q_b (f_X9_isBetween a1.toInt64 (0 : Int64) (((S.1 2) - (1 : Int32)).toInt64))) = 0 then f_X9_ask_48 a1 (1 : Int32) S else (if (S.1 7) = (45 : Int32) then f_X9_ask_48 a1 (2 : Int32) S else (if (S.1 3) = (40 : Int32) then f_X9_ask_48 a1 (3 : Int32) S else f_X9_ask_48 a1 (0 : Int32) S)))
set_option maxRecDepth 100000 in
set_option maxHeartbeats 8000000 in
theorem w_X9_ask_48 {p : Program} {l : Launch} {e : Env} {s : State} {m : MethodId} {args : Array Value} {below : List Frame} {meth : Method} {c : Code} {D : va_G} {cc : Nat → ClassId} {N0 : Nat} {ga : Nat → Nat} {E : va_W} {ad : Nat → Nat → Nat} {v : (Bool × MS)} (C : q_C p s m args meth c cX9_ask 2 (some .boolean) wsX9_ask RX9 D cc N0)  (kc : Nat) (ks : Nat) (v1 : Int32) (vt0 : Int32) (S : MS)  (ws : va_W) : f_X9_ask_48  v1 vt0 S = some v → mW cc ga ad S E ws → kc + 3 ≤ 3 → ks + 12 ≤ 12 → q_WA p l e (q_rm (6) (160) 3 12) s m args below meth c D N0 2 (MQ below (q_Q D N0 (fun rv w1 => rv = some (.int (q_b v.1)) ∧ mW cc ga ad v.2 E w1)) args s 3 12 (q_A N0)) kc ks ws 48 [(0, .ref (ga 0)), (1, .int v1)] [.int vt0, .ref (ga 0)] := by
  intro hf hW b1 b2
  obtain ⟨u4, e5, hf⟩ := q_bind hf
  obtain ⟨_, he⟩ := hW.obj
  refine q_callV (pc := 48) (As := [.int vt0]) (rest := []) C (c_X9_isWrong l D cc N0 ga ad  E S vt0 u4 e5 ws hW) gX9_ask_X9_isWrong rfl rfl z_X9_isWrong ⟨Nat.le_of_ble_eq_true rfl, Nat.le_of_ble_eq_true rfl⟩ he rfl rfl rfl (Nat.le_of_ble_eq_true rfl) dX9_ask_48 ⟨(show (kc) + 0 ≤ 3 by omega), (show (ks) + 0 ≤ 12 by omega)⟩ ?_
  rintro _ ws ⟨rfl, hW⟩
  refine q_nm (wz := ws) (ka := kc) (kb := ks) (sz := [.int (q_b u4.1)]) rfl rfl rfl rfl ?_
  refine q_if_ne (pc := 51) (tgt := 66) C dX9_ask_51 (by decide) (fun c6 => ?_) (fun c6 => ?_)
  · have hf := q_iteF hf c6
    refine q_iconst (pc := 66) C (0 : Int32) dX9_ask_66 q_ci_0 ?_
    refine q_wid (show kc ≤ 3 by omega) (show ks ≤ 12 by omega) ?_
    obtain rfl := q_some hf
    exact q_zret (pc := 67) C (by decide +kernel) dX9_ask_67 ⟨rfl, hW⟩
  · have hf := q_iteT hf c6
    refine q_aload_n (pc := 54) C dX9_ask_54 rfl 0 rfl ?_
    refine q_iload_n (pc := 55) C dX9_ask_55 rfl 1 rfl ?_
    obtain ⟨u7, e8, hf⟩ := q_bind hf
    obtain ⟨_, he⟩ := hW.obj
    refine q_callV (pc := 56) (As := [.int v1]) (rest := []) C (c_X9_asks l D cc N0 ga ad  E u4.2 v1 u7 e8 ws hW) gX9_ask_X9_asks rfl rfl z_X9_asks ⟨Nat.le_of_ble_eq_true rfl, Nat.le_of_ble_eq_true rfl⟩ he rfl rfl rfl (Nat.le_of_ble_eq_true rfl) dX9_ask_56 ⟨(show (kc) + 3 ≤ 3 by omega), (show (ks) + 12 ≤ 12 by omega)⟩ ?_
    rintro _ ws ⟨rfl, hW⟩
    refine q_nm (wz := ws) (ka := kc + 3) (kb := ks + 12) (sz := [.int (q_b u7.1)]) rfl rfl rfl rfl ?_
    refine q_if_eq (pc := 59) (tgt := 66) C dX9_ask_59 (by decide) (fun c9 => ?_) (fun c9 => ?_)
    · have hf := q_iteT hf c9
      refine q_iconst (pc := 66) C (0 : Int32) dX9_ask_66 q_ci_0 ?_
      refine q_wid (show kc + 3 ≤ 3 by omega) (show ks + 12 ≤ 12 by omega) ?_
      obtain rfl := q_some hf
      exact q_zret (pc := 67) C (by decide +kernel) dX9_ask_67 ⟨rfl, hW⟩
    · have hf := q_iteF hf c9
      refine q_iconst (pc := 62) C (1 : Int32) dX9_ask_62 q_ci_1 ?_
      refine q_goto (pc := 63) (tgt := 67) C dX9_ask_63 (by decide) ?_
      refine q_wid (show kc + 3 ≤ 3 by omega) (show ks + 12 ≤ 12 by omega) ?_
      obtain rfl := q_some hf
      exact q_zret (pc := 67) C (by decide +kernel) dX9_ask_67 ⟨rfl, hW⟩
set_option maxRecDepth 100000 in
set_option maxHeartbeats 8000000 in
theorem c_X9_ask (l : Launch) (D : va_G) (cc : Nat → ClassId) (N0 : Nat) (ga : Nat → Nat) (ad : Nat → Nat → Nat) (E : va_W) (S : MS) (a1 : Int32) (v : (Bool × MS)) (hf : f_X9_ask a1 S = some v) (ws : va_W) (hW : mW cc ga ad S E ws) : q_Met l yX9_ask wsX9_ask 6 160 D cc N0 ws [.ref (ga 0), .int a1] (fun rv w1 => rv = some (.int (q_b v.1)) ∧ mW cc ga ad v.2 E w1) 3 12 := by
  refine q_ofW (code := cX9_ask) (nL := 2) (ret := (some .boolean)) (by decide +kernel) rfl (Nat.le_of_ble_eq_true rfl) (fun p e s m below meth c C _ => ?_)
  refine q_lv (lv2 := [(0, .ref (ga 0)), (1, .int a1)]) rfl ?_
  obtain ⟨kc, hkc⟩ : ∃ z, z = 0 := ⟨_, rfl⟩
  obtain ⟨ks, hks⟩ : ∃ z, z = 0 := ⟨_, rfl⟩
  refine q_nm (wz := ws) (ka := kc) (kb := ks) (sz := []) rfl hkc.symm hks.symm rfl ?_
  refine q_aload_n (pc := 0) C dX9_ask_0 rfl 0 rfl ?_
  refine q_iload_n (pc := 1) C dX9_ask_1 rfl 1 rfl ?_
  refine q_i2l (pc := 2) C dX9_ask_2 rfl ?_
  refine q_lconst (pc := 3) C (0 : Int64) dX9_ask_3 q_cl_0 ?_
  refine q_aload_n (pc := 4) C dX9_ask_4 rfl 0 rfl ?_
  refine m_g_2 (pc := 5) C hW n_X9_ask_X9 (List.mem_of_getElem? (i := 1) rfl) dX9_ask_5 ?_
  refine q_iconst (pc := 8) C (1 : Int32) dX9_ask_8 q_ci_1 ?_
  refine q_isub (pc := 9) C dX9_ask_9 ?_
  refine q_i2l (pc := 10) C dX9_ask_10 rfl ?_
  refine q_callS (pc := 11) (As := [.long a1.toInt64, .long (0 : Int64), .long (((S.1 2) - (1 : Int32)).toInt64)]) (rest := [.ref (ga 0)]) C (c_X9_isBetween l D cc N0 ws a1.toInt64 (0 : Int64) (((S.1 2) - (1 : Int32)).toInt64) _ rfl) gX9_ask_X9_isBetween rfl z_X9_isBetween ⟨Nat.le_of_ble_eq_true rfl, Nat.le_of_ble_eq_true rfl⟩ rfl rfl (Nat.le_of_ble_eq_true rfl) dX9_ask_11 ⟨(show (kc) ≤ 3 by omega), (show (ks) ≤ 12 by omega)⟩ ?_
  refine q_after (rv := (some (.int (q_b (f_X9_isBetween a1.toInt64 (0 : Int64) (((S.1 2) - (1 : Int32)).toInt64)))))) (w0 := ws) (st2 := [.int (q_b (f_X9_isBetween a1.toInt64 (0 : Int64) (((S.1 2) - (1 : Int32)).toInt64))), .ref (ga 0)]) rfl rfl rfl ?_
  refine q_if_ne (pc := 14) (tgt := 21) C dX9_ask_14 (by decide) (fun c1 => ?_) (fun c1 => ?_)
  · have hf := q_iteF hf c1
    refine q_aload_n (pc := 21) C dX9_ask_21 rfl 0 rfl ?_
    refine m_g_7 (pc := 22) C hW n_X9_ask_X9 (List.mem_of_getElem? (i := 2) rfl) dX9_ask_22 ?_
    refine q_bipush (pc := 25) C (45 : Int32) dX9_ask_25 q_cb_45 ?_
    refine q_icmp_ne (pc := 27) (tgt := 34) C dX9_ask_27 (by decide) (fun c2 => ?_) (fun c2 => ?_)
    · have hf := q_iteF hf c2
      refine q_aload_n (pc := 34) C dX9_ask_34 rfl 0 rfl ?_
      refine m_g_3 (pc := 35) C hW n_X9_ask_X9 (List.mem_of_getElem? (i := 3) rfl) dX9_ask_35 ?_
      refine q_bipush (pc := 38) C (40 : Int32) dX9_ask_38 q_cb_40 ?_
      refine q_icmp_ne (pc := 40) (tgt := 47) C dX9_ask_40 (by decide) (fun c3 => ?_) (fun c3 => ?_)
      · have hf := q_iteF hf c3
        refine q_iconst (pc := 47) C (0 : Int32) dX9_ask_47 q_ci_0 ?_
        refine q_sub (lvq := [(0, .ref (ga 0)), (1, .int a1)]) [0, 1] rfl ?_
        exact w_X9_ask_48 C (kc) (ks) a1 (0 : Int32) S ws hf hW (by omega) (by omega)
      · have hf := q_iteT hf c3
        refine q_iconst (pc := 43) C (3 : Int32) dX9_ask_43 q_ci_3 ?_
        refine q_goto (pc := 44) (tgt := 48) C dX9_ask_44 (by decide) ?_
        refine q_sub (lvq := [(0, .ref (ga 0)), (1, .int a1)]) [0, 1] rfl ?_
        exact w_X9_ask_48 C (kc) (ks) a1 (3 : Int32) S ws hf hW (by omega) (by omega)
    · have hf := q_iteT hf c2
      refine q_iconst (pc := 30) C (2 : Int32) dX9_ask_30 q_ci_2 ?_
      refine q_goto (pc := 31) (tgt := 48) C dX9_ask_31 (by decide) ?_
      refine q_sub (lvq := [(0, .ref (ga 0)), (1, .int a1)]) [0, 1] rfl ?_
      exact w_X9_ask_48 C (kc) (ks) a1 (2 : Int32) S ws hf hW (by omega) (by omega)
  · have hf := q_iteT hf c1
    refine q_iconst (pc := 17) C (1 : Int32) dX9_ask_17 q_ci_1 ?_
    refine q_goto (pc := 18) (tgt := 48) C dX9_ask_18 (by decide) ?_
    refine q_sub (lvq := [(0, .ref (ga 0)), (1, .int a1)]) [0, 1] rfl ?_
    exact w_X9_ask_48 C (kc) (ks) a1 (1 : Int32) S ws hf hW (by omega) (by omega)
