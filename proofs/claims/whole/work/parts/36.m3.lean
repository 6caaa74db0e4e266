theorem kfit_0 : True := trivial
def kfit (a : Int32) : Nat := if a = 1 then 1 else if a = 2 then 16 else 729
theorem z_X9_experts : q_dsc yX9_experts 1 := ⟨by decide +kernel, by decide +kernel, by decide +kernel⟩
theorem n_X9_experts_X9 : ∀ w ∈ wsX90, w ∈ wsX9_experts := fun _ h => (List.mem_cons_of_mem _ (List.mem_append_left _ (List.mem_append_right _ h)))
def f_X9_experts_52b (k52 : Int32 → Int32 → Int32 → MS → Option (Int32 × MS)) (v1 : Int32) (v2 : Int32) (v3 : Int32) (S : MS) : Option (Int32 × MS) := (if v1 ≤ v3 then some (v2, S) else (if S.2.1 1 < 64 then k52 v1 v2 (v3 + (1 : Int32)) (madd S 1 (upd (upd (fun _ => 0) 0 (1024 : Int32)) 1 (0 : Int32))) else none))
def f_X9_experts_52 : Nat → Int32 → Int32 → Int32 → MS → Option (Int32 × MS)
  | 0, _, _, _, _ => none
  | n + 1, v1, v2, v3, S => f_X9_experts_52b  (f_X9_experts_52  n) v1 v2 v3 S
def f_X9_experts_18 (v1 : Int32) (vt0 : Int32) (S : MS) : Option (Int32 × MS) := ((f_X9_isWrong vt0 S).bind fun u2 => (if (q_b u2.1) = 0 then f_X9_experts_52 10 v1 (nI (u2.2.2.1 1)) (0 : Int32) (mset (mclr u2.2 1) 10 (0 : Int32)) else some ((0 : Int32), u2.2)))
def f_X9_experts (a1 : Int32) (S : MS) : Option (Int32 × MS) := (if (q_b (f_X9_isBetween a1.toInt64 (1 : Int64) (6 : Int64))) = 0 then f_X9_experts_18 a1 (1 : Int32) S else f_X9_experts_18 a1 (0 : Int32) S)
set_option maxRecDepth 100000 in
set_option maxHeartbeats 8000000 in
theorem w_X9_experts_52 {p : Program} {l : Launch} {e : Env} {s : State} {m : MethodId} {args : Array Value} {below : List Frame} {meth : Method} {c : Code} {D : va_G} {cc : Nat → ClassId} {N0 : Nat} {ga : Nat → Nat} {E : va_W} {v : (Int32 × MS)} (C : q_C p s m args meth c cX9_experts 4 (some .int) wsX9_experts RX9 D cc N0)  : ∀ (n : Nat) (kc : Nat) (ks : Nat) (v1 : Int32) (v2 : Int32) (v3 : Int32) (S : MS) (ad : Nat → Nat → Nat) (ws : va_W), f_X9_experts_52  n v1 v2 v3 S = some v → mW cc ga ad S E ws → kc + 0 + n * 2 ≤ 20 → ks + 0 + n * 102 ≤ 1020 → q_WA p l e (q_rm (10) (400) 20 1020) s m args below meth c D N0 4 (MQ below (q_Q D N0 (fun rv w1 => rv = some (.int v.1) ∧ ∃ ad : Nat → Nat → Nat, mW cc ga ad v.2 E w1)) args s 20 1020 (q_A N0)) kc ks ws 52 [(0, .ref (ga 0)), (1, .int v1), (2, .int v2), (3, .int v3)] [] := by
  intro n
  induction n with
  | zero => intro kc ks v1 v2 v3 S ad ws hf; cases hf
  | succ n ih =>
    intro kc ks v1 v2 v3 S ad ws hf hW b1 b2
    have hk52 : ∀ (kc : Nat) (ks : Nat) (v1 : Int32) (v2 : Int32) (v3 : Int32) (S : MS) (ad : Nat → Nat → Nat) (ws : va_W), f_X9_experts_52  n v1 v2 v3 S = some v → mW cc ga ad S E ws → kc + 0 + n * 2 ≤ 20 → ks + 0 + n * 102 ≤ 1020 → q_WA p l e (q_rm (10) (400) 20 1020) s m args below meth c D N0 4 (MQ below (q_Q D N0 (fun rv w1 => rv = some (.int v.1) ∧ ∃ ad : Nat → Nat → Nat, mW cc ga ad v.2 E w1)) args s 20 1020 (q_A N0)) kc ks ws 52 [(0, .ref (ga 0)), (1, .int v1), (2, .int v2), (3, .int v3)] [] := ih
    have hf : f_X9_experts_52b  (f_X9_experts_52  n) v1 v2 v3 S = some v := hf
    simp only [Nat.succ_mul, Nat.add_mul] at b1 b2
    refine q_iload_n (pc := 52) C dX9_experts_52 rfl 3 rfl ?_
    refine q_iload_n (pc := 53) C dX9_experts_53 rfl 1 rfl ?_
    refine q_icmp_ge (pc := 54) (tgt := 86) C dX9_experts_54 (by decide) (fun c5 => ?_) (fun c5 => ?_)
    · have hf := q_iteT hf c5
      refine q_iload_n (pc := 86) C dX9_experts_86 rfl 2 rfl ?_
      refine q_wid (show kc ≤ 20 by omega) (show ks ≤ 1020 by omega) ?_
      obtain rfl := q_some hf
      exact q_iret (pc := 87) C dX9_experts_87 ⟨rfl, ad, hW⟩
    · have hf := q_iteF hf c5
      refine q_aload_n (pc := 57) C dX9_experts_57 rfl 0 rfl ?_
      refine m_g_9 (pc := 58) C hW n_X9_experts_X9 (List.mem_of_getElem? (i := 2) rfl) dX9_experts_58 ?_
      refine q_iconst (pc := 61) C (2 : Int32) dX9_experts_61 q_ci_2 ?_
      refine t_new (pc := 62) C hW (ty := .int) 0 rfl (fun _ h => by cases h) (List.mem_of_getElem? (i := 4) rfl) rfl (N' := 2) (2, .inl fun _ => 0) (fun _ => rfl) (by decide) (by decide) (by decide) (show (kc) + 1 ≤ 20 by omega) (show (ks) + 2 ≤ 1020 by omega) dX9_experts_62 (fun qa6 ws hW => ?_)
      refine q_nm (wz := ws) (ka := kc + 1) (kb := ks + 2) (sz := [.ref qa6, .ref (ga 2)]) rfl rfl rfl rfl ?_
      refine q_dup (pc := 64) C dX9_experts_64 rfl ?_
      refine q_iconst (pc := 65) C (0 : Int32) dX9_experts_65 q_ci_0 ?_
      refine q_sipush (pc := 66) C (1024 : Int32) dX9_experts_66 q_cs_1024 ?_
      refine t_iast (pc := 69) C hW ⟨by decide, by decide⟩ dX9_experts_69 (fun ws hW => ?_)
      have hW : mW cc ga ad S ((qa6, .inl (cc 0, 2, .inl (upd (fun _ => 0) 0 (1024 : Int32)))) :: E) ws := hW
      refine q_dup (pc := 70) C dX9_experts_70 rfl ?_
      refine q_iconst (pc := 71) C (1 : Int32) dX9_experts_71 q_ci_1 ?_
      refine q_iconst (pc := 72) C (0 : Int32) dX9_experts_72 q_ci_0 ?_
      refine t_iast (pc := 73) C hW ⟨by decide, by decide⟩ dX9_experts_73 (fun ws hW => ?_)
      have hW : mW cc ga ad S ((qa6, .inl (cc 0, 2, .inl (upd (upd (fun _ => 0) 0 (1024 : Int32)) 1 (0 : Int32)))) :: E) ws := hW
      obtain ⟨g7, hf⟩ := q_gd hf
      refine m_add_1 (pc := 74) C hW g7 gX9_experts_Jx4a65c_add_9ea2d_f94Jx4a65c ⟨Nat.le_of_ble_eq_true rfl, Nat.le_of_ble_eq_true rfl⟩ (Nat.le_of_ble_eq_true rfl) dX9_experts_74 ⟨(show (kc + 1) + 1 ≤ 20 by omega), (show (ks + 2) + 100 ≤ 1020 by omega)⟩ (fun ad ws hW => ?_)
      refine q_nm (wz := ws) (ka := kc + 2) (kb := ks + 102) (sz := [.int (1 : Int32)]) rfl rfl rfl rfl ?_
      refine q_pop (pc := 79) C dX9_experts_79 rfl ?_
      refine q_iinc (pc := 80) (lvq := [(3, .int (v3 + (1 : Int32))), (0, .ref (ga 0)), (1, .int v1), (2, .int v2)]) C (v3 + (1 : Int32)) dX9_experts_80 3 rfl q_ca_1 (by decide) rfl ?_
      refine q_goto (pc := 83) (tgt := 52) C dX9_experts_83 (by decide) ?_
      refine q_sub (lvq := [(0, .ref (ga 0)), (1, .int v1), (2, .int v2), (3, .int (v3 + (1 : Int32)))]) [1, 2, 3, 0] rfl ?_
      exact hk52 (kc + 2) (ks + 102) v1 v2 (v3 + (1 : Int32)) (madd S 1 (upd (upd (fun _ => 0) 0 (1024 : Int32)) 1 (0 : Int32))) ad ws hf hW (by omega) (by omega)
set_option maxRecDepth 100000 in
set_option maxHeartbeats 8000000 in
theorem w_X9_experts_18 {p : Program} {l : Launch} {e : Env} {s : State} {m : MethodId} {args : Array Value} {below : List Frame} {meth : Method} {c : Code} {D : va_G} {cc : Nat → ClassId} {N0 : Nat} {ga : Nat → Nat} {E : va_W} {v : (Int32 × MS)} (C : q_C p s m args meth c cX9_experts 4 (some .int) wsX9_experts RX9 D cc N0)  (kc : Nat) (ks : Nat) (v1 : Int32) (vt0 : Int32) (S : MS) (ad : Nat → Nat → Nat) (ws : va_W) : f_X9_experts_18  v1 vt0 S = some v → mW cc ga ad S E ws → kc + 20 ≤ 20 → ks + 1020 ≤ 1020 → q_WA p l e (q_rm (10) (400) 20 1020) s m args below meth c D N0 4 (MQ below (q_Q D N0 (fun rv w1 => rv = some (.int v.1) ∧ ∃ ad : Nat → Nat → Nat, mW cc ga ad v.2 E w1)) args s 20 1020 (q_A N0)) kc ks ws 18 [(0, .ref (ga 0)), (1, .int v1)] [.int vt0, .ref (ga 0)] := by
  intro hf hW b1 b2
  obtain ⟨u2, e3, hf⟩ := q_bind hf
  obtain ⟨_, he⟩ := hW.obj
  refine q_callV (pc := 18) (As := [.int vt0]) (rest := []) C (c_X9_isWrong l D cc N0 ga ad  E S vt0 u2 e3 ws hW) gX9_experts_X9_isWrong rfl rfl z_X9_isWrong ⟨Nat.le_of_ble_eq_true rfl, Nat.le_of_ble_eq_true rfl⟩ he rfl rfl rfl (Nat.le_of_ble_eq_true rfl) dX9_experts_18 ⟨(show (kc) + 0 ≤ 20 by omega), (show (ks) + 0 ≤ 1020 by omega)⟩ ?_
  rintro _ ws ⟨rfl, hW⟩
  refine q_nm (wz := ws) (ka := kc) (kb := ks) (sz := [.int (q_b u2.1)]) rfl rfl rfl rfl ?_
  refine q_if_eq (pc := 21) (tgt := 26) C dX9_experts_21 (by decide) (fun c4 => ?_) (fun c4 => ?_)
  · have hf := q_iteT hf c4
    refine q_aload_n (pc := 26) C dX9_experts_26 rfl 0 rfl ?_
    refine m_g_9 (pc := 27) C hW n_X9_experts_X9 (List.mem_of_getElem? (i := 2) rfl) dX9_experts_27 ?_
    refine m_size_1 (pc := 30) C hW gX9_experts_Jx4a65c_size_8abf5_f50Jx4a65c ⟨Nat.le_of_ble_eq_true rfl, Nat.le_of_ble_eq_true rfl⟩ (Nat.le_of_ble_eq_true rfl) dX9_experts_30 ⟨(show (kc) ≤ 20 by omega), (show (ks) ≤ 1020 by omega)⟩ ?_
    refine q_istore_n (pc := 35) (lvq := [(2, .int (nI (u2.2.2.1 1))), (0, .ref (ga 0)), (1, .int v1)]) C dX9_experts_35 rfl (by decide) rfl ?_
    refine q_aload_n (pc := 36) C dX9_experts_36 rfl 1 rfl ?_
    refine m_g_9 (pc := 37) C hW n_X9_experts_X9 (List.mem_of_getElem? (i := 2) rfl) dX9_experts_37 ?_
    refine m_clear_1 (pc := 40) C hW gX9_experts_Jx4a65c_clear_da8c8_f66Jx4a65c ⟨Nat.le_of_ble_eq_true rfl, Nat.le_of_ble_eq_true rfl⟩ (Nat.le_of_ble_eq_true rfl) dX9_experts_40 ⟨(show (kc) ≤ 20 by omega), (show (ks) ≤ 1020 by omega)⟩ (fun ws hW => ?_)
    refine q_aload_n (pc := 45) C dX9_experts_45 rfl 1 rfl ?_
    refine q_iconst (pc := 46) C (0 : Int32) dX9_experts_46 q_ci_0 ?_
    refine m_p_10 (pc := 47) C hW n_X9_experts_X9 (List.mem_of_getElem? (i := 3) rfl) dX9_experts_47 (fun ws hW => ?_)
    refine q_iconst (pc := 50) C (0 : Int32) dX9_experts_50 q_ci_0 ?_
    refine q_istore_n (pc := 51) (lvq := [(3, .int (0 : Int32)), (2, .int (nI (u2.2.2.1 1))), (0, .ref (ga 0)), (1, .int v1)]) C dX9_experts_51 rfl (by decide) rfl ?_
    refine q_sub (lvq := [(0, .ref (ga 0)), (1, .int v1), (2, .int (nI (u2.2.2.1 1))), (3, .int (0 : Int32))]) [2, 3, 1, 0] rfl ?_
    exact w_X9_experts_52 C 10 (kc) (ks) v1 (nI (u2.2.2.1 1)) (0 : Int32) (mset (mclr u2.2 1) 10 (0 : Int32)) ad ws hf hW (by omega) (by omega)
  · have hf := q_iteF hf c4
    refine q_iconst (pc := 24) C (0 : Int32) dX9_experts_24 q_ci_0 ?_
    refine q_wid (show kc ≤ 20 by omega) (show ks ≤ 1020 by omega) ?_
    obtain rfl := q_some hf
    exact q_iret (pc := 25) C dX9_experts_25 ⟨rfl, ad, hW⟩
set_option maxRecDepth 100000 in
set_option maxHeartbeats 8000000 in
theorem c_X9_experts (l : Launch) (D : va_G) (cc : Nat → ClassId) (N0 : Nat) (ga : Nat → Nat) (ad : Nat → Nat → Nat) (E : va_W) (S : MS) (a1 : Int32) (v : (Int32 × MS)) (hf : f_X9_experts a1 S = some v) (ws : va_W) (hW : mW cc ga ad S E ws) : q_Met l yX9_experts wsX9_experts 10 400 D cc N0 ws [.ref (ga 0), .int a1] (fun rv w1 => rv = some (.int v.1) ∧ ∃ ad : Nat → Nat → Nat, mW cc ga ad v.2 E w1) 20 1020 := by
  refine q_ofW (code := cX9_experts) (nL := 4) (ret := (some .int)) (by decide +kernel) rfl (Nat.le_of_ble_eq_true rfl) (fun p e s m below meth c C _ => ?_)
  refine q_lv (lv2 := [(0, .ref (ga 0)), (1, .int a1)]) rfl ?_
  obtain ⟨kc, hkc⟩ : ∃ z, z = 0 := ⟨_, rfl⟩
  obtain ⟨ks, hks⟩ : ∃ z, z = 0 := ⟨_, rfl⟩
  refine q_nm (wz := ws) (ka := kc) (kb := ks) (sz := []) rfl hkc.symm hks.symm rfl ?_
  refine q_aload_n (pc := 0) C dX9_experts_0 rfl 0 rfl ?_
  refine q_iload_n (pc := 1) C dX9_experts_1 rfl 1 rfl ?_
  refine q_i2l (pc := 2) C dX9_experts_2 rfl ?_
  refine q_lconst (pc := 3) C (1 : Int64) dX9_experts_3 q_cl_1 ?_
  refine q_ldc2 (pc := 4) (v := (6 : Int64)) C (List.mem_of_getElem? (i := 1) rfl) dX9_experts_4 ?_
  refine q_callS (pc := 7) (As := [.long a1.toInt64, .long (1 : Int64), .long (6 : Int64)]) (rest := [.ref (ga 0)]) C (c_X9_isBetween l D cc N0 ws a1.toInt64 (1 : Int64) (6 : Int64) _ rfl) gX9_experts_X9_isBetween rfl z_X9_isBetween ⟨Nat.le_of_ble_eq_true rfl, Nat.le_of_ble_eq_true rfl⟩ rfl rfl (Nat.le_of_ble_eq_true rfl) dX9_experts_7 ⟨(show (kc) ≤ 20 by omega), (show (ks) ≤ 1020 by omega)⟩ ?_
  refine q_after (rv := (some (.int (q_b (f_X9_isBetween a1.toInt64 (1 : Int64) (6 : Int64)))))) (w0 := ws) (st2 := [.int (q_b (f_X9_isBetween a1.toInt64 (1 : Int64) (6 : Int64))), .ref (ga 0)]) rfl rfl rfl ?_
  refine q_if_eq (pc := 10) (tgt := 17) C dX9_experts_10 (by decide) (fun c1 => ?_) (fun c1 => ?_)
  · have hf := q_iteT hf c1
    refine q_iconst (pc := 17) C (1 : Int32) dX9_experts_17 q_ci_1 ?_
    refine q_sub (lvq := [(0, .ref (ga 0)), (1, .int a1)]) [0, 1] rfl ?_
    exact w_X9_experts_18 C (kc) (ks) a1 (1 : Int32) S ad ws hf hW (by omega) (by omega)
  · have hf := q_iteF hf c1
    refine q_iconst (pc := 13) C (0 : Int32) dX9_experts_13 q_ci_0 ?_
    refine q_goto (pc := 14) (tgt := 18) C dX9_experts_14 (by decide) ?_
    refine q_sub (lvq := [(0, .ref (ga 0)), (1, .int a1)]) [0, 1] rfl ?_
    exact w_X9_experts_18 C (kc) (ks) a1 (0 : Int32) S ad ws hf hW (by omega) (by omega)
theorem z_X9_round : q_dsc yX9_round 2 := ⟨by decide +kernel, by decide +kernel, by decide +kernel⟩
theorem n_X9_round_X9 : ∀ w ∈ wsX90, w ∈ wsX9_round := fun _ h => (List.mem_cons_of_mem _ (List.mem_append_left _ (List.mem_append_right _ h)))
def f_X9_round_251 (v5 : Int32) (vt0 : Int32) (vt1 : Int32) (S : MS) : Option (Bool × MS) := (if v5 = 0 then some (false, (mset S 10 (vt1 + vt0))) else if v5 = 1 then some (true, (mset S 10 (vt1 + vt0))) else none)
def f_X9_round_233 (v2 : Int32) (vt0 : Int32) (S : MS) : Option (Bool × MS) := (if vt0 = v2 then f_X9_round_251 vt0 (0 : Int32) (S.1 10) S else f_X9_round_251 vt0 (1 : Int32) (S.1 10) S)
def f_X9_round_216 (k151 : Int32 → Int32 → Int32 → Int32 → Int32 → MS → Option (Bool × MS)) (v1 : Int32) (v2 : Int32) (v3 : Int32) (v4 : Int32) (v5 : Int32) (S : MS) : Option (Bool × MS) := k151 v1 v2 v3 v4 (v5 + (1 : Int32)) S
def f_X9_round_151b (k151 : Int32 → Int32 → Int32 → Int32 → Int32 → MS → Option (Bool × MS)) (v1 : Int32) (v2 : Int32) (v3 : Int32) (v4 : Int32) (v5 : Int32) (S : MS) : Option (Bool × MS) := (if (nI (S.2.1 1)) ≤ v5 then (if v3 < v4 then f_X9_round_233 v2 (0 : Int32) S else f_X9_round_233 v2 (1 : Int32) S) else (if q_in v5 (S.2.1 1) then (if (q_b (f_X9_hasPoint v1 v5)) = v2 then f_X9_round_216 k151 v1 v2 v3 v4 v5 S else (if v5.toNatClampNeg < S.2.1 1 then (if v5.toNatClampNeg < S.2.1 1 then (if v5.toNatClampNeg < (mrow S 1 v5.toNatClampNeg 0 (q_max (1 : Int32) ((S.2.2.1 1 v5.toNatClampNeg 0) / (2 : Int32)))).2.1 1 then (if v5.toNatClampNeg < (mrow S 1 v5.toNatClampNeg 0 (q_max (1 : Int32) ((S.2.2.1 1 v5.toNatClampNeg 0) / (2 : Int32)))).2.1 1 then f_X9_round_216 k151 v1 v2 v3 v4 v5 (mrow (mrow S 1 v5.toNatClampNeg 0 (q_max (1 : Int32) ((S.2.2.1 1 v5.toNatClampNeg 0) / (2 : Int32)))) 1 v5.toNatClampNeg 1 (((mrow S 1 v5.toNatClampNeg 0 (q_max (1 : Int32) ((S.2.2.1 1 v5.toNatClampNeg 0) / (2 : Int32)))).2.2.1 1 v5.toNatClampNeg 1) + (1 : Int32))) else none) else none) else none) else none)) else none))
def f_X9_round_151 : Nat → Int32 → Int32 → Int32 → Int32 → Int32 → MS → Option (Bool × MS)
  | 0, _, _, _, _, _, _ => none
  | n + 1, v1, v2, v3, v4, v5, S => f_X9_round_151b  (f_X9_round_151  n) v1 v2 v3 v4 v5 S
def f_X9_round_139 (k62 : Int32 → Int32 → Int32 → Int32 → Int32 → MS → Option (Bool × MS)) (v1 : Int32) (v2 : Int32) (v3 : Int32) (v5 : Int32) (vt0 : Int32) (vt1 : Int32) (S : MS) : Option (Bool × MS) := k62 v1 v2 v3 (vt1 + vt0) (v5 + (1 : Int32)) S
def f_X9_round_106 (k62 : Int32 → Int32 → Int32 → Int32 → Int32 → MS → Option (Bool × MS)) (v1 : Int32) (v2 : Int32) (v4 : Int32) (v5 : Int32) (vt0 : Int32) (vt1 : Int32) (S : MS) : Option (Bool × MS) := (if (q_b (f_X9_hasPoint v1 v5)) = 0 then (if q_in v5 (S.2.1 1) then (if v5.toNatClampNeg < S.2.1 1 then f_X9_round_139 k62 v1 v2 (vt1 + vt0) v5 (S.2.2.1 1 v5.toNatClampNeg 0) v4 S else none) else none) else f_X9_round_139 k62 v1 v2 (vt1 + vt0) v5 (0 : Int32) v4 S)
def f_X9_round_62b (k62 : Int32 → Int32 → Int32 → Int32 → Int32 → MS → Option (Bool × MS)) (v1 : Int32) (v2 : Int32) (v3 : Int32) (v4 : Int32) (v5 : Int32) (S : MS) : Option (Bool × MS) := (if (nI (S.2.1 1)) ≤ v5 then f_X9_round_151 1000 v1 v2 v3 v4 (0 : Int32) S else (if (q_b (f_X9_hasPoint v1 v5)) = 0 then f_X9_round_106 k62 v1 v2 v4 v5 (0 : Int32) v3 S else (if q_in v5 (S.2.1 1) then (if v5.toNatClampNeg < S.2.1 1 then f_X9_round_106 k62 v1 v2 v4 v5 (S.2.2.1 1 v5.toNatClampNeg 0) v3 S else none) else none)))
def f_X9_round_62 : Nat → Int32 → Int32 → Int32 → Int32 → Int32 → MS → Option (Bool × MS)
  | 0, _, _, _, _, _, _ => none
  | n + 1, v1, v2, v3, v4, v5, S => f_X9_round_62b  (f_X9_round_62  n) v1 v2 v3 v4 v5 S
def f_X9_round_46 (v1 : Int32) (v2 : Int32) (vt0 : Int32) (S : MS) : Option (Bool × MS) := ((f_X9_isWrong vt0 S).bind fun u2 => (if (q_b u2.1) = 0 then f_X9_round_62 1000 v1 v2 (0 : Int32) (0 : Int32) (0 : Int32) u2.2 else some (false, u2.2)))
def f_X9_round_25 (v1 : Int32) (v2 : Int32) (S : MS) : Option (Bool × MS) := f_X9_round_46 v1 v2 (1 : Int32) S
def f_X9_round (a1 : Int32) (a2 : Int32) (S : MS) : Option (Bool × MS) := (if a1 < 0 then f_X9_round_25 a1 a2 S else (if (64 : Int32) ≤ a1 then f_X9_round_25 a1 a2 S else (if (a1 >>> ((nI (S.2.1 1)) &&& 31)) = 0 then (if (q_b (decide (S.2.1 1 = 0))) = 0 then f_X9_round_46 a1 a2 (0 : Int32) S else f_X9_round_46 a1 a2 (2 : Int32) S) else f_X9_round_25 a1 a2 S)))
set_option maxRecDepth 100000 in
set_option maxHeartbeats 8000000 in
theorem w_X9_round_251 {p : Program} {l : Launch} {e : Env} {s : State} {m : MethodId} {args : Array Value} {below : List Frame} {meth : Method} {c : Code} {D : va_G} {cc : Nat → ClassId} {N0 : Nat} {ga : Nat → Nat} {E : va_W} {ad : Nat → Nat → Nat} {v : (Bool × MS)} (C : q_C p s m args meth c cX9_round 7 (some .boolean) wsX9_round RX9 D cc N0)  (v5 : Int32) (vt0 : Int32) (vt1 : Int32) (S : MS)  (ws : va_W) : f_X9_round_251  v5 vt0 vt1 S = some v → mW cc ga ad S E ws → q_WA p l e (q_rm (4) (100) 0 0) s m args below meth c D N0 7 (MQ below (q_Q D N0 (fun rv w1 => rv = some (.int (q_b v.1)) ∧ mW cc ga ad v.2 E w1)) args s 0 0 (q_A N0)) 0 0 ws 251 [(5, .int v5)] [.int vt0, .int vt1, .ref (ga 0)] := by
  intro hf hW
  refine q_iadd (pc := 251) C dX9_round_251 ?_
  refine m_p_10 (pc := 252) C hW n_X9_round_X9 (List.mem_of_getElem? (i := 7) rfl) dX9_round_252 (fun ws hW => ?_)
  refine q_iload (pc := 255) C dX9_round_255 0 rfl ?_
  have hz := q_z01 hf
  rcases hz with ⟨c9, hf⟩ | ⟨c9, hf⟩
  · obtain rfl := q_some hf
    rw [c9]
    exact q_zret (pc := 257) C (by decide +kernel) dX9_round_257 ⟨rfl, hW⟩
  · obtain rfl := q_some hf
    rw [c9]
    exact q_zret (pc := 257) C (by decide +kernel) dX9_round_257 ⟨rfl, hW⟩
set_option maxRecDepth 100000 in
set_option maxHeartbeats 8000000 in
theorem w_X9_round_233 {p : Program} {l : Launch} {e : Env} {s : State} {m : MethodId} {args : Array Value} {below : List Frame} {meth : Method} {c : Code} {D : va_G} {cc : Nat → ClassId} {N0 : Nat} {ga : Nat → Nat} {E : va_W} {ad : Nat → Nat → Nat} {v : (Bool × MS)} (C : q_C p s m args meth c cX9_round 7 (some .boolean) wsX9_round RX9 D cc N0)  (v2 : Int32) (vt0 : Int32) (S : MS)  (ws : va_W) : f_X9_round_233  v2 vt0 S = some v → mW cc ga ad S E ws → q_WA p l e (q_rm (4) (100) 0 0) s m args below meth c D N0 7 (MQ below (q_Q D N0 (fun rv w1 => rv = some (.int (q_b v.1)) ∧ mW cc ga ad v.2 E w1)) args s 0 0 (q_A N0)) 0 0 ws 233 [(0, .ref (ga 0)), (2, .int v2)] [.int vt0] := by
  intro hf hW
  refine q_istore (pc := 233) (lvq := [(5, .int vt0), (0, .ref (ga 0)), (2, .int v2)]) C dX9_round_233 (by decide) rfl ?_
  refine q_aload_n (pc := 235) C dX9_round_235 rfl 1 rfl ?_
  refine q_dup (pc := 236) C dX9_round_236 rfl ?_
  refine m_g_10 (pc := 237) C hW n_X9_round_X9 (List.mem_of_getElem? (i := 7) rfl) dX9_round_237 ?_
  refine q_iload (pc := 240) C dX9_round_240 0 rfl ?_
  refine q_iload_n (pc := 242) C dX9_round_242 rfl 2 rfl ?_
  refine q_icmp_ne (pc := 243) (tgt := 250) C dX9_round_243 (by decide) (fun c8 => ?_) (fun c8 => ?_)
  · have hf := q_iteF hf c8
    refine q_iconst (pc := 250) C (1 : Int32) dX9_round_250 q_ci_1 ?_
    refine q_sub (lvq := [(5, .int vt0)]) [0] rfl ?_
    exact w_X9_round_251 C vt0 (1 : Int32) (S.1 10) S ws hf hW
  · have hf := q_iteT hf c8
    refine q_iconst (pc := 246) C (0 : Int32) dX9_round_246 q_ci_0 ?_
    refine q_goto (pc := 247) (tgt := 251) C dX9_round_247 (by decide) ?_
    refine q_sub (lvq := [(5, .int vt0)]) [0] rfl ?_
    exact w_X9_round_251 C vt0 (0 : Int32) (S.1 10) S ws hf hW
set_option maxRecDepth 100000 in
set_option maxHeartbeats 8000000 in
theorem w_X9_round_216 {p : Program} {l : Launch} {e : Env} {s : State} {m : MethodId} {args : Array Value} {below : List Frame} {meth : Method} {c : Code} {D : va_G} {cc : Nat → ClassId} {N0 : Nat} {ga : Nat → Nat} {E : va_W} {ad : Nat → Nat → Nat} {k151 : Int32 → Int32 → Int32 → Int32 → Int32 → MS → Option (Bool × MS)} {v : (Bool × MS)} (C : q_C p s m args meth c cX9_round 7 (some .boolean) wsX9_round RX9 D cc N0) (hk151 : ∀ (v1 : Int32) (v2 : Int32) (v3 : Int32) (v4 : Int32) (v5 : Int32) (S : MS)  (ws : va_W), k151 v1 v2 v3 v4 v5 S = some v → mW cc ga ad S E ws → q_WA p l e (q_rm (4) (100) 0 0) s m args below meth c D N0 7 (MQ below (q_Q D N0 (fun rv w1 => rv = some (.int (q_b v.1)) ∧ mW cc ga ad v.2 E w1)) args s 0 0 (q_A N0)) 0 0 ws 151 [(0, .ref (ga 0)), (1, .int v1), (2, .int v2), (3, .int v3), (4, .int v4), (5, .int v5)] []) (v1 : Int32) (v2 : Int32) (v3 : Int32) (v4 : Int32) (v5 : Int32) (S : MS)  (ws : va_W) : f_X9_round_216 k151 v1 v2 v3 v4 v5 S = some v → mW cc ga ad S E ws → q_WA p l e (q_rm (4) (100) 0 0) s m args below meth c D N0 7 (MQ below (q_Q D N0 (fun rv w1 => rv = some (.int (q_b v.1)) ∧ mW cc ga ad v.2 E w1)) args s 0 0 (q_A N0)) 0 0 ws 216 [(0, .ref (ga 0)), (1, .int v1), (2, .int v2), (3, .int v3), (4, .int v4), (5, .int v5)] [] := by
  intro hf hW
  refine q_iinc (pc := 216) (lvq := [(5, .int (v5 + (1 : Int32))), (0, .ref (ga 0)), (1, .int v1), (2, .int v2), (3, .int v3), (4, .int v4)]) C (v5 + (1 : Int32)) dX9_round_216 5 rfl q_ca_1 (by decide) rfl ?_
  refine q_goto (pc := 219) (tgt := 151) C dX9_round_219 (by decide) ?_
  refine q_sub (lvq := [(0, .ref (ga 0)), (1, .int v1), (2, .int v2), (3, .int v3), (4, .int v4), (5, .int (v5 + (1 : Int32)))]) [1, 2, 3, 4, 5, 0] rfl ?_
  exact hk151 v1 v2 v3 v4 (v5 + (1 : Int32)) S ws hf hW
set_option maxRecDepth 100000 in
set_option maxHeartbeats 8000000 in
theorem w_X9_round_151 {p : Program} {l : Launch} {e : Env} {s : State} {m : MethodId} {args : Array Value} {below : List Frame} {meth : Method} {c : Code} {D : va_G} {cc : Nat → ClassId} {N0 : Nat} {ga : Nat → Nat} {E : va_W} {ad : Nat → Nat → Nat} {v : (Bool × MS)} (C : q_C p s m args meth c cX9_round 7 (some .boolean) wsX9_round RX9 D cc N0)  : ∀ (n : Nat) (v1 : Int32) (v2 : Int32) (v3 : Int32) (v4 : Int32) (v5 : Int32) (S : MS)  (ws : va_W), f_X9_round_151  n v1 v2 v3 v4 v5 S = some v → mW cc ga ad S E ws → q_WA p l e (q_rm (4) (100) 0 0) s m args below meth c D N0 7 (MQ below (q_Q D N0 (fun rv w1 => rv = some (.int (q_b v.1)) ∧ mW cc ga ad v.2 E w1)) args s 0 0 (q_A N0)) 0 0 ws 151 [(0, .ref (ga 0)), (1, .int v1), (2, .int v2), (3, .int v3), (4, .int v4), (5, .int v5)] [] := by
  intro n
  induction n with
  | zero => intro v1 v2 v3 v4 v5 S ws hf; cases hf
  | succ n ih =>
    intro v1 v2 v3 v4 v5 S ws hf hW
    have hk151 : ∀ (v1 : Int32) (v2 : Int32) (v3 : Int32) (v4 : Int32) (v5 : Int32) (S : MS)  (ws : va_W), f_X9_round_151  n v1 v2 v3 v4 v5 S = some v → mW cc ga ad S E ws → q_WA p l e (q_rm (4) (100) 0 0) s m args below meth c D N0 7 (MQ below (q_Q D N0 (fun rv w1 => rv = some (.int (q_b v.1)) ∧ mW cc ga ad v.2 E w1)) args s 0 0 (q_A N0)) 0 0 ws 151 [(0, .ref (ga 0)), (1, .int v1), (2, .int v2), (3, .int v3), (4, .int v4), (5, .int v5)] [] := ih
    have hf : f_X9_round_151b  (f_X9_round_151  n) v1 v2 v3 v4 v5 S = some v := hf
    refine q_iload (pc := 151) C dX9_round_151 5 rfl ?_
    refine q_aload_n (pc := 153) C dX9_round_153 rfl 0 rfl ?_
    refine m_g_9 (pc := 154) C hW n_X9_round_X9 (List.mem_of_getElem? (i := 1) rfl) dX9_round_154 ?_
    refine m_size_1 (pc := 157) C hW gX9_round_Jx4a65c_size_8abf5_f50Jx4a65c ⟨Nat.le_of_ble_eq_true rfl, Nat.le_of_ble_eq_true rfl⟩ (Nat.le_of_ble_eq_true rfl) dX9_round_157 ⟨Nat.le_of_ble_eq_true rfl, Nat.le_of_ble_eq_true rfl⟩ ?_
    refine q_icmp_ge (pc := 162) (tgt := 222) C dX9_round_162 (by decide) (fun c6 => ?_) (fun c6 => ?_)
    · have hf := q_iteT hf c6
      refine q_iload_n (pc := 222) C dX9_round_222 rfl 3 rfl ?_
      refine q_iload (pc := 223) C dX9_round_223 4 rfl ?_
      refine q_icmp_lt (pc := 225) (tgt := 232) C dX9_round_225 (by decide) (fun c7 => ?_) (fun c7 => ?_)
      · have hf := q_iteT hf c7
        refine q_iconst (pc := 232) C (0 : Int32) dX9_round_232 q_ci_0 ?_
        refine q_sub (lvq := [(0, .ref (ga 0)), (2, .int v2)]) [0, 2] rfl ?_
        exact w_X9_round_233 C v2 (0 : Int32) S ws hf hW
      · have hf := q_iteF hf c7
        refine q_iconst (pc := 228) C (1 : Int32) dX9_round_228 q_ci_1 ?_
        refine q_goto (pc := 229) (tgt := 233) C dX9_round_229 (by decide) ?_
        refine q_sub (lvq := [(0, .ref (ga 0)), (2, .int v2)]) [0, 2] rfl ?_
        exact w_X9_round_233 C v2 (1 : Int32) S ws hf hW
    · have hf := q_iteF hf c6
      refine q_aload_n (pc := 165) C dX9_round_165 rfl 0 rfl ?_
      refine m_g_9 (pc := 166) C hW n_X9_round_X9 (List.mem_of_getElem? (i := 1) rfl) dX9_round_166 ?_
      refine q_iload (pc := 169) C dX9_round_169 5 rfl ?_
      obtain ⟨g10, hf⟩ := q_gd hf
      refine m_get_1 (pc := 171) C hW g10 gX9_round_Jx4a65c_get_915e3_f129Jx4a65c ⟨Nat.le_of_ble_eq_true rfl, Nat.le_of_ble_eq_true rfl⟩ (Nat.le_of_ble_eq_true rfl) dX9_round_171 ⟨Nat.le_of_ble_eq_true rfl, Nat.le_of_ble_eq_true rfl⟩ ?_
      refine m_cast_1 (pc := 176) C hW g10.2 (List.mem_of_getElem? (i := 2) rfl) dX9_round_176 ?_
      refine q_astore (pc := 179) (lvq := [(6, .ref (ad 1 v5.toNatClampNeg)), (0, .ref (ga 0)), (1, .int v1), (2, .int v2), (3, .int v3), (4, .int v4), (5, .int v5)]) C dX9_round_179 (by decide) rfl ?_
      refine q_iload_n (pc := 181) C dX9_round_181 rfl 2 rfl ?_
      refine q_iload (pc := 182) C dX9_round_182 6 rfl ?_
      refine q_callS (pc := 184) (As := [.int v1, .int v5]) (rest := []) C (c_X9_hasPoint l D cc N0 ws v1 v5 _ rfl) gX9_round_X9_hasPoint rfl z_X9_hasPoint ⟨Nat.le_of_ble_eq_true rfl, Nat.le_of_ble_eq_true rfl⟩ rfl rfl (Nat.le_of_ble_eq_true rfl) dX9_round_184 ⟨Nat.le_of_ble_eq_true rfl, Nat.le_of_ble_eq_true rfl⟩ ?_
      refine q_after (rv := (some (.int (q_b (f_X9_hasPoint v1 v5))))) (w0 := ws) (st2 := [.int (q_b (f_X9_hasPoint v1 v5))]) rfl rfl rfl ?_
      refine q_iload_n (pc := 187) C dX9_round_187 rfl 3 rfl ?_
      refine q_icmp_ne (pc := 188) (tgt := 194) C dX9_round_188 (by decide) (fun c11 => ?_) (fun c11 => ?_)
      · have hf := q_iteF hf c11
        refine q_aload (pc := 194) C dX9_round_194 0 rfl ?_
        refine q_iconst (pc := 196) C (0 : Int32) dX9_round_196 q_ci_0 ?_
        refine q_iconst (pc := 197) C (1 : Int32) dX9_round_197 q_ci_1 ?_
        refine q_aload (pc := 198) C dX9_round_198 0 rfl ?_
        refine q_iconst (pc := 200) C (0 : Int32) dX9_round_200 q_ci_0 ?_
        obtain ⟨g12, hf⟩ := q_gd hf
        refine m_rald_1 (pc := 201) C hW g12 ⟨by decide, by decide⟩ dX9_round_201 ?_
        refine q_nm (wz := ws) (ka := 0) (kb := 0) (sz := [.int (S.2.2.1 1 v5.toNatClampNeg 0), .int (1 : Int32), .int (0 : Int32), .ref (ad 1 v5.toNatClampNeg)]) rfl rfl rfl rfl ?_
        refine q_iconst (pc := 202) C (2 : Int32) dX9_round_202 q_ci_2 ?_
        refine q_idiv (pc := 203) C dX9_round_203 (by decide +kernel) ?_
        refine q_mmax (pc := 204) C (List.mem_of_getElem? (i := 3) rfl) (List.mem_of_getElem? (i := 4) rfl) (List.mem_of_getElem? (i := 5) rfl) (List.mem_of_getElem? (i := 6) rfl) (Nat.le_of_ble_eq_true rfl) (Nat.le_of_ble_eq_true rfl) ⟨Nat.le_of_ble_eq_true rfl, Nat.le_of_ble_eq_true rfl⟩ dX9_round_204 ?_
        obtain ⟨g13, hf⟩ := q_gd hf
        refine m_rast_1 (pc := 207) C hW g13 ⟨by decide, by decide⟩ dX9_round_207 (fun ws hW => ?_)
        have hW : mW cc ga ad (mrow S 1 v5.toNatClampNeg 0 (q_max (1 : Int32) ((S.2.2.1 1 v5.toNatClampNeg 0) / (2 : Int32)))) E ws := hW
        refine q_aload (pc := 208) C dX9_round_208 0 rfl ?_
        refine q_iconst (pc := 210) C (1 : Int32) dX9_round_210 q_ci_1 ?_
        refine q_dup2_11 (pc := 211) C dX9_round_211 rfl rfl ?_
        obtain ⟨g14, hf⟩ := q_gd hf
        refine m_rald_1 (pc := 212) C hW g14 ⟨by decide, by decide⟩ dX9_round_212 ?_
        refine q_nm (wz := ws) (ka := 0) (kb := 0) (sz := [.int ((mrow S 1 v5.toNatClampNeg 0 (q_max (1 : Int32) ((S.2.2.1 1 v5.toNatClampNeg 0) / (2 : Int32)))).2.2.1 1 v5.toNatClampNeg 1), .int (1 : Int32), .ref (ad 1 v5.toNatClampNeg)]) rfl rfl rfl rfl ?_
        refine q_iconst (pc := 213) C (1 : Int32) dX9_round_213 q_ci_1 ?_
        refine q_iadd (pc := 214) C dX9_round_214 ?_
        obtain ⟨g15, hf⟩ := q_gd hf
        refine m_rast_1 (pc := 215) C hW g15 ⟨by decide, by decide⟩ dX9_round_215 (fun ws hW => ?_)
        have hW : mW cc ga ad (mrow (mrow S 1 v5.toNatClampNeg 0 (q_max (1 : Int32) ((S.2.2.1 1 v5.toNatClampNeg 0) / (2 : Int32)))) 1 v5.toNatClampNeg 1 (((mrow S 1 v5.toNatClampNeg 0 (q_max (1 : Int32) ((S.2.2.1 1 v5.toNatClampNeg 0) / (2 : Int32)))).2.2.1 1 v5.toNatClampNeg 1) + (1 : Int32))) E ws := hW
        refine q_sub (lvq := [(0, .ref (ga 0)), (1, .int v1), (2, .int v2), (3, .int v3), (4, .int v4), (5, .int v5)]) [1, 2, 3, 4, 5, 6] rfl ?_
        exact w_X9_round_216 C hk151 v1 v2 v3 v4 v5 (mrow (mrow S 1 v5.toNatClampNeg 0 (q_max (1 : Int32) ((S.2.2.1 1 v5.toNatClampNeg 0) / (2 : Int32)))) 1 v5.toNatClampNeg 1 (((mrow S 1 v5.toNatClampNeg 0 (q_max (1 : Int32) ((S.2.2.1 1 v5.toNatClampNeg 0) / (2 : Int32)))).2.2.1 1 v5.toNatClampNeg 1) + (1 : Int32))) ws hf hW
      · have hf := q_iteT hf c11
        refine q_goto (pc := 191) (tgt := 216) C dX9_round_191 (by decide) ?_
        refine q_sub (lvq := [(0, .ref (ga 0)), (1, .int v1), (2, .int v2), (3, .int v3), (4, .int v4), (5, .int v5)]) [1, 2, 3, 4, 5, 6] rfl ?_
        exact w_X9_round_216 C hk151 v1 v2 v3 v4 v5 S ws hf hW
set_option maxRecDepth 100000 in
set_option maxHeartbeats 8000000 in
theorem w_X9_round_139 {p : Program} {l : Launch} {e : Env} {s : State} {m : MethodId} {args : Array Value} {below : List Frame} {meth : Method} {c : Code} {D : va_G} {cc : Nat → ClassId} {N0 : Nat} {ga : Nat → Nat} {E : va_W} {ad : Nat → Nat → Nat} {k62 : Int32 → Int32 → Int32 → Int32 → Int32 → MS → Option (Bool × MS)} {v : (Bool × MS)} (C : q_C p s m args meth c cX9_round 7 (some .boolean) wsX9_round RX9 D cc N0) (hk62 : ∀ (v1 : Int32) (v2 : Int32) (v3 : Int32) (v4 : Int32) (v5 : Int32) (S : MS)  (ws : va_W), k62 v1 v2 v3 v4 v5 S = some v → mW cc ga ad S E ws → q_WA p l e (q_rm (4) (100) 0 0) s m args below meth c D N0 7 (MQ below (q_Q D N0 (fun rv w1 => rv = some (.int (q_b v.1)) ∧ mW cc ga ad v.2 E w1)) args s 0 0 (q_A N0)) 0 0 ws 62 [(0, .ref (ga 0)), (1, .int v1), (2, .int v2), (3, .int v3), (4, .int v4), (5, .int v5)] []) (v1 : Int32) (v2 : Int32) (v3 : Int32) (v5 : Int32) (vt0 : Int32) (vt1 : Int32) (S : MS)  (ws : va_W) : f_X9_round_139 k62 v1 v2 v3 v5 vt0 vt1 S = some v → mW cc ga ad S E ws → q_WA p l e (q_rm (4) (100) 0 0) s m args below meth c D N0 7 (MQ below (q_Q D N0 (fun rv w1 => rv = some (.int (q_b v.1)) ∧ mW cc ga ad v.2 E w1)) args s 0 0 (q_A N0)) 0 0 ws 139 [(0, .ref (ga 0)), (1, .int v1), (2, .int v2), (3, .int v3), (5, .int v5)] [.int vt0, .int vt1] := by
  intro hf hW
  refine q_iadd (pc := 139) C dX9_round_139 ?_
  refine q_istore (pc := 140) (lvq := [(4, .int (vt1 + vt0)), (0, .ref (ga 0)), (1, .int v1), (2, .int v2), (3, .int v3), (5, .int v5)]) C dX9_round_140 (by decide) rfl ?_
  refine q_iinc (pc := 142) (lvq := [(5, .int (v5 + (1 : Int32))), (4, .int (vt1 + vt0)), (0, .ref (ga 0)), (1, .int v1), (2, .int v2), (3, .int v3)]) C (v5 + (1 : Int32)) dX9_round_142 5 rfl q_ca_1 (by decide) rfl ?_
  refine q_goto (pc := 145) (tgt := 62) C dX9_round_145 (by decide) ?_
  refine q_sub (lvq := [(0, .ref (ga 0)), (1, .int v1), (2, .int v2), (3, .int v3), (4, .int (vt1 + vt0)), (5, .int (v5 + (1 : Int32)))]) [2, 3, 4, 5, 1, 0] rfl ?_
  exact hk62 v1 v2 v3 (vt1 + vt0) (v5 + (1 : Int32)) S ws hf hW
set_option maxRecDepth 100000 in
set_option maxHeartbeats 8000000 in
theorem w_X9_round_106 {p : Program} {l : Launch} {e : Env} {s : State} {m : MethodId} {args : Array Value} {below : List Frame} {meth : Method} {c : Code} {D : va_G} {cc : Nat → ClassId} {N0 : Nat} {ga : Nat → Nat} {E : va_W} {ad : Nat → Nat → Nat} {k62 : Int32 → Int32 → Int32 → Int32 → Int32 → MS → Option (Bool × MS)} {v : (Bool × MS)} (C : q_C p s m args meth c cX9_round 7 (some .boolean) wsX9_round RX9 D cc N0) (hk62 : ∀ (v1 : Int32) (v2 : Int32) (v3 : Int32) (v4 : Int32) (v5 : Int32) (S : MS)  (ws : va_W), k62 v1 v2 v3 v4 v5 S = some v → mW cc ga ad S E ws → q_WA p l e (q_rm (4) (100) 0 0) s m args below meth c D N0 7 (MQ below (q_Q D N0 (fun rv w1 => rv = some (.int (q_b v.1)) ∧ mW cc ga ad v.2 E w1)) args s 0 0 (q_A N0)) 0 0 ws 62 [(0, .ref (ga 0)), (1, .int v1), (2, .int v2), (3, .int v3), (4, .int v4), (5, .int v5)] []) (v1 : Int32) (v2 : Int32) (v4 : Int32) (v5 : Int32) (vt0 : Int32) (vt1 : Int32) (S : MS)  (ws : va_W) : f_X9_round_106 k62 v1 v2 v4 v5 vt0 vt1 S = some v → mW cc ga ad S E ws → q_WA p l e (q_rm (4) (100) 0 0) s m args below meth c D N0 7 (MQ below (q_Q D N0 (fun rv w1 => rv = some (.int (q_b v.1)) ∧ mW cc ga ad v.2 E w1)) args s 0 0 (q_A N0)) 0 0 ws 106 [(0, .ref (ga 0)), (1, .int v1), (2, .int v2), (4, .int v4), (5, .int v5)] [.int vt0, .int vt1] := by
  intro hf hW
  refine q_iadd (pc := 106) C dX9_round_106 ?_
  refine q_istore_n (pc := 107) (lvq := [(3, .int (vt1 + vt0)), (0, .ref (ga 0)), (1, .int v1), (2, .int v2), (4, .int v4), (5, .int v5)]) C dX9_round_107 rfl (by decide) rfl ?_
  refine q_iload (pc := 108) C dX9_round_108 4 rfl ?_
  refine q_iload_n (pc := 110) C dX9_round_110 rfl 2 rfl ?_
  refine q_iload (pc := 111) C dX9_round_111 5 rfl ?_
  refine q_callS (pc := 113) (As := [.int v1, .int v5]) (rest := [.int v4]) C (c_X9_hasPoint l D cc N0 ws v1 v5 _ rfl) gX9_round_X9_hasPoint rfl z_X9_hasPoint ⟨Nat.le_of_ble_eq_true rfl, Nat.le_of_ble_eq_true rfl⟩ rfl rfl (Nat.le_of_ble_eq_true rfl) dX9_round_113 ⟨Nat.le_of_ble_eq_true rfl, Nat.le_of_ble_eq_true rfl⟩ ?_
  refine q_after (rv := (some (.int (q_b (f_X9_hasPoint v1 v5))))) (w0 := ws) (st2 := [.int (q_b (f_X9_hasPoint v1 v5)), .int v4]) rfl rfl rfl ?_
  refine q_if_eq (pc := 116) (tgt := 123) C dX9_round_116 (by decide) (fun c17 => ?_) (fun c17 => ?_)
  · have hf := q_iteT hf c17
    refine q_aload_n (pc := 123) C dX9_round_123 rfl 1 rfl ?_
    refine m_g_9 (pc := 124) C hW n_X9_round_X9 (List.mem_of_getElem? (i := 1) rfl) dX9_round_124 ?_
    refine q_iload (pc := 127) C dX9_round_127 5 rfl ?_
    obtain ⟨g18, hf⟩ := q_gd hf
    refine m_get_1 (pc := 129) C hW g18 gX9_round_Jx4a65c_get_915e3_f129Jx4a65c ⟨Nat.le_of_ble_eq_true rfl, Nat.le_of_ble_eq_true rfl⟩ (Nat.le_of_ble_eq_true rfl) dX9_round_129 ⟨Nat.le_of_ble_eq_true rfl, Nat.le_of_ble_eq_true rfl⟩ ?_
    refine m_cast_1 (pc := 134) C hW g18.2 (List.mem_of_getElem? (i := 2) rfl) dX9_round_134 ?_
    refine q_iconst (pc := 137) C (0 : Int32) dX9_round_137 q_ci_0 ?_
    obtain ⟨g19, hf⟩ := q_gd hf
    refine m_rald_1 (pc := 138) C hW g19 ⟨by decide, by decide⟩ dX9_round_138 ?_
    refine q_nm (wz := ws) (ka := 0) (kb := 0) (sz := [.int (S.2.2.1 1 v5.toNatClampNeg 0), .int v4]) rfl rfl rfl rfl ?_
    refine q_sub (lvq := [(0, .ref (ga 0)), (1, .int v1), (2, .int v2), (3, .int (vt1 + vt0)), (5, .int v5)]) [1, 2, 3, 0, 5] rfl ?_
    exact w_X9_round_139 C hk62 v1 v2 (vt1 + vt0) v5 (S.2.2.1 1 v5.toNatClampNeg 0) v4 S ws hf hW
  · have hf := q_iteF hf c17
    refine q_iconst (pc := 119) C (0 : Int32) dX9_round_119 q_ci_0 ?_
    refine q_goto (pc := 120) (tgt := 139) C dX9_round_120 (by decide) ?_
    refine q_sub (lvq := [(0, .ref (ga 0)), (1, .int v1), (2, .int v2), (3, .int (vt1 + vt0)), (5, .int v5)]) [1, 2, 3, 0, 5] rfl ?_
    exact w_X9_round_139 C hk62 v1 v2 (vt1 + vt0) v5 (0 : Int32) v4 S ws hf hW
set_option maxRecDepth 100000 in
set_option maxHeartbeats 8000000 in
theorem w_X9_round_62 {p : Program} {l : Launch} {e : Env} {s : State} {m : MethodId} {args : Array Value} {below : List Frame} {meth : Method} {c : Code} {D : va_G} {cc : Nat → ClassId} {N0 : Nat} {ga : Nat → Nat} {E : va_W} {ad : Nat → Nat → Nat} {v : (Bool × MS)} (C : q_C p s m args meth c cX9_round 7 (some .boolean) wsX9_round RX9 D cc N0)  : ∀ (n : Nat) (v1 : Int32) (v2 : Int32) (v3 : Int32) (v4 : Int32) (v5 : Int32) (S : MS)  (ws : va_W), f_X9_round_62  n v1 v2 v3 v4 v5 S = some v → mW cc ga ad S E ws → q_WA p l e (q_rm (4) (100) 0 0) s m args below meth c D N0 7 (MQ below (q_Q D N0 (fun rv w1 => rv = some (.int (q_b v.1)) ∧ mW cc ga ad v.2 E w1)) args s 0 0 (q_A N0)) 0 0 ws 62 [(0, .ref (ga 0)), (1, .int v1), (2, .int v2), (3, .int v3), (4, .int v4), (5, .int v5)] [] := by
  intro n
  induction n with
  | zero => intro v1 v2 v3 v4 v5 S ws hf; cases hf
  | succ n ih =>
    intro v1 v2 v3 v4 v5 S ws hf hW
    have hk62 : ∀ (v1 : Int32) (v2 : Int32) (v3 : Int32) (v4 : Int32) (v5 : Int32) (S : MS)  (ws : va_W), f_X9_round_62  n v1 v2 v3 v4 v5 S = some v → mW cc ga ad S E ws → q_WA p l e (q_rm (4) (100) 0 0) s m args below meth c D N0 7 (MQ below (q_Q D N0 (fun rv w1 => rv = some (.int (q_b v.1)) ∧ mW cc ga ad v.2 E w1)) args s 0 0 (q_A N0)) 0 0 ws 62 [(0, .ref (ga 0)), (1, .int v1), (2, .int v2), (3, .int v3), (4, .int v4), (5, .int v5)] [] := ih
    have hf : f_X9_round_62b  (f_X9_round_62  n) v1 v2 v3 v4 v5 S = some v := hf
    refine q_iload (pc := 62) C dX9_round_62 5 rfl ?_
    refine q_aload_n (pc := 64) C dX9_round_64 rfl 0 rfl ?_
    refine m_g_9 (pc := 65) C hW n_X9_round_X9 (List.mem_of_getElem? (i := 1) rfl) dX9_round_65 ?_
    refine m_size_1 (pc := 68) C hW gX9_round_Jx4a65c_size_8abf5_f50Jx4a65c ⟨Nat.le_of_ble_eq_true rfl, Nat.le_of_ble_eq_true rfl⟩ (Nat.le_of_ble_eq_true rfl) dX9_round_68 ⟨Nat.le_of_ble_eq_true rfl, Nat.le_of_ble_eq_true rfl⟩ ?_
    refine q_icmp_ge (pc := 73) (tgt := 148) C dX9_round_73 (by decide) (fun c5 => ?_) (fun c5 => ?_)
    · have hf := q_iteT hf c5
      refine q_iconst (pc := 148) C (0 : Int32) dX9_round_148 q_ci_0 ?_
      refine q_istore (pc := 149) (lvq := [(5, .int (0 : Int32)), (0, .ref (ga 0)), (1, .int v1), (2, .int v2), (3, .int v3), (4, .int v4)]) C dX9_round_149 (by decide) rfl ?_
      refine q_sub (lvq := [(0, .ref (ga 0)), (1, .int v1), (2, .int v2), (3, .int v3), (4, .int v4), (5, .int (0 : Int32))]) [1, 2, 3, 4, 5, 0] rfl ?_
      exact w_X9_round_151 C 1000 v1 v2 v3 v4 (0 : Int32) S ws hf hW
    · have hf := q_iteF hf c5
      refine q_iload_n (pc := 76) C dX9_round_76 rfl 3 rfl ?_
      refine q_iload_n (pc := 77) C dX9_round_77 rfl 1 rfl ?_
      refine q_iload (pc := 78) C dX9_round_78 5 rfl ?_
      refine q_callS (pc := 80) (As := [.int v1, .int v5]) (rest := [.int v3]) C (c_X9_hasPoint l D cc N0 ws v1 v5 _ rfl) gX9_round_X9_hasPoint rfl z_X9_hasPoint ⟨Nat.le_of_ble_eq_true rfl, Nat.le_of_ble_eq_true rfl⟩ rfl rfl (Nat.le_of_ble_eq_true rfl) dX9_round_80 ⟨Nat.le_of_ble_eq_true rfl, Nat.le_of_ble_eq_true rfl⟩ ?_
      refine q_after (rv := (some (.int (q_b (f_X9_hasPoint v1 v5))))) (w0 := ws) (st2 := [.int (q_b (f_X9_hasPoint v1 v5)), .int v3]) rfl rfl rfl ?_
      refine q_if_eq (pc := 83) (tgt := 105) C dX9_round_83 (by decide) (fun c16 => ?_) (fun c16 => ?_)
      · have hf := q_iteT hf c16
        refine q_iconst (pc := 105) C (0 : Int32) dX9_round_105 q_ci_0 ?_
        refine q_sub (lvq := [(0, .ref (ga 0)), (1, .int v1), (2, .int v2), (4, .int v4), (5, .int v5)]) [0, 1, 2, 4, 5] rfl ?_
        exact w_X9_round_106 C hk62 v1 v2 v4 v5 (0 : Int32) v3 S ws hf hW
      · have hf := q_iteF hf c16
        refine q_aload_n (pc := 86) C dX9_round_86 rfl 0 rfl ?_
        refine m_g_9 (pc := 87) C hW n_X9_round_X9 (List.mem_of_getElem? (i := 1) rfl) dX9_round_87 ?_
        refine q_iload (pc := 90) C dX9_round_90 5 rfl ?_
        obtain ⟨g20, hf⟩ := q_gd hf
        refine m_get_1 (pc := 92) C hW g20 gX9_round_Jx4a65c_get_915e3_f129Jx4a65c ⟨Nat.le_of_ble_eq_true rfl, Nat.le_of_ble_eq_true rfl⟩ (Nat.le_of_ble_eq_true rfl) dX9_round_92 ⟨Nat.le_of_ble_eq_true rfl, Nat.le_of_ble_eq_true rfl⟩ ?_
        refine m_cast_1 (pc := 97) C hW g20.2 (List.mem_of_getElem? (i := 2) rfl) dX9_round_97 ?_
        refine q_iconst (pc := 100) C (0 : Int32) dX9_round_100 q_ci_0 ?_
        obtain ⟨g21, hf⟩ := q_gd hf
        refine m_rald_1 (pc := 101) C hW g21 ⟨by decide, by decide⟩ dX9_round_101 ?_
        refine q_nm (wz := ws) (ka := 0) (kb := 0) (sz := [.int (S.2.2.1 1 v5.toNatClampNeg 0), .int v3]) rfl rfl rfl rfl ?_
        refine q_goto (pc := 102) (tgt := 106) C dX9_round_102 (by decide) ?_
        refine q_sub (lvq := [(0, .ref (ga 0)), (1, .int v1), (2, .int v2), (4, .int v4), (5, .int v5)]) [0, 1, 2, 4, 5] rfl ?_
        exact w_X9_round_106 C hk62 v1 v2 v4 v5 (S.2.2.1 1 v5.toNatClampNeg 0) v3 S ws hf hW
set_option maxRecDepth 100000 in
set_option maxHeartbeats 8000000 in
theorem w_X9_round_46 {p : Program} {l : Launch} {e : Env} {s : State} {m : MethodId} {args : Array Value} {below : List Frame} {meth : Method} {c : Code} {D : va_G} {cc : Nat → ClassId} {N0 : Nat} {ga : Nat → Nat} {E : va_W} {ad : Nat → Nat → Nat} {v : (Bool × MS)} (C : q_C p s m args meth c cX9_round 7 (some .boolean) wsX9_round RX9 D cc N0)  (v1 : Int32) (v2 : Int32) (vt0 : Int32) (S : MS)  (ws : va_W) : f_X9_round_46  v1 v2 vt0 S = some v → mW cc ga ad S E ws → q_WA p l e (q_rm (4) (100) 0 0) s m args below meth c D N0 7 (MQ below (q_Q D N0 (fun rv w1 => rv = some (.int (q_b v.1)) ∧ mW cc ga ad v.2 E w1)) args s 0 0 (q_A N0)) 0 0 ws 46 [(0, .ref (ga 0)), (1, .int v1), (2, .int v2)] [.int vt0, .ref (ga 0)] := by
  intro hf hW
  obtain ⟨u2, e3, hf⟩ := q_bind hf
  obtain ⟨_, he⟩ := hW.obj
  refine q_callV (pc := 46) (As := [.int vt0]) (rest := []) C (c_X9_isWrong l D cc N0 ga ad  E S vt0 u2 e3 ws hW) gX9_round_X9_isWrong rfl rfl z_X9_isWrong ⟨Nat.le_of_ble_eq_true rfl, Nat.le_of_ble_eq_true rfl⟩ he rfl rfl rfl (Nat.le_of_ble_eq_true rfl) dX9_round_46 ⟨Nat.le_of_ble_eq_true rfl, Nat.le_of_ble_eq_true rfl⟩ ?_
  rintro _ ws ⟨rfl, hW⟩
  refine q_nm (wz := ws) (ka := 0) (kb := 0) (sz := [.int (q_b u2.1)]) rfl rfl rfl rfl ?_
  refine q_if_eq (pc := 49) (tgt := 54) C dX9_round_49 (by decide) (fun c4 => ?_) (fun c4 => ?_)
  · have hf := q_iteT hf c4
    refine q_iconst (pc := 54) C (0 : Int32) dX9_round_54 q_ci_0 ?_
    refine q_istore_n (pc := 55) (lvq := [(3, .int (0 : Int32)), (0, .ref (ga 0)), (1, .int v1), (2, .int v2)]) C dX9_round_55 rfl (by decide) rfl ?_
    refine q_iconst (pc := 56) C (0 : Int32) dX9_round_56 q_ci_0 ?_
    refine q_istore (pc := 57) (lvq := [(4, .int (0 : Int32)), (3, .int (0 : Int32)), (0, .ref (ga 0)), (1, .int v1), (2, .int v2)]) C dX9_round_57 (by decide) rfl ?_
    refine q_iconst (pc := 59) C (0 : Int32) dX9_round_59 q_ci_0 ?_
    refine q_istore (pc := 60) (lvq := [(5, .int (0 : Int32)), (4, .int (0 : Int32)), (3, .int (0 : Int32)), (0, .ref (ga 0)), (1, .int v1), (2, .int v2)]) C dX9_round_60 (by decide) rfl ?_
    refine q_sub (lvq := [(0, .ref (ga 0)), (1, .int v1), (2, .int v2), (3, .int (0 : Int32)), (4, .int (0 : Int32)), (5, .int (0 : Int32))]) [3, 4, 5, 2, 1, 0] rfl ?_
    exact w_X9_round_62 C 1000 v1 v2 (0 : Int32) (0 : Int32) (0 : Int32) u2.2 ws hf hW
  · have hf := q_iteF hf c4
    refine q_iconst (pc := 52) C (0 : Int32) dX9_round_52 q_ci_0 ?_
    obtain rfl := q_some hf
    exact q_zret (pc := 53) C (by decide +kernel) dX9_round_53 ⟨rfl, hW⟩
set_option maxRecDepth 100000 in
set_option maxHeartbeats 8000000 in
theorem w_X9_round_25 {p : Program} {l : Launch} {e : Env} {s : State} {m : MethodId} {args : Array Value} {below : List Frame} {meth : Method} {c : Code} {D : va_G} {cc : Nat → ClassId} {N0 : Nat} {ga : Nat → Nat} {E : va_W} {ad : Nat → Nat → Nat} {v : (Bool × MS)} (C : q_C p s m args meth c cX9_round 7 (some .boolean) wsX9_round RX9 D cc N0)  (v1 : Int32) (v2 : Int32) (S : MS)  (ws : va_W) : f_X9_round_25  v1 v2 S = some v → mW cc ga ad S E ws → q_WA p l e (q_rm (4) (100) 0 0) s m args below meth c D N0 7 (MQ below (q_Q D N0 (fun rv w1 => rv = some (.int (q_b v.1)) ∧ mW cc ga ad v.2 E w1)) args s 0 0 (q_A N0)) 0 0 ws 25 [(0, .ref (ga 0)), (1, .int v1), (2, .int v2)] [.ref (ga 0)] := by
  intro hf hW
  refine q_iconst (pc := 25) C (1 : Int32) dX9_round_25 q_ci_1 ?_
  refine q_goto (pc := 26) (tgt := 46) C dX9_round_26 (by decide) ?_
  refine q_sub (lvq := [(0, .ref (ga 0)), (1, .int v1), (2, .int v2)]) [0, 1, 2] rfl ?_
  exact w_X9_round_46 C v1 v2 (1 : Int32) S ws hf hW
set_option maxRecDepth 100000 in
set_option maxHeartbeats 8000000 in
theorem c_X9_round (l : Launch) (D : va_G) (cc : Nat → ClassId) (N0 : Nat) (ga : Nat → Nat) (ad : Nat → Nat → Nat) (E : va_W) (S : MS) (a1 : Int32) (a2 : Int32) (v : (Bool × MS)) (hf : f_X9_round a1 a2 S = some v) (ws : va_W) (hW : mW cc ga ad S E ws) : q_Met l yX9_round wsX9_round 4 100 D cc N0 ws [.ref (ga 0), .int a1, .int a2] (fun rv w1 => rv = some (.int (q_b v.1)) ∧ mW cc ga ad v.2 E w1) 0 0 := by
  refine q_ofW (code := cX9_round) (nL := 7) (ret := (some .boolean)) (by decide +kernel) rfl (Nat.le_of_ble_eq_true rfl) (fun p e s m below meth c C _ => ?_)
  refine q_lv (lv2 := [(0, .ref (ga 0)), (1, .int a1), (2, .int a2)]) rfl ?_
  refine q_aload_n (pc := 0) C dX9_round_0 rfl 0 rfl ?_
  refine q_iload_n (pc := 1) C dX9_round_1 rfl 1 rfl ?_
  refine q_if_lt (pc := 2) (tgt := 25) C dX9_round_2 (by decide) (fun c1 => ?_) (fun c1 => ?_)
  · have hf := q_iteT hf c1
    refine q_sub (lvq := [(0, .ref (ga 0)), (1, .int a1), (2, .int a2)]) [0, 1, 2] rfl ?_
    exact w_X9_round_25 C a1 a2 S ws hf hW
  · have hf := q_iteF hf c1
    refine q_iload_n (pc := 5) C dX9_round_5 rfl 1 rfl ?_
    refine q_bipush (pc := 6) C (64 : Int32) dX9_round_6 q_cb_64 ?_
    refine q_icmp_ge (pc := 8) (tgt := 25) C dX9_round_8 (by decide) (fun c22 => ?_) (fun c22 => ?_)
    · have hf := q_iteT hf c22
      refine q_sub (lvq := [(0, .ref (ga 0)), (1, .int a1), (2, .int a2)]) [0, 1, 2] rfl ?_
      exact w_X9_round_25 C a1 a2 S ws hf hW
    · have hf := q_iteF hf c22
      refine q_iload_n (pc := 11) C dX9_round_11 rfl 1 rfl ?_
      refine q_aload_n (pc := 12) C dX9_round_12 rfl 0 rfl ?_
      refine m_g_9 (pc := 13) C hW n_X9_round_X9 (List.mem_of_getElem? (i := 1) rfl) dX9_round_13 ?_
      refine m_size_1 (pc := 16) C hW gX9_round_Jx4a65c_size_8abf5_f50Jx4a65c ⟨Nat.le_of_ble_eq_true rfl, Nat.le_of_ble_eq_true rfl⟩ (Nat.le_of_ble_eq_true rfl) dX9_round_16 ⟨Nat.le_of_ble_eq_true rfl, Nat.le_of_ble_eq_true rfl⟩ ?_
      refine q_ishr (pc := 21) C dX9_round_21 ?_
      refine q_if_eq (pc := 22) (tgt := 29) C dX9_round_22 (by decide) (fun c23 => ?_) (fun c23 => ?_)
      · have hf := q_iteT hf c23
        refine q_aload_n (pc := 29) C dX9_round_29 rfl 0 rfl ?_
        refine m_g_9 (pc := 30) C hW n_X9_round_X9 (List.mem_of_getElem? (i := 1) rfl) dX9_round_30 ?_
        refine m_isEmpty_1 (pc := 33) C hW gX9_round_Jx4a65c_isEmpty_aae02_f135Jx4a65c ⟨Nat.le_of_ble_eq_true rfl, Nat.le_of_ble_eq_true rfl⟩ (Nat.le_of_ble_eq_true rfl) dX9_round_33 ⟨Nat.le_of_ble_eq_true rfl, Nat.le_of_ble_eq_true rfl⟩ ?_
        refine q_if_eq (pc := 38) (tgt := 45) C dX9_round_38 (by decide) (fun c24 => ?_) (fun c24 => ?_)
        · have hf := q_iteT hf c24
          refine q_iconst (pc := 45) C (0 : Int32) dX9_round_45 q_ci_0 ?_
          refine q_sub (lvq := [(0, .ref (ga 0)), (1, .int a1), (2, .int a2)]) [0, 1, 2] rfl ?_
          exact w_X9_round_46 C a1 a2 (0 : Int32) S ws hf hW
        · have hf := q_iteF hf c24
          refine q_iconst (pc := 41) C (2 : Int32) dX9_round_41 q_ci_2 ?_
          refine q_goto (pc := 42) (tgt := 46) C dX9_round_42 (by decide) ?_
          refine q_sub (lvq := [(0, .ref (ga 0)), (1, .int a1), (2, .int a2)]) [0, 1, 2] rfl ?_
          exact w_X9_round_46 C a1 a2 (2 : Int32) S ws hf hW
      · have hf := q_iteF hf c23
        refine q_sub (lvq := [(0, .ref (ga 0)), (1, .int a1), (2, .int a2)]) [0, 1, 2] rfl ?_
        exact w_X9_round_25 C a1 a2 S ws hf hW
theorem z_X9_weight : q_dsc yX9_weight 1 := ⟨by decide +kernel, by decide +kernel, by decide +kernel⟩
theorem n_X9_weight_X9 : ∀ w ∈ wsX90, w ∈ wsX9_weight := fun _ h => (List.mem_cons_of_mem _ (List.mem_append_left _ (List.mem_append_right _ h)))
def f_X9_weight_17 (v1 : Int32) (vt0 : Int32) (S : MS) : Option (Int32 × MS) := ((f_X9_isWrong vt0 S).bind fun u4 => (if (q_b u4.1) = 0 then (if q_in v1 (u4.2.2.1 1) then (if v1.toNatClampNeg < u4.2.2.1 1 then some ((u4.2.2.2.1 1 v1.toNatClampNeg 0), u4.2) else none) else none) else some ((0 : Int32), u4.2)))
def f_X9_weight (a1 : Int32) (S : MS) : Option (Int32 × MS) := ((f_X9_isOf_1 S a1).bind fun u1 => (if (q_b u1) = 0 then f_X9_weight_17 a1 (1 : Int32) S else f_X9_weight_17 a1 (0 : Int32) S))
set_option maxRecDepth 100000 in
set_option maxHeartbeats 8000000 in
theorem w_X9_weight_17 {p : Program} {l : Launch} {e : Env} {s : State} {m : MethodId} {args : Array Value} {below : List Frame} {meth : Method} {c : Code} {D : va_G} {cc : Nat → ClassId} {N0 : Nat} {ga : Nat → Nat} {E : va_W} {ad : Nat → Nat → Nat} {v : (Int32 × MS)} (C : q_C p s m args meth c cX9_weight 2 (some .int) wsX9_weight RX9 D cc N0)  (v1 : Int32) (vt0 : Int32) (S : MS)  (ws : va_W) : f_X9_weight_17  v1 vt0 S = some v → mW cc ga ad S E ws → q_WA p l e (q_rm (4) (100) 0 0) s m args below meth c D N0 2 (MQ below (q_Q D N0 (fun rv w1 => rv = some (.int v.1) ∧ mW cc ga ad v.2 E w1)) args s 0 0 (q_A N0)) 0 0 ws 17 [(0, .ref (ga 0)), (1, .int v1)] [.int vt0, .ref (ga 0)] := by
  intro hf hW
  obtain ⟨u4, e5, hf⟩ := q_bind hf
  obtain ⟨_, he⟩ := hW.obj
  refine q_callV (pc := 17) (As := [.int vt0]) (rest := []) C (c_X9_isWrong l D cc N0 ga ad  E S vt0 u4 e5 ws hW) gX9_weight_X9_isWrong rfl rfl z_X9_isWrong ⟨Nat.le_of_ble_eq_true rfl, Nat.le_of_ble_eq_true rfl⟩ he rfl rfl rfl (Nat.le_of_ble_eq_true rfl) dX9_weight_17 ⟨Nat.le_of_ble_eq_true rfl, Nat.le_of_ble_eq_true rfl⟩ ?_
  rintro _ ws ⟨rfl, hW⟩
  refine q_nm (wz := ws) (ka := 0) (kb := 0) (sz := [.int (q_b u4.1)]) rfl rfl rfl rfl ?_
  refine q_if_eq (pc := 20) (tgt := 27) C dX9_weight_20 (by decide) (fun c6 => ?_) (fun c6 => ?_)
  · have hf := q_iteT hf c6
    refine q_aload_n (pc := 27) C dX9_weight_27 rfl 0 rfl ?_
    refine m_g_9 (pc := 28) C hW n_X9_weight_X9 (List.mem_of_getElem? (i := 1) rfl) dX9_weight_28 ?_
    refine q_iload_n (pc := 31) C dX9_weight_31 rfl 1 rfl ?_
    obtain ⟨g7, hf⟩ := q_gd hf
    refine m_get_1 (pc := 32) C hW g7 gX9_weight_Jx4a65c_get_915e3_f129Jx4a65c ⟨Nat.le_of_ble_eq_true rfl, Nat.le_of_ble_eq_true rfl⟩ (Nat.le_of_ble_eq_true rfl) dX9_weight_32 ⟨Nat.le_of_ble_eq_true rfl, Nat.le_of_ble_eq_true rfl⟩ ?_
    refine m_cast_1 (pc := 37) C hW g7.2 (List.mem_of_getElem? (i := 2) rfl) dX9_weight_37 ?_
    refine q_iconst (pc := 40) C (0 : Int32) dX9_weight_40 q_ci_0 ?_
    obtain ⟨g8, hf⟩ := q_gd hf
    refine m_rald_1 (pc := 41) C hW g8 ⟨by decide, by decide⟩ dX9_weight_41 ?_
    refine q_nm (wz := ws) (ka := 0) (kb := 0) (sz := [.int (u4.2.2.2.1 1 v1.toNatClampNeg 0)]) rfl rfl rfl rfl ?_
    obtain rfl := q_some hf
    exact q_iret (pc := 42) C dX9_weight_42 ⟨rfl, hW⟩
  · have hf := q_iteF hf c6
    refine q_iconst (pc := 23) C (0 : Int32) dX9_weight_23 q_ci_0 ?_
    refine q_goto (pc := 24) (tgt := 42) C dX9_weight_24 (by decide) ?_
    obtain rfl := q_some hf
    exact q_iret (pc := 42) C dX9_weight_42 ⟨rfl, hW⟩
set_option maxRecDepth 100000 in
set_option maxHeartbeats 8000000 in
theorem c_X9_weight (l : Launch) (D : va_G) (cc : Nat → ClassId) (N0 : Nat) (ga : Nat → Nat) (ad : Nat → Nat → Nat) (E : va_W) (S : MS) (a1 : Int32) (v : (Int32 × MS)) (hf : f_X9_weight a1 S = some v) (ws : va_W) (hW : mW cc ga ad S E ws) : q_Met l yX9_weight wsX9_weight 4 100 D cc N0 ws [.ref (ga 0), .int a1] (fun rv w1 => rv = some (.int v.1) ∧ mW cc ga ad v.2 E w1) 0 0 := by
  refine q_ofW (code := cX9_weight) (nL := 2) (ret := (some .int)) (by decide +kernel) rfl (Nat.le_of_ble_eq_true rfl) (fun p e s m below meth c C _ => ?_)
  refine q_lv (lv2 := [(0, .ref (ga 0)), (1, .int a1)]) rfl ?_
  refine q_aload_n (pc := 0) C dX9_weight_0 rfl 0 rfl ?_
  refine q_aload_n (pc := 1) C dX9_weight_1 rfl 0 rfl ?_
  refine m_g_9 (pc := 2) C hW n_X9_weight_X9 (List.mem_of_getElem? (i := 1) rfl) dX9_weight_2 ?_
  refine q_iload_n (pc := 5) C dX9_weight_5 rfl 1 rfl ?_
  obtain ⟨u1, e2, hf⟩ := q_bind hf
  refine q_callS (pc := 6) (As := [.ref (ga 2), .int a1]) (rest := [.ref (ga 0)]) C (c_X9_isOf_1 l D cc N0 ga ad  E S a1 u1 e2 ws hW) gX9_weight_X9_isOf rfl z_X9_isOf_1 ⟨Nat.le_of_ble_eq_true rfl, Nat.le_of_ble_eq_true rfl⟩ rfl rfl (Nat.le_of_ble_eq_true rfl) dX9_weight_6 ⟨Nat.le_of_ble_eq_true rfl, Nat.le_of_ble_eq_true rfl⟩ ?_
  rintro _ ws ⟨rfl, hW⟩
  refine q_nm (wz := ws) (ka := 0) (kb := 0) (sz := [.int (q_b u1), .ref (ga 0)]) rfl rfl rfl rfl ?_
  refine q_if_eq (pc := 9) (tgt := 16) C dX9_weight_9 (by decide) (fun c3 => ?_) (fun c3 => ?_)
  · have hf := q_iteT hf c3
    refine q_iconst (pc := 16) C (1 : Int32) dX9_weight_16 q_ci_1 ?_
    refine q_sub (lvq := [(0, .ref (ga 0)), (1, .int a1)]) [0, 1] rfl ?_
    exact w_X9_weight_17 C a1 (1 : Int32) S ws hf hW
  · have hf := q_iteF hf c3
    refine q_iconst (pc := 12) C (0 : Int32) dX9_weight_12 q_ci_0 ?_
    refine q_goto (pc := 13) (tgt := 17) C dX9_weight_13 (by decide) ?_
    refine q_sub (lvq := [(0, .ref (ga 0)), (1, .int a1)]) [0, 1] rfl ?_
    exact w_X9_weight_17 C a1 (0 : Int32) S ws hf hW
theorem z_X9_regret : q_dsc yX9_regret 0 := ⟨by decide +kernel, by decide +kernel, by decide +kernel⟩
theorem n_X9_regret_X9 : ∀ w ∈ wsX90, w ∈ wsX9_regret := fun _ h => (List.mem_cons_of_mem _ (List.mem_append_left _ (List.mem_append_left _ (List.mem_append_right _ h))))
def f_X9_regret_61 (v1 : Int32) (vt0 : Int32) (S : MS) : Option (Int32 × MS) := ((f_X9_isWrong vt0 S).bind fun u4 => (if (q_b u4.1) = 0 then some (((u4.2.1 10) - v1), u4.2) else some ((0 : Int32), u4.2)))
def f_X9_regret_13b (k13 : Int32 → Int32 → Int32 → MS → Option (Int32 × MS)) (v1 : Int32) (u2 : Int32) (x2 : Int32) (S : MS) : Option (Int32 × MS) := (if (q_b (!decide (u2 = nI (S.2.1 1)))) = 0 then (if (q_b (decide (S.2.1 1 = 0))) = 0 then f_X9_regret_61 v1 (0 : Int32) S else f_X9_regret_61 v1 (1 : Int32) S) else (if q_in u2 (S.2.1 1) ∧ x2 = S.1 21 then (if u2.toNatClampNeg < S.2.1 1 then k13 (q_min v1 (S.2.2.1 1 u2.toNatClampNeg 1)) (u2 + (1 : Int32)) x2 S else none) else none))
def f_X9_regret_13 : Nat → Int32 → Int32 → Int32 → MS → Option (Int32 × MS)
  | 0, _, _, _, _ => none
  | n + 1, v1, u2, x2, S => f_X9_regret_13b  (f_X9_regret_13  n) v1 u2 x2 S
def f_X9_regret (S : MS) : Option (Int32 × MS) := f_X9_regret_13 1000 (2147483647 : Int32) (0 : Int32) (S.1 21) S
set_option maxRecDepth 100000 in
set_option maxHeartbeats 8000000 in
theorem w_X9_regret_61 {p : Program} {l : Launch} {e : Env} {s : State} {m : MethodId} {args : Array Value} {below : List Frame} {meth : Method} {c : Code} {D : va_G} {cc : Nat → ClassId} {N0 : Nat} {ga : Nat → Nat} {E : va_W} {ad : Nat → Nat → Nat} {v : (Int32 × MS)} (C : q_C p s m args meth c cX9_regret 4 (some .int) wsX9_regret RX9 D cc N0)  (kc : Nat) (ks : Nat) (v1 : Int32) (vt0 : Int32) (S : MS)  (ws : va_W) : f_X9_regret_61  v1 vt0 S = some v → mW cc ga ad S E ws → kc + 0 ≤ 1 → ks + 0 ≤ 4 → q_WA p l e (q_rm (3) (90) 1 4) s m args below meth c D N0 4 (MQ below (q_Q D N0 (fun rv w1 => rv = some (.int v.1) ∧ mW cc ga ad v.2 E w1)) args s 1 4 (q_A N0)) kc ks ws 61 [(0, .ref (ga 0)), (1, .int v1)] [.int vt0, .ref (ga 0)] := by
  intro hf hW b1 b2
  obtain ⟨u4, e5, hf⟩ := q_bind hf
  obtain ⟨_, he⟩ := hW.obj
  refine q_callV (pc := 61) (As := [.int vt0]) (rest := []) C (c_X9_isWrong l D cc N0 ga ad  E S vt0 u4 e5 ws hW) gX9_regret_X9_isWrong rfl rfl z_X9_isWrong ⟨Nat.le_of_ble_eq_true rfl, Nat.le_of_ble_eq_true rfl⟩ he rfl rfl rfl (Nat.le_of_ble_eq_true rfl) dX9_regret_61 ⟨(show (kc) + 0 ≤ 1 by omega), (show (ks) + 0 ≤ 4 by omega)⟩ ?_
  rintro _ ws ⟨rfl, hW⟩
  refine q_nm (wz := ws) (ka := kc) (kb := ks) (sz := [.int (q_b u4.1)]) rfl rfl rfl rfl ?_
  refine q_if_eq (pc := 64) (tgt := 71) C dX9_regret_64 (by decide) (fun c6 => ?_) (fun c6 => ?_)
  · have hf := q_iteT hf c6
    refine q_aload_n (pc := 71) C dX9_regret_71 rfl 0 rfl ?_
    refine m_g_10 (pc := 72) C hW n_X9_regret_X9 (List.mem_of_getElem? (i := 8) rfl) dX9_regret_72 ?_
    refine q_iload_n (pc := 75) C dX9_regret_75 rfl 1 rfl ?_
    refine q_isub (pc := 76) C dX9_regret_76 ?_
    refine q_wid (show kc ≤ 1 by omega) (show ks ≤ 4 by omega) ?_
    obtain rfl := q_some hf
    exact q_iret (pc := 77) C dX9_regret_77 ⟨rfl, hW⟩
  · have hf := q_iteF hf c6
    refine q_iconst (pc := 67) C (0 : Int32) dX9_regret_67 q_ci_0 ?_
    refine q_goto (pc := 68) (tgt := 77) C dX9_regret_68 (by decide) ?_
    refine q_wid (show kc ≤ 1 by omega) (show ks ≤ 4 by omega) ?_
    obtain rfl := q_some hf
    exact q_iret (pc := 77) C dX9_regret_77 ⟨rfl, hW⟩
set_option maxRecDepth 100000 in
set_option maxHeartbeats 8000000 in
theorem w_X9_regret_13 {p : Program} {l : Launch} {e : Env} {s : State} {m : MethodId} {args : Array Value} {below : List Frame} {meth : Method} {c : Code} {D : va_G} {cc : Nat → ClassId} {N0 : Nat} {ga : Nat → Nat} {E : va_W} {ad : Nat → Nat → Nat} {v : (Int32 × MS)} (C : q_C p s m args meth c cX9_regret 4 (some .int) wsX9_regret RX9 D cc N0)  : ∀ (n : Nat) (kc : Nat) (ks : Nat) (v1 : Int32) (u2 : Int32) (x2 : Int32) (S : MS) (q2 : Nat) (z2 : Int32)  (ws : va_W), f_X9_regret_13  n v1 u2 x2 S = some v → mW cc ga ad S ((q2, q_it u2 z2 x2 (ga 2)) :: E) ws → kc + 0 + n * 0 ≤ 1 → ks + 0 + n * 0 ≤ 4 → q_WA p l e (q_rm (3) (90) 1 4) s m args below meth c D N0 4 (MQ below (q_Q D N0 (fun rv w1 => rv = some (.int v.1) ∧ mW cc ga ad v.2 E w1)) args s 1 4 (q_A N0)) kc ks ws 13 [(0, .ref (ga 0)), (1, .int v1), (2, .ref q2)] [] := by
  intro n
  induction n with
  | zero => intro kc ks v1 u2 x2 S q2 z2 ws hf; cases hf
  | succ n ih =>
    intro kc ks v1 u2 x2 S q2 z2 ws hf hW b1 b2
    have hk13 : ∀ (kc : Nat) (ks : Nat) (v1 : Int32) (u2 : Int32) (x2 : Int32) (S : MS) (q2 : Nat) (z2 : Int32)  (ws : va_W), f_X9_regret_13  n v1 u2 x2 S = some v → mW cc ga ad S ((q2, q_it u2 z2 x2 (ga 2)) :: E) ws → kc + 0 + n * 0 ≤ 1 → ks + 0 + n * 0 ≤ 4 → q_WA p l e (q_rm (3) (90) 1 4) s m args below meth c D N0 4 (MQ below (q_Q D N0 (fun rv w1 => rv = some (.int v.1) ∧ mW cc ga ad v.2 E w1)) args s 1 4 (q_A N0)) kc ks ws 13 [(0, .ref (ga 0)), (1, .int v1), (2, .ref q2)] [] := ih
    have hf : f_X9_regret_13b  (f_X9_regret_13  n) v1 u2 x2 S = some v := hf
    simp only [Nat.succ_mul, Nat.add_mul] at b1 b2
    refine q_aload_n (pc := 13) C dX9_regret_13 rfl 2 rfl ?_
    refine m_has_1 (pc := 14) C hW gX9_regret_Jx35411_hasNext_aae02_f76Jx35411 ⟨Nat.le_of_ble_eq_true rfl, Nat.le_of_ble_eq_true rfl⟩ (Nat.le_of_ble_eq_true rfl) dX9_regret_14 ⟨(show (kc) ≤ 1 by omega), (show (ks) ≤ 4 by omega)⟩ ?_
    refine q_if_eq (pc := 19) (tgt := 43) C dX9_regret_19 (by decide) (fun c2 => ?_) (fun c2 => ?_)
    · have hf := q_iteT hf c2
      refine q_aload_n (pc := 43) C dX9_regret_43 rfl 0 rfl ?_
      refine q_aload_n (pc := 44) C dX9_regret_44 rfl 0 rfl ?_
      refine m_g_9 (pc := 45) C hW n_X9_regret_X9 (List.mem_of_getElem? (i := 2) rfl) dX9_regret_45 ?_
      refine m_isEmpty_1 (pc := 48) C hW gX9_regret_Jx4a65c_isEmpty_aae02_f135Jx4a65c ⟨Nat.le_of_ble_eq_true rfl, Nat.le_of_ble_eq_true rfl⟩ (Nat.le_of_ble_eq_true rfl) dX9_regret_48 ⟨(show (kc) ≤ 1 by omega), (show (ks) ≤ 4 by omega)⟩ ?_
      refine q_if_eq (pc := 53) (tgt := 60) C dX9_regret_53 (by decide) (fun c3 => ?_) (fun c3 => ?_)
      · have hf := q_iteT hf c3
        refine q_iconst (pc := 60) C (0 : Int32) dX9_regret_60 q_ci_0 ?_
        refine t_drop hW (fun ws hW => ?_)
        refine q_sub (lvq := [(0, .ref (ga 0)), (1, .int v1)]) [0, 1] rfl ?_
        exact w_X9_regret_61 C (kc) (ks) v1 (0 : Int32) S ws hf hW (by omega) (by omega)
      · have hf := q_iteF hf c3
        refine q_iconst (pc := 56) C (1 : Int32) dX9_regret_56 q_ci_1 ?_
        refine q_goto (pc := 57) (tgt := 61) C dX9_regret_57 (by decide) ?_
        refine t_drop hW (fun ws hW => ?_)
        refine q_sub (lvq := [(0, .ref (ga 0)), (1, .int v1)]) [0, 1] rfl ?_
        exact w_X9_regret_61 C (kc) (ks) v1 (1 : Int32) S ws hf hW (by omega) (by omega)
    · have hf := q_iteF hf c2
      refine q_aload_n (pc := 22) C dX9_regret_22 rfl 2 rfl ?_
      obtain ⟨g7, hf⟩ := q_gd hf
      refine m_next_1 (pc := 23) C hW g7 gX9_regret_Jx35411_next_0502b_f82Jx35411 ⟨Nat.le_of_ble_eq_true rfl, Nat.le_of_ble_eq_true rfl⟩ (Nat.le_of_ble_eq_true rfl) dX9_regret_23 ⟨(show (kc) ≤ 1 by omega), (show (ks) ≤ 4 by omega)⟩ (fun ws hW => ?_)
      refine m_cast_1 (pc := 28) C hW g7.1.2 (List.mem_of_getElem? (i := 3) rfl) dX9_regret_28 ?_
      refine q_astore_n (pc := 31) (lvq := [(3, .ref (ad 1 u2.toNatClampNeg)), (0, .ref (ga 0)), (1, .int v1), (2, .ref q2)]) C dX9_regret_31 rfl (by decide) rfl ?_
      refine q_iload_n (pc := 32) C dX9_regret_32 rfl 2 rfl ?_
      refine q_aload_n (pc := 33) C dX9_regret_33 rfl 0 rfl ?_
      refine q_iconst (pc := 34) C (1 : Int32) dX9_regret_34 q_ci_1 ?_
      obtain ⟨g8, hf⟩ := q_gd hf
      refine m_rald_1 (pc := 35) C hW g8 ⟨by decide, by decide⟩ dX9_regret_35 ?_
      refine q_nm (wz := ws) (ka := kc) (kb := ks) (sz := [.int (S.2.2.1 1 u2.toNatClampNeg 1), .int v1]) rfl rfl rfl rfl ?_
      refine q_mmin (pc := 36) C (List.mem_of_getElem? (i := 4) rfl) (List.mem_of_getElem? (i := 5) rfl) (List.mem_of_getElem? (i := 6) rfl) (List.mem_of_getElem? (i := 7) rfl) (Nat.le_of_ble_eq_true rfl) (Nat.le_of_ble_eq_true rfl) ⟨(show (kc) ≤ 1 by omega), (show (ks) ≤ 4 by omega)⟩ dX9_regret_36 ?_
      refine q_istore_n (pc := 39) (lvq := [(1, .int (q_min v1 (S.2.2.1 1 u2.toNatClampNeg 1))), (3, .ref (ad 1 u2.toNatClampNeg)), (0, .ref (ga 0)), (2, .ref q2)]) C dX9_regret_39 rfl (by decide) rfl ?_
      refine q_goto (pc := 40) (tgt := 13) C dX9_regret_40 (by decide) ?_
      refine q_sub (lvq := [(0, .ref (ga 0)), (1, .int (q_min v1 (S.2.2.1 1 u2.toNatClampNeg 1))), (2, .ref q2)]) [2, 0, 3] rfl ?_
      exact hk13 (kc) (ks) (q_min v1 (S.2.2.1 1 u2.toNatClampNeg 1)) (u2 + (1 : Int32)) x2 S q2 u2 ws hf hW (by omega) (by omega)
set_option maxRecDepth 100000 in
set_option maxHeartbeats 8000000 in
theorem c_X9_regret (l : Launch) (D : va_G) (cc : Nat → ClassId) (N0 : Nat) (ga : Nat → Nat) (ad : Nat → Nat → Nat) (E : va_W) (S : MS) (v : (Int32 × MS)) (hf : f_X9_regret S = some v) (ws : va_W) (hW : mW cc ga ad S E ws) : q_Met l yX9_regret wsX9_regret 3 90 D cc N0 ws [.ref (ga 0)] (fun rv w1 => rv = some (.int v.1) ∧ mW cc ga ad v.2 E w1) 1 4 := by
  refine q_ofW (code := cX9_regret) (nL := 4) (ret := (some .int)) (by decide +kernel) rfl (Nat.le_of_ble_eq_true rfl) (fun p e s m below meth c C _ => ?_)
  refine q_lv (lv2 := [(0, .ref (ga 0))]) rfl ?_
  obtain ⟨kc, hkc⟩ : ∃ z, z = 0 := ⟨_, rfl⟩
  obtain ⟨ks, hks⟩ : ∃ z, z = 0 := ⟨_, rfl⟩
  refine q_nm (wz := ws) (ka := kc) (kb := ks) (sz := []) rfl hkc.symm hks.symm rfl ?_
  refine q_ldc (pc := 0) (v := (2147483647 : Int32)) C (List.mem_of_getElem? (i := 1) rfl) dX9_regret_0 ?_
  refine q_istore_n (pc := 2) (lvq := [(1, .int (2147483647 : Int32)), (0, .ref (ga 0))]) C dX9_regret_2 rfl (by decide) rfl ?_
  refine q_aload_n (pc := 3) C dX9_regret_3 rfl 1 rfl ?_
  refine m_g_9 (pc := 4) C hW n_X9_regret_X9 (List.mem_of_getElem? (i := 2) rfl) dX9_regret_4 ?_
  refine m_iter_1 (pc := 7) C hW gX9_regret_Jx4a65c_iterator_32c93_f72Jx4a65c ⟨Nat.le_of_ble_eq_true rfl, Nat.le_of_ble_eq_true rfl⟩ (Nat.le_of_ble_eq_true rfl) dX9_regret_7 ⟨(show (kc) + 1 ≤ 1 by omega), (show (ks) + 4 ≤ 4 by omega)⟩ (fun it1 ws hW => ?_)
  refine q_nm (wz := ws) (ka := kc + 1) (kb := ks + 4) (sz := [.ref it1]) rfl rfl rfl rfl ?_
  refine q_astore_n (pc := 12) (lvq := [(2, .ref it1), (1, .int (2147483647 : Int32)), (0, .ref (ga 0))]) C dX9_regret_12 rfl (by decide) rfl ?_
  refine q_sub (lvq := [(0, .ref (ga 0)), (1, .int (2147483647 : Int32)), (2, .ref it1)]) [2, 1, 0] rfl ?_
  exact w_X9_regret_13 C 1000 (kc + 1) (ks + 4) (2147483647 : Int32) (0 : Int32) (S.1 21) S it1 (-1 : Int32) ws hf hW (by omega) (by omega)
theorem z_X9_state : q_dsc yX9_state 1 := ⟨by decide +kernel, by decide +kernel, by decide +kernel⟩
theorem n_X9_state_X9 : ∀ w ∈ wsX90, w ∈ wsX9_state := fun _ h => (List.mem_cons_of_mem _ (List.mem_append_left _ (List.mem_append_right _ h)))
def f_X9_state_45 (vt0 : Int32) (vt1 : Int32) (ht2 : Nat → Int32) (S : MS) : Option (Int32 × MS) := (if q_in vt1 3 then (if S.2.1 2 < 64 then some (((nI ((madd S 2 (upd (upd (upd ht2 vt1.toNatClampNeg vt0) 1 (nI (S.2.1 2))) 2 (nI (S.2.1 2)))).2.1 2)) - (1 : Int32)), (madd S 2 (upd (upd (upd ht2 vt1.toNatClampNeg vt0) 1 (nI (S.2.1 2))) 2 (nI (S.2.1 2))))) else none) else none)
def f_X9_state_19 (v1 : Int32) (vt0 : Int32) (S : MS) : Option (Int32 × MS) := ((f_X9_isWrong vt0 S).bind fun u2 => (if (q_b u2.1) = 0 then (if v1 = 0 then f_X9_state_45 (0 : Int32) (0 : Int32) (fun _ => 0) u2.2 else f_X9_state_45 (1 : Int32) (0 : Int32) (fun _ => 0) u2.2) else some ((0 : Int32), u2.2)))
def f_X9_state (a1 : Int32) (S : MS) : Option (Int32 × MS) := (if (nI (S.2.1 2)) = (5 : Int32) then f_X9_state_19 a1 (1 : Int32) S else f_X9_state_19 a1 (0 : Int32) S)
set_option maxRecDepth 100000 in
set_option maxHeartbeats 8000000 in
theorem w_X9_state_45 {p : Program} {l : Launch} {e : Env} {s : State} {m : MethodId} {args : Array Value} {below : List Frame} {meth : Method} {c : Code} {D : va_G} {cc : Nat → ClassId} {N0 : Nat} {ga : Nat → Nat} {E : va_W} {v : (Int32 × MS)} (C : q_C p s m args meth c cX9_state 2 (some .int) wsX9_state RX9 D cc N0)  (kc : Nat) (ks : Nat) (vt0 : Int32) (vt1 : Int32) (ht2 : Nat → Int32) (S : MS) (qt2 : Nat) (ad : Nat → Nat → Nat) (ws : va_W) : f_X9_state_45  vt0 vt1 ht2 S = some v → mW cc ga ad S ((qt2, .inl (cc 0, 3, .inl ht2)) :: E) ws → kc + 1 ≤ 2 → ks + 100 ≤ 103 → q_WA p l e (q_rm (10) (400) 2 103) s m args below meth c D N0 2 (MQ below (q_Q D N0 (fun rv w1 => rv = some (.int v.1) ∧ ∃ ad : Nat → Nat → Nat, mW cc ga ad v.2 E w1)) args s 2 103 (q_A N0)) kc ks ws 45 [(0, .ref (ga 0))] [.int vt0, .int vt1, .ref qt2, .ref qt2, .ref (ga 3)] := by
  intro hf hW b1 b2
  obtain ⟨g7, hf⟩ := q_gd hf
  refine t_iast (pc := 45) C hW g7 dX9_state_45 (fun ws hW => ?_)
  refine q_dup (pc := 46) C dX9_state_46 rfl ?_
  refine q_iconst (pc := 47) C (1 : Int32) dX9_state_47 q_ci_1 ?_
  refine q_aload_n (pc := 48) C dX9_state_48 rfl 0 rfl ?_
  refine m_g_11 (pc := 49) C hW n_X9_state_X9 (List.mem_of_getElem? (i := 1) rfl) dX9_state_49 ?_
  refine m_size_2 (pc := 52) C hW gX9_state_Jx4a65c_size_8abf5_f50Jx4a65c ⟨Nat.le_of_ble_eq_true rfl, Nat.le_of_ble_eq_true rfl⟩ (Nat.le_of_ble_eq_true rfl) dX9_state_52 ⟨(show (kc) ≤ 2 by omega), (show (ks) ≤ 103 by omega)⟩ ?_
  refine t_iast (pc := 57) C hW ⟨by decide, by decide⟩ dX9_state_57 (fun ws hW => ?_)
  have hW : mW cc ga ad S ((qt2, .inl (cc 0, 3, .inl (upd (upd ht2 vt1.toNatClampNeg vt0) 1 (nI (S.2.1 2))))) :: E) ws := hW
  refine q_dup (pc := 58) C dX9_state_58 rfl ?_
  refine q_iconst (pc := 59) C (2 : Int32) dX9_state_59 q_ci_2 ?_
  refine q_aload_n (pc := 60) C dX9_state_60 rfl 0 rfl ?_
  refine m_g_11 (pc := 61) C hW n_X9_state_X9 (List.mem_of_getElem? (i := 1) rfl) dX9_state_61 ?_
  refine m_size_2 (pc := 64) C hW gX9_state_Jx4a65c_size_8abf5_f50Jx4a65c ⟨Nat.le_of_ble_eq_true rfl, Nat.le_of_ble_eq_true rfl⟩ (Nat.le_of_ble_eq_true rfl) dX9_state_64 ⟨(show (kc) ≤ 2 by omega), (show (ks) ≤ 103 by omega)⟩ ?_
  refine t_iast (pc := 69) C hW ⟨by decide, by decide⟩ dX9_state_69 (fun ws hW => ?_)
  have hW : mW cc ga ad S ((qt2, .inl (cc 0, 3, .inl (upd (upd (upd ht2 vt1.toNatClampNeg vt0) 1 (nI (S.2.1 2))) 2 (nI (S.2.1 2))))) :: E) ws := hW
  obtain ⟨g8, hf⟩ := q_gd hf
  refine m_add_2 (pc := 70) C hW g8 gX9_state_Jx4a65c_add_9ea2d_f94Jx4a65c ⟨Nat.le_of_ble_eq_true rfl, Nat.le_of_ble_eq_true rfl⟩ (Nat.le_of_ble_eq_true rfl) dX9_state_70 ⟨(show (kc) + 1 ≤ 2 by omega), (show (ks) + 100 ≤ 103 by omega)⟩ (fun ad ws hW => ?_)
  refine q_nm (wz := ws) (ka := kc + 1) (kb := ks + 100) (sz := [.int (1 : Int32)]) rfl rfl rfl rfl ?_
  refine q_pop (pc := 75) C dX9_state_75 rfl ?_
  refine q_aload_n (pc := 76) C dX9_state_76 rfl 0 rfl ?_
  refine m_g_11 (pc := 77) C hW n_X9_state_X9 (List.mem_of_getElem? (i := 1) rfl) dX9_state_77 ?_
  refine m_size_2 (pc := 80) C hW gX9_state_Jx4a65c_size_8abf5_f50Jx4a65c ⟨Nat.le_of_ble_eq_true rfl, Nat.le_of_ble_eq_true rfl⟩ (Nat.le_of_ble_eq_true rfl) dX9_state_80 ⟨(show (kc + 1) ≤ 2 by omega), (show (ks + 100) ≤ 103 by omega)⟩ ?_
  refine q_iconst (pc := 85) C (1 : Int32) dX9_state_85 q_ci_1 ?_
  refine q_isub (pc := 86) C dX9_state_86 ?_
  refine q_wid (show kc + 1 ≤ 2 by omega) (show ks + 100 ≤ 103 by omega) ?_
  obtain rfl := q_some hf
  exact q_iret (pc := 87) C dX9_state_87 ⟨rfl, ad, hW⟩
set_option maxRecDepth 100000 in
set_option maxHeartbeats 8000000 in
theorem w_X9_state_19 {p : Program} {l : Launch} {e : Env} {s : State} {m : MethodId} {args : Array Value} {below : List Frame} {meth : Method} {c : Code} {D : va_G} {cc : Nat → ClassId} {N0 : Nat} {ga : Nat → Nat} {E : va_W} {v : (Int32 × MS)} (C : q_C p s m args meth c cX9_state 2 (some .int) wsX9_state RX9 D cc N0)  (kc : Nat) (ks : Nat) (v1 : Int32) (vt0 : Int32) (S : MS) (ad : Nat → Nat → Nat) (ws : va_W) : f_X9_state_19  v1 vt0 S = some v → mW cc ga ad S E ws → kc + 2 ≤ 2 → ks + 103 ≤ 103 → q_WA p l e (q_rm (10) (400) 2 103) s m args below meth c D N0 2 (MQ below (q_Q D N0 (fun rv w1 => rv = some (.int v.1) ∧ ∃ ad : Nat → Nat → Nat, mW cc ga ad v.2 E w1)) args s 2 103 (q_A N0)) kc ks ws 19 [(0, .ref (ga 0)), (1, .int v1)] [.int vt0, .ref (ga 0)] := by
  intro hf hW b1 b2
  obtain ⟨u2, e3, hf⟩ := q_bind hf
  obtain ⟨_, he⟩ := hW.obj
  refine q_callV (pc := 19) (As := [.int vt0]) (rest := []) C (c_X9_isWrong l D cc N0 ga ad  E S vt0 u2 e3 ws hW) gX9_state_X9_isWrong rfl rfl z_X9_isWrong ⟨Nat.le_of_ble_eq_true rfl, Nat.le_of_ble_eq_true rfl⟩ he rfl rfl rfl (Nat.le_of_ble_eq_true rfl) dX9_state_19 ⟨(show (kc) + 0 ≤ 2 by omega), (show (ks) + 0 ≤ 103 by omega)⟩ ?_
  rintro _ ws ⟨rfl, hW⟩
  refine q_nm (wz := ws) (ka := kc) (kb := ks) (sz := [.int (q_b u2.1)]) rfl rfl rfl rfl ?_
  refine q_if_eq (pc := 22) (tgt := 27) C dX9_state_22 (by decide) (fun c4 => ?_) (fun c4 => ?_)
  · have hf := q_iteT hf c4
    refine q_aload_n (pc := 27) C dX9_state_27 rfl 0 rfl ?_
    refine m_g_11 (pc := 28) C hW n_X9_state_X9 (List.mem_of_getElem? (i := 1) rfl) dX9_state_28 ?_
    refine q_iconst (pc := 31) C (3 : Int32) dX9_state_31 q_ci_3 ?_
    refine t_new (pc := 32) C hW (ty := .int) 0 rfl (fun _ h => by cases h) (List.mem_of_getElem? (i := 2) rfl) rfl (N' := 3) (3, .inl fun _ => 0) (fun _ => rfl) (by decide) (by decide) (by decide) (show (kc) + 1 ≤ 2 by omega) (show (ks) + 3 ≤ 103 by omega) dX9_state_32 (fun qa5 ws hW => ?_)
    refine q_nm (wz := ws) (ka := kc + 1) (kb := ks + 3) (sz := [.ref qa5, .ref (ga 3)]) rfl rfl rfl rfl ?_
    refine q_dup (pc := 34) C dX9_state_34 rfl ?_
    refine q_iconst (pc := 35) C (0 : Int32) dX9_state_35 q_ci_0 ?_
    refine q_iload_n (pc := 36) C dX9_state_36 rfl 1 rfl ?_
    refine q_if_eq (pc := 37) (tgt := 44) C dX9_state_37 (by decide) (fun c6 => ?_) (fun c6 => ?_)
    · have hf := q_iteT hf c6
      refine q_iconst (pc := 44) C (0 : Int32) dX9_state_44 q_ci_0 ?_
      refine q_sub (lvq := [(0, .ref (ga 0))]) [0] rfl ?_
      exact w_X9_state_45 C (kc + 1) (ks + 3) (0 : Int32) (0 : Int32) (fun _ => 0) u2.2 qa5 ad ws hf hW (by omega) (by omega)
    · have hf := q_iteF hf c6
      refine q_iconst (pc := 40) C (1 : Int32) dX9_state_40 q_ci_1 ?_
      refine q_goto (pc := 41) (tgt := 45) C dX9_state_41 (by decide) ?_
      refine q_sub (lvq := [(0, .ref (ga 0))]) [0] rfl ?_
      exact w_X9_state_45 C (kc + 1) (ks + 3) (1 : Int32) (0 : Int32) (fun _ => 0) u2.2 qa5 ad ws hf hW (by omega) (by omega)
  · have hf := q_iteF hf c4
    refine q_iconst (pc := 25) C (0 : Int32) dX9_state_25 q_ci_0 ?_
    refine q_wid (show kc ≤ 2 by omega) (show ks ≤ 103 by omega) ?_
    obtain rfl := q_some hf
    exact q_iret (pc := 26) C dX9_state_26 ⟨rfl, ad, hW⟩
set_option maxRecDepth 100000 in
set_option maxHeartbeats 8000000 in
theorem c_X9_state (l : Launch) (D : va_G) (cc : Nat → ClassId) (N0 : Nat) (ga : Nat → Nat) (ad : Nat → Nat → Nat) (E : va_W) (S : MS) (a1 : Int32) (v : (Int32 × MS)) (hf : f_X9_state a1 S = some v) (ws : va_W) (hW : mW cc ga ad S E ws) : q_Met l yX9_state wsX9_state 10 400 D cc N0 ws [.ref (ga 0), .int a1] (fun rv w1 => rv = some (.int v.1) ∧ ∃ ad : Nat → Nat → Nat, mW cc ga ad v.2 E w1) 2 103 := by
  refine q_ofW (code := cX9_state) (nL := 2) (ret := (some .int)) (by decide +kernel) rfl (Nat.le_of_ble_eq_true rfl) (fun p e s m below meth c C _ => ?_)
  refine q_lv (lv2 := [(0, .ref (ga 0)), (1, .int a1)]) rfl ?_
  obtain ⟨kc, hkc⟩ : ∃ z, z = 0 := ⟨_, rfl⟩
  obtain ⟨ks, hks⟩ : ∃ z, z = 0 := ⟨_, rfl⟩
  refine q_nm (wz := ws) (ka := kc) (kb := ks) (sz := []) rfl hkc.symm hks.symm rfl ?_
  refine q_aload_n (pc := 0) C dX9_state_0 rfl 0 rfl ?_
  refine q_aload_n (pc := 1) C dX9_state_1 rfl 0 rfl ?_
  refine m_g_11 (pc := 2) C hW n_X9_state_X9 (List.mem_of_getElem? (i := 1) rfl) dX9_state_2 ?_
  refine m_size_2 (pc := 5) C hW gX9_state_Jx4a65c_size_8abf5_f50Jx4a65c ⟨Nat.le_of_ble_eq_true rfl, Nat.le_of_ble_eq_true rfl⟩ (Nat.le_of_ble_eq_true rfl) dX9_state_5 ⟨(show (kc) ≤ 2 by omega), (show (ks) ≤ 103 by omega)⟩ ?_
  refine q_iconst (pc := 10) C (5 : Int32) dX9_state_10 q_ci_5 ?_
  refine q_icmp_ne (pc := 11) (tgt := 18) C dX9_state_11 (by decide) (fun c1 => ?_) (fun c1 => ?_)
  · have hf := q_iteF hf c1
    refine q_iconst (pc := 18) C (0 : Int32) dX9_state_18 q_ci_0 ?_
    refine q_sub (lvq := [(0, .ref (ga 0)), (1, .int a1)]) [0, 1] rfl ?_
    exact w_X9_state_19 C (kc) (ks) a1 (0 : Int32) S ad ws hf hW (by omega) (by omega)
  · have hf := q_iteT hf c1
    refine q_iconst (pc := 14) C (1 : Int32) dX9_state_14 q_ci_1 ?_
    refine q_goto (pc := 15) (tgt := 19) C dX9_state_15 (by decide) ?_
    refine q_sub (lvq := [(0, .ref (ga 0)), (1, .int a1)]) [0, 1] rfl ?_
    exact w_X9_state_19 C (kc) (ks) a1 (1 : Int32) S ad ws hf hW (by omega) (by omega)
theorem z_X9_go : q_dsc yX9_go 3 := ⟨by decide +kernel, by decide +kernel, by decide +kernel⟩
theorem n_X9_go_X9 : ∀ w ∈ wsX90, w ∈ wsX9_go := fun _ h => (List.mem_cons_of_mem _ (List.mem_append_left _ (List.mem_append_right _ h)))
def f_X9_go_44 (v1 : Int32) (v2 : Int32) (v3 : Int32) (vt0 : Int32) (S : MS) : Option (Int32 × MS) := ((f_X9_isWrong vt0 S).bind fun u4 => (if (q_b u4.1) = 0 then (if q_in v1 (u4.2.2.1 2) then (if v1.toNatClampNeg < u4.2.2.1 2 ∧ q_in ((v2 - (97 : Int32)) + (1 : Int32)) 3 then (if q_in v1 (u4.2.2.1 2) then (if v1.toNatClampNeg < u4.2.2.1 2 ∧ q_in ((v2 - (97 : Int32)) + (1 : Int32)) 3 then some ((u4.2.2.2.1 2 v1.toNatClampNeg ((v2 - (97 : Int32)) + (1 : Int32)).toNatClampNeg), (mrow u4.2 2 v1.toNatClampNeg ((v2 - (97 : Int32)) + (1 : Int32)).toNatClampNeg v3)) else none) else none) else none) else none) else some ((0 : Int32), u4.2)))
def f_X9_go_23 (v1 : Int32) (v2 : Int32) (v3 : Int32) (S : MS) : Option (Int32 × MS) := f_X9_go_44 v1 v2 v3 (1 : Int32) S
def f_X9_go_43 (v1 : Int32) (v2 : Int32) (v3 : Int32) (S : MS) : Option (Int32 × MS) := f_X9_go_44 v1 v2 v3 (0 : Int32) S
def f_X9_go (a1 : Int32) (a2 : Int32) (a3 : Int32) (S : MS) : Option (Int32 × MS) := ((f_X9_isOf_2 S a1).bind fun u1 => (if (q_b u1) = 0 then f_X9_go_23 a1 a2 a3 S else ((f_X9_isOf_2 S a3).bind fun u11 => (if (q_b u11) = 0 then f_X9_go_23 a1 a2 a3 S else (if a2 = (97 : Int32) then f_X9_go_43 a1 a2 a3 S else (if a2 = (98 : Int32) then f_X9_go_43 a1 a2 a3 S else f_X9_go_44 a1 a2 a3 (2 : Int32) S))))))
set_option maxRecDepth 100000 in
set_option maxHeartbeats 8000000 in
theorem w_X9_go_44 {p : Program} {l : Launch} {e : Env} {s : State} {m : MethodId} {args : Array Value} {below : List Frame} {meth : Method} {c : Code} {D : va_G} {cc : Nat → ClassId} {N0 : Nat} {ga : Nat → Nat} {E : va_W} {ad : Nat → Nat → Nat} {v : (Int32 × MS)} (C : q_C p s m args meth c cX9_go 5 (some .int) wsX9_go RX9 D cc N0)  (v1 : Int32) (v2 : Int32) (v3 : Int32) (vt0 : Int32) (S : MS)  (ws : va_W) : f_X9_go_44  v1 v2 v3 vt0 S = some v → mW cc ga ad S E ws → q_WA p l e (q_rm (4) (100) 0 0) s m args below meth c D N0 5 (MQ below (q_Q D N0 (fun rv w1 => rv = some (.int v.1) ∧ mW cc ga ad v.2 E w1)) args s 0 0 (q_A N0)) 0 0 ws 44 [(0, .ref (ga 0)), (1, .int v1), (2, .int v2), (3, .int v3)] [.int vt0, .ref (ga 0)] := by
  intro hf hW
  obtain ⟨u4, e5, hf⟩ := q_bind hf
  obtain ⟨_, he⟩ := hW.obj
  refine q_callV (pc := 44) (As := [.int vt0]) (rest := []) C (c_X9_isWrong l D cc N0 ga ad  E S vt0 u4 e5 ws hW) gX9_go_X9_isWrong rfl rfl z_X9_isWrong ⟨Nat.le_of_ble_eq_true rfl, Nat.le_of_ble_eq_true rfl⟩ he rfl rfl rfl (Nat.le_of_ble_eq_true rfl) dX9_go_44 ⟨Nat.le_of_ble_eq_true rfl, Nat.le_of_ble_eq_true rfl⟩ ?_
  rintro _ ws ⟨rfl, hW⟩
  refine q_nm (wz := ws) (ka := 0) (kb := 0) (sz := [.int (q_b u4.1)]) rfl rfl rfl rfl ?_
  refine q_if_eq (pc := 47) (tgt := 52) C dX9_go_47 (by decide) (fun c6 => ?_) (fun c6 => ?_)
  · have hf := q_iteT hf c6
    refine q_aload_n (pc := 52) C dX9_go_52 rfl 0 rfl ?_
    refine m_g_11 (pc := 53) C hW n_X9_go_X9 (List.mem_of_getElem? (i := 1) rfl) dX9_go_53 ?_
    refine q_iload_n (pc := 56) C dX9_go_56 rfl 1 rfl ?_
    obtain ⟨g7, hf⟩ := q_gd hf
    refine m_get_2 (pc := 57) C hW g7 gX9_go_Jx4a65c_get_915e3_f129Jx4a65c ⟨Nat.le_of_ble_eq_true rfl, Nat.le_of_ble_eq_true rfl⟩ (Nat.le_of_ble_eq_true rfl) dX9_go_57 ⟨Nat.le_of_ble_eq_true rfl, Nat.le_of_ble_eq_true rfl⟩ ?_
    refine m_cast_2 (pc := 62) C hW g7.2 (List.mem_of_getElem? (i := 2) rfl) dX9_go_62 ?_
    refine q_iload_n (pc := 65) C dX9_go_65 rfl 2 rfl ?_
    refine q_bipush (pc := 66) C (97 : Int32) dX9_go_66 q_cb_97 ?_
    refine q_isub (pc := 68) C dX9_go_68 ?_
    refine q_iconst (pc := 69) C (1 : Int32) dX9_go_69 q_ci_1 ?_
    refine q_iadd (pc := 70) C dX9_go_70 ?_
    obtain ⟨g8, hf⟩ := q_gd hf
    refine m_rald_2 (pc := 71) C hW g8.1 g8.2 dX9_go_71 ?_
    refine q_nm (wz := ws) (ka := 0) (kb := 0) (sz := [.int (u4.2.2.2.1 2 v1.toNatClampNeg ((v2 - (97 : Int32)) + (1 : Int32)).toNatClampNeg)]) rfl rfl rfl rfl ?_
    refine q_istore (pc := 72) (lvq := [(4, .int (u4.2.2.2.1 2 v1.toNatClampNeg ((v2 - (97 : Int32)) + (1 : Int32)).toNatClampNeg)), (0, .ref (ga 0)), (1, .int v1), (2, .int v2), (3, .int v3)]) C dX9_go_72 (by decide) rfl ?_
    refine q_aload_n (pc := 74) C dX9_go_74 rfl 1 rfl ?_
    refine m_g_11 (pc := 75) C hW n_X9_go_X9 (List.mem_of_getElem? (i := 1) rfl) dX9_go_75 ?_
    refine q_iload_n (pc := 78) C dX9_go_78 rfl 2 rfl ?_
    obtain ⟨g9, hf⟩ := q_gd hf
    refine m_get_2 (pc := 79) C hW g9 gX9_go_Jx4a65c_get_915e3_f129Jx4a65c ⟨Nat.le_of_ble_eq_true rfl, Nat.le_of_ble_eq_true rfl⟩ (Nat.le_of_ble_eq_true rfl) dX9_go_79 ⟨Nat.le_of_ble_eq_true rfl, Nat.le_of_ble_eq_true rfl⟩ ?_
    refine m_cast_2 (pc := 84) C hW g9.2 (List.mem_of_getElem? (i := 2) rfl) dX9_go_84 ?_
    refine q_iload_n (pc := 87) C dX9_go_87 rfl 3 rfl ?_
    refine q_bipush (pc := 88) C (97 : Int32) dX9_go_88 q_cb_97 ?_
    refine q_isub (pc := 90) C dX9_go_90 ?_
    refine q_iconst (pc := 91) C (1 : Int32) dX9_go_91 q_ci_1 ?_
    refine q_iadd (pc := 92) C dX9_go_92 ?_
    refine q_iload_n (pc := 93) C dX9_go_93 rfl 4 rfl ?_
    obtain ⟨g10, hf⟩ := q_gd hf
    refine m_rast_2 (pc := 94) C hW g10.1 g10.2 dX9_go_94 (fun ws hW => ?_)
    have hW : mW cc ga ad (mrow u4.2 2 v1.toNatClampNeg ((v2 - (97 : Int32)) + (1 : Int32)).toNatClampNeg v3) E ws := hW
    refine q_iload (pc := 95) C dX9_go_95 0 rfl ?_
    obtain rfl := q_some hf
    exact q_iret (pc := 97) C dX9_go_97 ⟨rfl, hW⟩
  · have hf := q_iteF hf c6
    refine q_iconst (pc := 50) C (0 : Int32) dX9_go_50 q_ci_0 ?_
    obtain rfl := q_some hf
    exact q_iret (pc := 51) C dX9_go_51 ⟨rfl, hW⟩
set_option maxRecDepth 100000 in
set_option maxHeartbeats 8000000 in
theorem w_X9_go_23 {p : Program} {l : Launch} {e : Env} {s : State} {m : MethodId} {args : Array Value} {below : List Frame} {meth : Method} {c : Code} {D : va_G} {cc : Nat → ClassId} {N0 : Nat} {ga : Nat → Nat} {E : va_W} {ad : Nat → Nat → Nat} {v : (Int32 × MS)} (C : q_C p s m args meth c cX9_go 5 (some .int) wsX9_go RX9 D cc N0)  (v1 : Int32) (v2 : Int32) (v3 : Int32) (S : MS)  (ws : va_W) : f_X9_go_23  v1 v2 v3 S = some v → mW cc ga ad S E ws → q_WA p l e (q_rm (4) (100) 0 0) s m args below meth c D N0 5 (MQ below (q_Q D N0 (fun rv w1 => rv = some (.int v.1) ∧ mW cc ga ad v.2 E w1)) args s 0 0 (q_A N0)) 0 0 ws 23 [(0, .ref (ga 0)), (1, .int v1), (2, .int v2), (3, .int v3)] [.ref (ga 0)] := by
  intro hf hW
  refine q_iconst (pc := 23) C (1 : Int32) dX9_go_23 q_ci_1 ?_
  refine q_goto (pc := 24) (tgt := 44) C dX9_go_24 (by decide) ?_
  refine q_sub (lvq := [(0, .ref (ga 0)), (1, .int v1), (2, .int v2), (3, .int v3)]) [0, 1, 2, 3] rfl ?_
  exact w_X9_go_44 C v1 v2 v3 (1 : Int32) S ws hf hW
set_option maxRecDepth 100000 in
set_option maxHeartbeats 8000000 in
theorem w_X9_go_43 {p : Program} {l : Launch} {e : Env} {s : State} {m : MethodId} {args : Array Value} {below : List Frame} {meth : Method} {c : Code} {D : va_G} {cc : Nat → ClassId} {N0 : Nat} {ga : Nat → Nat} {E : va_W} {ad : Nat → Nat → Nat} {v : (Int32 × MS)} (C : q_C p s m args meth c cX9_go 5 (some .int) wsX9_go RX9 D cc N0)  (v1 : Int32) (v2 : Int32) (v3 : Int32) (S : MS)  (ws : va_W) : f_X9_go_43  v1 v2 v3 S = some v → mW cc ga ad S E ws → q_WA p l e (q_rm (4) (100) 0 0) s m args below meth c D N0 5 (MQ below (q_Q D N0 (fun rv w1 => rv = some (.int v.1) ∧ mW cc ga ad v.2 E w1)) args s 0 0 (q_A N0)) 0 0 ws 43 [(0, .ref (ga 0)), (1, .int v1), (2, .int v2), (3, .int v3)] [.ref (ga 0)] := by
  intro hf hW
  refine q_iconst (pc := 43) C (0 : Int32) dX9_go_43 q_ci_0 ?_
  refine q_sub (lvq := [(0, .ref (ga 0)), (1, .int v1), (2, .int v2), (3, .int v3)]) [0, 1, 2, 3] rfl ?_
  exact w_X9_go_44 C v1 v2 v3 (0 : Int32) S ws hf hW
set_option maxRecDepth 100000 in
set_option maxHeartbeats 8000000 in
theorem c_X9_go (l : Launch) (D : va_G) (cc : Nat → ClassId) (N0 : Nat) (ga : Nat → Nat) (ad : Nat → Nat → Nat) (E : va_W) (S : MS) (a1 : Int32) (a2 : Int32) (a3 : Int32) (v : (Int32 × MS)) (hf : f_X9_go a1 a2 a3 S = some v) (ws : va_W) (hW : mW cc ga ad S E ws) : q_Met l yX9_go wsX9_go 4 100 D cc N0 ws [.ref (ga 0), .int a1, .int a2, .int a3] (fun rv w1 => rv = some (.int v.1) ∧ mW cc ga ad v.2 E w1) 0 0 := by
  refine q_ofW (code := cX9_go) (nL := 5) (ret := (some .int)) (by decide +kernel) rfl (Nat.le_of_ble_eq_true rfl) (fun p e s m below meth c C _ => ?_)
  refine q_lv (lv2 := [(0, .ref (ga 0)), (1, .int a1), (2, .int a2), (3, .int a3)]) rfl ?_
  refine q_aload_n (pc := 0) C dX9_go_0 rfl 0 rfl ?_
  refine q_aload_n (pc := 1) C dX9_go_1 rfl 0 rfl ?_
  refine m_g_11 (pc := 2) C hW n_X9_go_X9 (List.mem_of_getElem? (i := 1) rfl) dX9_go_2 ?_
  refine q_iload_n (pc := 5) C dX9_go_5 rfl 1 rfl ?_
  obtain ⟨u1, e2, hf⟩ := q_bind hf
  refine q_callS (pc := 6) (As := [.ref (ga 3), .int a1]) (rest := [.ref (ga 0)]) C (c_X9_isOf_2 l D cc N0 ga ad  E S a1 u1 e2 ws hW) gX9_go_X9_isOf rfl z_X9_isOf_2 ⟨Nat.le_of_ble_eq_true rfl, Nat.le_of_ble_eq_true rfl⟩ rfl rfl (Nat.le_of_ble_eq_true rfl) dX9_go_6 ⟨Nat.le_of_ble_eq_true rfl, Nat.le_of_ble_eq_true rfl⟩ ?_
  rintro _ ws ⟨rfl, hW⟩
  refine q_nm (wz := ws) (ka := 0) (kb := 0) (sz := [.int (q_b u1), .ref (ga 0)]) rfl rfl rfl rfl ?_
  refine q_if_eq (pc := 9) (tgt := 23) C dX9_go_9 (by decide) (fun c3 => ?_) (fun c3 => ?_)
  · have hf := q_iteT hf c3
    refine q_sub (lvq := [(0, .ref (ga 0)), (1, .int a1), (2, .int a2), (3, .int a3)]) [0, 1, 2, 3] rfl ?_
    exact w_X9_go_23 C a1 a2 a3 S ws hf hW
  · have hf := q_iteF hf c3
    refine q_aload_n (pc := 12) C dX9_go_12 rfl 0 rfl ?_
    refine m_g_11 (pc := 13) C hW n_X9_go_X9 (List.mem_of_getElem? (i := 1) rfl) dX9_go_13 ?_
    refine q_iload_n (pc := 16) C dX9_go_16 rfl 3 rfl ?_
    obtain ⟨u11, e12, hf⟩ := q_bind hf
    refine q_callS (pc := 17) (As := [.ref (ga 3), .int a3]) (rest := [.ref (ga 0)]) C (c_X9_isOf_2 l D cc N0 ga ad  E S a3 u11 e12 ws hW) gX9_go_X9_isOf rfl z_X9_isOf_2 ⟨Nat.le_of_ble_eq_true rfl, Nat.le_of_ble_eq_true rfl⟩ rfl rfl (Nat.le_of_ble_eq_true rfl) dX9_go_17 ⟨Nat.le_of_ble_eq_true rfl, Nat.le_of_ble_eq_true rfl⟩ ?_
    rintro _ ws ⟨rfl, hW⟩
    refine q_nm (wz := ws) (ka := 0) (kb := 0) (sz := [.int (q_b u11), .ref (ga 0)]) rfl rfl rfl rfl ?_
    refine q_if_ne (pc := 20) (tgt := 27) C dX9_go_20 (by decide) (fun c13 => ?_) (fun c13 => ?_)
    · have hf := q_iteF hf c13
      refine q_iload_n (pc := 27) C dX9_go_27 rfl 2 rfl ?_
      refine q_bipush (pc := 28) C (97 : Int32) dX9_go_28 q_cb_97 ?_
      refine q_icmp_eq (pc := 30) (tgt := 43) C dX9_go_30 (by decide) (fun c14 => ?_) (fun c14 => ?_)
      · have hf := q_iteT hf c14
        refine q_sub (lvq := [(0, .ref (ga 0)), (1, .int a1), (2, .int a2), (3, .int a3)]) [0, 1, 2, 3] rfl ?_
        exact w_X9_go_43 C a1 a2 a3 S ws hf hW
      · have hf := q_iteF hf c14
        refine q_iload_n (pc := 33) C dX9_go_33 rfl 2 rfl ?_
        refine q_bipush (pc := 34) C (98 : Int32) dX9_go_34 q_cb_98 ?_
        refine q_icmp_eq (pc := 36) (tgt := 43) C dX9_go_36 (by decide) (fun c15 => ?_) (fun c15 => ?_)
        · have hf := q_iteT hf c15
          refine q_sub (lvq := [(0, .ref (ga 0)), (1, .int a1), (2, .int a2), (3, .int a3)]) [0, 1, 2, 3] rfl ?_
          exact w_X9_go_43 C a1 a2 a3 S ws hf hW
        · have hf := q_iteF hf c15
          refine q_iconst (pc := 39) C (2 : Int32) dX9_go_39 q_ci_2 ?_
          refine q_goto (pc := 40) (tgt := 44) C dX9_go_40 (by decide) ?_
          refine q_sub (lvq := [(0, .ref (ga 0)), (1, .int a1), (2, .int a2), (3, .int a3)]) [0, 1, 2, 3] rfl ?_
          exact w_X9_go_44 C a1 a2 a3 (2 : Int32) S ws hf hW
    · have hf := q_iteT hf c13
      refine q_sub (lvq := [(0, .ref (ga 0)), (1, .int a1), (2, .int a2), (3, .int a3)]) [0, 1, 2, 3] rfl ?_
      exact w_X9_go_23 C a1 a2 a3 S ws hf hW
theorem z_X9_takes : q_dsc yX9_takes 2 := ⟨by decide +kernel, by decide +kernel, by decide +kernel⟩
theorem n_X9_takes_X9 : ∀ w ∈ wsX90, w ∈ wsX9_takes := fun _ h => (List.mem_cons_of_mem _ (List.mem_append_left _ (List.mem_append_right _ h)))
def f_X9_takes_5b (S : MS) (k5 : Int32 → Int32 → Int32 → Int32 → Option Bool) (v1 : Int32) (v2 : Int32) (v3 : Int32) (v4 : Int32) : Option Bool := (if v1 ≤ v4 then (if q_in v3 (S.2.1 2) then (if v3.toNatClampNeg < S.2.1 2 then (if (S.2.2.1 2 v3.toNatClampNeg 0) = (1 : Int32) then some true else some false) else none) else none) else (if q_in v3 (S.2.1 2) then (if v3.toNatClampNeg < S.2.1 2 ∧ q_in ((1 : Int32) + ((v2 >>> (v4 &&& 31)) &&& (1 : Int32))) 3 then k5 v1 v2 (S.2.2.1 2 v3.toNatClampNeg ((1 : Int32) + ((v2 >>> (v4 &&& 31)) &&& (1 : Int32))).toNatClampNeg) (v4 + (1 : Int32)) else none) else none))
def f_X9_takes_5 (S : MS) : Nat → Int32 → Int32 → Int32 → Int32 → Option Bool
  | 0, _, _, _, _ => none
  | n + 1, v1, v2, v3, v4 => f_X9_takes_5b S (f_X9_takes_5 S n) v1 v2 v3 v4
def f_X9_takes (S : MS) (a1 : Int32) (a2 : Int32) : Option Bool := f_X9_takes_5 S 1000 a1 a2 (0 : Int32) (0 : Int32)
set_option maxRecDepth 100000 in
set_option maxHeartbeats 8000000 in
theorem w_X9_takes_5 {p : Program} {l : Launch} {e : Env} {s : State} {m : MethodId} {args : Array Value} {below : List Frame} {meth : Method} {c : Code} {D : va_G} {cc : Nat → ClassId} {N0 : Nat} {ga : Nat → Nat} {E : va_W} {ad : Nat → Nat → Nat} {S : MS} {v : Bool} (C : q_C p s m args meth c cX9_takes 5 (some .boolean) wsX9_takes RX9 D cc N0)  : ∀ (n : Nat) (v1 : Int32) (v2 : Int32) (v3 : Int32) (v4 : Int32)  (ws : va_W), f_X9_takes_5 S n v1 v2 v3 v4 = some v → mW cc ga ad S E ws → q_WA p l e (q_rm (4) (100) 0 0) s m args below meth c D N0 5 (MQ below (q_Q D N0 (fun rv w1 => rv = some (.int (q_b v)) ∧ mW cc ga ad S E w1)) args s 0 0 (q_A N0)) 0 0 ws 5 [(0, .ref (ga 0)), (1, .int v1), (2, .int v2), (3, .int v3), (4, .int v4)] [] := by
  intro n
  induction n with
  | zero => intro v1 v2 v3 v4 ws hf; cases hf
  | succ n ih =>
    intro v1 v2 v3 v4 ws hf hW
    have hk5 : ∀ (v1 : Int32) (v2 : Int32) (v3 : Int32) (v4 : Int32)  (ws : va_W), f_X9_takes_5 S n v1 v2 v3 v4 = some v → mW cc ga ad S E ws → q_WA p l e (q_rm (4) (100) 0 0) s m args below meth c D N0 5 (MQ below (q_Q D N0 (fun rv w1 => rv = some (.int (q_b v)) ∧ mW cc ga ad S E w1)) args s 0 0 (q_A N0)) 0 0 ws 5 [(0, .ref (ga 0)), (1, .int v1), (2, .int v2), (3, .int v3), (4, .int v4)] [] := ih
    have hf : f_X9_takes_5b S (f_X9_takes_5 S n) v1 v2 v3 v4 = some v := hf
    refine q_iload (pc := 5) C dX9_takes_5 4 rfl ?_
    refine q_iload_n (pc := 7) C dX9_takes_7 rfl 1 rfl ?_
    refine q_icmp_ge (pc := 8) (tgt := 40) C dX9_takes_8 (by decide) (fun c1 => ?_) (fun c1 => ?_)
    · have hf := q_iteT hf c1
      refine q_aload_n (pc := 40) C dX9_takes_40 rfl 0 rfl ?_
      refine m_g_11 (pc := 41) C hW n_X9_takes_X9 (List.mem_of_getElem? (i := 1) rfl) dX9_takes_41 ?_
      refine q_iload_n (pc := 44) C dX9_takes_44 rfl 3 rfl ?_
      obtain ⟨g2, hf⟩ := q_gd hf
      refine m_get_2 (pc := 45) C hW g2 gX9_takes_Jx4a65c_get_915e3_f129Jx4a65c ⟨Nat.le_of_ble_eq_true rfl, Nat.le_of_ble_eq_true rfl⟩ (Nat.le_of_ble_eq_true rfl) dX9_takes_45 ⟨Nat.le_of_ble_eq_true rfl, Nat.le_of_ble_eq_true rfl⟩ ?_
      refine m_cast_2 (pc := 50) C hW g2.2 (List.mem_of_getElem? (i := 2) rfl) dX9_takes_50 ?_
      refine q_iconst (pc := 53) C (0 : Int32) dX9_takes_53 q_ci_0 ?_
      obtain ⟨g3, hf⟩ := q_gd hf
      refine m_rald_2 (pc := 54) C hW g3 ⟨by decide, by decide⟩ dX9_takes_54 ?_
      refine q_nm (wz := ws) (ka := 0) (kb := 0) (sz := [.int (S.2.2.1 2 v3.toNatClampNeg 0)]) rfl rfl rfl rfl ?_
      refine q_iconst (pc := 55) C (1 : Int32) dX9_takes_55 q_ci_1 ?_
      refine q_icmp_ne (pc := 56) (tgt := 63) C dX9_takes_56 (by decide) (fun c4 => ?_) (fun c4 => ?_)
      · have hf := q_iteF hf c4
        refine q_iconst (pc := 63) C (0 : Int32) dX9_takes_63 q_ci_0 ?_
        obtain rfl := q_some hf
        exact q_zret (pc := 64) C (by decide +kernel) dX9_takes_64 ⟨rfl, hW⟩
      · have hf := q_iteT hf c4
        refine q_iconst (pc := 59) C (1 : Int32) dX9_takes_59 q_ci_1 ?_
        refine q_goto (pc := 60) (tgt := 64) C dX9_takes_60 (by decide) ?_
        obtain rfl := q_some hf
        exact q_zret (pc := 64) C (by decide +kernel) dX9_takes_64 ⟨rfl, hW⟩
    · have hf := q_iteF hf c1
      refine q_aload_n (pc := 11) C dX9_takes_11 rfl 0 rfl ?_
      refine m_g_11 (pc := 12) C hW n_X9_takes_X9 (List.mem_of_getElem? (i := 1) rfl) dX9_takes_12 ?_
      refine q_iload_n (pc := 15) C dX9_takes_15 rfl 3 rfl ?_
      obtain ⟨g5, hf⟩ := q_gd hf
      refine m_get_2 (pc := 16) C hW g5 gX9_takes_Jx4a65c_get_915e3_f129Jx4a65c ⟨Nat.le_of_ble_eq_true rfl, Nat.le_of_ble_eq_true rfl⟩ (Nat.le_of_ble_eq_true rfl) dX9_takes_16 ⟨Nat.le_of_ble_eq_true rfl, Nat.le_of_ble_eq_true rfl⟩ ?_
      refine m_cast_2 (pc := 21) C hW g5.2 (List.mem_of_getElem? (i := 2) rfl) dX9_takes_21 ?_
      refine q_iconst (pc := 24) C (1 : Int32) dX9_takes_24 q_ci_1 ?_
      refine q_iload_n (pc := 25) C dX9_takes_25 rfl 2 rfl ?_
      refine q_iload (pc := 26) C dX9_takes_26 4 rfl ?_
      refine q_ishr (pc := 28) C dX9_takes_28 ?_
      refine q_iconst (pc := 29) C (1 : Int32) dX9_takes_29 q_ci_1 ?_
      refine q_iand (pc := 30) C dX9_takes_30 ?_
      refine q_iadd (pc := 31) C dX9_takes_31 ?_
      obtain ⟨g6, hf⟩ := q_gd hf
      refine m_rald_2 (pc := 32) C hW g6.1 g6.2 dX9_takes_32 ?_
      refine q_nm (wz := ws) (ka := 0) (kb := 0) (sz := [.int (S.2.2.1 2 v3.toNatClampNeg ((1 : Int32) + ((v2 >>> (v4 &&& 31)) &&& (1 : Int32))).toNatClampNeg)]) rfl rfl rfl rfl ?_
      refine q_istore_n (pc := 33) (lvq := [(3, .int (S.2.2.1 2 v3.toNatClampNeg ((1 : Int32) + ((v2 >>> (v4 &&& 31)) &&& (1 : Int32))).toNatClampNeg)), (0, .ref (ga 0)), (1, .int v1), (2, .int v2), (4, .int v4)]) C dX9_takes_33 rfl (by decide) rfl ?_
      refine q_iinc (pc := 34) (lvq := [(4, .int (v4 + (1 : Int32))), (3, .int (S.2.2.1 2 v3.toNatClampNeg ((1 : Int32) + ((v2 >>> (v4 &&& 31)) &&& (1 : Int32))).toNatClampNeg)), (0, .ref (ga 0)), (1, .int v1), (2, .int v2)]) C (v4 + (1 : Int32)) dX9_takes_34 4 rfl q_ca_1 (by decide) rfl ?_
      refine q_goto (pc := 37) (tgt := 5) C dX9_takes_37 (by decide) ?_
      refine q_sub (lvq := [(0, .ref (ga 0)), (1, .int v1), (2, .int v2), (3, .int (S.2.2.1 2 v3.toNatClampNeg ((1 : Int32) + ((v2 >>> (v4 &&& 31)) &&& (1 : Int32))).toNatClampNeg)), (4, .int (v4 + (1 : Int32)))]) [2, 3, 4, 1, 0] rfl ?_
      exact hk5 v1 v2 (S.2.2.1 2 v3.toNatClampNeg ((1 : Int32) + ((v2 >>> (v4 &&& 31)) &&& (1 : Int32))).toNatClampNeg) (v4 + (1 : Int32)) ws hf hW
set_option maxRecDepth 100000 in
set_option maxHeartbeats 8000000 in
theorem c_X9_takes (l : Launch) (D : va_G) (cc : Nat → ClassId) (N0 : Nat) (ga : Nat → Nat) (ad : Nat → Nat → Nat) (E : va_W) (S : MS) (a1 : Int32) (a2 : Int32) (v : Bool) (hf : f_X9_takes S a1 a2 = some v) (ws : va_W) (hW : mW cc ga ad S E ws) : q_Met l yX9_takes wsX9_takes 4 100 D cc N0 ws [.ref (ga 0), .int a1, .int a2] (fun rv w1 => rv = some (.int (q_b v)) ∧ mW cc ga ad S E w1) 0 0 := by
  refine q_ofW (code := cX9_takes) (nL := 5) (ret := (some .boolean)) (by decide +kernel) rfl (Nat.le_of_ble_eq_true rfl) (fun p e s m below meth c C _ => ?_)
  refine q_lv (lv2 := [(0, .ref (ga 0)), (1, .int a1), (2, .int a2)]) rfl ?_
  refine q_iconst (pc := 0) C (0 : Int32) dX9_takes_0 q_ci_0 ?_
  refine q_istore_n (pc := 1) (lvq := [(3, .int (0 : Int32)), (0, .ref (ga 0)), (1, .int a1), (2, .int a2)]) C dX9_takes_1 rfl (by decide) rfl ?_
  refine q_iconst (pc := 2) C (0 : Int32) dX9_takes_2 q_ci_0 ?_
  refine q_istore (pc := 3) (lvq := [(4, .int (0 : Int32)), (3, .int (0 : Int32)), (0, .ref (ga 0)), (1, .int a1), (2, .int a2)]) C dX9_takes_3 (by decide) rfl ?_
  refine q_sub (lvq := [(0, .ref (ga 0)), (1, .int a1), (2, .int a2), (3, .int (0 : Int32)), (4, .int (0 : Int32))]) [2, 3, 4, 1, 0] rfl ?_
  exact w_X9_takes_5 C 1000 a1 a2 (0 : Int32) (0 : Int32) ws hf hW
theorem z_X9_accepts : q_dsc yX9_accepts 2 := ⟨by decide +kernel, by decide +kernel, by decide +kernel⟩
theorem n_X9_accepts_X9 : ∀ w ∈ wsX90, w ∈ wsX9_accepts := fun _ h => (List.mem_cons_of_mem _ (List.mem_append_left _ (List.mem_append_right _ h)))
def f_X9_accepts_30 (v1 : Int32) (v2 : Int32) (vt0 : Int32) (S : MS) : Option (Bool × MS) := ((f_X9_isWrong vt0 S).bind fun u3 => (if (q_b u3.1) = 0 then ((f_X9_takes u3.2 v1 v2).bind fun u6 => (if (q_b u6) = 0 then some (false, u3.2) else some (true, u3.2))) else some (false, u3.2)))
def f_X9_accepts (a1 : Int32) (a2 : Int32) (S : MS) : Option (Bool × MS) := (if (q_b (f_X9_isWord a1 a2)) = 0 then f_X9_accepts_30 a1 a2 (1 : Int32) S else (if (q_b (decide (S.2.1 2 = 0))) = 0 then f_X9_accepts_30 a1 a2 (0 : Int32) S else f_X9_accepts_30 a1 a2 (2 : Int32) S))
set_option maxRecDepth 100000 in
set_option maxHeartbeats 8000000 in
theorem w_X9_accepts_30 {p : Program} {l : Launch} {e : Env} {s : State} {m : MethodId} {args : Array Value} {below : List Frame} {meth : Method} {c : Code} {D : va_G} {cc : Nat → ClassId} {N0 : Nat} {ga : Nat → Nat} {E : va_W} {ad : Nat → Nat → Nat} {v : (Bool × MS)} (C : q_C p s m args meth c cX9_accepts 3 (some .boolean) wsX9_accepts RX9 D cc N0)  (v1 : Int32) (v2 : Int32) (vt0 : Int32) (S : MS)  (ws : va_W) : f_X9_accepts_30  v1 v2 vt0 S = some v → mW cc ga ad S E ws → q_WA p l e (q_rm (5) (124) 0 0) s m args below meth c D N0 3 (MQ below (q_Q D N0 (fun rv w1 => rv = some (.int (q_b v.1)) ∧ mW cc ga ad v.2 E w1)) args s 0 0 (q_A N0)) 0 0 ws 30 [(0, .ref (ga 0)), (1, .int v1), (2, .int v2)] [.int vt0, .ref (ga 0)] := by
  intro hf hW
  obtain ⟨u3, e4, hf⟩ := q_bind hf
  obtain ⟨_, he⟩ := hW.obj
  refine q_callV (pc := 30) (As := [.int vt0]) (rest := []) C (c_X9_isWrong l D cc N0 ga ad  E S vt0 u3 e4 ws hW) gX9_accepts_X9_isWrong rfl rfl z_X9_isWrong ⟨Nat.le_of_ble_eq_true rfl, Nat.le_of_ble_eq_true rfl⟩ he rfl rfl rfl (Nat.le_of_ble_eq_true rfl) dX9_accepts_30 ⟨Nat.le_of_ble_eq_true rfl, Nat.le_of_ble_eq_true rfl⟩ ?_
  rintro _ ws ⟨rfl, hW⟩
  refine q_nm (wz := ws) (ka := 0) (kb := 0) (sz := [.int (q_b u3.1)]) rfl rfl rfl rfl ?_
  refine q_if_ne (pc := 33) (tgt := 49) C dX9_accepts_33 (by decide) (fun c5 => ?_) (fun c5 => ?_)
  · have hf := q_iteF hf c5
    refine q_iconst (pc := 49) C (0 : Int32) dX9_accepts_49 q_ci_0 ?_
    obtain rfl := q_some hf
    exact q_zret (pc := 50) C (by decide +kernel) dX9_accepts_50 ⟨rfl, hW⟩
  · have hf := q_iteT hf c5
    refine q_aload_n (pc := 36) C dX9_accepts_36 rfl 0 rfl ?_
    refine q_iload_n (pc := 37) C dX9_accepts_37 rfl 1 rfl ?_
    refine q_iload_n (pc := 38) C dX9_accepts_38 rfl 2 rfl ?_
    obtain ⟨u6, e7, hf⟩ := q_bind hf
    obtain ⟨_, he⟩ := hW.obj
    refine q_callV (pc := 39) (As := [.int v1, .int v2]) (rest := []) C (c_X9_takes l D cc N0 ga ad  E u3.2 v1 v2 u6 e7 ws hW) gX9_accepts_X9_takes rfl rfl z_X9_takes ⟨Nat.le_of_ble_eq_true rfl, Nat.le_of_ble_eq_true rfl⟩ he rfl rfl rfl (Nat.le_of_ble_eq_true rfl) dX9_accepts_39 ⟨Nat.le_of_ble_eq_true rfl, Nat.le_of_ble_eq_true rfl⟩ ?_
    rintro _ ws ⟨rfl, hW⟩
    refine q_nm (wz := ws) (ka := 0) (kb := 0) (sz := [.int (q_b u6)]) rfl rfl rfl rfl ?_
    refine q_if_eq (pc := 42) (tgt := 49) C dX9_accepts_42 (by decide) (fun c8 => ?_) (fun c8 => ?_)
    · have hf := q_iteT hf c8
      refine q_iconst (pc := 49) C (0 : Int32) dX9_accepts_49 q_ci_0 ?_
      obtain rfl := q_some hf
      exact q_zret (pc := 50) C (by decide +kernel) dX9_accepts_50 ⟨rfl, hW⟩
    · have hf := q_iteF hf c8
      refine q_iconst (pc := 45) C (1 : Int32) dX9_accepts_45 q_ci_1 ?_
      refine q_goto (pc := 46) (tgt := 50) C dX9_accepts_46 (by decide) ?_
      obtain rfl := q_some hf
      exact q_zret (pc := 50) C (by decide +kernel) dX9_accepts_50 ⟨rfl, hW⟩
set_option maxRecDepth 100000 in
set_option maxHeartbeats 8000000 in
theorem c_X9_accepts (l : Launch) (D : va_G) (cc : Nat → ClassId) (N0 : Nat) (ga : Nat → Nat) (ad : Nat → Nat → Nat) (E : va_W) (S : MS) (a1 : Int32) (a2 : Int32) (v : (Bool × MS)) (hf : f_X9_accepts a1 a2 S = some v) (ws : va_W) (hW : mW cc ga ad S E ws) : q_Met l yX9_accepts wsX9_accepts 5 124 D cc N0 ws [.ref (ga 0), .int a1, .int a2] (fun rv w1 => rv = some (.int (q_b v.1)) ∧ mW cc ga ad v.2 E w1) 0 0 := by
  refine q_ofW (code := cX9_accepts) (nL := 3) (ret := (some .boolean)) (by decide +kernel) rfl (Nat.le_of_ble_eq_true rfl) (fun p e s m below meth c C _ => ?_)
  refine q_lv (lv2 := [(0, .ref (ga 0)), (1, .int a1), (2, .int a2)]) rfl ?_
  refine q_aload_n (pc := 0) C dX9_accepts_0 rfl 0 rfl ?_
  refine q_iload_n (pc := 1) C dX9_accepts_1 rfl 1 rfl ?_
  refine q_iload_n (pc := 2) C dX9_accepts_2 rfl 2 rfl ?_
  refine q_callS (pc := 3) (As := [.int a1, .int a2]) (rest := [.ref (ga 0)]) C (c_X9_isWord l D cc N0 ws a1 a2 _ rfl) gX9_accepts_X9_isWord rfl z_X9_isWord ⟨Nat.le_of_ble_eq_true rfl, Nat.le_of_ble_eq_true rfl⟩ rfl rfl (Nat.le_of_ble_eq_true rfl) dX9_accepts_3 ⟨Nat.le_of_ble_eq_true rfl, Nat.le_of_ble_eq_true rfl⟩ ?_
  refine q_after (rv := (some (.int (q_b (f_X9_isWord a1 a2))))) (w0 := ws) (st2 := [.int (q_b (f_X9_isWord a1 a2)), .ref (ga 0)]) rfl rfl rfl ?_
  refine q_if_ne (pc := 6) (tgt := 13) C dX9_accepts_6 (by decide) (fun c1 => ?_) (fun c1 => ?_)
  · have hf := q_iteF hf c1
    refine q_aload_n (pc := 13) C dX9_accepts_13 rfl 0 rfl ?_
    refine m_g_11 (pc := 14) C hW n_X9_accepts_X9 (List.mem_of_getElem? (i := 1) rfl) dX9_accepts_14 ?_
    refine m_isEmpty_2 (pc := 17) C hW gX9_accepts_Jx4a65c_isEmpty_aae02_f135Jx4a65c ⟨Nat.le_of_ble_eq_true rfl, Nat.le_of_ble_eq_true rfl⟩ (Nat.le_of_ble_eq_true rfl) dX9_accepts_17 ⟨Nat.le_of_ble_eq_true rfl, Nat.le_of_ble_eq_true rfl⟩ ?_
    refine q_if_eq (pc := 22) (tgt := 29) C dX9_accepts_22 (by decide) (fun c2 => ?_) (fun c2 => ?_)
    · have hf := q_iteT hf c2
      refine q_iconst (pc := 29) C (0 : Int32) dX9_accepts_29 q_ci_0 ?_
      refine q_sub (lvq := [(0, .ref (ga 0)), (1, .int a1), (2, .int a2)]) [0, 1, 2] rfl ?_
      exact w_X9_accepts_30 C a1 a2 (0 : Int32) S ws hf hW
    · have hf := q_iteF hf c2
      refine q_iconst (pc := 25) C (2 : Int32) dX9_accepts_25 q_ci_2 ?_
      refine q_goto (pc := 26) (tgt := 30) C dX9_accepts_26 (by decide) ?_
      refine q_sub (lvq := [(0, .ref (ga 0)), (1, .int a1), (2, .int a2)]) [0, 1, 2] rfl ?_
      exact w_X9_accepts_30 C a1 a2 (2 : Int32) S ws hf hW
  · have hf := q_iteT hf c1
    refine q_iconst (pc := 9) C (1 : Int32) dX9_accepts_9 q_ci_1 ?_
    refine q_goto (pc := 10) (tgt := 30) C dX9_accepts_10 (by decide) ?_
    refine q_sub (lvq := [(0, .ref (ga 0)), (1, .int a1), (2, .int a2)]) [0, 1, 2] rfl ?_
    exact w_X9_accepts_30 C a1 a2 (1 : Int32) S ws hf hW
theorem z_X9_reached : q_dsc yX9_reached 2 := ⟨by decide +kernel, by decide +kernel, by decide +kernel⟩
theorem n_X9_reached_X9 : ∀ w ∈ wsX90, w ∈ wsX9_reached := fun _ h => (List.mem_cons_of_mem _ (List.mem_append_left _ (List.mem_append_right _ h)))
def f_X9_reached_54 (S : MS) (rc : Int32 → Int32 → Option Int32) (k9 : Int32 → Int32 → Int32 → Option Int32) (v1 : Int32) (v4 : Int32) (vt0 : Int32) : Option Int32 := k9 v1 vt0 (v4 + (1 : Int32))
def f_X9_reached_9b (S : MS) (rc : Int32 → Int32 → Option Int32) (k9 : Int32 → Int32 → Int32 → Option Int32) (v1 : Int32) (v3 : Int32) (v4 : Int32) : Option Int32 := (if (2 : Int32) < v4 then some v3 else (if q_in v1 (S.2.1 2) then (if v1.toNatClampNeg < S.2.1 2 ∧ q_in v4 3 then (if ((v3 >>> ((S.2.2.1 2 v1.toNatClampNeg v4.toNatClampNeg) &&& 31)) &&& (1 : Int32)) = (1 : Int32) then f_X9_reached_54 S rc k9 v1 v4 v3 else ((rc (S.2.2.1 2 v1.toNatClampNeg v4.toNatClampNeg) v3).bind fun u5 => f_X9_reached_54 S rc k9 v1 v4 u5)) else none) else none))
def f_X9_reached_9 (S : MS) (rc : Int32 → Int32 → Option Int32) : Nat → Int32 → Int32 → Int32 → Option Int32
  | 0, _, _, _ => none
  | n + 1, v1, v3, v4 => f_X9_reached_9b S rc (f_X9_reached_9 S rc n) v1 v3 v4
def f_X9_reachedb (S : MS) (rc : Int32 → Int32 → Option Int32) (a1 : Int32) (a2 : Int32) : Option Int32 := f_X9_reached_9 S rc 1000 a1 (a2 ||| ((1 : Int32) <<< (a1 &&& 31))) (1 : Int32)
def f_X9_reached (S : MS) : Nat → Int32 → Int32 → Option Int32
  | 0, _, _ => none
  | n + 1, a1, a2 => f_X9_reachedb S (f_X9_reached S n) a1 a2
set_option maxRecDepth 100000 in
set_option maxHeartbeats 8000000 in
theorem w_X9_reached_54 {p : Program} {l : Launch} {e : Env} {s : State} {m : MethodId} {args : Array Value} {below : List Frame} {meth : Method} {c : Code} {D : va_G} {cc : Nat → ClassId} {N0 : Nat} {ga : Nat → Nat} {E : va_W} {ad : Nat → Nat → Nat} {S : MS} {rc : Int32 → Int32 → Option Int32} {fu : Nat} {k9 : Int32 → Int32 → Int32 → Option Int32} {v : Int32} (C : q_C p s m args meth c cX9_reached 6 (some .int) wsX9_reached RX9 D cc N0) (hrec : ∀ (E : va_W) (a1 : Int32) (a2 : Int32) (v : Int32), rc a1 a2 = some v → ∀ ws, mW cc ga ad S E ws → q_Met l yX9_reached wsX9_reached (fu + 4) (fu * 25 + 100) D cc N0 ws [.ref (ga 0), .int a1, .int a2] (fun rv w1 => rv = some (.int v) ∧ mW cc ga ad S E w1) 0 0) (hk9 : ∀ (v1 : Int32) (v3 : Int32) (v4 : Int32)  (ws : va_W), k9 v1 v3 v4 = some v → mW cc ga ad S E ws → q_WA p l e (q_rm ((fu + 1) + 4) ((fu + 1) * 25 + 100) 0 0) s m args below meth c D N0 6 (MQ below (q_Q D N0 (fun rv w1 => rv = some (.int v) ∧ mW cc ga ad S E w1)) args s 0 0 (q_A N0)) 0 0 ws 9 [(0, .ref (ga 0)), (1, .int v1), (3, .int v3), (4, .int v4)] []) (v1 : Int32) (v4 : Int32) (vt0 : Int32)  (ws : va_W) : f_X9_reached_54 S rc k9 v1 v4 vt0 = some v → mW cc ga ad S E ws → q_WA p l e (q_rm ((fu + 1) + 4) ((fu + 1) * 25 + 100) 0 0) s m args below meth c D N0 6 (MQ below (q_Q D N0 (fun rv w1 => rv = some (.int v) ∧ mW cc ga ad S E w1)) args s 0 0 (q_A N0)) 0 0 ws 54 [(0, .ref (ga 0)), (1, .int v1), (4, .int v4)] [.int vt0] := by
  intro hf hW
  refine q_istore_n (pc := 54) (lvq := [(3, .int vt0), (0, .ref (ga 0)), (1, .int v1), (4, .int v4)]) C dX9_reached_54 rfl (by decide) rfl ?_
  refine q_iinc (pc := 55) (lvq := [(4, .int (v4 + (1 : Int32))), (3, .int vt0), (0, .ref (ga 0)), (1, .int v1)]) C (v4 + (1 : Int32)) dX9_reached_55 3 rfl q_ca_1 (by decide) rfl ?_
  refine q_goto (pc := 58) (tgt := 9) C dX9_reached_58 (by decide) ?_
  refine q_sub (lvq := [(0, .ref (ga 0)), (1, .int v1), (3, .int vt0), (4, .int (v4 + (1 : Int32)))]) [2, 3, 1, 0] rfl ?_
  exact hk9 v1 vt0 (v4 + (1 : Int32)) ws hf hW
set_option maxRecDepth 100000 in
set_option maxHeartbeats 8000000 in
theorem w_X9_reached_9 {p : Program} {l : Launch} {e : Env} {s : State} {m : MethodId} {args : Array Value} {below : List Frame} {meth : Method} {c : Code} {D : va_G} {cc : Nat → ClassId} {N0 : Nat} {ga : Nat → Nat} {E : va_W} {ad : Nat → Nat → Nat} {S : MS} {rc : Int32 → Int32 → Option Int32} {fu : Nat} {v : Int32} (C : q_C p s m args meth c cX9_reached 6 (some .int) wsX9_reached RX9 D cc N0) (hrec : ∀ (E : va_W) (a1 : Int32) (a2 : Int32) (v : Int32), rc a1 a2 = some v → ∀ ws, mW cc ga ad S E ws → q_Met l yX9_reached wsX9_reached (fu + 4) (fu * 25 + 100) D cc N0 ws [.ref (ga 0), .int a1, .int a2] (fun rv w1 => rv = some (.int v) ∧ mW cc ga ad S E w1) 0 0)  : ∀ (n : Nat) (v1 : Int32) (v3 : Int32) (v4 : Int32)  (ws : va_W), f_X9_reached_9 S rc n v1 v3 v4 = some v → mW cc ga ad S E ws → q_WA p l e (q_rm ((fu + 1) + 4) ((fu + 1) * 25 + 100) 0 0) s m args below meth c D N0 6 (MQ below (q_Q D N0 (fun rv w1 => rv = some (.int v) ∧ mW cc ga ad S E w1)) args s 0 0 (q_A N0)) 0 0 ws 9 [(0, .ref (ga 0)), (1, .int v1), (3, .int v3), (4, .int v4)] [] := by
  intro n
  induction n with
  | zero => intro v1 v3 v4 ws hf; cases hf
  | succ n ih =>
    intro v1 v3 v4 ws hf hW
    have hk9 : ∀ (v1 : Int32) (v3 : Int32) (v4 : Int32)  (ws : va_W), f_X9_reached_9 S rc n v1 v3 v4 = some v → mW cc ga ad S E ws → q_WA p l e (q_rm ((fu + 1) + 4) ((fu + 1) * 25 + 100) 0 0) s m args below meth c D N0 6 (MQ below (q_Q D N0 (fun rv w1 => rv = some (.int v) ∧ mW cc ga ad S E w1)) args s 0 0 (q_A N0)) 0 0 ws 9 [(0, .ref (ga 0)), (1, .int v1), (3, .int v3), (4, .int v4)] [] := ih
    have hf : f_X9_reached_9b S rc (f_X9_reached_9 S rc n) v1 v3 v4 = some v := hf
    refine q_iload (pc := 9) C dX9_reached_9 3 rfl ?_
    refine q_iconst (pc := 11) C (2 : Int32) dX9_reached_11 q_ci_2 ?_
    refine q_icmp_gt (pc := 12) (tgt := 61) C dX9_reached_12 (by decide) (fun c1 => ?_) (fun c1 => ?_)
    · have hf := q_iteT hf c1
      refine q_iload_n (pc := 61) C dX9_reached_61 rfl 2 rfl ?_
      obtain rfl := q_some hf
      exact q_iret (pc := 62) C dX9_reached_62 ⟨rfl, hW⟩
    · have hf := q_iteF hf c1
      refine q_aload_n (pc := 15) C dX9_reached_15 rfl 0 rfl ?_
      refine m_g_11 (pc := 16) C hW n_X9_reached_X9 (List.mem_of_getElem? (i := 1) rfl) dX9_reached_16 ?_
      refine q_iload_n (pc := 19) C dX9_reached_19 rfl 1 rfl ?_
      obtain ⟨g2, hf⟩ := q_gd hf
      refine m_get_2 (pc := 20) C hW g2 gX9_reached_Jx4a65c_get_915e3_f129Jx4a65c ⟨(Nat.le_trans (m := 4) (Nat.le_of_ble_eq_true rfl) (by show 4 ≤ (fu + 1) + 4; omega)), (Nat.le_trans (m := 100) (Nat.le_of_ble_eq_true rfl) (by show 100 ≤ (fu + 1) * 25 + 100; omega))⟩ (Nat.le_of_ble_eq_true rfl) dX9_reached_20 ⟨Nat.le_of_ble_eq_true rfl, Nat.le_of_ble_eq_true rfl⟩ ?_
      refine m_cast_2 (pc := 25) C hW g2.2 (List.mem_of_getElem? (i := 2) rfl) dX9_reached_25 ?_
      refine q_iload (pc := 28) C dX9_reached_28 3 rfl ?_
      obtain ⟨g3, hf⟩ := q_gd hf
      refine m_rald_2 (pc := 30) C hW g3.1 g3.2 dX9_reached_30 ?_
      refine q_nm (wz := ws) (ka := 0) (kb := 0) (sz := [.int (S.2.2.1 2 v1.toNatClampNeg v4.toNatClampNeg)]) rfl rfl rfl rfl ?_
      refine q_istore (pc := 31) (lvq := [(5, .int (S.2.2.1 2 v1.toNatClampNeg v4.toNatClampNeg)), (0, .ref (ga 0)), (1, .int v1), (3, .int v3), (4, .int v4)]) C dX9_reached_31 (by decide) rfl ?_
      refine q_iload_n (pc := 33) C dX9_reached_33 rfl 3 rfl ?_
      refine q_iload (pc := 34) C dX9_reached_34 0 rfl ?_
      refine q_ishr (pc := 36) C dX9_reached_36 ?_
      refine q_iconst (pc := 37) C (1 : Int32) dX9_reached_37 q_ci_1 ?_
      refine q_iand (pc := 38) C dX9_reached_38 ?_
      refine q_iconst (pc := 39) C (1 : Int32) dX9_reached_39 q_ci_1 ?_
      refine q_icmp_ne (pc := 40) (tgt := 47) C dX9_reached_40 (by decide) (fun c4 => ?_) (fun c4 => ?_)
      · have hf := q_iteF hf c4
        refine q_aload_n (pc := 47) C dX9_reached_47 rfl 1 rfl ?_
        refine q_iload (pc := 48) C dX9_reached_48 0 rfl ?_
        refine q_iload_n (pc := 50) C dX9_reached_50 rfl 3 rfl ?_
        obtain ⟨u5, e6, hf⟩ := q_bind hf
        obtain ⟨_, he⟩ := hW.obj
        refine q_callV (pc := 51) (As := [.int (S.2.2.1 2 v1.toNatClampNeg v4.toNatClampNeg), .int v3]) (rest := []) C (hrec E (S.2.2.1 2 v1.toNatClampNeg v4.toNatClampNeg) v3 u5 e6 ws hW) gX9_reached_X9_reached rfl rfl z_X9_reached ⟨(by show (_ : Nat) ≤ (fu + 1) + 4; omega), (by show (_ : Nat) ≤ (fu + 1) * 25 + 100; omega)⟩ he rfl rfl rfl (Nat.le_of_ble_eq_true rfl) dX9_reached_51 ⟨Nat.le_of_ble_eq_true rfl, Nat.le_of_ble_eq_true rfl⟩ ?_
        rintro _ ws ⟨rfl, hW⟩
        refine q_nm (wz := ws) (ka := 0) (kb := 0) (sz := [.int u5]) rfl rfl rfl rfl ?_
        refine q_sub (lvq := [(0, .ref (ga 0)), (1, .int v1), (4, .int v4)]) [1, 2, 4] rfl ?_
        exact w_X9_reached_54 C hrec hk9 v1 v4 u5 ws hf hW
      · have hf := q_iteT hf c4
        refine q_iload_n (pc := 43) C dX9_reached_43 rfl 3 rfl ?_
        refine q_goto (pc := 44) (tgt := 54) C dX9_reached_44 (by decide) ?_
        refine q_sub (lvq := [(0, .ref (ga 0)), (1, .int v1), (4, .int v4)]) [1, 2, 4] rfl ?_
        exact w_X9_reached_54 C hrec hk9 v1 v4 v3 ws hf hW
set_option maxRecDepth 100000 in
set_option maxHeartbeats 8000000 in
theorem c_X9_reachedb (l : Launch) (D : va_G) (cc : Nat → ClassId) (N0 : Nat) (ga : Nat → Nat) (ad : Nat → Nat → Nat) (E : va_W) (S : MS) (rc : Int32 → Int32 → Option Int32) (fu : Nat) (hrec : ∀ (E : va_W) (a1 : Int32) (a2 : Int32) (v : Int32), rc a1 a2 = some v → ∀ ws, mW cc ga ad S E ws → q_Met l yX9_reached wsX9_reached (fu + 4) (fu * 25 + 100) D cc N0 ws [.ref (ga 0), .int a1, .int a2] (fun rv w1 => rv = some (.int v) ∧ mW cc ga ad S E w1) 0 0) (a1 : Int32) (a2 : Int32) (v : Int32) (hf : f_X9_reachedb S rc a1 a2 = some v) (ws : va_W) (hW : mW cc ga ad S E ws) : q_Met l yX9_reached wsX9_reached ((fu + 1) + 4) ((fu + 1) * 25 + 100) D cc N0 ws [.ref (ga 0), .int a1, .int a2] (fun rv w1 => rv = some (.int v) ∧ mW cc ga ad S E w1) 0 0 := by
  refine q_ofW (code := cX9_reached) (nL := 6) (ret := (some .int)) (by decide +kernel) rfl (Nat.le_of_ble_eq_true rfl) (fun p e s m below meth c C _ => ?_)
  refine q_lv (lv2 := [(0, .ref (ga 0)), (1, .int a1), (2, .int a2)]) rfl ?_
  refine q_iload_n (pc := 0) C dX9_reached_0 rfl 2 rfl ?_
  refine q_iconst (pc := 1) C (1 : Int32) dX9_reached_1 q_ci_1 ?_
  refine q_iload_n (pc := 2) C dX9_reached_2 rfl 1 rfl ?_
  refine q_ishl (pc := 3) C dX9_reached_3 ?_
  refine q_ior (pc := 4) C dX9_reached_4 ?_
  refine q_istore_n (pc := 5) (lvq := [(3, .int (a2 ||| ((1 : Int32) <<< (a1 &&& 31)))), (0, .ref (ga 0)), (1, .int a1), (2, .int a2)]) C dX9_reached_5 rfl (by decide) rfl ?_
  refine q_iconst (pc := 6) C (1 : Int32) dX9_reached_6 q_ci_1 ?_
  refine q_istore (pc := 7) (lvq := [(4, .int (1 : Int32)), (3, .int (a2 ||| ((1 : Int32) <<< (a1 &&& 31)))), (0, .ref (ga 0)), (1, .int a1), (2, .int a2)]) C dX9_reached_7 (by decide) rfl ?_
  refine q_sub (lvq := [(0, .ref (ga 0)), (1, .int a1), (3, .int (a2 ||| ((1 : Int32) <<< (a1 &&& 31)))), (4, .int (1 : Int32))]) [2, 3, 1, 0] rfl ?_
  exact w_X9_reached_9 C hrec 1000 a1 (a2 ||| ((1 : Int32) <<< (a1 &&& 31))) (1 : Int32) ws hf hW
theorem c_X9_reached (l : Launch) (D : va_G) (cc : Nat → ClassId) (N0 : Nat) (ga : Nat → Nat) (ad : Nat → Nat → Nat) : ∀ (fu : Nat) (E : va_W) (S : MS) (a1 : Int32) (a2 : Int32) (v : Int32), f_X9_reached S fu a1 a2 = some v → ∀ ws, mW cc ga ad S E ws → q_Met l yX9_reached wsX9_reached (fu + 4) (fu * 25 + 100) D cc N0 ws [.ref (ga 0), .int a1, .int a2] (fun rv w1 => rv = some (.int v) ∧ mW cc ga ad S E w1) 0 0 := by
  intro fu
  induction fu with
  | zero => intro E S a1 a2 v hf; cases hf
  | succ fu ih =>
    intro E S a1 a2 v hf ws hW
    exact c_X9_reachedb l D cc N0 ga ad E S (f_X9_reached S fu) fu (fun E a1 a2 v hf ws hW => ih E S a1 a2 v hf ws hW) a1 a2 v hf ws hW
theorem z_X9_sample : q_dsc yX9_sample 3 := ⟨by decide +kernel, by decide +kernel, by decide +kernel⟩
theorem n_X9_sample_X9 : ∀ w ∈ wsX90, w ∈ wsX9_sample := fun _ h => (List.mem_cons_of_mem _ (List.mem_append_left _ (List.mem_append_left _ (List.mem_append_right _ h))))
def f_X9_sample_140 (vt0 : Int32) (vt1 : Int32) (ht2 : Nat → Int32) (S : MS) : Option (Int32 × MS) := (if q_in vt1 3 then (if S.2.1 3 < 64 then some ((nI ((madd S 3 (upd ht2 vt1.toNatClampNeg vt0)).2.1 3)), (madd S 3 (upd ht2 vt1.toNatClampNeg vt0))) else none) else none)
def f_X9_sample_106 (v1 : Int32) (v2 : Int32) (v3 : Int32) (vt0 : Int32) (S : MS) : Option (Int32 × MS) := ((f_X9_isWrong vt0 S).bind fun u6 => (if (q_b u6.1) = 0 then (if v3 = 0 then f_X9_sample_140 (0 : Int32) (2 : Int32) (upd (upd (fun _ => 0) 0 v1) 1 v2) u6.2 else f_X9_sample_140 (1 : Int32) (2 : Int32) (upd (upd (fun _ => 0) 0 v1) 1 v2) u6.2) else some ((0 : Int32), u6.2)))
def f_X9_sample_59 (k14 : Int32 → Int32 → Int32 → Int32 → Int32 → Int32 → MS → Option (Int32 × MS)) (v1 : Int32) (v2 : Int32) (v3 : Int32) (vt0 : Int32) (vt1 : Int32) (u5 : Int32) (x5 : Int32) (S : MS) : Option (Int32 × MS) := k14 v1 v2 v3 (vt1 ||| vt0) u5 x5 S
def f_X9_sample_58 (k14 : Int32 → Int32 → Int32 → Int32 → Int32 → Int32 → MS → Option (Int32 × MS)) (v1 : Int32) (v2 : Int32) (v3 : Int32) (vt0 : Int32) (u5 : Int32) (x5 : Int32) (S : MS) : Option (Int32 × MS) := f_X9_sample_59 k14 v1 v2 v3 (0 : Int32) vt0 u5 x5 S
def f_X9_sample_14b (k14 : Int32 → Int32 → Int32 → Int32 → Int32 → Int32 → MS → Option (Int32 × MS)) (v1 : Int32) (v2 : Int32) (v3 : Int32) (v4 : Int32) (u5 : Int32) (x5 : Int32) (S : MS) : Option (Int32 × MS) := (if (q_b (!decide (u5 = nI (S.2.1 3)))) = 0 then (if (q_b (f_X9_isWord v1 v2)) = 0 then f_X9_sample_106 v1 v2 v3 (1 : Int32) S else (if v4 = 0 then (if (nI (S.2.1 3)) = (12 : Int32) then f_X9_sample_106 v1 v2 v3 (3 : Int32) S else f_X9_sample_106 v1 v2 v3 (0 : Int32) S) else f_X9_sample_106 v1 v2 v3 (2 : Int32) S)) else (if q_in u5 (S.2.1 3) ∧ x5 = S.1 23 then (if u5.toNatClampNeg < S.2.1 3 then (if (S.2.2.1 3 u5.toNatClampNeg 0) = v1 then (if u5.toNatClampNeg < S.2.1 3 then (if (S.2.2.1 3 u5.toNatClampNeg 1) = v2 then f_X9_sample_59 k14 v1 v2 v3 (1 : Int32) v4 (u5 + (1 : Int32)) x5 S else f_X9_sample_58 k14 v1 v2 v3 v4 (u5 + (1 : Int32)) x5 S) else none) else f_X9_sample_58 k14 v1 v2 v3 v4 (u5 + (1 : Int32)) x5 S) else none) else none))
def f_X9_sample_14 : Nat → Int32 → Int32 → Int32 → Int32 → Int32 → Int32 → MS → Option (Int32 × MS)
  | 0, _, _, _, _, _, _, _ => none
  | n + 1, v1, v2, v3, v4, u5, x5, S => f_X9_sample_14b  (f_X9_sample_14  n) v1 v2 v3 v4 u5 x5 S
def f_X9_sample (a1 : Int32) (a2 : Int32) (a3 : Int32) (S : MS) : Option (Int32 × MS) := f_X9_sample_14 1000 a1 a2 a3 (0 : Int32) (0 : Int32) (S.1 23) S
set_option maxRecDepth 100000 in
set_option maxHeartbeats 8000000 in
theorem w_X9_sample_140 {p : Program} {l : Launch} {e : Env} {s : State} {m : MethodId} {args : Array Value} {below : List Frame} {meth : Method} {c : Code} {D : va_G} {cc : Nat → ClassId} {N0 : Nat} {ga : Nat → Nat} {E : va_W} {v : (Int32 × MS)} (C : q_C p s m args meth c cX9_sample 7 (some .int) wsX9_sample RX9 D cc N0)  (kc : Nat) (ks : Nat) (vt0 : Int32) (vt1 : Int32) (ht2 : Nat → Int32) (S : MS) (qt2 : Nat) (ad : Nat → Nat → Nat) (ws : va_W) : f_X9_sample_140  vt0 vt1 ht2 S = some v → mW cc ga ad S ((qt2, .inl (cc 0, 3, .inl ht2)) :: E) ws → kc + 1 ≤ 3 → ks + 100 ≤ 107 → q_WA p l e (q_rm (10) (400) 3 107) s m args below meth c D N0 7 (MQ below (q_Q D N0 (fun rv w1 => rv = some (.int v.1) ∧ ∃ ad : Nat → Nat → Nat, mW cc ga ad v.2 E w1)) args s 3 107 (q_A N0)) kc ks ws 140 [(0, .ref (ga 0))] [.int vt0, .int vt1, .ref qt2, .ref qt2, .ref (ga 4)] := by
  intro hf hW b1 b2
  obtain ⟨g11, hf⟩ := q_gd hf
  refine t_iast (pc := 140) C hW g11 dX9_sample_140 (fun ws hW => ?_)
  obtain ⟨g12, hf⟩ := q_gd hf
  refine m_add_3 (pc := 141) C hW g12 gX9_sample_Jx4a65c_add_9ea2d_f94Jx4a65c ⟨Nat.le_of_ble_eq_true rfl, Nat.le_of_ble_eq_true rfl⟩ (Nat.le_of_ble_eq_true rfl) dX9_sample_141 ⟨(show (kc) + 1 ≤ 3 by omega), (show (ks) + 100 ≤ 107 by omega)⟩ (fun ad ws hW => ?_)
  refine q_nm (wz := ws) (ka := kc + 1) (kb := ks + 100) (sz := [.int (1 : Int32)]) rfl rfl rfl rfl ?_
  refine q_pop (pc := 146) C dX9_sample_146 rfl ?_
  refine q_aload_n (pc := 147) C dX9_sample_147 rfl 0 rfl ?_
  refine m_g_12 (pc := 148) C hW n_X9_sample_X9 (List.mem_of_getElem? (i := 1) rfl) dX9_sample_148 ?_
  refine m_size_3 (pc := 151) C hW gX9_sample_Jx4a65c_size_8abf5_f50Jx4a65c ⟨Nat.le_of_ble_eq_true rfl, Nat.le_of_ble_eq_true rfl⟩ (Nat.le_of_ble_eq_true rfl) dX9_sample_151 ⟨(show (kc + 1) ≤ 3 by omega), (show (ks + 100) ≤ 107 by omega)⟩ ?_
  refine q_wid (show kc + 1 ≤ 3 by omega) (show ks + 100 ≤ 107 by omega) ?_
  obtain rfl := q_some hf
  exact q_iret (pc := 156) C dX9_sample_156 ⟨rfl, ad, hW⟩
set_option maxRecDepth 100000 in
set_option maxHeartbeats 8000000 in
theorem w_X9_sample_106 {p : Program} {l : Launch} {e : Env} {s : State} {m : MethodId} {args : Array Value} {below : List Frame} {meth : Method} {c : Code} {D : va_G} {cc : Nat → ClassId} {N0 : Nat} {ga : Nat → Nat} {E : va_W} {v : (Int32 × MS)} (C : q_C p s m args meth c cX9_sample 7 (some .int) wsX9_sample RX9 D cc N0)  (kc : Nat) (ks : Nat) (v1 : Int32) (v2 : Int32) (v3 : Int32) (vt0 : Int32) (S : MS) (ad : Nat → Nat → Nat) (ws : va_W) : f_X9_sample_106  v1 v2 v3 vt0 S = some v → mW cc ga ad S E ws → kc + 2 ≤ 3 → ks + 103 ≤ 107 → q_WA p l e (q_rm (10) (400) 3 107) s m args below meth c D N0 7 (MQ below (q_Q D N0 (fun rv w1 => rv = some (.int v.1) ∧ ∃ ad : Nat → Nat → Nat, mW cc ga ad v.2 E w1)) args s 3 107 (q_A N0)) kc ks ws 106 [(0, .ref (ga 0)), (1, .int v1), (2, .int v2), (3, .int v3)] [.int vt0, .ref (ga 0)] := by
  intro hf hW b1 b2
  obtain ⟨u6, e7, hf⟩ := q_bind hf
  obtain ⟨_, he⟩ := hW.obj
  refine q_callV (pc := 106) (As := [.int vt0]) (rest := []) C (c_X9_isWrong l D cc N0 ga ad  E S vt0 u6 e7 ws hW) gX9_sample_X9_isWrong rfl rfl z_X9_isWrong ⟨Nat.le_of_ble_eq_true rfl, Nat.le_of_ble_eq_true rfl⟩ he rfl rfl rfl (Nat.le_of_ble_eq_true rfl) dX9_sample_106 ⟨(show (kc) + 0 ≤ 3 by omega), (show (ks) + 0 ≤ 107 by omega)⟩ ?_
  rintro _ ws ⟨rfl, hW⟩
  refine q_nm (wz := ws) (ka := kc) (kb := ks) (sz := [.int (q_b u6.1)]) rfl rfl rfl rfl ?_
  refine q_if_eq (pc := 109) (tgt := 114) C dX9_sample_109 (by decide) (fun c8 => ?_) (fun c8 => ?_)
  · have hf := q_iteT hf c8
    refine q_aload_n (pc := 114) C dX9_sample_114 rfl 0 rfl ?_
    refine m_g_12 (pc := 115) C hW n_X9_sample_X9 (List.mem_of_getElem? (i := 1) rfl) dX9_sample_115 ?_
    refine q_iconst (pc := 118) C (3 : Int32) dX9_sample_118 q_ci_3 ?_
    refine t_new (pc := 119) C hW (ty := .int) 0 rfl (fun _ h => by cases h) (List.mem_of_getElem? (i := 3) rfl) rfl (N' := 3) (3, .inl fun _ => 0) (fun _ => rfl) (by decide) (by decide) (by decide) (show (kc) + 1 ≤ 3 by omega) (show (ks) + 3 ≤ 107 by omega) dX9_sample_119 (fun qa9 ws hW => ?_)
    refine q_nm (wz := ws) (ka := kc + 1) (kb := ks + 3) (sz := [.ref qa9, .ref (ga 4)]) rfl rfl rfl rfl ?_
    refine q_dup (pc := 121) C dX9_sample_121 rfl ?_
    refine q_iconst (pc := 122) C (0 : Int32) dX9_sample_122 q_ci_0 ?_
    refine q_iload_n (pc := 123) C dX9_sample_123 rfl 1 rfl ?_
    refine t_iast (pc := 124) C hW ⟨by decide, by decide⟩ dX9_sample_124 (fun ws hW => ?_)
    have hW : mW cc ga ad u6.2 ((qa9, .inl (cc 0, 3, .inl (upd (fun _ => 0) 0 v1))) :: E) ws := hW
    refine q_dup (pc := 125) C dX9_sample_125 rfl ?_
    refine q_iconst (pc := 126) C (1 : Int32) dX9_sample_126 q_ci_1 ?_
    refine q_iload_n (pc := 127) C dX9_sample_127 rfl 2 rfl ?_
    refine t_iast (pc := 128) C hW ⟨by decide, by decide⟩ dX9_sample_128 (fun ws hW => ?_)
    have hW : mW cc ga ad u6.2 ((qa9, .inl (cc 0, 3, .inl (upd (upd (fun _ => 0) 0 v1) 1 v2))) :: E) ws := hW
    refine q_dup (pc := 129) C dX9_sample_129 rfl ?_
    refine q_iconst (pc := 130) C (2 : Int32) dX9_sample_130 q_ci_2 ?_
    refine q_iload_n (pc := 131) C dX9_sample_131 rfl 3 rfl ?_
    refine q_if_eq (pc := 132) (tgt := 139) C dX9_sample_132 (by decide) (fun c10 => ?_) (fun c10 => ?_)
    · have hf := q_iteT hf c10
      refine q_iconst (pc := 139) C (0 : Int32) dX9_sample_139 q_ci_0 ?_
      refine q_sub (lvq := [(0, .ref (ga 0))]) [0] rfl ?_
      exact w_X9_sample_140 C (kc + 1) (ks + 3) (0 : Int32) (2 : Int32) (upd (upd (fun _ => 0) 0 v1) 1 v2) u6.2 qa9 ad ws hf hW (by omega) (by omega)
    · have hf := q_iteF hf c10
      refine q_iconst (pc := 135) C (1 : Int32) dX9_sample_135 q_ci_1 ?_
      refine q_goto (pc := 136) (tgt := 140) C dX9_sample_136 (by decide) ?_
      refine q_sub (lvq := [(0, .ref (ga 0))]) [0] rfl ?_
      exact w_X9_sample_140 C (kc + 1) (ks + 3) (1 : Int32) (2 : Int32) (upd (upd (fun _ => 0) 0 v1) 1 v2) u6.2 qa9 ad ws hf hW (by omega) (by omega)
  · have hf := q_iteF hf c8
    refine q_iconst (pc := 112) C (0 : Int32) dX9_sample_112 q_ci_0 ?_
    refine q_wid (show kc ≤ 3 by omega) (show ks ≤ 107 by omega) ?_
    obtain rfl := q_some hf
    exact q_iret (pc := 113) C dX9_sample_113 ⟨rfl, ad, hW⟩
set_option maxRecDepth 100000 in
set_option maxHeartbeats 8000000 in
theorem w_X9_sample_59 {p : Program} {l : Launch} {e : Env} {s : State} {m : MethodId} {args : Array Value} {below : List Frame} {meth : Method} {c : Code} {D : va_G} {cc : Nat → ClassId} {N0 : Nat} {ga : Nat → Nat} {E : va_W} {k14 : Int32 → Int32 → Int32 → Int32 → Int32 → Int32 → MS → Option (Int32 × MS)} {n14 : Nat} {v : (Int32 × MS)} (C : q_C p s m args meth c cX9_sample 7 (some .int) wsX9_sample RX9 D cc N0) (hk14 : ∀ (kc : Nat) (ks : Nat) (v1 : Int32) (v2 : Int32) (v3 : Int32) (v4 : Int32) (u5 : Int32) (x5 : Int32) (S : MS) (q5 : Nat) (z5 : Int32) (ad : Nat → Nat → Nat) (ws : va_W), k14 v1 v2 v3 v4 u5 x5 S = some v → mW cc ga ad S ((q5, q_it u5 z5 x5 (ga 4)) :: E) ws → kc + 2 + n14 * 0 ≤ 3 → ks + 103 + n14 * 0 ≤ 107 → q_WA p l e (q_rm (10) (400) 3 107) s m args below meth c D N0 7 (MQ below (q_Q D N0 (fun rv w1 => rv = some (.int v.1) ∧ ∃ ad : Nat → Nat → Nat, mW cc ga ad v.2 E w1)) args s 3 107 (q_A N0)) kc ks ws 14 [(0, .ref (ga 0)), (1, .int v1), (2, .int v2), (3, .int v3), (4, .int v4), (5, .ref q5)] []) (kc : Nat) (ks : Nat) (v1 : Int32) (v2 : Int32) (v3 : Int32) (vt0 : Int32) (vt1 : Int32) (u5 : Int32) (x5 : Int32) (S : MS) (q5 : Nat) (z5 : Int32) (ad : Nat → Nat → Nat) (ws : va_W) : f_X9_sample_59 k14 v1 v2 v3 vt0 vt1 u5 x5 S = some v → mW cc ga ad S ((q5, q_it u5 z5 x5 (ga 4)) :: E) ws → kc + 2 + n14 * 0 ≤ 3 → ks + 103 + n14 * 0 ≤ 107 → q_WA p l e (q_rm (10) (400) 3 107) s m args below meth c D N0 7 (MQ below (q_Q D N0 (fun rv w1 => rv = some (.int v.1) ∧ ∃ ad : Nat → Nat → Nat, mW cc ga ad v.2 E w1)) args s 3 107 (q_A N0)) kc ks ws 59 [(0, .ref (ga 0)), (1, .int v1), (2, .int v2), (3, .int v3), (5, .ref q5)] [.int vt0, .int vt1] := by
  intro hf hW b1 b2
  refine q_ior (pc := 59) C dX9_sample_59 ?_
  refine q_istore (pc := 60) (lvq := [(4, .int (vt1 ||| vt0)), (0, .ref (ga 0)), (1, .int v1), (2, .int v2), (3, .int v3), (5, .ref q5)]) C dX9_sample_60 (by decide) rfl ?_
  refine q_goto (pc := 62) (tgt := 14) C dX9_sample_62 (by decide) ?_
  refine q_sub (lvq := [(0, .ref (ga 0)), (1, .int v1), (2, .int v2), (3, .int v3), (4, .int (vt1 ||| vt0)), (5, .ref q5)]) [1, 2, 3, 4, 0, 5] rfl ?_
  exact hk14 (kc) (ks) v1 v2 v3 (vt1 ||| vt0) u5 x5 S q5 z5 ad ws hf hW (by omega) (by omega)
set_option maxRecDepth 100000 in
set_option maxHeartbeats 8000000 in
theorem w_X9_sample_58 {p : Program} {l : Launch} {e : Env} {s : State} {m : MethodId} {args : Array Value} {below : List Frame} {meth : Method} {c : Code} {D : va_G} {cc : Nat → ClassId} {N0 : Nat} {ga : Nat → Nat} {E : va_W} {k14 : Int32 → Int32 → Int32 → Int32 → Int32 → Int32 → MS → Option (Int32 × MS)} {n14 : Nat} {v : (Int32 × MS)} (C : q_C p s m args meth c cX9_sample 7 (some .int) wsX9_sample RX9 D cc N0) (hk14 : ∀ (kc : Nat) (ks : Nat) (v1 : Int32) (v2 : Int32) (v3 : Int32) (v4 : Int32) (u5 : Int32) (x5 : Int32) (S : MS) (q5 : Nat) (z5 : Int32) (ad : Nat → Nat → Nat) (ws : va_W), k14 v1 v2 v3 v4 u5 x5 S = some v → mW cc ga ad S ((q5, q_it u5 z5 x5 (ga 4)) :: E) ws → kc + 2 + n14 * 0 ≤ 3 → ks + 103 + n14 * 0 ≤ 107 → q_WA p l e (q_rm (10) (400) 3 107) s m args below meth c D N0 7 (MQ below (q_Q D N0 (fun rv w1 => rv = some (.int v.1) ∧ ∃ ad : Nat → Nat → Nat, mW cc ga ad v.2 E w1)) args s 3 107 (q_A N0)) kc ks ws 14 [(0, .ref (ga 0)), (1, .int v1), (2, .int v2), (3, .int v3), (4, .int v4), (5, .ref q5)] []) (kc : Nat) (ks : Nat) (v1 : Int32) (v2 : Int32) (v3 : Int32) (vt0 : Int32) (u5 : Int32) (x5 : Int32) (S : MS) (q5 : Nat) (z5 : Int32) (ad : Nat → Nat → Nat) (ws : va_W) : f_X9_sample_58 k14 v1 v2 v3 vt0 u5 x5 S = some v → mW cc ga ad S ((q5, q_it u5 z5 x5 (ga 4)) :: E) ws → kc + 2 + n14 * 0 ≤ 3 → ks + 103 + n14 * 0 ≤ 107 → q_WA p l e (q_rm (10) (400) 3 107) s m args below meth c D N0 7 (MQ below (q_Q D N0 (fun rv w1 => rv = some (.int v.1) ∧ ∃ ad : Nat → Nat → Nat, mW cc ga ad v.2 E w1)) args s 3 107 (q_A N0)) kc ks ws 58 [(0, .ref (ga 0)), (1, .int v1), (2, .int v2), (3, .int v3), (5, .ref q5)] [.int vt0] := by
  intro hf hW b1 b2
  refine q_iconst (pc := 58) C (0 : Int32) dX9_sample_58 q_ci_0 ?_
  refine q_sub (lvq := [(0, .ref (ga 0)), (1, .int v1), (2, .int v2), (3, .int v3), (5, .ref q5)]) [0, 1, 2, 3, 4] rfl ?_
  exact w_X9_sample_59 C hk14 (kc) (ks) v1 v2 v3 (0 : Int32) vt0 u5 x5 S q5 z5 ad ws hf hW (by omega) (by omega)
set_option maxRecDepth 100000 in
set_option maxHeartbeats 8000000 in
theorem w_X9_sample_14 {p : Program} {l : Launch} {e : Env} {s : State} {m : MethodId} {args : Array Value} {below : List Frame} {meth : Method} {c : Code} {D : va_G} {cc : Nat → ClassId} {N0 : Nat} {ga : Nat → Nat} {E : va_W} {v : (Int32 × MS)} (C : q_C p s m args meth c cX9_sample 7 (some .int) wsX9_sample RX9 D cc N0)  : ∀ (n : Nat) (kc : Nat) (ks : Nat) (v1 : Int32) (v2 : Int32) (v3 : Int32) (v4 : Int32) (u5 : Int32) (x5 : Int32) (S : MS) (q5 : Nat) (z5 : Int32) (ad : Nat → Nat → Nat) (ws : va_W), f_X9_sample_14  n v1 v2 v3 v4 u5 x5 S = some v → mW cc ga ad S ((q5, q_it u5 z5 x5 (ga 4)) :: E) ws → kc + 2 + n * 0 ≤ 3 → ks + 103 + n * 0 ≤ 107 → q_WA p l e (q_rm (10) (400) 3 107) s m args below meth c D N0 7 (MQ below (q_Q D N0 (fun rv w1 => rv = some (.int v.1) ∧ ∃ ad : Nat → Nat → Nat, mW cc ga ad v.2 E w1)) args s 3 107 (q_A N0)) kc ks ws 14 [(0, .ref (ga 0)), (1, .int v1), (2, .int v2), (3, .int v3), (4, .int v4), (5, .ref q5)] [] := by
  intro n
  induction n with
  | zero => intro kc ks v1 v2 v3 v4 u5 x5 S q5 z5 ad ws hf; cases hf
  | succ n ih =>
    intro kc ks v1 v2 v3 v4 u5 x5 S q5 z5 ad ws hf hW b1 b2
    have hk14 : ∀ (kc : Nat) (ks : Nat) (v1 : Int32) (v2 : Int32) (v3 : Int32) (v4 : Int32) (u5 : Int32) (x5 : Int32) (S : MS) (q5 : Nat) (z5 : Int32) (ad : Nat → Nat → Nat) (ws : va_W), f_X9_sample_14  n v1 v2 v3 v4 u5 x5 S = some v → mW cc ga ad S ((q5, q_it u5 z5 x5 (ga 4)) :: E) ws → kc + 2 + n * 0 ≤ 3 → ks + 103 + n * 0 ≤ 107 → q_WA p l e (q_rm (10) (400) 3 107) s m args below meth c D N0 7 (MQ below (q_Q D N0 (fun rv w1 => rv = some (.int v.1) ∧ ∃ ad : Nat → Nat → Nat, mW cc ga ad v.2 E w1)) args s 3 107 (q_A N0)) kc ks ws 14 [(0, .ref (ga 0)), (1, .int v1), (2, .int v2), (3, .int v3), (4, .int v4), (5, .ref q5)] [] := ih
    have hf : f_X9_sample_14b  (f_X9_sample_14  n) v1 v2 v3 v4 u5 x5 S = some v := hf
    simp only [Nat.succ_mul, Nat.add_mul] at b1 b2
    refine q_aload (pc := 14) C dX9_sample_14 5 rfl ?_
    refine m_has_3 (pc := 16) C hW gX9_sample_Jx35411_hasNext_aae02_f76Jx35411 ⟨Nat.le_of_ble_eq_true rfl, Nat.le_of_ble_eq_true rfl⟩ (Nat.le_of_ble_eq_true rfl) dX9_sample_16 ⟨(show (kc) ≤ 3 by omega), (show (ks) ≤ 107 by omega)⟩ ?_
    refine q_if_eq (pc := 21) (tgt := 65) C dX9_sample_21 (by decide) (fun c2 => ?_) (fun c2 => ?_)
    · have hf := q_iteT hf c2
      refine q_aload_n (pc := 65) C dX9_sample_65 rfl 0 rfl ?_
      refine q_iload_n (pc := 66) C dX9_sample_66 rfl 1 rfl ?_
      refine q_iload_n (pc := 67) C dX9_sample_67 rfl 2 rfl ?_
      refine q_callS (pc := 68) (As := [.int v1, .int v2]) (rest := [.ref (ga 0)]) C (c_X9_isWord l D cc N0 ws v1 v2 _ rfl) gX9_sample_X9_isWord rfl z_X9_isWord ⟨Nat.le_of_ble_eq_true rfl, Nat.le_of_ble_eq_true rfl⟩ rfl rfl (Nat.le_of_ble_eq_true rfl) dX9_sample_68 ⟨(show (kc) ≤ 3 by omega), (show (ks) ≤ 107 by omega)⟩ ?_
      refine q_after (rv := (some (.int (q_b (f_X9_isWord v1 v2))))) (w0 := ws) (st2 := [.int (q_b (f_X9_isWord v1 v2)), .ref (ga 0)]) rfl rfl rfl ?_
      refine q_if_ne (pc := 71) (tgt := 78) C dX9_sample_71 (by decide) (fun c3 => ?_) (fun c3 => ?_)
      · have hf := q_iteF hf c3
        refine q_iload (pc := 78) C dX9_sample_78 4 rfl ?_
        refine q_if_eq (pc := 80) (tgt := 87) C dX9_sample_80 (by decide) (fun c4 => ?_) (fun c4 => ?_)
        · have hf := q_iteT hf c4
          refine q_aload_n (pc := 87) C dX9_sample_87 rfl 0 rfl ?_
          refine m_g_12 (pc := 88) C hW n_X9_sample_X9 (List.mem_of_getElem? (i := 1) rfl) dX9_sample_88 ?_
          refine m_size_3 (pc := 91) C hW gX9_sample_Jx4a65c_size_8abf5_f50Jx4a65c ⟨Nat.le_of_ble_eq_true rfl, Nat.le_of_ble_eq_true rfl⟩ (Nat.le_of_ble_eq_true rfl) dX9_sample_91 ⟨(show (kc) ≤ 3 by omega), (show (ks) ≤ 107 by omega)⟩ ?_
          refine q_bipush (pc := 96) C (12 : Int32) dX9_sample_96 q_cb_12 ?_
          refine q_icmp_ne (pc := 98) (tgt := 105) C dX9_sample_98 (by decide) (fun c5 => ?_) (fun c5 => ?_)
          · have hf := q_iteF hf c5
            refine q_iconst (pc := 105) C (0 : Int32) dX9_sample_105 q_ci_0 ?_
            refine t_drop hW (fun ws hW => ?_)
            refine q_sub (lvq := [(0, .ref (ga 0)), (1, .int v1), (2, .int v2), (3, .int v3)]) [0, 1, 2, 3] rfl ?_
            exact w_X9_sample_106 C (kc) (ks) v1 v2 v3 (0 : Int32) S ad ws hf hW (by omega) (by omega)
          · have hf := q_iteT hf c5
            refine q_iconst (pc := 101) C (3 : Int32) dX9_sample_101 q_ci_3 ?_
            refine q_goto (pc := 102) (tgt := 106) C dX9_sample_102 (by decide) ?_
            refine t_drop hW (fun ws hW => ?_)
            refine q_sub (lvq := [(0, .ref (ga 0)), (1, .int v1), (2, .int v2), (3, .int v3)]) [0, 1, 2, 3] rfl ?_
            exact w_X9_sample_106 C (kc) (ks) v1 v2 v3 (3 : Int32) S ad ws hf hW (by omega) (by omega)
        · have hf := q_iteF hf c4
          refine q_iconst (pc := 83) C (2 : Int32) dX9_sample_83 q_ci_2 ?_
          refine q_goto (pc := 84) (tgt := 106) C dX9_sample_84 (by decide) ?_
          refine t_drop hW (fun ws hW => ?_)
          refine q_sub (lvq := [(0, .ref (ga 0)), (1, .int v1), (2, .int v2), (3, .int v3)]) [0, 1, 2, 3] rfl ?_
          exact w_X9_sample_106 C (kc) (ks) v1 v2 v3 (2 : Int32) S ad ws hf hW (by omega) (by omega)
      · have hf := q_iteT hf c3
        refine q_iconst (pc := 74) C (1 : Int32) dX9_sample_74 q_ci_1 ?_
        refine q_goto (pc := 75) (tgt := 106) C dX9_sample_75 (by decide) ?_
        refine t_drop hW (fun ws hW => ?_)
        refine q_sub (lvq := [(0, .ref (ga 0)), (1, .int v1), (2, .int v2), (3, .int v3)]) [0, 1, 2, 3] rfl ?_
        exact w_X9_sample_106 C (kc) (ks) v1 v2 v3 (1 : Int32) S ad ws hf hW (by omega) (by omega)
    · have hf := q_iteF hf c2
      refine q_aload (pc := 24) C dX9_sample_24 5 rfl ?_
      obtain ⟨g13, hf⟩ := q_gd hf
      refine m_next_3 (pc := 26) C hW g13 gX9_sample_Jx35411_next_0502b_f82Jx35411 ⟨Nat.le_of_ble_eq_true rfl, Nat.le_of_ble_eq_true rfl⟩ (Nat.le_of_ble_eq_true rfl) dX9_sample_26 ⟨(show (kc) ≤ 3 by omega), (show (ks) ≤ 107 by omega)⟩ (fun ws hW => ?_)
      refine m_cast_3 (pc := 31) C hW g13.1.2 (List.mem_of_getElem? (i := 2) rfl) dX9_sample_31 ?_
      refine q_astore (pc := 34) (lvq := [(6, .ref (ad 3 u5.toNatClampNeg)), (0, .ref (ga 0)), (1, .int v1), (2, .int v2), (3, .int v3), (4, .int v4), (5, .ref q5)]) C dX9_sample_34 (by decide) rfl ?_
      refine q_iload (pc := 36) C dX9_sample_36 5 rfl ?_
      refine q_aload (pc := 38) C dX9_sample_38 0 rfl ?_
      refine q_iconst (pc := 40) C (0 : Int32) dX9_sample_40 q_ci_0 ?_
      obtain ⟨g14, hf⟩ := q_gd hf
      refine m_rald_3 (pc := 41) C hW g14 ⟨by decide, by decide⟩ dX9_sample_41 ?_
      refine q_nm (wz := ws) (ka := kc) (kb := ks) (sz := [.int (S.2.2.1 3 u5.toNatClampNeg 0), .int v4]) rfl rfl rfl rfl ?_
      refine q_iload_n (pc := 42) C dX9_sample_42 rfl 2 rfl ?_
      refine q_icmp_ne (pc := 43) (tgt := 58) C dX9_sample_43 (by decide) (fun c15 => ?_) (fun c15 => ?_)
      · have hf := q_iteF hf c15
        refine q_sub (lvq := [(0, .ref (ga 0)), (1, .int v1), (2, .int v2), (3, .int v3), (5, .ref q5)]) [1, 2, 3, 4, 6] rfl ?_
        exact w_X9_sample_58 C hk14 (kc) (ks) v1 v2 v3 v4 (u5 + (1 : Int32)) x5 S q5 u5 ad ws hf hW (by omega) (by omega)
      · have hf := q_iteT hf c15
        refine q_aload (pc := 46) C dX9_sample_46 0 rfl ?_
        refine q_iconst (pc := 48) C (1 : Int32) dX9_sample_48 q_ci_1 ?_
        obtain ⟨g16, hf⟩ := q_gd hf
        refine m_rald_3 (pc := 49) C hW g16 ⟨by decide, by decide⟩ dX9_sample_49 ?_
        refine q_nm (wz := ws) (ka := kc) (kb := ks) (sz := [.int (S.2.2.1 3 u5.toNatClampNeg 1), .int v4]) rfl rfl rfl rfl ?_
        refine q_iload_n (pc := 50) C dX9_sample_50 rfl 3 rfl ?_
        refine q_icmp_ne (pc := 51) (tgt := 58) C dX9_sample_51 (by decide) (fun c17 => ?_) (fun c17 => ?_)
        · have hf := q_iteF hf c17
          refine q_sub (lvq := [(0, .ref (ga 0)), (1, .int v1), (2, .int v2), (3, .int v3), (5, .ref q5)]) [1, 2, 3, 4, 6] rfl ?_
          exact w_X9_sample_58 C hk14 (kc) (ks) v1 v2 v3 v4 (u5 + (1 : Int32)) x5 S q5 u5 ad ws hf hW (by omega) (by omega)
        · have hf := q_iteT hf c17
          refine q_iconst (pc := 54) C (1 : Int32) dX9_sample_54 q_ci_1 ?_
          refine q_goto (pc := 55) (tgt := 59) C dX9_sample_55 (by decide) ?_
          refine q_sub (lvq := [(0, .ref (ga 0)), (1, .int v1), (2, .int v2), (3, .int v3), (5, .ref q5)]) [1, 2, 3, 4, 6] rfl ?_
          exact w_X9_sample_59 C hk14 (kc) (ks) v1 v2 v3 (1 : Int32) v4 (u5 + (1 : Int32)) x5 S q5 u5 ad ws hf hW (by omega) (by omega)
set_option maxRecDepth 100000 in
set_option maxHeartbeats 8000000 in
theorem c_X9_sample (l : Launch) (D : va_G) (cc : Nat → ClassId) (N0 : Nat) (ga : Nat → Nat) (ad : Nat → Nat → Nat) (E : va_W) (S : MS) (a1 : Int32) (a2 : Int32) (a3 : Int32) (v : (Int32 × MS)) (hf : f_X9_sample a1 a2 a3 S = some v) (ws : va_W) (hW : mW cc ga ad S E ws) : q_Met l yX9_sample wsX9_sample 10 400 D cc N0 ws [.ref (ga 0), .int a1, .int a2, .int a3] (fun rv w1 => rv = some (.int v.1) ∧ ∃ ad : Nat → Nat → Nat, mW cc ga ad v.2 E w1) 3 107 := by
  refine q_ofW (code := cX9_sample) (nL := 7) (ret := (some .int)) (by decide +kernel) rfl (Nat.le_of_ble_eq_true rfl) (fun p e s m below meth c C _ => ?_)
  refine q_lv (lv2 := [(0, .ref (ga 0)), (1, .int a1), (2, .int a2), (3, .int a3)]) rfl ?_
  obtain ⟨kc, hkc⟩ : ∃ z, z = 0 := ⟨_, rfl⟩
  obtain ⟨ks, hks⟩ : ∃ z, z = 0 := ⟨_, rfl⟩
  refine q_nm (wz := ws) (ka := kc) (kb := ks) (sz := []) rfl hkc.symm hks.symm rfl ?_
  refine q_iconst (pc := 0) C (0 : Int32) dX9_sample_0 q_ci_0 ?_
  refine q_istore (pc := 1) (lvq := [(4, .int (0 : Int32)), (0, .ref (ga 0)), (1, .int a1), (2, .int a2), (3, .int a3)]) C dX9_sample_1 (by decide) rfl ?_
  refine q_aload_n (pc := 3) C dX9_sample_3 rfl 1 rfl ?_
  refine m_g_12 (pc := 4) C hW n_X9_sample_X9 (List.mem_of_getElem? (i := 1) rfl) dX9_sample_4 ?_
  refine m_iter_3 (pc := 7) C hW gX9_sample_Jx4a65c_iterator_32c93_f72Jx4a65c ⟨Nat.le_of_ble_eq_true rfl, Nat.le_of_ble_eq_true rfl⟩ (Nat.le_of_ble_eq_true rfl) dX9_sample_7 ⟨(show (kc) + 1 ≤ 3 by omega), (show (ks) + 4 ≤ 107 by omega)⟩ (fun it1 ws hW => ?_)
  refine q_nm (wz := ws) (ka := kc + 1) (kb := ks + 4) (sz := [.ref it1]) rfl rfl rfl rfl ?_
  refine q_astore (pc := 12) (lvq := [(5, .ref it1), (4, .int (0 : Int32)), (0, .ref (ga 0)), (1, .int a1), (2, .int a2), (3, .int a3)]) C dX9_sample_12 (by decide) rfl ?_
  refine q_sub (lvq := [(0, .ref (ga 0)), (1, .int a1), (2, .int a2), (3, .int a3), (4, .int (0 : Int32)), (5, .ref it1)]) [2, 3, 4, 5, 1, 0] rfl ?_
  exact w_X9_sample_14 C 1000 (kc + 1) (ks + 4) a1 a2 a3 (0 : Int32) (0 : Int32) (S.1 23) S it1 (-1 : Int32) ad ws hf hW (by omega) (by omega)
theorem z_X9_fits : q_dsc yX9_fits 0 := ⟨by decide +kernel, by decide +kernel, by decide +kernel⟩
theorem n_X9_fits_X9 : ∀ w ∈ wsX90, w ∈ wsX9_fits := fun _ h => (List.mem_cons_of_mem _ (List.mem_append_left _ (List.mem_append_left _ (List.mem_append_right _ h))))
def f_X9_fits_88 (k38 : Int32 → Int32 → Int32 → MS → Option (Bool × MS)) (vt0 : Int32) (vt1 : Int32) (u2 : Int32) (x2 : Int32) (S : MS) : Option (Bool × MS) := k38 (vt1 &&& vt0) u2 x2 S
def f_X9_fits_80 (k38 : Int32 → Int32 → Int32 → MS → Option (Bool × MS)) (vt0 : Int32) (vt1 : Int32) (vt2 : Int32) (u2 : Int32) (x2 : Int32) (S : MS) : Option (Bool × MS) := (if vt1 = vt0 then f_X9_fits_88 k38 (1 : Int32) vt2 u2 x2 S else f_X9_fits_88 k38 (0 : Int32) vt2 u2 x2 S)
def f_X9_fits_38b (k38 : Int32 → Int32 → Int32 → MS → Option (Bool × MS)) (v1 : Int32) (u2 : Int32) (x2 : Int32) (S : MS) : Option (Bool × MS) := (if (q_b (!decide (u2 = nI (S.2.1 3)))) = 0 then (if v1 = 0 then some (false, S) else if v1 = 1 then some (true, S) else none) else (if q_in u2 (S.2.1 3) ∧ x2 = S.1 23 then (if u2.toNatClampNeg < S.2.1 3 then (if u2.toNatClampNeg < S.2.1 3 then ((f_X9_takes S (S.2.2.1 3 u2.toNatClampNeg 0) (S.2.2.1 3 u2.toNatClampNeg 1)).bind fun u11 => (if u2.toNatClampNeg < S.2.1 3 then (if (S.2.2.1 3 u2.toNatClampNeg 2) = (1 : Int32) then f_X9_fits_80 k38 (1 : Int32) (q_b u11) v1 (u2 + (1 : Int32)) x2 S else f_X9_fits_80 k38 (0 : Int32) (q_b u11) v1 (u2 + (1 : Int32)) x2 S) else none)) else none) else none) else none))
def f_X9_fits_38 : Nat → Int32 → Int32 → Int32 → MS → Option (Bool × MS)
  | 0, _, _, _, _ => none
  | n + 1, v1, u2, x2, S => f_X9_fits_38b  (f_X9_fits_38  n) v1 u2 x2 S
def f_X9_fits_18 (vt0 : Int32) (S : MS) : Option (Bool × MS) := ((f_X9_isWrong vt0 S).bind fun u2 => (if (q_b u2.1) = 0 then f_X9_fits_38 1000 (1 : Int32) (0 : Int32) (u2.2.1 23) u2.2 else some (false, u2.2)))
def f_X9_fits (S : MS) : Option (Bool × MS) := (if (q_b (decide (S.2.1 2 = 0))) = 0 then f_X9_fits_18 (0 : Int32) S else f_X9_fits_18 (1 : Int32) S)
set_option maxRecDepth 100000 in
set_option maxHeartbeats 8000000 in
theorem w_X9_fits_88 {p : Program} {l : Launch} {e : Env} {s : State} {m : MethodId} {args : Array Value} {below : List Frame} {meth : Method} {c : Code} {D : va_G} {cc : Nat → ClassId} {N0 : Nat} {ga : Nat → Nat} {E : va_W} {ad : Nat → Nat → Nat} {k38 : Int32 → Int32 → Int32 → MS → Option (Bool × MS)} {n38 : Nat} {v : (Bool × MS)} (C : q_C p s m args meth c cX9_fits 4 (some .boolean) wsX9_fits RX9 D cc N0) (hk38 : ∀ (kc : Nat) (ks : Nat) (v1 : Int32) (u2 : Int32) (x2 : Int32) (S : MS) (q2 : Nat) (z2 : Int32)  (ws : va_W), k38 v1 u2 x2 S = some v → mW cc ga ad S ((q2, q_it u2 z2 x2 (ga 4)) :: E) ws → kc + 0 + n38 * 0 ≤ 1 → ks + 0 + n38 * 0 ≤ 4 → q_WA p l e (q_rm (5) (124) 1 4) s m args below meth c D N0 4 (MQ below (q_Q D N0 (fun rv w1 => rv = some (.int (q_b v.1)) ∧ mW cc ga ad v.2 E w1)) args s 1 4 (q_A N0)) kc ks ws 38 [(0, .ref (ga 0)), (1, .int v1), (2, .ref q2)] []) (kc : Nat) (ks : Nat) (vt0 : Int32) (vt1 : Int32) (u2 : Int32) (x2 : Int32) (S : MS) (q2 : Nat) (z2 : Int32)  (ws : va_W) : f_X9_fits_88 k38 vt0 vt1 u2 x2 S = some v → mW cc ga ad S ((q2, q_it u2 z2 x2 (ga 4)) :: E) ws → kc + 0 + n38 * 0 ≤ 1 → ks + 0 + n38 * 0 ≤ 4 → q_WA p l e (q_rm (5) (124) 1 4) s m args below meth c D N0 4 (MQ below (q_Q D N0 (fun rv w1 => rv = some (.int (q_b v.1)) ∧ mW cc ga ad v.2 E w1)) args s 1 4 (q_A N0)) kc ks ws 88 [(0, .ref (ga 0)), (2, .ref q2)] [.int vt0, .int vt1] := by
  intro hf hW b1 b2
  refine q_iand (pc := 88) C dX9_fits_88 ?_
  refine q_istore_n (pc := 89) (lvq := [(1, .int (vt1 &&& vt0)), (0, .ref (ga 0)), (2, .ref q2)]) C dX9_fits_89 rfl (by decide) rfl ?_
  refine q_goto (pc := 90) (tgt := 38) C dX9_fits_90 (by decide) ?_
  refine q_sub (lvq := [(0, .ref (ga 0)), (1, .int (vt1 &&& vt0)), (2, .ref q2)]) [1, 0, 2] rfl ?_
  exact hk38 (kc) (ks) (vt1 &&& vt0) u2 x2 S q2 z2 ws hf hW (by omega) (by omega)
set_option maxRecDepth 100000 in
set_option maxHeartbeats 8000000 in
theorem w_X9_fits_80 {p : Program} {l : Launch} {e : Env} {s : State} {m : MethodId} {args : Array Value} {below : List Frame} {meth : Method} {c : Code} {D : va_G} {cc : Nat → ClassId} {N0 : Nat} {ga : Nat → Nat} {E : va_W} {ad : Nat → Nat → Nat} {k38 : Int32 → Int32 → Int32 → MS → Option (Bool × MS)} {n38 : Nat} {v : (Bool × MS)} (C : q_C p s m args meth c cX9_fits 4 (some .boolean) wsX9_fits RX9 D cc N0) (hk38 : ∀ (kc : Nat) (ks : Nat) (v1 : Int32) (u2 : Int32) (x2 : Int32) (S : MS) (q2 : Nat) (z2 : Int32)  (ws : va_W), k38 v1 u2 x2 S = some v → mW cc ga ad S ((q2, q_it u2 z2 x2 (ga 4)) :: E) ws → kc + 0 + n38 * 0 ≤ 1 → ks + 0 + n38 * 0 ≤ 4 → q_WA p l e (q_rm (5) (124) 1 4) s m args below meth c D N0 4 (MQ below (q_Q D N0 (fun rv w1 => rv = some (.int (q_b v.1)) ∧ mW cc ga ad v.2 E w1)) args s 1 4 (q_A N0)) kc ks ws 38 [(0, .ref (ga 0)), (1, .int v1), (2, .ref q2)] []) (kc : Nat) (ks : Nat) (vt0 : Int32) (vt1 : Int32) (vt2 : Int32) (u2 : Int32) (x2 : Int32) (S : MS) (q2 : Nat) (z2 : Int32)  (ws : va_W) : f_X9_fits_80 k38 vt0 vt1 vt2 u2 x2 S = some v → mW cc ga ad S ((q2, q_it u2 z2 x2 (ga 4)) :: E) ws → kc + 0 + n38 * 0 ≤ 1 → ks + 0 + n38 * 0 ≤ 4 → q_WA p l e (q_rm (5) (124) 1 4) s m args below meth c D N0 4 (MQ below (q_Q D N0 (fun rv w1 => rv = some (.int (q_b v.1)) ∧ mW cc ga ad v.2 E w1)) args s 1 4 (q_A N0)) kc ks ws 80 [(0, .ref (ga 0)), (2, .ref q2)] [.int vt0, .int vt1, .int vt2] := by
  intro hf hW b1 b2
  refine q_icmp_ne (pc := 80) (tgt := 87) C dX9_fits_80 (by decide) (fun c15 => ?_) (fun c15 => ?_)
  · have hf := q_iteF hf c15
    refine q_iconst (pc := 87) C (0 : Int32) dX9_fits_87 q_ci_0 ?_
    refine q_sub (lvq := [(0, .ref (ga 0)), (2, .ref q2)]) [0, 1] rfl ?_
    exact w_X9_fits_88 C hk38 (kc) (ks) (0 : Int32) vt2 u2 x2 S q2 z2 ws hf hW (by omega) (by omega)
  · have hf := q_iteT hf c15
    refine q_iconst (pc := 83) C (1 : Int32) dX9_fits_83 q_ci_1 ?_
    refine q_goto (pc := 84) (tgt := 88) C dX9_fits_84 (by decide) ?_
    refine q_sub (lvq := [(0, .ref (ga 0)), (2, .ref q2)]) [0, 1] rfl ?_
    exact w_X9_fits_88 C hk38 (kc) (ks) (1 : Int32) vt2 u2 x2 S q2 z2 ws hf hW (by omega) (by omega)
set_option maxRecDepth 100000 in
set_option maxHeartbeats 8000000 in
theorem w_X9_fits_38 {p : Program} {l : Launch} {e : Env} {s : State} {m : MethodId} {args : Array Value} {below : List Frame} {meth : Method} {c : Code} {D : va_G} {cc : Nat → ClassId} {N0 : Nat} {ga : Nat → Nat} {E : va_W} {ad : Nat → Nat → Nat} {v : (Bool × MS)} (C : q_C p s m args meth c cX9_fits 4 (some .boolean) wsX9_fits RX9 D cc N0)  : ∀ (n : Nat) (kc : Nat) (ks : Nat) (v1 : Int32) (u2 : Int32) (x2 : Int32) (S : MS) (q2 : Nat) (z2 : Int32)  (ws : va_W), f_X9_fits_38  n v1 u2 x2 S = some v → mW cc ga ad S ((q2, q_it u2 z2 x2 (ga 4)) :: E) ws → kc + 0 + n * 0 ≤ 1 → ks + 0 + n * 0 ≤ 4 → q_WA p l e (q_rm (5) (124) 1 4) s m args below meth c D N0 4 (MQ below (q_Q D N0 (fun rv w1 => rv = some (.int (q_b v.1)) ∧ mW cc ga ad v.2 E w1)) args s 1 4 (q_A N0)) kc ks ws 38 [(0, .ref (ga 0)), (1, .int v1), (2, .ref q2)] [] := by
  intro n
  induction n with
  | zero => intro kc ks v1 u2 x2 S q2 z2 ws hf; cases hf
  | succ n ih =>
    intro kc ks v1 u2 x2 S q2 z2 ws hf hW b1 b2
    have hk38 : ∀ (kc : Nat) (ks : Nat) (v1 : Int32) (u2 : Int32) (x2 : Int32) (S : MS) (q2 : Nat) (z2 : Int32)  (ws : va_W), f_X9_fits_38  n v1 u2 x2 S = some v → mW cc ga ad S ((q2, q_it u2 z2 x2 (ga 4)) :: E) ws → kc + 0 + n * 0 ≤ 1 → ks + 0 + n * 0 ≤ 4 → q_WA p l e (q_rm (5) (124) 1 4) s m args below meth c D N0 4 (MQ below (q_Q D N0 (fun rv w1 => rv = some (.int (q_b v.1)) ∧ mW cc ga ad v.2 E w1)) args s 1 4 (q_A N0)) kc ks ws 38 [(0, .ref (ga 0)), (1, .int v1), (2, .ref q2)] [] := ih
    have hf : f_X9_fits_38b  (f_X9_fits_38  n) v1 u2 x2 S = some v := hf
    simp only [Nat.succ_mul, Nat.add_mul] at b1 b2
    refine q_aload_n (pc := 38) C dX9_fits_38 rfl 2 rfl ?_
    refine m_has_3 (pc := 39) C hW gX9_fits_Jx35411_hasNext_aae02_f76Jx35411 ⟨Nat.le_of_ble_eq_true rfl, Nat.le_of_ble_eq_true rfl⟩ (Nat.le_of_ble_eq_true rfl) dX9_fits_39 ⟨(show (kc) ≤ 1 by omega), (show (ks) ≤ 4 by omega)⟩ ?_
    refine q_if_eq (pc := 44) (tgt := 93) C dX9_fits_44 (by decide) (fun c6 => ?_) (fun c6 => ?_)
    · have hf := q_iteT hf c6
      refine q_iload_n (pc := 93) C dX9_fits_93 rfl 1 rfl ?_
      refine q_wid (show kc ≤ 1 by omega) (show ks ≤ 4 by omega) ?_
      refine t_drop hW (fun ws hW => ?_)
      have hz := q_z01 hf
      rcases hz with ⟨c7, hf⟩ | ⟨c7, hf⟩
      · obtain rfl := q_some hf
        rw [c7]
        exact q_zret (pc := 94) C (by decide +kernel) dX9_fits_94 ⟨rfl, hW⟩
      · obtain rfl := q_some hf
        rw [c7]
        exact q_zret (pc := 94) C (by decide +kernel) dX9_fits_94 ⟨rfl, hW⟩
    · have hf := q_iteF hf c6
      refine q_aload_n (pc := 47) C dX9_fits_47 rfl 2 rfl ?_
      obtain ⟨g8, hf⟩ := q_gd hf
      refine m_next_3 (pc := 48) C hW g8 gX9_fits_Jx35411_next_0502b_f82Jx35411 ⟨Nat.le_of_ble_eq_true rfl, Nat.le_of_ble_eq_true rfl⟩ (Nat.le_of_ble_eq_true rfl) dX9_fits_48 ⟨(show (kc) ≤ 1 by omega), (show (ks) ≤ 4 by omega)⟩ (fun ws hW => ?_)
      refine m_cast_3 (pc := 53) C hW g8.1.2 (List.mem_of_getElem? (i := 3) rfl) dX9_fits_53 ?_
      refine q_astore_n (pc := 56) (lvq := [(3, .ref (ad 3 u2.toNatClampNeg)), (0, .ref (ga 0)), (1, .int v1), (2, .ref q2)]) C dX9_fits_56 rfl (by decide) rfl ?_
      refine q_iload_n (pc := 57) C dX9_fits_57 rfl 2 rfl ?_
      refine q_aload_n (pc := 58) C dX9_fits_58 rfl 1 rfl ?_
      refine q_aload_n (pc := 59) C dX9_fits_59 rfl 0 rfl ?_
      refine q_iconst (pc := 60) C (0 : Int32) dX9_fits_60 q_ci_0 ?_
      obtain ⟨g9, hf⟩ := q_gd hf
      refine m_rald_3 (pc := 61) C hW g9 ⟨by decide, by decide⟩ dX9_fits_61 ?_
      refine q_nm (wz := ws) (ka := kc) (kb := ks) (sz := [.int (S.2.2.1 3 u2.toNatClampNeg 0), .ref (ga 0), .int v1]) rfl rfl rfl rfl ?_
      refine q_aload_n (pc := 62) C dX9_fits_62 rfl 0 rfl ?_
      refine q_iconst (pc := 63) C (1 : Int32) dX9_fits_63 q_ci_1 ?_
      obtain ⟨g10, hf⟩ := q_gd hf
      refine m_rald_3 (pc := 64) C hW g10 ⟨by decide, by decide⟩ dX9_fits_64 ?_
      refine q_nm (wz := ws) (ka := kc) (kb := ks) (sz := [.int (S.2.2.1 3 u2.toNatClampNeg 1), .int (S.2.2.1 3 u2.toNatClampNeg 0), .ref (ga 0), .int v1]) rfl rfl rfl rfl ?_
      obtain ⟨u11, e12, hf⟩ := q_bind hf
      obtain ⟨_, he⟩ := hW.obj
      refine q_callV (pc := 65) (As := [.int (S.2.2.1 3 u2.toNatClampNeg 0), .int (S.2.2.1 3 u2.toNatClampNeg 1)]) (rest := [.int v1]) C (c_X9_takes l D cc N0 ga ad  ((q2, q_it (u2 + (1 : Int32)) u2 x2 (ga 4)) :: E) S (S.2.2.1 3 u2.toNatClampNeg 0) (S.2.2.1 3 u2.toNatClampNeg 1) u11 e12 ws hW) gX9_fits_X9_takes rfl rfl z_X9_takes ⟨Nat.le_of_ble_eq_true rfl, Nat.le_of_ble_eq_true rfl⟩ he rfl rfl rfl (Nat.le_of_ble_eq_true rfl) dX9_fits_65 ⟨(show (kc) + 0 ≤ 1 by omega), (show (ks) + 0 ≤ 4 by omega)⟩ ?_
      rintro _ ws ⟨rfl, hW⟩
      refine q_nm (wz := ws) (ka := kc) (kb := ks) (sz := [.int (q_b u11), .int v1]) rfl rfl rfl rfl ?_
      refine q_aload_n (pc := 68) C dX9_fits_68 rfl 0 rfl ?_
      refine q_iconst (pc := 69) C (2 : Int32) dX9_fits_69 q_ci_2 ?_
      obtain ⟨g13, hf⟩ := q_gd hf
      refine m_rald_3 (pc := 70) C hW g13 ⟨by decide, by decide⟩ dX9_fits_70 ?_
      refine q_nm (wz := ws) (ka := kc) (kb := ks) (sz := [.int (S.2.2.1 3 u2.toNatClampNeg 2), .int (q_b u11), .int v1]) rfl rfl rfl rfl ?_
      refine q_iconst (pc := 71) C (1 : Int32) dX9_fits_71 q_ci_1 ?_
      refine q_icmp_ne (pc := 72) (tgt := 79) C dX9_fits_72 (by decide) (fun c14 => ?_) (fun c14 => ?_)
      · have hf := q_iteF hf c14
        refine q_iconst (pc := 79) C (0 : Int32) dX9_fits_79 q_ci_0 ?_
        refine q_sub (lvq := [(0, .ref (ga 0)), (2, .ref q2)]) [1, 3] rfl ?_
        exact w_X9_fits_80 C hk38 (kc) (ks) (0 : Int32) (q_b u11) v1 (u2 + (1 : Int32)) x2 S q2 u2 ws hf hW (by omega) (by omega)
      · have hf := q_iteT hf c14
        refine q_iconst (pc := 75) C (1 : Int32) dX9_fits_75 q_ci_1 ?_
        refine q_goto (pc := 76) (tgt := 80) C dX9_fits_76 (by decide) ?_
        refine q_sub (lvq := [(0, .ref (ga 0)), (2, .ref q2)]) [1, 3] rfl ?_
        exact w_X9_fits_80 C hk38 (kc) (ks) (1 : Int32) (q_b u11) v1 (u2 + (1 : Int32)) x2 S q2 u2 ws hf hW (by omega) (by omega)
set_option maxRecDepth 100000 in
set_option maxHeartbeats 8000000 in
theorem w_X9_fits_18 {p : Program} {l : Launch} {e : Env} {s : State} {m : MethodId} {args : Array Value} {below : List Frame} {meth : Method} {c : Code} {D : va_G} {cc : Nat → ClassId} {N0 : Nat} {ga : Nat → Nat} {E : va_W} {ad : Nat → Nat → Nat} {v : (Bool × MS)} (C : q_C p s m args meth c cX9_fits 4 (some .boolean) wsX9_fits RX9 D cc N0)  (kc : Nat) (ks : Nat) (vt0 : Int32) (S : MS)  (ws : va_W) : f_X9_fits_18  vt0 S = some v → mW cc ga ad S E ws → kc + 1 ≤ 1 → ks + 4 ≤ 4 → q_WA p l e (q_rm (5) (124) 1 4) s m args below meth c D N0 4 (MQ below (q_Q D N0 (fun rv w1 => rv = some (.int (q_b v.1)) ∧ mW cc ga ad v.2 E w1)) args s 1 4 (q_A N0)) kc ks ws 18 [(0, .ref (ga 0))] [.int vt0, .ref (ga 0)] := by
  intro hf hW b1 b2
  obtain ⟨u2, e3, hf⟩ := q_bind hf
  obtain ⟨_, he⟩ := hW.obj
  refine q_callV (pc := 18) (As := [.int vt0]) (rest := []) C (c_X9_isWrong l D cc N0 ga ad  E S vt0 u2 e3 ws hW) gX9_fits_X9_isWrong rfl rfl z_X9_isWrong ⟨Nat.le_of_ble_eq_true rfl, Nat.le_of_ble_eq_true rfl⟩ he rfl rfl rfl (Nat.le_of_ble_eq_true rfl) dX9_fits_18 ⟨(show (kc) + 0 ≤ 1 by omega), (show (ks) + 0 ≤ 4 by omega)⟩ ?_
  rintro _ ws ⟨rfl, hW⟩
  refine q_nm (wz := ws) (ka := kc) (kb := ks) (sz := [.int (q_b u2.1)]) rfl rfl rfl rfl ?_
  refine q_if_eq (pc := 21) (tgt := 26) C dX9_fits_21 (by decide) (fun c4 => ?_) (fun c4 => ?_)
  · have hf := q_iteT hf c4
    refine q_iconst (pc := 26) C (1 : Int32) dX9_fits_26 q_ci_1 ?_
    refine q_istore_n (pc := 27) (lvq := [(1, .int (1 : Int32)), (0, .ref (ga 0))]) C dX9_fits_27 rfl (by decide) rfl ?_
    refine q_aload_n (pc := 28) C dX9_fits_28 rfl 1 rfl ?_
    refine m_g_12 (pc := 29) C hW n_X9_fits_X9 (List.mem_of_getElem? (i := 2) rfl) dX9_fits_29 ?_
    refine m_iter_3 (pc := 32) C hW gX9_fits_Jx4a65c_iterator_32c93_f72Jx4a65c ⟨Nat.le_of_ble_eq_true rfl, Nat.le_of_ble_eq_true rfl⟩ (Nat.le_of_ble_eq_true rfl) dX9_fits_32 ⟨(show (kc) + 1 ≤ 1 by omega), (show (ks) + 4 ≤ 4 by omega)⟩ (fun it5 ws hW => ?_)
    refine q_nm (wz := ws) (ka := kc + 1) (kb := ks + 4) (sz := [.ref it5]) rfl rfl rfl rfl ?_
    refine q_astore_n (pc := 37) (lvq := [(2, .ref it5), (1, .int (1 : Int32)), (0, .ref (ga 0))]) C dX9_fits_37 rfl (by decide) rfl ?_
    refine q_sub (lvq := [(0, .ref (ga 0)), (1, .int (1 : Int32)), (2, .ref it5)]) [2, 1, 0] rfl ?_
    exact w_X9_fits_38 C 1000 (kc + 1) (ks + 4) (1 : Int32) (0 : Int32) (u2.2.1 23) u2.2 it5 (-1 : Int32) ws hf hW (by omega) (by omega)
  · have hf := q_iteF hf c4
    refine q_iconst (pc := 24) C (0 : Int32) dX9_fits_24 q_ci_0 ?_
    refine q_wid (show kc ≤ 1 by omega) (show ks ≤ 4 by omega) ?_
    obtain rfl := q_some hf
    exact q_zret (pc := 25) C (by decide +kernel) dX9_fits_25 ⟨rfl, hW⟩
set_option maxRecDepth 100000 in
set_option maxHeartbeats 8000000 in
theorem c_X9_fits (l : Launch) (D : va_G) (cc : Nat → ClassId) (N0 : Nat) (ga : Nat → Nat) (ad : Nat → Nat → Nat) (E : va_W) (S : MS) (v : (Bool × MS)) (hf : f_X9_fits S = some v) (ws : va_W) (hW : mW cc ga ad S E ws) : q_Met l yX9_fits wsX9_fits 5 124 D cc N0 ws [.ref (ga 0)] (fun rv w1 => rv = some (.int (q_b v.1)) ∧ mW cc ga ad v.2 E w1) 1 4 := by
  refine q_ofW (code := cX9_fits) (nL := 4) (ret := (some .boolean)) (by decide +kernel) rfl (Nat.le_of_ble_eq_true rfl) (fun p e s m below meth c C _ => ?_)
  refine q_lv (lv2 := [(0, .ref (ga 0))]) rfl ?_
  obtain ⟨kc, hkc⟩ : ∃ z, z = 0 := ⟨_, rfl⟩
  obtain ⟨ks, hks⟩ : ∃ z, z = 0 := ⟨_, rfl⟩
  refine q_nm (wz := ws) (ka := kc) (kb := ks) (sz := []) rfl hkc.symm hks.symm rfl ?_
  refine q_aload_n (pc := 0) C dX9_fits_0 rfl 0 rfl ?_
  refine q_aload_n (pc := 1) C dX9_fits_1 rfl 0 rfl ?_
  refine m_g_11 (pc := 2) C hW n_X9_fits_X9 (List.mem_of_getElem? (i := 1) rfl) dX9_fits_2 ?_
  refine m_isEmpty_2 (pc := 5) C hW gX9_fits_Jx4a65c_isEmpty_aae02_f135Jx4a65c ⟨Nat.le_of_ble_eq_true rfl, Nat.le_of_ble_eq_true rfl⟩ (Nat.le_of_ble_eq_true rfl) dX9_fits_5 ⟨(show (kc) ≤ 1 by omega), (show (ks) ≤ 4 by omega)⟩ ?_
  refine q_if_eq (pc := 10) (tgt := 17) C dX9_fits_10 (by decide) (fun c1 => ?_) (fun c1 => ?_)
  · have hf := q_iteT hf c1
    refine q_iconst (pc := 17) C (0 : Int32) dX9_fits_17 q_ci_0 ?_
    refine q_sub (lvq := [(0, .ref (ga 0))]) [0] rfl ?_
    exact w_X9_fits_18 C (kc) (ks) (0 : Int32) S ws hf hW (by omega) (by omega)
  · have hf := q_iteF hf c1
    refine q_iconst (pc := 13) C (1 : Int32) dX9_fits_13 q_ci_1 ?_
    refine q_goto (pc := 14) (tgt := 18) C dX9_fits_14 (by decide) ?_
    refine q_sub (lvq := [(0, .ref (ga 0))]) [0] rfl ?_
    exact w_X9_fits_18 C (kc) (ks) (1 : Int32) S ws hf hW (by omega) (by omega)
theorem z_X9_canFit : q_dsc yX9_canFit 1 := ⟨by decide +kernel, by decide +kernel, by decide +kernel⟩
theorem n_X9_canFit_X9 : ∀ w ∈ wsX90, w ∈ wsX9_canFit := fun _ h => (List.mem_cons_of_mem _ (List.mem_append_left _ (List.mem_append_left _ (List.mem_append_right _ h))))
def f_X9_canFit_148 (K : Nat) (S : MS) (k23 : Nat → Nat → Int32 → Int32 → Int32 → Option Bool) (k45 : Nat → Nat → Int32 → Int32 → Int32 → Int32 → Int32 → Int32 → Int32 → Option Bool) (kc : Nat) (ks : Nat) (v1 : Int32) (v2 : Int32) (v3 : Int32) (v4 : Int32) (vt0 : Int32) (vt1 : Int32) (u6 : Int32) (x6 : Int32) : Option Bool := k45 (kc) (ks) v1 v2 v3 v4 (vt1 ||| vt0) u6 x6
def f_X9_canFit_127 (K : Nat) (S : MS) (k23 : Nat → Nat → Int32 → Int32 → Int32 → Option Bool) (k45 : Nat → Nat → Int32 → Int32 → Int32 → Int32 → Int32 → Int32 → Int32 → Option Bool) (kc : Nat) (ks : Nat) (v1 : Int32) (v2 : Int32) (v3 : Int32) (v5 : Int32) (r7 : Nat) (v8 : Int32) (vt0 : Int32) (vt1 : Int32) (u6 : Int32) (x6 : Int32) : Option Bool := (if r7 < S.2.1 3 then (if (S.2.2.1 3 r7 2) = (1 : Int32) then f_X9_canFit_148 K S k23 k45 (kc) (ks) v1 v2 v3 (vt1 ||| vt0) (0 : Int32) v5 u6 x6 else f_X9_canFit_148 K S k23 k45 (kc) (ks) v1 v2 v3 (vt1 ||| vt0) ((1 : Int32) <<< (v8 &&& 31)) v5 u6 x6) else none)
def f_X9_canFit_73b (K : Nat) (S : MS) (k23 : Nat → Nat → Int32 → Int32 → Int32 → Option Bool) (k45 : Nat → Nat → Int32 → Int32 → Int32 → Int32 → Int32 → Int32 → Int32 → Option Bool) (k73 : Nat → Nat → Int32 → Int32 → Int32 → Int32 → Int32 → Nat → Int32 → Int32 → Int32 → Int32 → Option Bool) (kc : Nat) (ks : Nat) (v1 : Int32) (v2 : Int32) (v3 : Int32) (v4 : Int32) (v5 : Int32) (r7 : Nat) (v8 : Int32) (v9 : Int32) (u6 : Int32) (x6 : Int32) : Option Bool := (if r7 < S.2.1 3 then (if (S.2.2.1 3 r7 0) ≤ v9 then (if r7 < S.2.1 3 then (if (S.2.2.1 3 r7 2) = (1 : Int32) then f_X9_canFit_127 K S k23 k45 (kc) (ks) v1 v2 v3 v5 r7 v8 ((1 : Int32) <<< (v8 &&& 31)) v4 u6 x6 else f_X9_canFit_127 K S k23 k45 (kc) (ks) v1 v2 v3 v5 r7 v8 (0 : Int32) v4 u6 x6) else none) else (if r7 < S.2.1 3 then ((f_X9_digit v3 (((2 : Int32) * v8) + (((S.2.2.1 3 r7 1) >>> (v9 &&& 31)) &&& (1 : Int32))) v1).bind fun u15 => k73 (kc) (ks) v1 v2 v3 v4 v5 r7 u15 (v9 + (1 : Int32)) u6 x6) else none)) else none)
def f_X9_canFit_73 (K : Nat) (S : MS) (k23 : Nat → Nat → Int32 → Int32 → Int32 → Option Bool) (k45 : Nat → Nat → Int32 → Int32 → Int32 → Int32 → Int32 → Int32 → Int32 → Option Bool) : Nat → Nat → Nat → Int32 → Int32 → Int32 → Int32 → Int32 → Nat → Int32 → Int32 → Int32 → Int32 → Option Bool
  | 0, _, _, _, _, _, _, _, _, _, _, _, _ => none
  | n + 1, kc, ks, v1, v2, v3, v4, v5, r7, v8, v9, u6, x6 => f_X9_canFit_73b K S k23 k45 (f_X9_canFit_73 K S k23 k45 n) kc ks v1 v2 v3 v4 v5 r7 v8 v9 u6 x6
def f_X9_canFit_45b (K : Nat) (S : MS) (k23 : Nat → Nat → Int32 → Int32 → Int32 → Option Bool) (k45 : Nat → Nat → Int32 → Int32 → Int32 → Int32 → Int32 → Int32 → Int32 → Option Bool) (kc : Nat) (ks : Nat) (v1 : Int32) (v2 : Int32) (v3 : Int32) (v4 : Int32) (v5 : Int32) (u6 : Int32) (x6 : Int32) : Option Bool := (if (q_b (!decide (u6 = nI (S.2.1 3)))) = 0 then (if (v4 &&& v5) = 0 then some true else k23 (kc) (ks) v1 v2 (v3 + (1 : Int32))) else (if q_in u6 (S.2.1 3) ∧ x6 = S.1 23 then f_X9_canFit_73 K S k23 k45 1000 (kc) (ks) v1 v2 v3 v4 v5 u6.toNatClampNeg (0 : Int32) (0 : Int32) (u6 + (1 : Int32)) x6 else none))
def f_X9_canFit_45 (K : Nat) (S : MS) (k23 : Nat → Nat → Int32 → Int32 → Int32 → Option Bool) : Nat → Nat → Nat → Int32 → Int32 → Int32 → Int32 → Int32 → Int32 → Int32 → Option Bool
  | 0, _, _, _, _, _, _, _, _, _ => none
  | n + 1, kc, ks, v1, v2, v3, v4, v5, u6, x6 => f_X9_canFit_45b K S k23 (f_X9_canFit_45 K S k23 n) kc ks v1 v2 v3 v4 v5 u6 x6
def f_X9_canFit_23b (K : Nat) (S : MS) (k23 : Nat → Nat → Int32 → Int32 → Int32 → Option Bool) (kc : Nat) (ks : Nat) (v1 : Int32) (v2 : Int32) (v3 : Int32) : Option Bool := (if v2 ≤ v3 then some false else (if kc + 1 ≤ K ∧ ks + 4 ≤ (4 * K) then f_X9_canFit_45 K S k23 1000 (kc + 1) (ks + 4) v1 v2 v3 (0 : Int32) (0 : Int32) (0 : Int32) (S.1 23) else none))
def f_X9_canFit_23 (K : Nat) (S : MS) : Nat → Nat → Nat → Int32 → Int32 → Int32 → Option Bool
  | 0, _, _, _, _, _ => none
  | n + 1, kc, ks, v1, v2, v3 => f_X9_canFit_23b K S (f_X9_canFit_23 K S n) kc ks v1 v2 v3
def f_X9_canFit_4b (K : Nat) (S : MS) (k4 : Nat → Nat → Int32 → Int32 → Int32 → Option Bool) (kc : Nat) (ks : Nat) (v1 : Int32) (v2 : Int32) (v3 : Int32) : Option Bool := (if ((2 : Int32) * v1) ≤ v3 then f_X9_canFit_23 K S 1000 (kc) (ks) v1 v2 (0 : Int32) else k4 (kc) (ks) v1 (v2 * v1) (v3 + (1 : Int32)))
def f_X9_canFit_4 (K : Nat) (S : MS) : Nat → Nat → Nat → Int32 → Int32 → Int32 → Option Bool
  | 0, _, _, _, _, _ => none
  | n + 1, kc, ks, v1, v2, v3 => f_X9_canFit_4b K S (f_X9_canFit_4 K S n) kc ks v1 v2 v3
def f_X9_canFit_0 (K : Nat) (S : MS) (kc ks : Nat) (a1 : Int32) : Option Bool := f_X9_canFit_4 K S 1000 (kc) (ks) a1 (1 : Int32) (0 : Int32)
def f_X9_canFit (K : Nat) (S : MS) (a1 : Int32) : Option Bool := f_X9_canFit_0 K S 0 0 a1
set_option maxRecDepth 100000 in
set_option maxHeartbeats 8000000 in
theorem w_X9_canFit_148 {p : Program} {l : Launch} {e : Env} {s : State} {m : MethodId} {args : Array Value} {below : List Frame} {meth : Method} {c : Code} {D : va_G} {cc : Nat → ClassId} {N0 : Nat} {ga : Nat → Nat} {E : va_W} {ad : Nat → Nat → Nat} {S : MS} {K : Nat} {k23 : Nat → Nat → Int32 → Int32 → Int32 → Option Bool} {k45 : Nat → Nat → Int32 → Int32 → Int32 → Int32 → Int32 → Int32 → Int32 → Option Bool} {v : Bool} (C : q_C p s m args meth c cX9_canFit 10 (some .boolean) wsX9_canFit RX9 D cc N0) (hk23 : ∀ (kc : Nat) (ks : Nat) (v1 : Int32) (v2 : Int32) (v3 : Int32)  (ws : va_W), k23 kc ks v1 v2 v3 = some v → mW cc ga ad S E ws → kc ≤ K → ks ≤ (4 * K) → q_WA p l e (q_rm (3) (90) K (4 * K)) s m args below meth c D N0 10 (MQ below (q_Q D N0 (fun rv w1 => rv = some (.int (q_b v)) ∧ mW cc ga ad S E w1)) args s K (4 * K) (q_A N0)) kc ks ws 23 [(0, .ref (ga 0)), (1, .int v1), (2, .int v2), (3, .int v3)] []) (hk45 : ∀ (kc : Nat) (ks : Nat) (v1 : Int32) (v2 : Int32) (v3 : Int32) (v4 : Int32) (v5 : Int32) (u6 : Int32) (x6 : Int32) (q6 : Nat) (z6 : Int32)  (ws : va_W), k45 kc ks v1 v2 v3 v4 v5 u6 x6 = some v → mW cc ga ad S ((q6, q_it u6 z6 x6 (ga 4)) :: E) ws → kc ≤ K → ks ≤ (4 * K) → q_WA p l e (q_rm (3) (90) K (4 * K)) s m args below meth c D N0 10 (MQ below (q_Q D N0 (fun rv w1 => rv = some (.int (q_b v)) ∧ mW cc ga ad S E w1)) args s K (4 * K) (q_A N0)) kc ks ws 45 [(0, .ref (ga 0)), (1, .int v1), (2, .int v2), (3, .int v3), (4, .int v4), (5, .int v5), (6, .ref q6)] []) (kc : Nat) (ks : Nat) (v1 : Int32) (v2 : Int32) (v3 : Int32) (v4 : Int32) (vt0 : Int32) (vt1 : Int32) (u6 : Int32) (x6 : Int32) (q6 : Nat) (z6 : Int32)  (ws : va_W) : f_X9_canFit_148 K S k23 k45 kc ks v1 v2 v3 v4 vt0 vt1 u6 x6 = some v → mW cc ga ad S ((q6, q_it u6 z6 x6 (ga 4)) :: E) ws → kc ≤ K → ks ≤ (4 * K) → q_WA p l e (q_rm (3) (90) K (4 * K)) s m args below meth c D N0 10 (MQ below (q_Q D N0 (fun rv w1 => rv = some (.int (q_b v)) ∧ mW cc ga ad S E w1)) args s K (4 * K) (q_A N0)) kc ks ws 148 [(0, .ref (ga 0)), (1, .int v1), (2, .int v2), (3, .int v3), (4, .int v4), (6, .ref q6)] [.int vt0, .int vt1] := by
  intro hf hW b1 b2
  refine q_ior (pc := 148) C dX9_canFit_148 ?_
  refine q_istore (pc := 149) (lvq := [(5, .int (vt1 ||| vt0)), (0, .ref (ga 0)), (1, .int v1), (2, .int v2), (3, .int v3), (4, .int v4), (6, .ref q6)]) C dX9_canFit_149 (by decide) rfl ?_
  refine q_goto (pc := 151) (tgt := 45) C dX9_canFit_151 (by decide) ?_
  refine q_sub (lvq := [(0, .ref (ga 0)), (1, .int v1), (2, .int v2), (3, .int v3), (4, .int v4), (5, .int (vt1 ||| vt0)), (6, .ref q6)]) [1, 2, 3, 4, 5, 0, 6] rfl ?_
  exact hk45 (kc) (ks) v1 v2 v3 v4 (vt1 ||| vt0) u6 x6 q6 z6 ws hf hW (by omega) (by omega)
set_option maxRecDepth 100000 in
set_option maxHeartbeats 8000000 in
theorem w_X9_canFit_127 {p : Program} {l : Launch} {e : Env} {s : State} {m : MethodId} {args : Array Value} {below : List Frame} {meth : Method} {c : Code} {D : va_G} {cc : Nat → ClassId} {N0 : Nat} {ga : Nat → Nat} {E : va_W} {ad : Nat → Nat → Nat} {S : MS} {K : Nat} {k23 : Nat → Nat → Int32 → Int32 → Int32 → Option Bool} {k45 : Nat → Nat → Int32 → Int32 → Int32 → Int32 → Int32 → Int32 → Int32 → Option Bool} {v : Bool} (C : q_C p s m args meth c cX9_canFit 10 (some .boolean) wsX9_canFit RX9 D cc N0) (hk23 : ∀ (kc : Nat) (ks : Nat) (v1 : Int32) (v2 : Int32) (v3 : Int32)  (ws : va_W), k23 kc ks v1 v2 v3 = some v → mW cc ga ad S E ws → kc ≤ K → ks ≤ (4 * K) → q_WA p l e (q_rm (3) (90) K (4 * K)) s m args below meth c D N0 10 (MQ below (q_Q D N0 (fun rv w1 => rv = some (.int (q_b v)) ∧ mW cc ga ad S E w1)) args s K (4 * K) (q_A N0)) kc ks ws 23 [(0, .ref (ga 0)), (1, .int v1), (2, .int v2), (3, .int v3)] []) (hk45 : ∀ (kc : Nat) (ks : Nat) (v1 : Int32) (v2 : Int32) (v3 : Int32) (v4 : Int32) (v5 : Int32) (u6 : Int32) (x6 : Int32) (q6 : Nat) (z6 : Int32)  (ws : va_W), k45 kc ks v1 v2 v3 v4 v5 u6 x6 = some v → mW cc ga ad S ((q6, q_it u6 z6 x6 (ga 4)) :: E) ws → kc ≤ K → ks ≤ (4 * K) → q_WA p l e (q_rm (3) (90) K (4 * K)) s m args below meth c D N0 10 (MQ below (q_Q D N0 (fun rv w1 => rv = some (.int (q_b v)) ∧ mW cc ga ad S E w1)) args s K (4 * K) (q_A N0)) kc ks ws 45 [(0, .ref (ga 0)), (1, .int v1), (2, .int v2), (3, .int v3), (4, .int v4), (5, .int v5), (6, .ref q6)] []) (kc : Nat) (ks : Nat) (v1 : Int32) (v2 : Int32) (v3 : Int32) (v5 : Int32) (r7 : Nat) (v8 : Int32) (vt0 : Int32) (vt1 : Int32) (u6 : Int32) (x6 : Int32) (q6 : Nat) (z6 : Int32)  (ws : va_W) : f_X9_canFit_127 K S k23 k45 kc ks v1 v2 v3 v5 r7 v8 vt0 vt1 u6 x6 = some v → mW cc ga ad S ((q6, q_it u6 z6 x6 (ga 4)) :: E) ws → kc ≤ K → ks ≤ (4 * K) → q_WA p l e (q_rm (3) (90) K (4 * K)) s m args below meth c D N0 10 (MQ below (q_Q D N0 (fun rv w1 => rv = some (.int (q_b v)) ∧ mW cc ga ad S E w1)) args s K (4 * K) (q_A N0)) kc ks ws 127 [(0, .ref (ga 0)), (1, .int v1), (2, .int v2), (3, .int v3), (5, .int v5), (6, .ref q6), (7, .ref (ad 3 r7)), (8, .int v8)] [.int vt0, .int vt1] := by
  intro hf hW b1 b2
  refine q_ior (pc := 127) C dX9_canFit_127 ?_
  refine q_istore (pc := 128) (lvq := [(4, .int (vt1 ||| vt0)), (0, .ref (ga 0)), (1, .int v1), (2, .int v2), (3, .int v3), (5, .int v5), (6, .ref q6), (7, .ref (ad 3 r7)), (8, .int v8)]) C dX9_canFit_128 (by decide) rfl ?_
  refine q_iload (pc := 130) C dX9_canFit_130 5 rfl ?_
  refine q_aload (pc := 132) C dX9_canFit_132 7 rfl ?_
  refine q_iconst (pc := 134) C (2 : Int32) dX9_canFit_134 q_ci_2 ?_
  obtain ⟨g12, hf⟩ := q_gd hf
  refine m_rald_3 (pc := 135) C hW g12 ⟨by decide, by decide⟩ dX9_canFit_135 ?_
  refine q_nm (wz := ws) (ka := kc) (kb := ks) (sz := [.int (S.2.2.1 3 r7 2), .int v5]) rfl rfl rfl rfl ?_
  refine q_iconst (pc := 136) C (1 : Int32) dX9_canFit_136 q_ci_1 ?_
  refine q_icmp_ne (pc := 137) (tgt := 144) C dX9_canFit_137 (by decide) (fun c13 => ?_) (fun c13 => ?_)
  · have hf := q_iteF hf c13
    refine q_iconst (pc := 144) C (1 : Int32) dX9_canFit_144 q_ci_1 ?_
    refine q_iload (pc := 145) C dX9_canFit_145 8 rfl ?_
    refine q_ishl (pc := 147) C dX9_canFit_147 ?_
    refine q_sub (lvq := [(0, .ref (ga 0)), (1, .int v1), (2, .int v2), (3, .int v3), (4, .int (vt1 ||| vt0)), (6, .ref q6)]) [1, 2, 3, 4, 0, 6] rfl ?_
    exact w_X9_canFit_148 C hk23 hk45 (kc) (ks) v1 v2 v3 (vt1 ||| vt0) ((1 : Int32) <<< (v8 &&& 31)) v5 u6 x6 q6 z6 ws hf hW (by omega) (by omega)
  · have hf := q_iteT hf c13
    refine q_iconst (pc := 140) C (0 : Int32) dX9_canFit_140 q_ci_0 ?_
    refine q_goto (pc := 141) (tgt := 148) C dX9_canFit_141 (by decide) ?_
    refine q_sub (lvq := [(0, .ref (ga 0)), (1, .int v1), (2, .int v2), (3, .int v3), (4, .int (vt1 ||| vt0)), (6, .ref q6)]) [1, 2, 3, 4, 0, 6] rfl ?_
    exact w_X9_canFit_148 C hk23 hk45 (kc) (ks) v1 v2 v3 (vt1 ||| vt0) (0 : Int32) v5 u6 x6 q6 z6 ws hf hW (by omega) (by omega)
set_option maxRecDepth 100000 in
set_option maxHeartbeats 8000000 in
theorem w_X9_canFit_73 {p : Program} {l : Launch} {e : Env} {s : State} {m : MethodId} {args : Array Value} {below : List Frame} {meth : Method} {c : Code} {D : va_G} {cc : Nat → ClassId} {N0 : Nat} {ga : Nat → Nat} {E : va_W} {ad : Nat → Nat → Nat} {S : MS} {K : Nat} {k23 : Nat → Nat → Int32 → Int32 → Int32 → Option Bool} {k45 : Nat → Nat → Int32 → Int32 → Int32 → Int32 → Int32 → Int32 → Int32 → Option Bool} {v : Bool} (C : q_C p s m args meth c cX9_canFit 10 (some .boolean) wsX9_canFit RX9 D cc N0) (hk23 : ∀ (kc : Nat) (ks : Nat) (v1 : Int32) (v2 : Int32) (v3 : Int32)  (ws : va_W), k23 kc ks v1 v2 v3 = some v → mW cc ga ad S E ws → kc ≤ K → ks ≤ (4 * K) → q_WA p l e (q_rm (3) (90) K (4 * K)) s m args below meth c D N0 10 (MQ below (q_Q D N0 (fun rv w1 => rv = some (.int (q_b v)) ∧ mW cc ga ad S E w1)) args s K (4 * K) (q_A N0)) kc ks ws 23 [(0, .ref (ga 0)), (1, .int v1), (2, .int v2), (3, .int v3)] []) (hk45 : ∀ (kc : Nat) (ks : Nat) (v1 : Int32) (v2 : Int32) (v3 : Int32) (v4 : Int32) (v5 : Int32) (u6 : Int32) (x6 : Int32) (q6 : Nat) (z6 : Int32)  (ws : va_W), k45 kc ks v1 v2 v3 v4 v5 u6 x6 = some v → mW cc ga ad S ((q6, q_it u6 z6 x6 (ga 4)) :: E) ws → kc ≤ K → ks ≤ (4 * K) → q_WA p l e (q_rm (3) (90) K (4 * K)) s m args below meth c D N0 10 (MQ below (q_Q D N0 (fun rv w1 => rv = some (.int (q_b v)) ∧ mW cc ga ad S E w1)) args s K (4 * K) (q_A N0)) kc ks ws 45 [(0, .ref (ga 0)), (1, .int v1), (2, .int v2), (3, .int v3), (4, .int v4), (5, .int v5), (6, .ref q6)] []) : ∀ (n : Nat) (kc : Nat) (ks : Nat) (v1 : Int32) (v2 : Int32) (v3 : Int32) (v4 : Int32) (v5 : Int32) (r7 : Nat) (v8 : Int32) (v9 : Int32) (u6 : Int32) (x6 : Int32) (q6 : Nat) (z6 : Int32)  (ws : va_W), f_X9_canFit_73 K S k23 k45 n kc ks v1 v2 v3 v4 v5 r7 v8 v9 u6 x6 = some v → mW cc ga ad S ((q6, q_it u6 z6 x6 (ga 4)) :: E) ws → kc ≤ K → ks ≤ (4 * K) → q_WA p l e (q_rm (3) (90) K (4 * K)) s m args below meth c D N0 10 (MQ below (q_Q D N0 (fun rv w1 => rv = some (.int (q_b v)) ∧ mW cc ga ad S E w1)) args s K (4 * K) (q_A N0)) kc ks ws 73 [(0, .ref (ga 0)), (1, .int v1), (2, .int v2), (3, .int v3), (4, .int v4), (5, .int v5), (6, .ref q6), (7, .ref (ad 3 r7)), (8, .int v8), (9, .int v9)] [] := by
  intro n
  induction n with
  | zero => intro kc ks v1 v2 v3 v4 v5 r7 v8 v9 u6 x6 q6 z6 ws hf; cases hf
  | succ n ih =>
    intro kc ks v1 v2 v3 v4 v5 r7 v8 v9 u6 x6 q6 z6 ws hf hW b1 b2
    have hk73 : ∀ (kc : Nat) (ks : Nat) (v1 : Int32) (v2 : Int32) (v3 : Int32) (v4 : Int32) (v5 : Int32) (r7 : Nat) (v8 : Int32) (v9 : Int32) (u6 : Int32) (x6 : Int32) (q6 : Nat) (z6 : Int32)  (ws : va_W), f_X9_canFit_73 K S k23 k45 n kc ks v1 v2 v3 v4 v5 r7 v8 v9 u6 x6 = some v → mW cc ga ad S ((q6, q_it u6 z6 x6 (ga 4)) :: E) ws → kc ≤ K → ks ≤ (4 * K) → q_WA p l e (q_rm (3) (90) K (4 * K)) s m args below meth c D N0 10 (MQ below (q_Q D N0 (fun rv w1 => rv = some (.int (q_b v)) ∧ mW cc ga ad S E w1)) args s K (4 * K) (q_A N0)) kc ks ws 73 [(0, .ref (ga 0)), (1, .int v1), (2, .int v2), (3, .int v3), (4, .int v4), (5, .int v5), (6, .ref q6), (7, .ref (ad 3 r7)), (8, .int v8), (9, .int v9)] [] := ih
    have hf : f_X9_canFit_73b K S k23 k45 (f_X9_canFit_73 K S k23 k45 n) kc ks v1 v2 v3 v4 v5 r7 v8 v9 u6 x6 = some v := hf
    refine q_iload (pc := 73) C dX9_canFit_73 9 rfl ?_
    refine q_aload (pc := 75) C dX9_canFit_75 7 rfl ?_
    refine q_iconst (pc := 77) C (0 : Int32) dX9_canFit_77 q_ci_0 ?_
    obtain ⟨g8, hf⟩ := q_gd hf
    refine m_rald_3 (pc := 78) C hW g8 ⟨by decide, by decide⟩ dX9_canFit_78 ?_
    refine q_nm (wz := ws) (ka := kc) (kb := ks) (sz := [.int (S.2.2.1 3 r7 0), .int v9]) rfl rfl rfl rfl ?_
    refine q_icmp_ge (pc := 79) (tgt := 109) C dX9_canFit_79 (by decide) (fun c9 => ?_) (fun c9 => ?_)
    · have hf := q_iteT hf c9
      refine q_iload (pc := 109) C dX9_canFit_109 4 rfl ?_
      refine q_aload (pc := 111) C dX9_canFit_111 7 rfl ?_
      refine q_iconst (pc := 113) C (2 : Int32) dX9_canFit_113 q_ci_2 ?_
      obtain ⟨g10, hf⟩ := q_gd hf
      refine m_rald_3 (pc := 114) C hW g10 ⟨by decide, by decide⟩ dX9_canFit_114 ?_
      refine q_nm (wz := ws) (ka := kc) (kb := ks) (sz := [.int (S.2.2.1 3 r7 2), .int v4]) rfl rfl rfl rfl ?_
      refine q_iconst (pc := 115) C (1 : Int32) dX9_canFit_115 q_ci_1 ?_
      refine q_icmp_ne (pc := 116) (tgt := 126) C dX9_canFit_116 (by decide) (fun c11 => ?_) (fun c11 => ?_)
      · have hf := q_iteF hf c11
        refine q_iconst (pc := 126) C (0 : Int32) dX9_canFit_126 q_ci_0 ?_
        refine q_sub (lvq := [(0, .ref (ga 0)), (1, .int v1), (2, .int v2), (3, .int v3), (5, .int v5), (6, .ref q6), (7, .ref (ad 3 r7)), (8, .int v8)]) [0, 1, 2, 3, 5, 6, 7, 8] rfl ?_
        exact w_X9_canFit_127 C hk23 hk45 (kc) (ks) v1 v2 v3 v5 r7 v8 (0 : Int32) v4 u6 x6 q6 z6 ws hf hW (by omega) (by omega)
      · have hf := q_iteT hf c11
        refine q_iconst (pc := 119) C (1 : Int32) dX9_canFit_119 q_ci_1 ?_
        refine q_iload (pc := 120) C dX9_canFit_120 8 rfl ?_
        refine q_ishl (pc := 122) C dX9_canFit_122 ?_
        refine q_goto (pc := 123) (tgt := 127) C dX9_canFit_123 (by decide) ?_
        refine q_sub (lvq := [(0, .ref (ga 0)), (1, .int v1), (2, .int v2), (3, .int v3), (5, .int v5), (6, .ref q6), (7, .ref (ad 3 r7)), (8, .int v8)]) [0, 1, 2, 3, 5, 6, 7, 8] rfl ?_
        exact w_X9_canFit_127 C hk23 hk45 (kc) (ks) v1 v2 v3 v5 r7 v8 ((1 : Int32) <<< (v8 &&& 31)) v4 u6 x6 q6 z6 ws hf hW (by omega) (by omega)
    · have hf := q_iteF hf c9
      refine q_iload_n (pc := 82) C dX9_canFit_82 rfl 3 rfl ?_
      refine q_iconst (pc := 83) C (2 : Int32) dX9_canFit_83 q_ci_2 ?_
      refine q_iload (pc := 84) C dX9_canFit_84 8 rfl ?_
      refine q_imul (pc := 86) C dX9_canFit_86 ?_
      refine q_aload (pc := 87) C dX9_canFit_87 7 rfl ?_
      refine q_iconst (pc := 89) C (1 : Int32) dX9_canFit_89 q_ci_1 ?_
      obtain ⟨g14, hf⟩ := q_gd hf
      refine m_rald_3 (pc := 90) C hW g14 ⟨by decide, by decide⟩ dX9_canFit_90 ?_
      refine q_nm (wz := ws) (ka := kc) (kb := ks) (sz := [.int (S.2.2.1 3 r7 1), .int ((2 : Int32) * v8), .int v3]) rfl rfl rfl rfl ?_
      refine q_iload (pc := 91) C dX9_canFit_91 9 rfl ?_
      refine q_ishr (pc := 93) C dX9_canFit_93 ?_
      refine q_iconst (pc := 94) C (1 : Int32) dX9_canFit_94 q_ci_1 ?_
      refine q_iand (pc := 95) C dX9_canFit_95 ?_
      refine q_iadd (pc := 96) C dX9_canFit_96 ?_
      refine q_iload_n (pc := 97) C dX9_canFit_97 rfl 1 rfl ?_
      obtain ⟨u15, e16, hf⟩ := q_bind hf
      refine q_callS (pc := 98) (As := [.int v3, .int (((2 : Int32) * v8) + (((S.2.2.1 3 r7 1) >>> (v9 &&& 31)) &&& (1 : Int32))), .int v1]) (rest := []) C (c_X9_digit l D cc N0 ws v3 (((2 : Int32) * v8) + (((S.2.2.1 3 r7 1) >>> (v9 &&& 31)) &&& (1 : Int32))) v1 u15 e16) gX9_canFit_X9_digit rfl z_X9_digit ⟨Nat.le_of_ble_eq_true rfl, Nat.le_of_ble_eq_true rfl⟩ rfl rfl (Nat.le_of_ble_eq_true rfl) dX9_canFit_98 ⟨(show (kc) ≤ K by omega), (show (ks) ≤ (4 * K) by omega)⟩ ?_
      refine q_after (rv := (some (.int u15))) (w0 := ws) (st2 := [.int u15]) rfl rfl rfl ?_
      refine q_istore (pc := 101) (lvq := [(8, .int u15), (0, .ref (ga 0)), (1, .int v1), (2, .int v2), (3, .int v3), (4, .int v4), (5, .int v5), (6, .ref q6), (7, .ref (ad 3 r7)), (9, .int v9)]) C dX9_canFit_101 (by decide) rfl ?_
      refine q_iinc (pc := 103) (lvq := [(9, .int (v9 + (1 : Int32))), (8, .int u15), (0, .ref (ga 0)), (1, .int v1), (2, .int v2), (3, .int v3), (4, .int v4), (5, .int v5), (6, .ref q6), (7, .ref (ad 3 r7))]) C (v9 + (1 : Int32)) dX9_canFit_103 9 rfl q_ca_1 (by decide) rfl ?_
      refine q_goto (pc := 106) (tgt := 73) C dX9_canFit_106 (by decide) ?_
      refine q_sub (lvq := [(0, .ref (ga 0)), (1, .int v1), (2, .int v2), (3, .int v3), (4, .int v4), (5, .int v5), (6, .ref q6), (7, .ref (ad 3 r7)), (8, .int u15), (9, .int (v9 + (1 : Int32)))]) [2, 3, 4, 5, 6, 7, 8, 9, 1, 0] rfl ?_
      exact hk73 (kc) (ks) v1 v2 v3 v4 v5 r7 u15 (v9 + (1 : Int32)) u6 x6 q6 z6 ws hf hW (by omega) (by omega)
set_option maxRecDepth 100000 in
set_option maxHeartbeats 8000000 in
theorem w_X9_canFit_45 {p : Program} {l : Launch} {e : Env} {s : State} {m : MethodId} {args : Array Value} {below : List Frame} {meth : Method} {c : Code} {D : va_G} {cc : Nat → ClassId} {N0 : Nat} {ga : Nat → Nat} {E : va_W} {ad : Nat → Nat → Nat} {S : MS} {K : Nat} {k23 : Nat → Nat → Int32 → Int32 → Int32 → Option Bool} {v : Bool} (C : q_C p s m args meth c cX9_canFit 10 (some .boolean) wsX9_canFit RX9 D cc N0) (hk23 : ∀ (kc : Nat) (ks : Nat) (v1 : Int32) (v2 : Int32) (v3 : Int32)  (ws : va_W), k23 kc ks v1 v2 v3 = some v → mW cc ga ad S E ws → kc ≤ K → ks ≤ (4 * K) → q_WA p l e (q_rm (3) (90) K (4 * K)) s m args below meth c D N0 10 (MQ below (q_Q D N0 (fun rv w1 => rv = some (.int (q_b v)) ∧ mW cc ga ad S E w1)) args s K (4 * K) (q_A N0)) kc ks ws 23 [(0, .ref (ga 0)), (1, .int v1), (2, .int v2), (3, .int v3)] []) : ∀ (n : Nat) (kc : Nat) (ks : Nat) (v1 : Int32) (v2 : Int32) (v3 : Int32) (v4 : Int32) (v5 : Int32) (u6 : Int32) (x6 : Int32) (q6 : Nat) (z6 : Int32)  (ws : va_W), f_X9_canFit_45 K S k23 n kc ks v1 v2 v3 v4 v5 u6 x6 = some v → mW cc ga ad S ((q6, q_it u6 z6 x6 (ga 4)) :: E) ws → kc ≤ K → ks ≤ (4 * K) → q_WA p l e (q_rm (3) (90) K (4 * K)) s m args below meth c D N0 10 (MQ below (q_Q D N0 (fun rv w1 => rv = some (.int (q_b v)) ∧ mW cc ga ad S E w1)) args s K (4 * K) (q_A N0)) kc ks ws 45 [(0, .ref (ga 0)), (1, .int v1), (2, .int v2), (3, .int v3), (4, .int v4), (5, .int v5), (6, .ref q6)] [] := by
  intro n
  induction n with
  | zero => intro kc ks v1 v2 v3 v4 v5 u6 x6 q6 z6 ws hf; cases hf
  | succ n ih =>
    intro kc ks v1 v2 v3 v4 v5 u6 x6 q6 z6 ws hf hW b1 b2
    have hk45 : ∀ (kc : Nat) (ks : Nat) (v1 : Int32) (v2 : Int32) (v3 : Int32) (v4 : Int32) (v5 : Int32) (u6 : Int32) (x6 : Int32) (q6 : Nat) (z6 : Int32)  (ws : va_W), f_X9_canFit_45 K S k23 n kc ks v1 v2 v3 v4 v5 u6 x6 = some v → mW cc ga ad S ((q6, q_it u6 z6 x6 (ga 4)) :: E) ws → kc ≤ K → ks ≤ (4 * K) → q_WA p l e (q_rm (3) (90) K (4 * K)) s m args below meth c D N0 10 (MQ below (q_Q D N0 (fun rv w1 => rv = some (.int (q_b v)) ∧ mW cc ga ad S E w1)) args s K (4 * K) (q_A N0)) kc ks ws 45 [(0, .ref (ga 0)), (1, .int v1), (2, .int v2), (3, .int v3), (4, .int v4), (5, .int v5), (6, .ref q6)] [] := ih
    have hf : f_X9_canFit_45b K S k23 (f_X9_canFit_45 K S k23 n) kc ks v1 v2 v3 v4 v5 u6 x6 = some v := hf
    refine q_aload (pc := 45) C dX9_canFit_45 6 rfl ?_
    refine m_has_3 (pc := 47) C hW gX9_canFit_Jx35411_hasNext_aae02_f76Jx35411 ⟨Nat.le_of_ble_eq_true rfl, Nat.le_of_ble_eq_true rfl⟩ (Nat.le_of_ble_eq_true rfl) dX9_canFit_47 ⟨(show (kc) ≤ K by omega), (show (ks) ≤ (4 * K) by omega)⟩ ?_
    refine q_if_eq (pc := 52) (tgt := 154) C dX9_canFit_52 (by decide) (fun c5 => ?_) (fun c5 => ?_)
    · have hf := q_iteT hf c5
      refine q_iload (pc := 154) C dX9_canFit_154 4 rfl ?_
      refine q_iload (pc := 156) C dX9_canFit_156 5 rfl ?_
      refine q_iand (pc := 158) C dX9_canFit_158 ?_
      refine q_if_ne (pc := 159) (tgt := 164) C dX9_canFit_159 (by decide) (fun c6 => ?_) (fun c6 => ?_)
      · have hf := q_iteF hf c6
        refine q_iinc (pc := 164) (lvq := [(3, .int (v3 + (1 : Int32))), (0, .ref (ga 0)), (1, .int v1), (2, .int v2), (4, .int v4), (5, .int v5), (6, .ref q6)]) C (v3 + (1 : Int32)) dX9_canFit_164 3 rfl q_ca_1 (by decide) rfl ?_
        refine q_goto (pc := 167) (tgt := 23) C dX9_canFit_167 (by decide) ?_
        refine t_drop hW (fun ws hW => ?_)
        refine q_sub (lvq := [(0, .ref (ga 0)), (1, .int v1), (2, .int v2), (3, .int (v3 + (1 : Int32)))]) [1, 2, 3, 0] rfl ?_
        exact hk23 (kc) (ks) v1 v2 (v3 + (1 : Int32)) ws hf hW (by omega) (by omega)
      · have hf := q_iteT hf c6
        refine q_iconst (pc := 162) C (1 : Int32) dX9_canFit_162 q_ci_1 ?_
        refine q_wid (show kc ≤ K by omega) (show ks ≤ (4 * K) by omega) ?_
        refine t_drop hW (fun ws hW => ?_)
        obtain rfl := q_some hf
        exact q_zret (pc := 163) C (by decide +kernel) dX9_canFit_163 ⟨rfl, hW⟩
    · have hf := q_iteF hf c5
      refine q_aload (pc := 55) C dX9_canFit_55 6 rfl ?_
      obtain ⟨g7, hf⟩ := q_gd hf
      refine m_next_3 (pc := 57) C hW g7 gX9_canFit_Jx35411_next_0502b_f82Jx35411 ⟨Nat.le_of_ble_eq_true rfl, Nat.le_of_ble_eq_true rfl⟩ (Nat.le_of_ble_eq_true rfl) dX9_canFit_57 ⟨(show (kc) ≤ K by omega), (show (ks) ≤ (4 * K) by omega)⟩ (fun ws hW => ?_)
      refine m_cast_3 (pc := 62) C hW g7.1.2 (List.mem_of_getElem? (i := 2) rfl) dX9_canFit_62 ?_
      refine q_astore (pc := 65) (lvq := [(7, .ref (ad 3 u6.toNatClampNeg)), (0, .ref (ga 0)), (1, .int v1), (2, .int v2), (3, .int v3), (4, .int v4), (5, .int v5), (6, .ref q6)]) C dX9_canFit_65 (by decide) rfl ?_
      refine q_iconst (pc := 67) C (0 : Int32) dX9_canFit_67 q_ci_0 ?_
      refine q_istore (pc := 68) (lvq := [(8, .int (0 : Int32)), (7, .ref (ad 3 u6.toNatClampNeg)), (0, .ref (ga 0)), (1, .int v1), (2, .int v2), (3, .int v3), (4, .int v4), (5, .int v5), (6, .ref q6)]) C dX9_canFit_68 (by decide) rfl ?_
      refine q_iconst (pc := 70) C (0 : Int32) dX9_canFit_70 q_ci_0 ?_
      refine q_istore (pc := 71) (lvq := [(9, .int (0 : Int32)), (8, .int (0 : Int32)), (7, .ref (ad 3 u6.toNatClampNeg)), (0, .ref (ga 0)), (1, .int v1), (2, .int v2), (3, .int v3), (4, .int v4), (5, .int v5), (6, .ref q6)]) C dX9_canFit_71 (by decide) rfl ?_
      refine q_sub (lvq := [(0, .ref (ga 0)), (1, .int v1), (2, .int v2), (3, .int v3), (4, .int v4), (5, .int v5), (6, .ref q6), (7, .ref (ad 3 u6.toNatClampNeg)), (8, .int (0 : Int32)), (9, .int (0 : Int32))]) [3, 4, 5, 6, 7, 8, 9, 2, 1, 0] rfl ?_
      exact w_X9_canFit_73 C hk23 hk45 1000 (kc) (ks) v1 v2 v3 v4 v5 u6.toNatClampNeg (0 : Int32) (0 : Int32) (u6 + (1 : Int32)) x6 q6 u6 ws hf hW (by omega) (by omega)
set_option maxRecDepth 100000 in
set_option maxHeartbeats 8000000 in
theorem w_X9_canFit_23 {p : Program} {l : Launch} {e : Env} {s : State} {m : MethodId} {args : Array Value} {below : List Frame} {meth : Method} {c : Code} {D : va_G} {cc : Nat → ClassId} {N0 : Nat} {ga : Nat → Nat} {E : va_W} {ad : Nat → Nat → Nat} {S : MS} {K : Nat} {v : Bool} (C : q_C p s m args meth c cX9_canFit 10 (some .boolean) wsX9_canFit RX9 D cc N0)  : ∀ (n : Nat) (kc : Nat) (ks : Nat) (v1 : Int32) (v2 : Int32) (v3 : Int32)  (ws : va_W), f_X9_canFit_23 K S n kc ks v1 v2 v3 = some v → mW cc ga ad S E ws → kc ≤ K → ks ≤ (4 * K) → q_WA p l e (q_rm (3) (90) K (4 * K)) s m args below meth c D N0 10 (MQ below (q_Q D N0 (fun rv w1 => rv = some (.int (q_b v)) ∧ mW cc ga ad S E w1)) args s K (4 * K) (q_A N0)) kc ks ws 23 [(0, .ref (ga 0)), (1, .int v1), (2, .int v2), (3, .int v3)] [] := by
  intro n
  induction n with
  | zero => intro kc ks v1 v2 v3 ws hf; cases hf
  | succ n ih =>
    intro kc ks v1 v2 v3 ws hf hW b1 b2
    have hk23 : ∀ (kc : Nat) (ks : Nat) (v1 : Int32) (v2 : Int32) (v3 : Int32)  (ws : va_W), f_X9_canFit_23 K S n kc ks v1 v2 v3 = some v → mW cc ga ad S E ws → kc ≤ K → ks ≤ (4 * K) → q_WA p l e (q_rm (3) (90) K (4 * K)) s m args below meth c D N0 10 (MQ below (q_Q D N0 (fun rv w1 => rv = some (.int (q_b v)) ∧ mW cc ga ad S E w1)) args s K (4 * K) (q_A N0)) kc ks ws 23 [(0, .ref (ga 0)), (1, .int v1), (2, .int v2), (3, .int v3)] [] := ih
    have hf : f_X9_canFit_23b K S (f_X9_canFit_23 K S n) kc ks v1 v2 v3 = some v := hf
    refine q_iload_n (pc := 23) C dX9_canFit_23 rfl 3 rfl ?_
    refine q_iload_n (pc := 24) C dX9_canFit_24 rfl 2 rfl ?_
    refine q_icmp_ge (pc := 25) (tgt := 170) C dX9_canFit_25 (by decide) (fun c2 => ?_) (fun c2 => ?_)
    · have hf := q_iteT hf c2
      refine q_iconst (pc := 170) C (0 : Int32) dX9_canFit_170 q_ci_0 ?_
      refine q_wid (show kc ≤ K by omega) (show ks ≤ (4 * K) by omega) ?_
      obtain rfl := q_some hf
      exact q_zret (pc := 171) C (by decide +kernel) dX9_canFit_171 ⟨rfl, hW⟩
    · have hf := q_iteF hf c2
      refine q_iconst (pc := 28) C (0 : Int32) dX9_canFit_28 q_ci_0 ?_
      refine q_istore (pc := 29) (lvq := [(4, .int (0 : Int32)), (0, .ref (ga 0)), (1, .int v1), (2, .int v2), (3, .int v3)]) C dX9_canFit_29 (by decide) rfl ?_
      refine q_iconst (pc := 31) C (0 : Int32) dX9_canFit_31 q_ci_0 ?_
      refine q_istore (pc := 32) (lvq := [(5, .int (0 : Int32)), (4, .int (0 : Int32)), (0, .ref (ga 0)), (1, .int v1), (2, .int v2), (3, .int v3)]) C dX9_canFit_32 (by decide) rfl ?_
      refine q_aload_n (pc := 34) C dX9_canFit_34 rfl 2 rfl ?_
      refine m_g_12 (pc := 35) C hW n_X9_canFit_X9 (List.mem_of_getElem? (i := 1) rfl) dX9_canFit_35 ?_
      obtain ⟨g4, hf⟩ := q_gd hf
      refine m_iter_3 (pc := 38) C hW gX9_canFit_Jx4a65c_iterator_32c93_f72Jx4a65c ⟨Nat.le_of_ble_eq_true rfl, Nat.le_of_ble_eq_true rfl⟩ (Nat.le_of_ble_eq_true rfl) dX9_canFit_38 ⟨(show (kc) + 1 ≤ K by omega), (show (ks) + 4 ≤ (4 * K) by omega)⟩ (fun it3 ws hW => ?_)
      refine q_nm (wz := ws) (ka := kc + 1) (kb := ks + 4) (sz := [.ref it3]) rfl rfl rfl rfl ?_
      refine q_astore (pc := 43) (lvq := [(6, .ref it3), (5, .int (0 : Int32)), (4, .int (0 : Int32)), (0, .ref (ga 0)), (1, .int v1), (2, .int v2), (3, .int v3)]) C dX9_canFit_43 (by decide) rfl ?_
      refine q_sub (lvq := [(0, .ref (ga 0)), (1, .int v1), (2, .int v2), (3, .int v3), (4, .int (0 : Int32)), (5, .int (0 : Int32)), (6, .ref it3)]) [3, 4, 5, 6, 2, 1, 0] rfl ?_
      exact w_X9_canFit_45 C hk23 1000 (kc + 1) (ks + 4) v1 v2 v3 (0 : Int32) (0 : Int32) (0 : Int32) (S.1 23) it3 (-1 : Int32) ws hf hW (by omega) (by omega)
set_option maxRecDepth 100000 in
set_option maxHeartbeats 8000000 in
theorem w_X9_canFit_4 {p : Program} {l : Launch} {e : Env} {s : State} {m : MethodId} {args : Array Value} {below : List Frame} {meth : Method} {c : Code} {D : va_G} {cc : Nat → ClassId} {N0 : Nat} {ga : Nat → Nat} {E : va_W} {ad : Nat → Nat → Nat} {S : MS} {K : Nat} {v : Bool} (C : q_C p s m args meth c cX9_canFit 10 (some .boolean) wsX9_canFit RX9 D cc N0)  : ∀ (n : Nat) (kc : Nat) (ks : Nat) (v1 : Int32) (v2 : Int32) (v3 : Int32)  (ws : va_W), f_X9_canFit_4 K S n kc ks v1 v2 v3 = some v → mW cc ga ad S E ws → kc ≤ K → ks ≤ (4 * K) → q_WA p l e (q_rm (3) (90) K (4 * K)) s m args below meth c D N0 10 (MQ below (q_Q D N0 (fun rv w1 => rv = some (.int (q_b v)) ∧ mW cc ga ad S E w1)) args s K (4 * K) (q_A N0)) kc ks ws 4 [(0, .ref (ga 0)), (1, .int v1), (2, .int v2), (3, .int v3)] [] := by
  intro n
  induction n with
  | zero => intro kc ks v1 v2 v3 ws hf; cases hf
  | succ n ih =>
    intro kc ks v1 v2 v3 ws hf hW b1 b2
    have hk4 : ∀ (kc : Nat) (ks : Nat) (v1 : Int32) (v2 : Int32) (v3 : Int32)  (ws : va_W), f_X9_canFit_4 K S n kc ks v1 v2 v3 = some v → mW cc ga ad S E ws → kc ≤ K → ks ≤ (4 * K) → q_WA p l e (q_rm (3) (90) K (4 * K)) s m args below meth c D N0 10 (MQ below (q_Q D N0 (fun rv w1 => rv = some (.int (q_b v)) ∧ mW cc ga ad S E w1)) args s K (4 * K) (q_A N0)) kc ks ws 4 [(0, .ref (ga 0)), (1, .int v1), (2, .int v2), (3, .int v3)] [] := ih
    have hf : f_X9_canFit_4b K S (f_X9_canFit_4 K S n) kc ks v1 v2 v3 = some v := hf
    refine q_iload_n (pc := 4) C dX9_canFit_4 rfl 3 rfl ?_
    refine q_iconst (pc := 5) C (2 : Int32) dX9_canFit_5 q_ci_2 ?_
    refine q_iload_n (pc := 6) C dX9_canFit_6 rfl 1 rfl ?_
    refine q_imul (pc := 7) C dX9_canFit_7 ?_
    refine q_icmp_ge (pc := 8) (tgt := 21) C dX9_canFit_8 (by decide) (fun c1 => ?_) (fun c1 => ?_)
    · have hf := q_iteT hf c1
      refine q_iconst (pc := 21) C (0 : Int32) dX9_canFit_21 q_ci_0 ?_
      refine q_istore_n (pc := 22) (lvq := [(3, .int (0 : Int32)), (0, .ref (ga 0)), (1, .int v1), (2, .int v2)]) C dX9_canFit_22 rfl (by decide) rfl ?_
      refine q_sub (lvq := [(0, .ref (ga 0)), (1, .int v1), (2, .int v2), (3, .int (0 : Int32))]) [1, 2, 3, 0] rfl ?_
      exact w_X9_canFit_23 C 1000 (kc) (ks) v1 v2 (0 : Int32) ws hf hW (by omega) (by omega)
    · have hf := q_iteF hf c1
      refine q_iload_n (pc := 11) C dX9_canFit_11 rfl 2 rfl ?_
      refine q_iload_n (pc := 12) C dX9_canFit_12 rfl 1 rfl ?_
      refine q_imul (pc := 13) C dX9_canFit_13 ?_
      refine q_istore_n (pc := 14) (lvq := [(2, .int (v2 * v1)), (0, .ref (ga 0)), (1, .int v1), (3, .int v3)]) C dX9_canFit_14 rfl (by decide) rfl ?_
      refine q_iinc (pc := 15) (lvq := [(3, .int (v3 + (1 : Int32))), (2, .int (v2 * v1)), (0, .ref (ga 0)), (1, .int v1)]) C (v3 + (1 : Int32)) dX9_canFit_15 3 rfl q_ca_1 (by decide) rfl ?_
      refine q_goto (pc := 18) (tgt := 4) C dX9_canFit_18 (by decide) ?_
      refine q_sub (lvq := [(0, .ref (ga 0)), (1, .int v1), (2, .int (v2 * v1)), (3, .int (v3 + (1 : Int32)))]) [2, 3, 1, 0] rfl ?_
      exact hk4 (kc) (ks) v1 (v2 * v1) (v3 + (1 : Int32)) ws hf hW (by omega) (by omega)
set_option maxRecDepth 100000 in
set_option maxHeartbeats 8000000 in
theorem c_X9_canFit (l : Launch) (D : va_G) (cc : Nat → ClassId) (N0 : Nat) (ga : Nat → Nat) (ad : Nat → Nat → Nat) (K : Nat) (E : va_W) (S : MS) (a1 : Int32) (v : Bool) (hf : f_X9_canFit K S a1 = some v) (ws : va_W) (hW : mW cc ga ad S E ws) : q_Met l yX9_canFit wsX9_canFit 3 90 D cc N0 ws [.ref (ga 0), .int a1] (fun rv w1 => rv = some (.int (q_b v)) ∧ mW cc ga ad S E w1) K (4 * K) := by
  refine q_ofW (code := cX9_canFit) (nL := 10) (ret := (some .boolean)) (by decide +kernel) rfl (Nat.le_of_ble_eq_true rfl) (fun p e s m below meth c C _ => ?_)
  refine q_lv (lv2 := [(0, .ref (ga 0)), (1, .int a1)]) rfl ?_
  obtain ⟨kc, hkc⟩ : ∃ z, z = 0 := ⟨_, rfl⟩
  obtain ⟨ks, hks⟩ : ∃ z, z = 0 := ⟨_, rfl⟩
  refine q_nm (wz := ws) (ka := kc) (kb := ks) (sz := []) rfl hkc.symm hks.symm rfl ?_
  have hf : f_X9_canFit_0 K S kc ks a1 = some v := by rw [hkc, hks]; exact hf
  refine q_iconst (pc := 0) C (1 : Int32) dX9_canFit_0 q_ci_1 ?_
  refine q_istore_n (pc := 1) (lvq := [(2, .int (1 : Int32)), (0, .ref (ga 0)), (1, .int a1)]) C dX9_canFit_1 rfl (by decide) rfl ?_
  refine q_iconst (pc := 2) C (0 : Int32) dX9_canFit_2 q_ci_0 ?_
  refine q_istore_n (pc := 3) (lvq := [(3, .int (0 : Int32)), (2, .int (1 : Int32)), (0, .ref (ga 0)), (1, .int a1)]) C dX9_canFit_3 rfl (by decide) rfl ?_
  refine q_sub (lvq := [(0, .ref (ga 0)), (1, .int a1), (2, .int (1 : Int32)), (3, .int (0 : Int32))]) [2, 3, 1, 0] rfl ?_
  exact w_X9_canFit_4 C 1000 (kc) (ks) a1 (1 : Int32) (0 : Int32) ws hf hW (by omega) (by omega)
theorem z_X9_fewest : q_dsc yX9_fewest 0 := ⟨by decide +kernel, by decide +kernel, by decide +kernel⟩
def f_X9_fewest_32 (kc : Nat) (ks : Nat) (v1 : Int32) (vt0 : Int32) (S : MS) : Option (Int32 × MS) := ((f_X9_isWrong vt0 S).bind fun u3 => (if (q_b u3.1) = 0 then some (v1, u3.2) else some ((0 : Int32), u3.2)))
def f_X9_fewest_21 (kc : Nat) (ks : Nat) (v1 : Int32) (S : MS) : Option (Int32 × MS) := (if v1 = (4 : Int32) then f_X9_fewest_32 (kc) (ks) v1 (1 : Int32) S else f_X9_fewest_32 (kc) (ks) v1 (0 : Int32) S)
def f_X9_fewest_2b (k2 : Nat → Nat → Int32 → MS → Option (Int32 × MS)) (kc : Nat) (ks : Nat) (v1 : Int32) (S : MS) : Option (Int32 × MS) := (if (4 : Int32) ≤ v1 then f_X9_fewest_21 (kc) (ks) v1 S else ((f_X9_canFit (kfit v1) S v1).bind fun u6 => (if kc + kfit v1 ≤ 746 ∧ ks + 4 * kfit v1 ≤ 2984 then (if (q_b u6) = 0 then k2 (kc + (kfit v1)) (ks + (4 * kfit v1)) (v1 + (1 : Int32)) S else f_X9_fewest_21 (kc + (kfit v1)) (ks + (4 * kfit v1)) v1 S) else none)))
def f_X9_fewest_2 : Nat → Nat → Nat → Int32 → MS → Option (Int32 × MS)
  | 0, _, _, _, _ => none
  | n + 1, kc, ks, v1, S => f_X9_fewest_2b  (f_X9_fewest_2  n) kc ks v1 S
def f_X9_fewest_0 (kc ks : Nat) (S : MS) : Option (Int32 × MS) := f_X9_fewest_2 1000 (kc) (ks) (1 : Int32) S
def f_X9_fewest (S : MS) : Option (Int32 × MS) := f_X9_fewest_0 0 0 S
set_option maxRecDepth 100000 in
set_option maxHeartbeats 8000000 in
theorem w_X9_fewest_32 {p : Program} {l : Launch} {e : Env} {s : State} {m : MethodId} {args : Array Value} {below : List Frame} {meth : Method} {c : Code} {D : va_G} {cc : Nat → ClassId} {N0 : Nat} {ga : Nat → Nat} {E : va_W} {ad : Nat → Nat → Nat} {v : (Int32 × MS)} (C : q_C p s m args meth c cX9_fewest 2 (some .int) wsX9_fewest RX9 D cc N0)  (kc : Nat) (ks : Nat) (v1 : Int32) (vt0 : Int32) (S : MS)  (ws : va_W) : f_X9_fewest_32  kc ks v1 vt0 S = some v → mW cc ga ad S E ws → kc ≤ 746 → ks ≤ 2984 → q_WA p l e (q_rm (4) (119) 746 2984) s m args below meth c D N0 2 (MQ below (q_Q D N0 (fun rv w1 => rv = some (.int v.1) ∧ mW cc ga ad v.2 E w1)) args s 746 2984 (q_A N0)) kc ks ws 32 [(1, .int v1)] [.int vt0, .ref (ga 0)] := by
  intro hf hW b1 b2
  obtain ⟨u3, e4, hf⟩ := q_bind hf
  obtain ⟨_, he⟩ := hW.obj
  refine q_callV (pc := 32) (As := [.int vt0]) (rest := []) C (c_X9_isWrong l D cc N0 ga ad  E S vt0 u3 e4 ws hW) gX9_fewest_X9_isWrong rfl rfl z_X9_isWrong ⟨Nat.le_of_ble_eq_true rfl, Nat.le_of_ble_eq_true rfl⟩ he rfl rfl rfl (Nat.le_of_ble_eq_true rfl) dX9_fewest_32 ⟨(show (kc) + 0 ≤ 746 by omega), (show (ks) + 0 ≤ 2984 by omega)⟩ ?_
  rintro _ ws ⟨rfl, hW⟩
  refine q_nm (wz := ws) (ka := kc) (kb := ks) (sz := [.int (q_b u3.1)]) rfl rfl rfl rfl ?_
  refine q_if_eq (pc := 35) (tgt := 42) C dX9_fewest_35 (by decide) (fun c5 => ?_) (fun c5 => ?_)
  · have hf := q_iteT hf c5
    refine q_iload_n (pc := 42) C dX9_fewest_42 rfl 0 rfl ?_
    refine q_wid (show kc ≤ 746 by omega) (show ks ≤ 2984 by omega) ?_
    obtain rfl := q_some hf
    exact q_iret (pc := 43) C dX9_fewest_43 ⟨rfl, hW⟩
  · have hf := q_iteF hf c5
    refine q_iconst (pc := 38) C (0 : Int32) dX9_fewest_38 q_ci_0 ?_
    refine q_goto (pc := 39) (tgt := 43) C dX9_fewest_39 (by decide) ?_
    refine q_wid (show kc ≤ 746 by omega) (show ks ≤ 2984 by omega) ?_
    obtain rfl := q_some hf
    exact q_iret (pc := 43) C dX9_fewest_43 ⟨rfl, hW⟩
set_option maxRecDepth 100000 in
set_option maxHeartbeats 8000000 in
theorem w_X9_fewest_21 {p : Program} {l : Launch} {e : Env} {s : State} {m : MethodId} {args : Array Value} {below : List Frame} {meth : Method} {c : Code} {D : va_G} {cc : Nat → ClassId} {N0 : Nat} {ga : Nat → Nat} {E : va_W} {ad : Nat → Nat → Nat} {v : (Int32 × MS)} (C : q_C p s m args meth c cX9_fewest 2 (some .int) wsX9_fewest RX9 D cc N0)  (kc : Nat) (ks : Nat) (v1 : Int32) (S : MS)  (ws : va_W) : f_X9_fewest_21  kc ks v1 S = some v → mW cc ga ad S E ws → kc ≤ 746 → ks ≤ 2984 → q_WA p l e (q_rm (4) (119) 746 2984) s m args below meth c D N0 2 (MQ below (q_Q D N0 (fun rv w1 => rv = some (.int v.1) ∧ mW cc ga ad v.2 E w1)) args s 746 2984 (q_A N0)) kc ks ws 21 [(0, .ref (ga 0)), (1, .int v1)] [] := by
  intro hf hW b1 b2
  refine q_aload_n (pc := 21) C dX9_fewest_21 rfl 0 rfl ?_
  refine q_iload_n (pc := 22) C dX9_fewest_22 rfl 1 rfl ?_
  refine q_iconst (pc := 23) C (4 : Int32) dX9_fewest_23 q_ci_4 ?_
  refine q_icmp_ne (pc := 24) (tgt := 31) C dX9_fewest_24 (by decide) (fun c2 => ?_) (fun c2 => ?_)
  · have hf := q_iteF hf c2
    refine q_iconst (pc := 31) C (0 : Int32) dX9_fewest_31 q_ci_0 ?_
    refine q_sub (lvq := [(1, .int v1)]) [1] rfl ?_
    exact w_X9_fewest_32 C (kc) (ks) v1 (0 : Int32) S ws hf hW (by omega) (by omega)
  · have hf := q_iteT hf c2
    refine q_iconst (pc := 27) C (1 : Int32) dX9_fewest_27 q_ci_1 ?_
    refine q_goto (pc := 28) (tgt := 32) C dX9_fewest_28 (by decide) ?_
    refine q_sub (lvq := [(1, .int v1)]) [1] rfl ?_
    exact w_X9_fewest_32 C (kc) (ks) v1 (1 : Int32) S ws hf hW (by omega) (by omega)
set_option maxRecDepth 100000 in
set_option maxHeartbeats 8000000 in
theorem w_X9_fewest_2 {p : Program} {l : Launch} {e : Env} {s : State} {m : MethodId} {args : Array Value} {below : List Frame} {meth : Method} {c : Code} {D : va_G} {cc : Nat → ClassId} {N0 : Nat} {ga : Nat → Nat} {E : va_W} {ad : Nat → Nat → Nat} {v : (Int32 × MS)} (C : q_C p s m args meth c cX9_fewest 2 (some .int) wsX9_fewest RX9 D cc N0)  : ∀ (n : Nat) (kc : Nat) (ks : Nat) (v1 : Int32) (S : MS)  (ws : va_W), f_X9_fewest_2  n kc ks v1 S = some v → mW cc ga ad S E ws → kc ≤ 746 → ks ≤ 2984 → q_WA p l e (q_rm (4) (119) 746 2984) s m args below meth c D N0 2 (MQ below (q_Q D N0 (fun rv w1 => rv = some (.int v.1) ∧ mW cc ga ad v.2 E w1)) args s 746 2984 (q_A N0)) kc ks ws 2 [(0, .ref (ga 0)), (1, .int v1)] [] := by
  intro n
  induction n with
  | zero => intro kc ks v1 S ws hf; cases hf
  | succ n ih =>
    intro kc ks v1 S ws hf hW b1 b2
    have hk2 : ∀ (kc : Nat) (ks : Nat) (v1 : Int32) (S : MS)  (ws : va_W), f_X9_fewest_2  n kc ks v1 S = some v → mW cc ga ad S E ws → kc ≤ 746 → ks ≤ 2984 → q_WA p l e (q_rm (4) (119) 746 2984) s m args below meth c D N0 2 (MQ below (q_Q D N0 (fun rv w1 => rv = some (.int v.1) ∧ mW cc ga ad v.2 E w1)) args s 746 2984 (q_A N0)) kc ks ws 2 [(0, .ref (ga 0)), (1, .int v1)] [] := ih
    have hf : f_X9_fewest_2b  (f_X9_fewest_2  n) kc ks v1 S = some v := hf
    refine q_iload_n (pc := 2) C dX9_fewest_2 rfl 1 rfl ?_
    refine q_iconst (pc := 3) C (4 : Int32) dX9_fewest_3 q_ci_4 ?_
    refine q_icmp_ge (pc := 4) (tgt := 21) C dX9_fewest_4 (by decide) (fun c1 => ?_) (fun c1 => ?_)
    · have hf := q_iteT hf c1
      refine q_sub (lvq := [(0, .ref (ga 0)), (1, .int v1)]) [0, 1] rfl ?_
      exact w_X9_fewest_21 C (kc) (ks) v1 S ws hf hW (by omega) (by omega)
    · have hf := q_iteF hf c1
      refine q_aload_n (pc := 7) C dX9_fewest_7 rfl 0 rfl ?_
      refine q_iload_n (pc := 8) C dX9_fewest_8 rfl 1 rfl ?_
      obtain ⟨u6, e7, hf⟩ := q_bind hf
      obtain ⟨g8, hf⟩ := q_gd hf
      obtain ⟨_, he⟩ := hW.obj
      refine q_callV (pc := 9) (As := [.int v1]) (rest := []) C (c_X9_canFit l D cc N0 ga ad (kfit v1) E S v1 u6 e7 ws hW) gX9_fewest_X9_canFit rfl rfl z_X9_canFit ⟨Nat.le_of_ble_eq_true rfl, Nat.le_of_ble_eq_true rfl⟩ he rfl rfl rfl (Nat.le_of_ble_eq_true rfl) dX9_fewest_9 g8 ?_
      rintro _ ws ⟨rfl, hW⟩
      refine q_nm (wz := ws) (ka := kc + (kfit v1)) (kb := ks + (4 * kfit v1)) (sz := [.int (q_b u6)]) rfl rfl rfl rfl ?_
      refine q_if_ne (pc := 12) (tgt := 21) C dX9_fewest_12 (by decide) (fun c9 => ?_) (fun c9 => ?_)
      · have hf := q_iteF hf c9
        refine q_sub (lvq := [(0, .ref (ga 0)), (1, .int v1)]) [0, 1] rfl ?_
        exact w_X9_fewest_21 C (kc + (kfit v1)) (ks + (4 * kfit v1)) v1 S ws hf hW (by omega) (by omega)
      · have hf := q_iteT hf c9
        refine q_iinc (pc := 15) (lvq := [(1, .int (v1 + (1 : Int32))), (0, .ref (ga 0))]) C (v1 + (1 : Int32)) dX9_fewest_15 1 rfl q_ca_1 (by decide) rfl ?_
        refine q_goto (pc := 18) (tgt := 2) C dX9_fewest_18 (by decide) ?_
        refine q_sub (lvq := [(0, .ref (ga 0)), (1, .int (v1 + (1 : Int32)))]) [1, 0] rfl ?_
        exact hk2 (kc + (kfit v1)) (ks + (4 * kfit v1)) (v1 + (1 : Int32)) S ws hf hW (by omega) (by omega)
set_option maxRecDepth 100000 in
set_option maxHeartbeats 8000000 in
theorem c_X9_fewest (l : Launch) (D : va_G) (cc : Nat → ClassId) (N0 : Nat) (ga : Nat → Nat) (ad : Nat → Nat → Nat) (E : va_W) (S : MS) (v : (Int32 × MS)) (hf : f_X9_fewest S = some v) (ws : va_W) (hW : mW cc ga ad S E ws) : q_Met l yX9_fewest wsX9_fewest 4 119 D cc N0 ws [.ref (ga 0)] (fun rv w1 => rv = some (.int v.1) ∧ mW cc ga ad v.2 E w1) 746 2984 := by
  refine q_ofW (code := cX9_fewest) (nL := 2) (ret := (some .int)) (by decide +kernel) rfl (Nat.le_of_ble_eq_true rfl) (fun p e s m below meth c C _ => ?_)
  refine q_lv (lv2 := [(0, .ref (ga 0))]) rfl ?_
  obtain ⟨kc, hkc⟩ : ∃ z, z = 0 := ⟨_, rfl⟩
  obtain ⟨ks, hks⟩ : ∃ z, z = 0 := ⟨_, rfl⟩
  refine q_nm (wz := ws) (ka := kc) (kb := ks) (sz := []) rfl hkc.symm hks.symm rfl ?_
  have hf : f_X9_fewest_0 kc ks S = some v := by rw [hkc, hks]; exact hf
  refine q_iconst (pc := 0) C (1 : Int32) dX9_fewest_0 q_ci_1 ?_
  refine q_istore_n (pc := 1) (lvq := [(1, .int (1 : Int32)), (0, .ref (ga 0))]) C dX9_fewest_1 rfl (by decide) rfl ?_
  refine q_sub (lvq := [(0, .ref (ga 0)), (1, .int (1 : Int32))]) [1, 0] rfl ?_
  exact w_X9_fewest_2 C 1000 (kc) (ks) (1 : Int32) S ws hf hW (by omega) (by omega)
