theorem z_X9_counter : q_dsc yX9_counter 1 := ⟨by decide +kernel, by decide +kernel, by decide +kernel⟩
theorem n_X9_counter_X9 : ∀ w ∈ wsX90, w ∈ wsX9_counter := fun _ h => (List.mem_cons_of_mem _ (List.mem_append_left _ (List.mem_append_left _ (List.mem_append_right _ h))))
def f_X9_counter_59 (S : MS) (k7 : Int32 → Int32 → Int32 → Int32 → Option Int32) (v1 : Int32) (v3 : Int32) (v4 : Int32) (v5 : Int32) (vt0 : Int32) : Option Int32 := k7 v1 vt0 (q_max v3 v5) (v4 + (1 : Int32))
def f_X9_counter_45 (S : MS) (k7 : Int32 → Int32 → Int32 → Int32 → Option Int32) (v1 : Int32) (v2 : Int32) (v3 : Int32) (v4 : Int32) (vt0 : Int32) : Option Int32 := (if vt0 ≤ v3 then f_X9_counter_59 S k7 v1 v3 v4 vt0 v2 else f_X9_counter_59 S k7 v1 v3 v4 vt0 v4)
def f_X9_counter_7b (S : MS) (k7 : Int32 → Int32 → Int32 → Int32 → Option Int32) (v1 : Int32) (v2 : Int32) (v3 : Int32) (v4 : Int32) : Option Int32 := (if (S.1 2) ≤ v4 then some v2 else (if (q_b (f_X9_hasPoint v1 v4)) = 0 then ((f_X9_livingWith S v4).bind fun u3 => f_X9_counter_45 S k7 v1 v2 v3 v4 u3) else ((f_X9_living S).bind fun u6 => ((f_X9_livingWith S v4).bind fun u8 => f_X9_counter_45 S k7 v1 v2 v3 v4 (u6 - u8)))))
def f_X9_counter_7 (S : MS) : Nat → Int32 → Int32 → Int32 → Int32 → Option Int32
  | 0, _, _, _, _ => none
  | n + 1, v1, v2, v3, v4 => f_X9_counter_7b S (f_X9_counter_7 S n) v1 v2 v3 v4
def f_X9_counter (S : MS) (a1 : Int32) : Option Int32 := f_X9_counter_7 S 10 a1 (-1 : Int32) (0 : Int32) (0 : Int32)
set_option maxRecDepth 100000 in
set_option maxHeartbeats 8000000 in
theorem w_X9_counter_59 {p : Program} {l : Launch} {e : Env} {s : State} {m : MethodId} {args : Array Value} {below : List Frame} {meth : Method} {c : Code} {D : va_G} {cc : Nat → ClassId} {N0 : Nat} {ga : Nat → Nat} {E : va_W} {ad : Nat → Nat → Nat} {S : MS} {k7 : Int32 → Int32 → Int32 → Int32 → Option Int32} {n7 : Nat} {v : Int32} (C : q_C p s m args meth c cX9_counter 6 (some .int) wsX9_counter RX9 D cc N0) (hk7 : ∀ (kc : Nat) (ks : Nat) (v1 : Int32) (v2 : Int32) (v3 : Int32) (v4 : Int32)  (ws : va_W), k7 v1 v2 v3 v4 = some v → mW cc ga ad S E ws → kc + 0 + n7 * 2 ≤ 24 → ks + 0 + n7 * 8 ≤ 96 → q_WA p l e (q_rm (4) (114) 24 96) s m args below meth c D N0 6 (MQ below (q_Q D N0 (fun rv w1 => rv = some (.int v) ∧ mW cc ga ad S E w1)) args s 24 96 (q_A N0)) kc ks ws 7 [(0, .ref (ga 0)), (1, .int v1), (2, .int v2), (3, .int v3), (4, .int v4)] []) (kc : Nat) (ks : Nat) (v1 : Int32) (v3 : Int32) (v4 : Int32) (v5 : Int32) (vt0 : Int32)  (ws : va_W) : f_X9_counter_59 S k7 v1 v3 v4 v5 vt0 = some v → mW cc ga ad S E ws → kc + 0 + n7 * 2 ≤ 24 → ks + 0 + n7 * 8 ≤ 96 → q_WA p l e (q_rm (4) (114) 24 96) s m args below meth c D N0 6 (MQ below (q_Q D N0 (fun rv w1 => rv = some (.int v) ∧ mW cc ga ad S E w1)) args s 24 96 (q_A N0)) kc ks ws 59 [(0, .ref (ga 0)), (1, .int v1), (3, .int v3), (4, .int v4), (5, .int v5)] [.int vt0] := by
  intro hf hW b1 b2
  refine q_istore_n (pc := 59) (lvq := [(2, .int vt0), (0, .ref (ga 0)), (1, .int v1), (3, .int v3), (4, .int v4), (5, .int v5)]) C dX9_counter_59 rfl (by decide) rfl ?_
  refine q_iload_n (pc := 60) C dX9_counter_60 rfl 3 rfl ?_
  refine q_iload (pc := 61) C dX9_counter_61 5 rfl ?_
  refine q_mmax (pc := 63) C (List.mem_of_getElem? (i := 2) rfl) (List.mem_of_getElem? (i := 3) rfl) (List.mem_of_getElem? (i := 4) rfl) (List.mem_of_getElem? (i := 5) rfl) (Nat.le_of_ble_eq_true rfl) (Nat.le_of_ble_eq_true rfl) ⟨(show (kc) ≤ 24 by omega), (show (ks) ≤ 96 by omega)⟩ dX9_counter_63 ?_
  refine q_istore_n (pc := 66) (lvq := [(3, .int (q_max v3 v5)), (2, .int vt0), (0, .ref (ga 0)), (1, .int v1), (4, .int v4), (5, .int v5)]) C dX9_counter_66 rfl (by decide) rfl ?_
  refine q_iinc (pc := 67) (lvq := [(4, .int (v4 + (1 : Int32))), (3, .int (q_max v3 v5)), (2, .int vt0), (0, .ref (ga 0)), (1, .int v1), (5, .int v5)]) C (v4 + (1 : Int32)) dX9_counter_67 4 rfl q_ca_1 (by decide) rfl ?_
  refine q_goto (pc := 70) (tgt := 7) C dX9_counter_70 (by decide) ?_
  refine q_sub (lvq := [(0, .ref (ga 0)), (1, .int v1), (2, .int vt0), (3, .int (q_max v3 v5)), (4, .int (v4 + (1 : Int32)))]) [3, 4, 2, 1, 0] rfl ?_
  exact hk7 (kc) (ks) v1 vt0 (q_max v3 v5) (v4 + (1 : Int32)) ws hf hW (by omega) (by omega)
set_option maxRecDepth 100000 in
set_option maxHeartbeats 8000000 in
theorem w_X9_counter_45 {p : Program} {l : Launch} {e : Env} {s : State} {m : MethodId} {args : Array Value} {below : List Frame} {meth : Method} {c : Code} {D : va_G} {cc : Nat → ClassId} {N0 : Nat} {ga : Nat → Nat} {E : va_W} {ad : Nat → Nat → Nat} {S : MS} {k7 : Int32 → Int32 → Int32 → Int32 → Option Int32} {n7 : Nat} {v : Int32} (C : q_C p s m args meth c cX9_counter 6 (some .int) wsX9_counter RX9 D cc N0) (hk7 : ∀ (kc : Nat) (ks : Nat) (v1 : Int32) (v2 : Int32) (v3 : Int32) (v4 : Int32)  (ws : va_W), k7 v1 v2 v3 v4 = some v → mW cc ga ad S E ws → kc + 0 + n7 * 2 ≤ 24 → ks + 0 + n7 * 8 ≤ 96 → q_WA p l e (q_rm (4) (114) 24 96) s m args below meth c D N0 6 (MQ below (q_Q D N0 (fun rv w1 => rv = some (.int v) ∧ mW cc ga ad S E w1)) args s 24 96 (q_A N0)) kc ks ws 7 [(0, .ref (ga 0)), (1, .int v1), (2, .int v2), (3, .int v3), (4, .int v4)] []) (kc : Nat) (ks : Nat) (v1 : Int32) (v2 : Int32) (v3 : Int32) (v4 : Int32) (vt0 : Int32)  (ws : va_W) : f_X9_counter_45 S k7 v1 v2 v3 v4 vt0 = some v → mW cc ga ad S E ws → kc + 0 + n7 * 2 ≤ 24 → ks + 0 + n7 * 8 ≤ 96 → q_WA p l e (q_rm (4) (114) 24 96) s m args below meth c D N0 6 (MQ below (q_Q D N0 (fun rv w1 => rv = some (.int v) ∧ mW cc ga ad S E w1)) args s 24 96 (q_A N0)) kc ks ws 45 [(0, .ref (ga 0)), (1, .int v1), (2, .int v2), (3, .int v3), (4, .int v4)] [.int vt0] := by
  intro hf hW b1 b2
  refine q_istore (pc := 45) (lvq := [(5, .int vt0), (0, .ref (ga 0)), (1, .int v1), (2, .int v2), (3, .int v3), (4, .int v4)]) C dX9_counter_45 (by decide) rfl ?_
  refine q_iload (pc := 47) C dX9_counter_47 0 rfl ?_
  refine q_iload_n (pc := 49) C dX9_counter_49 rfl 4 rfl ?_
  refine q_icmp_le (pc := 50) (tgt := 58) C dX9_counter_50 (by decide) (fun c5 => ?_) (fun c5 => ?_)
  · have hf := q_iteT hf c5
    refine q_iload_n (pc := 58) C dX9_counter_58 rfl 3 rfl ?_
    refine q_sub (lvq := [(0, .ref (ga 0)), (1, .int v1), (3, .int v3), (4, .int v4), (5, .int vt0)]) [1, 2, 4, 5, 0] rfl ?_
    exact w_X9_counter_59 C hk7 (kc) (ks) v1 v3 v4 vt0 v2 ws hf hW (by omega) (by omega)
  · have hf := q_iteF hf c5
    refine q_iload (pc := 53) C dX9_counter_53 5 rfl ?_
    refine q_goto (pc := 55) (tgt := 59) C dX9_counter_55 (by decide) ?_
    refine q_sub (lvq := [(0, .ref (ga 0)), (1, .int v1), (3, .int v3), (4, .int v4), (5, .int vt0)]) [1, 2, 4, 5, 0] rfl ?_
    exact w_X9_counter_59 C hk7 (kc) (ks) v1 v3 v4 vt0 v4 ws hf hW (by omega) (by omega)
set_option maxRecDepth 100000 in
set_option maxHeartbeats 8000000 in
theorem w_X9_counter_7 {p : Program} {l : Launch} {e : Env} {s : State} {m : MethodId} {args : Array Value} {below : List Frame} {meth : Method} {c : Code} {D : va_G} {cc : Nat → ClassId} {N0 : Nat} {ga : Nat → Nat} {E : va_W} {ad : Nat → Nat → Nat} {S : MS} {v : Int32} (C : q_C p s m args meth c cX9_counter 6 (some .int) wsX9_counter RX9 D cc N0)  : ∀ (n : Nat) (kc : Nat) (ks : Nat) (v1 : Int32) (v2 : Int32) (v3 : Int32) (v4 : Int32)  (ws : va_W), f_X9_counter_7 S n v1 v2 v3 v4 = some v → mW cc ga ad S E ws → kc + 0 + n * 2 ≤ 24 → ks + 0 + n * 8 ≤ 96 → q_WA p l e (q_rm (4) (114) 24 96) s m args below meth c D N0 6 (MQ below (q_Q D N0 (fun rv w1 => rv = some (.int v) ∧ mW cc ga ad S E w1)) args s 24 96 (q_A N0)) kc ks ws 7 [(0, .ref (ga 0)), (1, .int v1), (2, .int v2), (3, .int v3), (4, .int v4)] [] := by
  intro n
  induction n with
  | zero => intro kc ks v1 v2 v3 v4 ws hf; cases hf
  | succ n ih =>
    intro kc ks v1 v2 v3 v4 ws hf hW b1 b2
    have hk7 : ∀ (kc : Nat) (ks : Nat) (v1 : Int32) (v2 : Int32) (v3 : Int32) (v4 : Int32)  (ws : va_W), f_X9_counter_7 S n v1 v2 v3 v4 = some v → mW cc ga ad S E ws → kc + 0 + n * 2 ≤ 24 → ks + 0 + n * 8 ≤ 96 → q_WA p l e (q_rm (4) (114) 24 96) s m args below meth c D N0 6 (MQ below (q_Q D N0 (fun rv w1 => rv = some (.int v) ∧ mW cc ga ad S E w1)) args s 24 96 (q_A N0)) kc ks ws 7 [(0, .ref (ga 0)), (1, .int v1), (2, .int v2), (3, .int v3), (4, .int v4)] [] := ih
    have hf : f_X9_counter_7b S (f_X9_counter_7 S n) v1 v2 v3 v4 = some v := hf
    simp only [Nat.succ_mul, Nat.add_mul] at b1 b2
    refine q_iload (pc := 7) C dX9_counter_7 4 rfl ?_
    refine q_aload_n (pc := 9) C dX9_counter_9 rfl 0 rfl ?_
    refine m_g_2 (pc := 10) C hW n_X9_counter_X9 (List.mem_of_getElem? (i := 1) rfl) dX9_counter_10 ?_
    refine q_icmp_ge (pc := 13) (tgt := 73) C dX9_counter_13 (by decide) (fun c1 => ?_) (fun c1 => ?_)
    · have hf := q_iteT hf c1
      refine q_iload_n (pc := 73) C dX9_counter_73 rfl 2 rfl ?_
      refine q_wid (show kc ≤ 24 by omega) (show ks ≤ 96 by omega) ?_
      obtain rfl := q_some hf
      exact q_iret (pc := 74) C dX9_counter_74 ⟨rfl, hW⟩
    · have hf := q_iteF hf c1
      refine q_iload_n (pc := 16) C dX9_counter_16 rfl 1 rfl ?_
      refine q_iload (pc := 17) C dX9_counter_17 4 rfl ?_
      refine q_callS (pc := 19) (As := [.int v1, .int v4]) (rest := []) C (c_X9_hasPoint l D cc N0 ws v1 v4 _ rfl) gX9_counter_X9_hasPoint rfl z_X9_hasPoint ⟨Nat.le_of_ble_eq_true rfl, Nat.le_of_ble_eq_true rfl⟩ rfl rfl (Nat.le_of_ble_eq_true rfl) dX9_counter_19 ⟨(show (kc) ≤ 24 by omega), (show (ks) ≤ 96 by omega)⟩ ?_
      refine q_after (rv := (some (.int (q_b (f_X9_hasPoint v1 v4))))) (w0 := ws) (st2 := [.int (q_b (f_X9_hasPoint v1 v4))]) rfl rfl rfl ?_
      refine q_if_eq (pc := 22) (tgt := 39) C dX9_counter_22 (by decide) (fun c2 => ?_) (fun c2 => ?_)
      · have hf := q_iteT hf c2
        refine q_aload_n (pc := 39) C dX9_counter_39 rfl 0 rfl ?_
        refine q_iload (pc := 40) C dX9_counter_40 4 rfl ?_
        obtain ⟨u3, e4, hf⟩ := q_bind hf
        obtain ⟨_, he⟩ := hW.obj
        refine q_callV (pc := 42) (As := [.int v4]) (rest := []) C (c_X9_livingWith l D cc N0 ga ad  E S v4 u3 e4 ws hW) gX9_counter_X9_livingWith rfl rfl z_X9_livingWith ⟨Nat.le_of_ble_eq_true rfl, Nat.le_of_ble_eq_true rfl⟩ he rfl rfl rfl (Nat.le_of_ble_eq_true rfl) dX9_counter_42 ⟨(show (kc) + 1 ≤ 24 by omega), (show (ks) + 4 ≤ 96 by omega)⟩ ?_
        rintro _ ws ⟨rfl, hW⟩
        refine q_nm (wz := ws) (ka := kc + 1) (kb := ks + 4) (sz := [.int u3]) rfl rfl rfl rfl ?_
        refine q_sub (lvq := [(0, .ref (ga 0)), (1, .int v1), (2, .int v2), (3, .int v3), (4, .int v4)]) [0, 1, 2, 3, 4] rfl ?_
        exact w_X9_counter_45 C hk7 (kc + 1) (ks + 4) v1 v2 v3 v4 u3 ws hf hW (by omega) (by omega)
      · have hf := q_iteF hf c2
        refine q_aload_n (pc := 25) C dX9_counter_25 rfl 0 rfl ?_
        obtain ⟨u6, e7, hf⟩ := q_bind hf
        obtain ⟨_, he⟩ := hW.obj
        refine q_callV (pc := 26) (As := []) (rest := []) C (c_X9_living l D cc N0 ga ad  E S  u6 e7 ws hW) gX9_counter_X9_living rfl rfl z_X9_living ⟨Nat.le_of_ble_eq_true rfl, Nat.le_of_ble_eq_true rfl⟩ he rfl rfl rfl (Nat.le_of_ble_eq_true rfl) dX9_counter_26 ⟨(show (kc) + 1 ≤ 24 by omega), (show (ks) + 4 ≤ 96 by omega)⟩ ?_
        rintro _ ws ⟨rfl, hW⟩
        refine q_nm (wz := ws) (ka := kc + 1) (kb := ks + 4) (sz := [.int u6]) rfl rfl rfl rfl ?_
        refine q_aload_n (pc := 29) C dX9_counter_29 rfl 0 rfl ?_
        refine q_iload (pc := 30) C dX9_counter_30 4 rfl ?_
        obtain ⟨u8, e9, hf⟩ := q_bind hf
        obtain ⟨_, he⟩ := hW.obj
        refine q_callV (pc := 32) (As := [.int v4]) (rest := [.int u6]) C (c_X9_livingWith l D cc N0 ga ad  E S v4 u8 e9 ws hW) gX9_counter_X9_livingWith rfl rfl z_X9_livingWith ⟨Nat.le_of_ble_eq_true rfl, Nat.le_of_ble_eq_true rfl⟩ he rfl rfl rfl (Nat.le_of_ble_eq_true rfl) dX9_counter_32 ⟨(show (kc + 1) + 1 ≤ 24 by omega), (show (ks + 4) + 4 ≤ 96 by omega)⟩ ?_
        rintro _ ws ⟨rfl, hW⟩
        refine q_nm (wz := ws) (ka := kc + 2) (kb := ks + 8) (sz := [.int u8, .int u6]) rfl rfl rfl rfl ?_
        refine q_isub (pc := 35) C dX9_counter_35 ?_
        refine q_goto (pc := 36) (tgt := 45) C dX9_counter_36 (by decide) ?_
        refine q_sub (lvq := [(0, .ref (ga 0)), (1, .int v1), (2, .int v2), (3, .int v3), (4, .int v4)]) [0, 1, 2, 3, 4] rfl ?_
        exact w_X9_counter_45 C hk7 (kc + 2) (ks + 8) v1 v2 v3 v4 (u6 - u8) ws hf hW (by omega) (by omega)
set_option maxRecDepth 100000 in
set_option maxHeartbeats 8000000 in
theorem c_X9_counter (l : Launch) (D : va_G) (cc : Nat → ClassId) (N0 : Nat) (ga : Nat → Nat) (ad : Nat → Nat → Nat) (E : va_W) (S : MS) (a1 : Int32) (v : Int32) (hf : f_X9_counter S a1 = some v) (ws : va_W) (hW : mW cc ga ad S E ws) : q_Met l yX9_counter wsX9_counter 4 114 D cc N0 ws [.ref (ga 0), .int a1] (fun rv w1 => rv = some (.int v) ∧ mW cc ga ad S E w1) 24 96 := by
  refine q_ofW (code := cX9_counter) (nL := 6) (ret := (some .int)) (by decide +kernel) rfl (Nat.le_of_ble_eq_true rfl) (fun p e s m below meth c C _ => ?_)
  refine q_lv (lv2 := [(0, .ref (ga 0)), (1, .int a1)]) rfl ?_
  obtain ⟨kc, hkc⟩ : ∃ z, z = 0 := ⟨_, rfl⟩
  obtain ⟨ks, hks⟩ : ∃ z, z = 0 := ⟨_, rfl⟩
  refine q_nm (wz := ws) (ka := kc) (kb := ks) (sz := []) rfl hkc.symm hks.symm rfl ?_
  refine q_iconst (pc := 0) C (-1 : Int32) dX9_counter_0 q_ci_m1 ?_
  refine q_istore_n (pc := 1) (lvq := [(2, .int (-1 : Int32)), (0, .ref (ga 0)), (1, .int a1)]) C dX9_counter_1 rfl (by decide) rfl ?_
  refine q_iconst (pc := 2) C (0 : Int32) dX9_counter_2 q_ci_0 ?_
  refine q_istore_n (pc := 3) (lvq := [(3, .int (0 : Int32)), (2, .int (-1 : Int32)), (0, .ref (ga 0)), (1, .int a1)]) C dX9_counter_3 rfl (by decide) rfl ?_
  refine q_iconst (pc := 4) C (0 : Int32) dX9_counter_4 q_ci_0 ?_
  refine q_istore (pc := 5) (lvq := [(4, .int (0 : Int32)), (3, .int (0 : Int32)), (2, .int (-1 : Int32)), (0, .ref (ga 0)), (1, .int a1)]) C dX9_counter_5 (by decide) rfl ?_
  refine q_sub (lvq := [(0, .ref (ga 0)), (1, .int a1), (2, .int (-1 : Int32)), (3, .int (0 : Int32)), (4, .int (0 : Int32))]) [3, 4, 2, 1, 0] rfl ?_
  exact w_X9_counter_7 C 10 (kc) (ks) a1 (-1 : Int32) (0 : Int32) (0 : Int32) ws hf hW (by omega) (by omega)
theorem z_X9_equal : q_dsc yX9_equal 1 := ⟨by decide +kernel, by decide +kernel, by decide +kernel⟩
theorem n_X9_equal_X9 : ∀ w ∈ wsX90, w ∈ wsX9_equal := fun _ h => (List.mem_cons_of_mem _ (List.mem_append_left _ (List.mem_append_left _ (List.mem_append_right _ h))))
def f_X9_equal_205 (k123 : Int32 → Int32 → Int32 → Int32 → MS → Option (Int32 × MS)) (v1 : Int32) (v3 : Int32) (vt0 : Int32) (vt1 : Int32) (rt2 : Nat) (u4 : Int32) (x4 : Int32) (S : MS) : Option (Int32 × MS) := (if rt2 < S.2.1 0 ∧ q_in vt1 3 then k123 v1 v3 u4 x4 (mrow S 0 rt2 vt1.toNatClampNeg vt0) else none)
def f_X9_equal_187 (k123 : Int32 → Int32 → Int32 → Int32 → MS → Option (Int32 × MS)) (v1 : Int32) (v3 : Int32) (r5 : Nat) (vt0 : Int32) (u4 : Int32) (x4 : Int32) (S : MS) : Option (Int32 × MS) := (if vt0 = 0 then (if r5 < S.2.1 0 then f_X9_equal_205 k123 v1 v3 (S.2.2.1 0 r5 2) (2 : Int32) r5 u4 x4 S else none) else f_X9_equal_205 k123 v1 v3 (1 : Int32) (2 : Int32) r5 u4 x4 S)
def f_X9_equal_123b (k123 : Int32 → Int32 → Int32 → Int32 → MS → Option (Int32 × MS)) (v1 : Int32) (v3 : Int32) (u4 : Int32) (x4 : Int32) (S : MS) : Option (Int32 × MS) := (if (q_b (!decide (u4 = nI (S.2.1 0)))) = 0 then some (v3, (mset S 3 ((S.1 3) + (1 : Int32)))) else (if q_in u4 (S.2.1 0) ∧ x4 = S.1 20 then (if v3 = (-1 : Int32) then (if u4.toNatClampNeg < S.2.1 0 then (if (S.2.2.1 0 u4.toNatClampNeg 0) = v1 then f_X9_equal_187 k123 v1 v3 u4.toNatClampNeg (0 : Int32) (u4 + (1 : Int32)) x4 S else f_X9_equal_187 k123 v1 v3 u4.toNatClampNeg (1 : Int32) (u4 + (1 : Int32)) x4 S) else none) else (if u4.toNatClampNeg < S.2.1 0 then (if (q_b (f_X9_hasPoint (S.2.2.1 0 u4.toNatClampNeg 0) v3)) = (q_b (f_X9_hasPoint v1 v3)) then f_X9_equal_187 k123 v1 v3 u4.toNatClampNeg (1 : Int32) (u4 + (1 : Int32)) x4 S else f_X9_equal_187 k123 v1 v3 u4.toNatClampNeg (0 : Int32) (u4 + (1 : Int32)) x4 S) else none)) else none))
def f_X9_equal_123 : Nat → Int32 → Int32 → Int32 → Int32 → MS → Option (Int32 × MS)
  | 0, _, _, _, _, _ => none
  | n + 1, v1, v3, u4, x4, S => f_X9_equal_123b  (f_X9_equal_123  n) v1 v3 u4 x4 S
def f_X9_equal_111 (v1 : Int32) (vt0 : Int32) (S : MS) : Option (Int32 × MS) := f_X9_equal_123 1000 v1 vt0 (0 : Int32) (S.1 20) S
def f_X9_equal_81 (v1 : Int32) (vt0 : Int32) (S : MS) : Option (Int32 × MS) := (if (S.1 7) = (97 : Int32) then ((f_X9_counter S v1).bind fun u25 => f_X9_equal_111 v1 u25 S) else (if vt0 = 0 then f_X9_equal_111 v1 (-1 : Int32) S else f_X9_equal_111 v1 (f_J6_numberOfTrailingZeros_0f7a4 vt0) S))
def f_X9_equal_40 (v1 : Int32) (vt0 : Int32) (S : MS) : Option (Int32 × MS) := ((f_X9_isWrong vt0 S).bind fun u6 => (if (q_b u6.1) = 0 then (if (u6.2.1 7) = (97 : Int32) then f_X9_equal_81 v1 (0 : Int32) u6.2 else (if q_in (u6.2.1 8) (u6.2.2.1 0) then (if (u6.2.1 8).toNatClampNeg < u6.2.2.1 0 then f_X9_equal_81 v1 (v1 ^^^ (u6.2.2.2.1 0 ((u6.2.1 8).toNatClampNeg) 0)) u6.2 else none) else none)) else some ((0 : Int32), u6.2)))
def f_X9_equal (a1 : Int32) (S : MS) : Option (Int32 × MS) := ((f_X9_isSet S a1).bind fun u1 => (if (q_b u1) = 0 then f_X9_equal_40 a1 (1 : Int32) S else (if (S.1 7) = (45 : Int32) then f_X9_equal_40 a1 (2 : Int32) S else (if (S.1 3) = (40 : Int32) then f_X9_equal_40 a1 (3 : Int32) S else f_X9_equal_40 a1 (0 : Int32) S))))
set_option maxRecDepth 100000 in
set_option maxHeartbeats 8000000 in
theorem w_X9_equal_205 {p : Program} {l : Launch} {e : Env} {s : State} {m : MethodId} {args : Array Value} {below : List Frame} {meth : Method} {c : Code} {D : va_G} {cc : Nat → ClassId} {N0 : Nat} {ga : Nat → Nat} {E : va_W} {ad : Nat → Nat → Nat} {k123 : Int32 → Int32 → Int32 → Int32 → MS → Option (Int32 × MS)} {n123 : Nat} {v : (Int32 × MS)} (C : q_C p s m args meth c cX9_equal 7 (some .int) wsX9_equal RX9 D cc N0) (hk123 : ∀ (kc : Nat) (ks : Nat) (v1 : Int32) (v3 : Int32) (u4 : Int32) (x4 : Int32) (S : MS) (q4 : Nat) (z4 : Int32)  (ws : va_W), k123 v1 v3 u4 x4 S = some v → mW cc ga ad S ((q4, q_it u4 z4 x4 (ga 1)) :: E) ws → kc + 0 + n123 * 0 ≤ 25 → ks + 0 + n123 * 0 ≤ 100 → q_WA p l e (q_rm (5) (139) 25 100) s m args below meth c D N0 7 (MQ below (q_Q D N0 (fun rv w1 => rv = some (.int v.1) ∧ mW cc ga ad v.2 E w1)) args s 25 100 (q_A N0)) kc ks ws 123 [(0, .ref (ga 0)), (1, .int v1), (3, .int v3), (4, .ref q4)] []) (kc : Nat) (ks : Nat) (v1 : Int32) (v3 : Int32) (vt0 : Int32) (vt1 : Int32) (rt2 : Nat) (u4 : Int32) (x4 : Int32) (S : MS) (q4 : Nat) (z4 : Int32)  (ws : va_W) : f_X9_equal_205 k123 v1 v3 vt0 vt1 rt2 u4 x4 S = some v → mW cc ga ad S ((q4, q_it u4 z4 x4 (ga 1)) :: E) ws → kc + 0 + n123 * 0 ≤ 25 → ks + 0 + n123 * 0 ≤ 100 → q_WA p l e (q_rm (5) (139) 25 100) s m args below meth c D N0 7 (MQ below (q_Q D N0 (fun rv w1 => rv = some (.int v.1) ∧ mW cc ga ad v.2 E w1)) args s 25 100 (q_A N0)) kc ks ws 205 [(0, .ref (ga 0)), (1, .int v1), (3, .int v3), (4, .ref q4)] [.int vt0, .int vt1, .ref (ad 0 rt2)] := by
  intro hf hW b1 b2
  obtain ⟨g22, hf⟩ := q_gd hf
  refine m_rast_0 (pc := 205) C hW g22.1 g22.2 dX9_equal_205 (fun ws hW => ?_)
  have hW : mW cc ga ad (mrow S 0 rt2 vt1.toNatClampNeg vt0) ((q4, q_it u4 z4 x4 (ga 1)) :: E) ws := hW
  refine q_goto (pc := 206) (tgt := 123) C dX9_equal_206 (by decide) ?_
  refine q_sub (lvq := [(0, .ref (ga 0)), (1, .int v1), (3, .int v3), (4, .ref q4)]) [0, 1, 2, 3] rfl ?_
  exact hk123 (kc) (ks) v1 v3 u4 x4 (mrow S 0 rt2 vt1.toNatClampNeg vt0) q4 z4 ws hf hW (by omega) (by omega)
set_option maxRecDepth 100000 in
set_option maxHeartbeats 8000000 in
theorem w_X9_equal_187 {p : Program} {l : Launch} {e : Env} {s : State} {m : MethodId} {args : Array Value} {below : List Frame} {meth : Method} {c : Code} {D : va_G} {cc : Nat → ClassId} {N0 : Nat} {ga : Nat → Nat} {E : va_W} {ad : Nat → Nat → Nat} {k123 : Int32 → Int32 → Int32 → Int32 → MS → Option (Int32 × MS)} {n123 : Nat} {v : (Int32 × MS)} (C : q_C p s m args meth c cX9_equal 7 (some .int) wsX9_equal RX9 D cc N0) (hk123 : ∀ (kc : Nat) (ks : Nat) (v1 : Int32) (v3 : Int32) (u4 : Int32) (x4 : Int32) (S : MS) (q4 : Nat) (z4 : Int32)  (ws : va_W), k123 v1 v3 u4 x4 S = some v → mW cc ga ad S ((q4, q_it u4 z4 x4 (ga 1)) :: E) ws → kc + 0 + n123 * 0 ≤ 25 → ks + 0 + n123 * 0 ≤ 100 → q_WA p l e (q_rm (5) (139) 25 100) s m args below meth c D N0 7 (MQ below (q_Q D N0 (fun rv w1 => rv = some (.int v.1) ∧ mW cc ga ad v.2 E w1)) args s 25 100 (q_A N0)) kc ks ws 123 [(0, .ref (ga 0)), (1, .int v1), (3, .int v3), (4, .ref q4)] []) (kc : Nat) (ks : Nat) (v1 : Int32) (v3 : Int32) (r5 : Nat) (vt0 : Int32) (u4 : Int32) (x4 : Int32) (S : MS) (q4 : Nat) (z4 : Int32)  (ws : va_W) : f_X9_equal_187 k123 v1 v3 r5 vt0 u4 x4 S = some v → mW cc ga ad S ((q4, q_it u4 z4 x4 (ga 1)) :: E) ws → kc + 0 + n123 * 0 ≤ 25 → ks + 0 + n123 * 0 ≤ 100 → q_WA p l e (q_rm (5) (139) 25 100) s m args below meth c D N0 7 (MQ below (q_Q D N0 (fun rv w1 => rv = some (.int v.1) ∧ mW cc ga ad v.2 E w1)) args s 25 100 (q_A N0)) kc ks ws 187 [(0, .ref (ga 0)), (1, .int v1), (3, .int v3), (4, .ref q4), (5, .ref (ad 0 r5))] [.int vt0] := by
  intro hf hW b1 b2
  refine q_istore (pc := 187) (lvq := [(6, .int vt0), (0, .ref (ga 0)), (1, .int v1), (3, .int v3), (4, .ref q4), (5, .ref (ad 0 r5))]) C dX9_equal_187 (by decide) rfl ?_
  refine q_aload (pc := 189) C dX9_equal_189 5 rfl ?_
  refine q_iconst (pc := 191) C (2 : Int32) dX9_equal_191 q_ci_2 ?_
  refine q_iload (pc := 192) C dX9_equal_192 0 rfl ?_
  refine q_if_eq (pc := 194) (tgt := 201) C dX9_equal_194 (by decide) (fun c20 => ?_) (fun c20 => ?_)
  · have hf := q_iteT hf c20
    refine q_aload (pc := 201) C dX9_equal_201 5 rfl ?_
    refine q_iconst (pc := 203) C (2 : Int32) dX9_equal_203 q_ci_2 ?_
    obtain ⟨g21, hf⟩ := q_gd hf
    refine m_rald_0 (pc := 204) C hW g21 ⟨by decide, by decide⟩ dX9_equal_204 ?_
    refine q_nm (wz := ws) (ka := kc) (kb := ks) (sz := [.int (S.2.2.1 0 r5 2), .int (2 : Int32), .ref (ad 0 r5)]) rfl rfl rfl rfl ?_
    refine q_sub (lvq := [(0, .ref (ga 0)), (1, .int v1), (3, .int v3), (4, .ref q4)]) [1, 2, 3, 4] rfl ?_
    exact w_X9_equal_205 C hk123 (kc) (ks) v1 v3 (S.2.2.1 0 r5 2) (2 : Int32) r5 u4 x4 S q4 z4 ws hf hW (by omega) (by omega)
  · have hf := q_iteF hf c20
    refine q_iconst (pc := 197) C (1 : Int32) dX9_equal_197 q_ci_1 ?_
    refine q_goto (pc := 198) (tgt := 205) C dX9_equal_198 (by decide) ?_
    refine q_sub (lvq := [(0, .ref (ga 0)), (1, .int v1), (3, .int v3), (4, .ref q4)]) [1, 2, 3, 4] rfl ?_
    exact w_X9_equal_205 C hk123 (kc) (ks) v1 v3 (1 : Int32) (2 : Int32) r5 u4 x4 S q4 z4 ws hf hW (by omega) (by omega)
set_option maxRecDepth 100000 in
set_option maxHeartbeats 8000000 in
theorem w_X9_equal_123 {p : Program} {l : Launch} {e : Env} {s : State} {m : MethodId} {args : Array Value} {below : List Frame} {meth : Method} {c : Code} {D : va_G} {cc : Nat → ClassId} {N0 : Nat} {ga : Nat → Nat} {E : va_W} {ad : Nat → Nat → Nat} {v : (Int32 × MS)} (C : q_C p s m args meth c cX9_equal 7 (some .int) wsX9_equal RX9 D cc N0)  : ∀ (n : Nat) (kc : Nat) (ks : Nat) (v1 : Int32) (v3 : Int32) (u4 : Int32) (x4 : Int32) (S : MS) (q4 : Nat) (z4 : Int32)  (ws : va_W), f_X9_equal_123  n v1 v3 u4 x4 S = some v → mW cc ga ad S ((q4, q_it u4 z4 x4 (ga 1)) :: E) ws → kc + 0 + n * 0 ≤ 25 → ks + 0 + n * 0 ≤ 100 → q_WA p l e (q_rm (5) (139) 25 100) s m args below meth c D N0 7 (MQ below (q_Q D N0 (fun rv w1 => rv = some (.int v.1) ∧ mW cc ga ad v.2 E w1)) args s 25 100 (q_A N0)) kc ks ws 123 [(0, .ref (ga 0)), (1, .int v1), (3, .int v3), (4, .ref q4)] [] := by
  intro n
  induction n with
  | zero => intro kc ks v1 v3 u4 x4 S q4 z4 ws hf; cases hf
  | succ n ih =>
    intro kc ks v1 v3 u4 x4 S q4 z4 ws hf hW b1 b2
    have hk123 : ∀ (kc : Nat) (ks : Nat) (v1 : Int32) (v3 : Int32) (u4 : Int32) (x4 : Int32) (S : MS) (q4 : Nat) (z4 : Int32)  (ws : va_W), f_X9_equal_123  n v1 v3 u4 x4 S = some v → mW cc ga ad S ((q4, q_it u4 z4 x4 (ga 1)) :: E) ws → kc + 0 + n * 0 ≤ 25 → ks + 0 + n * 0 ≤ 100 → q_WA p l e (q_rm (5) (139) 25 100) s m args below meth c D N0 7 (MQ below (q_Q D N0 (fun rv w1 => rv = some (.int v.1) ∧ mW cc ga ad v.2 E w1)) args s 25 100 (q_A N0)) kc ks ws 123 [(0, .ref (ga 0)), (1, .int v1), (3, .int v3), (4, .ref q4)] [] := ih
    have hf : f_X9_equal_123b  (f_X9_equal_123  n) v1 v3 u4 x4 S = some v := hf
    simp only [Nat.succ_mul, Nat.add_mul] at b1 b2
    refine q_aload (pc := 123) C dX9_equal_123 3 rfl ?_
    refine m_has_0 (pc := 125) C hW gX9_equal_Jx35411_hasNext_aae02_f76Jx35411 ⟨Nat.le_of_ble_eq_true rfl, Nat.le_of_ble_eq_true rfl⟩ (Nat.le_of_ble_eq_true rfl) dX9_equal_125 ⟨(show (kc) ≤ 25 by omega), (show (ks) ≤ 100 by omega)⟩ ?_
    refine q_if_eq (pc := 130) (tgt := 209) C dX9_equal_130 (by decide) (fun c15 => ?_) (fun c15 => ?_)
    · have hf := q_iteT hf c15
      refine q_aload_n (pc := 209) C dX9_equal_209 rfl 0 rfl ?_
      refine q_dup (pc := 210) C dX9_equal_210 rfl ?_
      refine m_g_3 (pc := 211) C hW n_X9_equal_X9 (List.mem_of_getElem? (i := 2) rfl) dX9_equal_211 ?_
      refine q_iconst (pc := 214) C (1 : Int32) dX9_equal_214 q_ci_1 ?_
      refine q_iadd (pc := 215) C dX9_equal_215 ?_
      refine m_p_3 (pc := 216) C hW n_X9_equal_X9 (List.mem_of_getElem? (i := 2) rfl) dX9_equal_216 (fun ws hW => ?_)
      refine q_iload_n (pc := 219) C dX9_equal_219 rfl 2 rfl ?_
      refine q_wid (show kc ≤ 25 by omega) (show ks ≤ 100 by omega) ?_
      refine t_drop hW (fun ws hW => ?_)
      obtain rfl := q_some hf
      exact q_iret (pc := 220) C dX9_equal_220 ⟨rfl, hW⟩
    · have hf := q_iteF hf c15
      refine q_aload (pc := 133) C dX9_equal_133 3 rfl ?_
      obtain ⟨g16, hf⟩ := q_gd hf
      refine m_next_0 (pc := 135) C hW g16 gX9_equal_Jx35411_next_0502b_f82Jx35411 ⟨Nat.le_of_ble_eq_true rfl, Nat.le_of_ble_eq_true rfl⟩ (Nat.le_of_ble_eq_true rfl) dX9_equal_135 ⟨(show (kc) ≤ 25 by omega), (show (ks) ≤ 100 by omega)⟩ (fun ws hW => ?_)
      refine m_cast_0 (pc := 140) C hW g16.1.2 (List.mem_of_getElem? (i := 5) rfl) dX9_equal_140 ?_
      refine q_astore (pc := 143) (lvq := [(5, .ref (ad 0 u4.toNatClampNeg)), (0, .ref (ga 0)), (1, .int v1), (3, .int v3), (4, .ref q4)]) C dX9_equal_143 (by decide) rfl ?_
      refine q_iload_n (pc := 145) C dX9_equal_145 rfl 3 rfl ?_
      refine q_iconst (pc := 146) C (-1 : Int32) dX9_equal_146 q_ci_m1 ?_
      refine q_icmp_ne (pc := 147) (tgt := 166) C dX9_equal_147 (by decide) (fun c17 => ?_) (fun c17 => ?_)
      · have hf := q_iteF hf c17
        refine q_aload (pc := 166) C dX9_equal_166 0 rfl ?_
        refine q_iconst (pc := 168) C (0 : Int32) dX9_equal_168 q_ci_0 ?_
        obtain ⟨g18, hf⟩ := q_gd hf
        refine m_rald_0 (pc := 169) C hW g18 ⟨by decide, by decide⟩ dX9_equal_169 ?_
        refine q_nm (wz := ws) (ka := kc) (kb := ks) (sz := [.int (S.2.2.1 0 u4.toNatClampNeg 0)]) rfl rfl rfl rfl ?_
        refine q_iload_n (pc := 170) C dX9_equal_170 rfl 3 rfl ?_
        refine q_callS (pc := 171) (As := [.int (S.2.2.1 0 u4.toNatClampNeg 0), .int v3]) (rest := []) C (c_X9_hasPoint l D cc N0 ws (S.2.2.1 0 u4.toNatClampNeg 0) v3 _ rfl) gX9_equal_X9_hasPoint rfl z_X9_hasPoint ⟨Nat.le_of_ble_eq_true rfl, Nat.le_of_ble_eq_true rfl⟩ rfl rfl (Nat.le_of_ble_eq_true rfl) dX9_equal_171 ⟨(show (kc) ≤ 25 by omega), (show (ks) ≤ 100 by omega)⟩ ?_
        refine q_after (rv := (some (.int (q_b (f_X9_hasPoint (S.2.2.1 0 u4.toNatClampNeg 0) v3))))) (w0 := ws) (st2 := [.int (q_b (f_X9_hasPoint (S.2.2.1 0 u4.toNatClampNeg 0) v3))]) rfl rfl rfl ?_
        refine q_iload_n (pc := 174) C dX9_equal_174 rfl 2 rfl ?_
        refine q_iload_n (pc := 175) C dX9_equal_175 rfl 3 rfl ?_
        refine q_callS (pc := 176) (As := [.int v1, .int v3]) (rest := [.int (q_b (f_X9_hasPoint (S.2.2.1 0 u4.toNatClampNeg 0) v3))]) C (c_X9_hasPoint l D cc N0 ws v1 v3 _ rfl) gX9_equal_X9_hasPoint rfl z_X9_hasPoint ⟨Nat.le_of_ble_eq_true rfl, Nat.le_of_ble_eq_true rfl⟩ rfl rfl (Nat.le_of_ble_eq_true rfl) dX9_equal_176 ⟨(show (kc) ≤ 25 by omega), (show (ks) ≤ 100 by omega)⟩ ?_
        refine q_after (rv := (some (.int (q_b (f_X9_hasPoint v1 v3))))) (w0 := ws) (st2 := [.int (q_b (f_X9_hasPoint v1 v3)), .int (q_b (f_X9_hasPoint (S.2.2.1 0 u4.toNatClampNeg 0) v3))]) rfl rfl rfl ?_
        refine q_icmp_ne (pc := 179) (tgt := 186) C dX9_equal_179 (by decide) (fun c19 => ?_) (fun c19 => ?_)
        · have hf := q_iteF hf c19
          refine q_iconst (pc := 186) C (0 : Int32) dX9_equal_186 q_ci_0 ?_
          refine q_sub (lvq := [(0, .ref (ga 0)), (1, .int v1), (3, .int v3), (4, .ref q4), (5, .ref (ad 0 u4.toNatClampNeg))]) [1, 2, 3, 4, 0] rfl ?_
          exact w_X9_equal_187 C hk123 (kc) (ks) v1 v3 u4.toNatClampNeg (0 : Int32) (u4 + (1 : Int32)) x4 S q4 u4 ws hf hW (by omega) (by omega)
        · have hf := q_iteT hf c19
          refine q_iconst (pc := 182) C (1 : Int32) dX9_equal_182 q_ci_1 ?_
          refine q_goto (pc := 183) (tgt := 187) C dX9_equal_183 (by decide) ?_
          refine q_sub (lvq := [(0, .ref (ga 0)), (1, .int v1), (3, .int v3), (4, .ref q4), (5, .ref (ad 0 u4.toNatClampNeg))]) [1, 2, 3, 4, 0] rfl ?_
          exact w_X9_equal_187 C hk123 (kc) (ks) v1 v3 u4.toNatClampNeg (1 : Int32) (u4 + (1 : Int32)) x4 S q4 u4 ws hf hW (by omega) (by omega)
      · have hf := q_iteT hf c17
        refine q_aload (pc := 150) C dX9_equal_150 0 rfl ?_
        refine q_iconst (pc := 152) C (0 : Int32) dX9_equal_152 q_ci_0 ?_
        obtain ⟨g23, hf⟩ := q_gd hf
        refine m_rald_0 (pc := 153) C hW g23 ⟨by decide, by decide⟩ dX9_equal_153 ?_
        refine q_nm (wz := ws) (ka := kc) (kb := ks) (sz := [.int (S.2.2.1 0 u4.toNatClampNeg 0)]) rfl rfl rfl rfl ?_
        refine q_iload_n (pc := 154) C dX9_equal_154 rfl 2 rfl ?_
        refine q_icmp_eq (pc := 155) (tgt := 162) C dX9_equal_155 (by decide) (fun c24 => ?_) (fun c24 => ?_)
        · have hf := q_iteT hf c24
          refine q_iconst (pc := 162) C (0 : Int32) dX9_equal_162 q_ci_0 ?_
          refine q_goto (pc := 163) (tgt := 187) C dX9_equal_163 (by decide) ?_
          refine q_sub (lvq := [(0, .ref (ga 0)), (1, .int v1), (3, .int v3), (4, .ref q4), (5, .ref (ad 0 u4.toNatClampNeg))]) [1, 2, 3, 4, 0] rfl ?_
          exact w_X9_equal_187 C hk123 (kc) (ks) v1 v3 u4.toNatClampNeg (0 : Int32) (u4 + (1 : Int32)) x4 S q4 u4 ws hf hW (by omega) (by omega)
        · have hf := q_iteF hf c24
          refine q_iconst (pc := 158) C (1 : Int32) dX9_equal_158 q_ci_1 ?_
          refine q_goto (pc := 159) (tgt := 187) C dX9_equal_159 (by decide) ?_
          refine q_sub (lvq := [(0, .ref (ga 0)), (1, .int v1), (3, .int v3), (4, .ref q4), (5, .ref (ad 0 u4.toNatClampNeg))]) [1, 2, 3, 4, 0] rfl ?_
          exact w_X9_equal_187 C hk123 (kc) (ks) v1 v3 u4.toNatClampNeg (1 : Int32) (u4 + (1 : Int32)) x4 S q4 u4 ws hf hW (by omega) (by omega)
set_option maxRecDepth 100000 in
set_option maxHeartbeats 8000000 in
theorem w_X9_equal_111 {p : Program} {l : Launch} {e : Env} {s : State} {m : MethodId} {args : Array Value} {below : List Frame} {meth : Method} {c : Code} {D : va_G} {cc : Nat → ClassId} {N0 : Nat} {ga : Nat → Nat} {E : va_W} {ad : Nat → Nat → Nat} {v : (Int32 × MS)} (C : q_C p s m args meth c cX9_equal 7 (some .int) wsX9_equal RX9 D cc N0)  (kc : Nat) (ks : Nat) (v1 : Int32) (vt0 : Int32) (S : MS)  (ws : va_W) : f_X9_equal_111  v1 vt0 S = some v → mW cc ga ad S E ws → kc + 1 ≤ 25 → ks + 4 ≤ 100 → q_WA p l e (q_rm (5) (139) 25 100) s m args below meth c D N0 7 (MQ below (q_Q D N0 (fun rv w1 => rv = some (.int v.1) ∧ mW cc ga ad v.2 E w1)) args s 25 100 (q_A N0)) kc ks ws 111 [(0, .ref (ga 0)), (1, .int v1)] [.int vt0] := by
  intro hf hW b1 b2
  refine q_istore_n (pc := 111) (lvq := [(3, .int vt0), (0, .ref (ga 0)), (1, .int v1)]) C dX9_equal_111 rfl (by decide) rfl ?_
  refine q_aload_n (pc := 112) C dX9_equal_112 rfl 1 rfl ?_
  refine m_g_1 (pc := 113) C hW n_X9_equal_X9 (List.mem_of_getElem? (i := 3) rfl) dX9_equal_113 ?_
  refine m_iter_0 (pc := 116) C hW gX9_equal_Jx4a65c_iterator_32c93_f72Jx4a65c ⟨Nat.le_of_ble_eq_true rfl, Nat.le_of_ble_eq_true rfl⟩ (Nat.le_of_ble_eq_true rfl) dX9_equal_116 ⟨(show (kc) + 1 ≤ 25 by omega), (show (ks) + 4 ≤ 100 by omega)⟩ (fun it14 ws hW => ?_)
  refine q_nm (wz := ws) (ka := kc + 1) (kb := ks + 4) (sz := [.ref it14]) rfl rfl rfl rfl ?_
  refine q_astore (pc := 121) (lvq := [(4, .ref it14), (3, .int vt0), (0, .ref (ga 0)), (1, .int v1)]) C dX9_equal_121 (by decide) rfl ?_
  refine q_sub (lvq := [(0, .ref (ga 0)), (1, .int v1), (3, .int vt0), (4, .ref it14)]) [2, 3, 1, 0] rfl ?_
  exact w_X9_equal_123 C 1000 (kc + 1) (ks + 4) v1 vt0 (0 : Int32) (S.1 20) S it14 (-1 : Int32) ws hf hW (by omega) (by omega)
set_option maxRecDepth 100000 in
set_option maxHeartbeats 8000000 in
theorem w_X9_equal_81 {p : Program} {l : Launch} {e : Env} {s : State} {m : MethodId} {args : Array Value} {below : List Frame} {meth : Method} {c : Code} {D : va_G} {cc : Nat → ClassId} {N0 : Nat} {ga : Nat → Nat} {E : va_W} {ad : Nat → Nat → Nat} {v : (Int32 × MS)} (C : q_C p s m args meth c cX9_equal 7 (some .int) wsX9_equal RX9 D cc N0)  (kc : Nat) (ks : Nat) (v1 : Int32) (vt0 : Int32) (S : MS)  (ws : va_W) : f_X9_equal_81  v1 vt0 S = some v → mW cc ga ad S E ws → kc + 25 ≤ 25 → ks + 100 ≤ 100 → q_WA p l e (q_rm (5) (139) 25 100) s m args below meth c D N0 7 (MQ below (q_Q D N0 (fun rv w1 => rv = some (.int v.1) ∧ mW cc ga ad v.2 E w1)) args s 25 100 (q_A N0)) kc ks ws 81 [(0, .ref (ga 0)), (1, .int v1)] [.int vt0] := by
  intro hf hW b1 b2
  refine q_istore_n (pc := 81) (lvq := [(2, .int vt0), (0, .ref (ga 0)), (1, .int v1)]) C dX9_equal_81 rfl (by decide) rfl ?_
  refine q_aload_n (pc := 82) C dX9_equal_82 rfl 1 rfl ?_
  refine m_g_7 (pc := 83) C hW n_X9_equal_X9 (List.mem_of_getElem? (i := 1) rfl) dX9_equal_83 ?_
  refine q_bipush (pc := 86) C (97 : Int32) dX9_equal_86 q_cb_97 ?_
  refine q_icmp_ne (pc := 88) (tgt := 99) C dX9_equal_88 (by decide) (fun c12 => ?_) (fun c12 => ?_)
  · have hf := q_iteF hf c12
    refine q_iload_n (pc := 99) C dX9_equal_99 rfl 0 rfl ?_
    refine q_if_ne (pc := 100) (tgt := 107) C dX9_equal_100 (by decide) (fun c13 => ?_) (fun c13 => ?_)
    · have hf := q_iteF hf c13
      refine q_iload_n (pc := 107) C dX9_equal_107 rfl 0 rfl ?_
      refine q_callS (pc := 108) (As := [.int vt0]) (rest := []) C (c_J6_numberOfTrailingZeros_0f7a4 l D cc N0 ws vt0 _ rfl) gX9_equal_J6_numberOfTrailingZeros_0f7a4 rfl z_J6_numberOfTrailingZeros_0f7a4 ⟨Nat.le_of_ble_eq_true rfl, Nat.le_of_ble_eq_true rfl⟩ rfl rfl (Nat.le_of_ble_eq_true rfl) dX9_equal_108 ⟨(show (kc) ≤ 25 by omega), (show (ks) ≤ 100 by omega)⟩ ?_
      refine q_after (rv := (some (.int (f_J6_numberOfTrailingZeros_0f7a4 vt0)))) (w0 := ws) (st2 := [.int (f_J6_numberOfTrailingZeros_0f7a4 vt0)]) rfl rfl rfl ?_
      refine q_sub (lvq := [(0, .ref (ga 0)), (1, .int v1)]) [1, 2] rfl ?_
      exact w_X9_equal_111 C (kc) (ks) v1 (f_J6_numberOfTrailingZeros_0f7a4 vt0) S ws hf hW (by omega) (by omega)
    · have hf := q_iteT hf c13
      refine q_iconst (pc := 103) C (-1 : Int32) dX9_equal_103 q_ci_m1 ?_
      refine q_goto (pc := 104) (tgt := 111) C dX9_equal_104 (by decide) ?_
      refine q_sub (lvq := [(0, .ref (ga 0)), (1, .int v1)]) [1, 2] rfl ?_
      exact w_X9_equal_111 C (kc) (ks) v1 (-1 : Int32) S ws hf hW (by omega) (by omega)
  · have hf := q_iteT hf c12
    refine q_aload_n (pc := 91) C dX9_equal_91 rfl 1 rfl ?_
    refine q_iload_n (pc := 92) C dX9_equal_92 rfl 2 rfl ?_
    obtain ⟨u25, e26, hf⟩ := q_bind hf
    obtain ⟨_, he⟩ := hW.obj
    refine q_callV (pc := 93) (As := [.int v1]) (rest := []) C (c_X9_counter l D cc N0 ga ad  E S v1 u25 e26 ws hW) gX9_equal_X9_counter rfl rfl z_X9_counter ⟨Nat.le_of_ble_eq_true rfl, Nat.le_of_ble_eq_true rfl⟩ he rfl rfl rfl (Nat.le_of_ble_eq_true rfl) dX9_equal_93 ⟨(show (kc) + 24 ≤ 25 by omega), (show (ks) + 96 ≤ 100 by omega)⟩ ?_
    rintro _ ws ⟨rfl, hW⟩
    refine q_nm (wz := ws) (ka := kc + 24) (kb := ks + 96) (sz := [.int u25]) rfl rfl rfl rfl ?_
    refine q_goto (pc := 96) (tgt := 111) C dX9_equal_96 (by decide) ?_
    refine q_sub (lvq := [(0, .ref (ga 0)), (1, .int v1)]) [1, 2] rfl ?_
    exact w_X9_equal_111 C (kc + 24) (ks + 96) v1 u25 S ws hf hW (by omega) (by omega)
set_option maxRecDepth 100000 in
set_option maxHeartbeats 8000000 in
theorem w_X9_equal_40 {p : Program} {l : Launch} {e : Env} {s : State} {m : MethodId} {args : Array Value} {below : List Frame} {meth : Method} {c : Code} {D : va_G} {cc : Nat → ClassId} {N0 : Nat} {ga : Nat → Nat} {E : va_W} {ad : Nat → Nat → Nat} {v : (Int32 × MS)} (C : q_C p s m args meth c cX9_equal 7 (some .int) wsX9_equal RX9 D cc N0)  (kc : Nat) (ks : Nat) (v1 : Int32) (vt0 : Int32) (S : MS)  (ws : va_W) : f_X9_equal_40  v1 vt0 S = some v → mW cc ga ad S E ws → kc + 25 ≤ 25 → ks + 100 ≤ 100 → q_WA p l e (q_rm (5) (139) 25 100) s m args below meth c D N0 7 (MQ below (q_Q D N0 (fun rv w1 => rv = some (.int v.1) ∧ mW cc ga ad v.2 E w1)) args s 25 100 (q_A N0)) kc ks ws 40 [(0, .ref (ga 0)), (1, .int v1)] [.int vt0, .ref (ga 0)] := by
  intro hf hW b1 b2
  obtain ⟨u6, e7, hf⟩ := q_bind hf
  obtain ⟨_, he⟩ := hW.obj
  refine q_callV (pc := 40) (As := [.int vt0]) (rest := []) C (c_X9_isWrong l D cc N0 ga ad  E S vt0 u6 e7 ws hW) gX9_equal_X9_isWrong rfl rfl z_X9_isWrong ⟨Nat.le_of_ble_eq_true rfl, Nat.le_of_ble_eq_true rfl⟩ he rfl rfl rfl (Nat.le_of_ble_eq_true rfl) dX9_equal_40 ⟨(show (kc) + 0 ≤ 25 by omega), (show (ks) + 0 ≤ 100 by omega)⟩ ?_
  rintro _ ws ⟨rfl, hW⟩
  refine q_nm (wz := ws) (ka := kc) (kb := ks) (sz := [.int (q_b u6.1)]) rfl rfl rfl rfl ?_
  refine q_if_eq (pc := 43) (tgt := 48) C dX9_equal_43 (by decide) (fun c8 => ?_) (fun c8 => ?_)
  · have hf := q_iteT hf c8
    refine q_aload_n (pc := 48) C dX9_equal_48 rfl 0 rfl ?_
    refine m_g_7 (pc := 49) C hW n_X9_equal_X9 (List.mem_of_getElem? (i := 1) rfl) dX9_equal_49 ?_
    refine q_bipush (pc := 52) C (97 : Int32) dX9_equal_52 q_cb_97 ?_
    refine q_icmp_ne (pc := 54) (tgt := 61) C dX9_equal_54 (by decide) (fun c9 => ?_) (fun c9 => ?_)
    · have hf := q_iteF hf c9
      refine q_iload_n (pc := 61) C dX9_equal_61 rfl 1 rfl ?_
      refine q_aload_n (pc := 62) C dX9_equal_62 rfl 0 rfl ?_
      refine m_g_1 (pc := 63) C hW n_X9_equal_X9 (List.mem_of_getElem? (i := 3) rfl) dX9_equal_63 ?_
      refine q_aload_n (pc := 66) C dX9_equal_66 rfl 0 rfl ?_
      refine m_g_8 (pc := 67) C hW n_X9_equal_X9 (List.mem_of_getElem? (i := 4) rfl) dX9_equal_67 ?_
      obtain ⟨g10, hf⟩ := q_gd hf
      refine m_get_0 (pc := 70) C hW g10 gX9_equal_Jx4a65c_get_915e3_f129Jx4a65c ⟨Nat.le_of_ble_eq_true rfl, Nat.le_of_ble_eq_true rfl⟩ (Nat.le_of_ble_eq_true rfl) dX9_equal_70 ⟨(show (kc) ≤ 25 by omega), (show (ks) ≤ 100 by omega)⟩ ?_
      refine m_cast_0 (pc := 75) C hW g10.2 (List.mem_of_getElem? (i := 5) rfl) dX9_equal_75 ?_
      refine q_iconst (pc := 78) C (0 : Int32) dX9_equal_78 q_ci_0 ?_
      obtain ⟨g11, hf⟩ := q_gd hf
      refine m_rald_0 (pc := 79) C hW g11 ⟨by decide, by decide⟩ dX9_equal_79 ?_
      refine q_nm (wz := ws) (ka := kc) (kb := ks) (sz := [.int (u6.2.2.2.1 0 ((u6.2.1 8).toNatClampNeg) 0), .int v1]) rfl rfl rfl rfl ?_
      refine q_ixor (pc := 80) C dX9_equal_80 ?_
      refine q_sub (lvq := [(0, .ref (ga 0)), (1, .int v1)]) [0, 1] rfl ?_
      exact w_X9_equal_81 C (kc) (ks) v1 (v1 ^^^ (u6.2.2.2.1 0 ((u6.2.1 8).toNatClampNeg) 0)) u6.2 ws hf hW (by omega) (by omega)
    · have hf := q_iteT hf c9
      refine q_iconst (pc := 57) C (0 : Int32) dX9_equal_57 q_ci_0 ?_
      refine q_goto (pc := 58) (tgt := 81) C dX9_equal_58 (by decide) ?_
      refine q_sub (lvq := [(0, .ref (ga 0)), (1, .int v1)]) [0, 1] rfl ?_
      exact w_X9_equal_81 C (kc) (ks) v1 (0 : Int32) u6.2 ws hf hW (by omega) (by omega)
  · have hf := q_iteF hf c8
    refine q_iconst (pc := 46) C (0 : Int32) dX9_equal_46 q_ci_0 ?_
    refine q_wid (show kc ≤ 25 by omega) (show ks ≤ 100 by omega) ?_
    obtain rfl := q_some hf
    exact q_iret (pc := 47) C dX9_equal_47 ⟨rfl, hW⟩
set_option maxRecDepth 100000 in
set_option maxHeartbeats 8000000 in
theorem c_X9_equal (l : Launch) (D : va_G) (cc : Nat → ClassId) (N0 : Nat) (ga : Nat → Nat) (ad : Nat → Nat → Nat) (E : va_W) (S : MS) (a1 : Int32) (v : (Int32 × MS)) (hf : f_X9_equal a1 S = some v) (ws : va_W) (hW : mW cc ga ad S E ws) : q_Met l yX9_equal wsX9_equal 5 139 D cc N0 ws [.ref (ga 0), .int a1] (fun rv w1 => rv = some (.int v.1) ∧ mW cc ga ad v.2 E w1) 25 100 := by
  refine q_ofW (code := cX9_equal) (nL := 7) (ret := (some .int)) (by decide +kernel) rfl (Nat.le_of_ble_eq_true rfl) (fun p e s m below meth c C _ => ?_)
  refine q_lv (lv2 := [(0, .ref (ga 0)), (1, .int a1)]) rfl ?_
  obtain ⟨kc, hkc⟩ : ∃ z, z = 0 := ⟨_, rfl⟩
  obtain ⟨ks, hks⟩ : ∃ z, z = 0 := ⟨_, rfl⟩
  refine q_nm (wz := ws) (ka := kc) (kb := ks) (sz := []) rfl hkc.symm hks.symm rfl ?_
  refine q_aload_n (pc := 0) C dX9_equal_0 rfl 0 rfl ?_
  refine q_aload_n (pc := 1) C dX9_equal_1 rfl 0 rfl ?_
  refine q_iload_n (pc := 2) C dX9_equal_2 rfl 1 rfl ?_
  obtain ⟨u1, e2, hf⟩ := q_bind hf
  obtain ⟨_, he⟩ := hW.obj
  refine q_callV (pc := 3) (As := [.int a1]) (rest := [.ref (ga 0)]) C (c_X9_isSet l D cc N0 ga ad  E S a1 u1 e2 ws hW) gX9_equal_X9_isSet rfl rfl z_X9_isSet ⟨Nat.le_of_ble_eq_true rfl, Nat.le_of_ble_eq_true rfl⟩ he rfl rfl rfl (Nat.le_of_ble_eq_true rfl) dX9_equal_3 ⟨(show (kc) + 0 ≤ 25 by omega), (show (ks) + 0 ≤ 100 by omega)⟩ ?_
  rintro _ ws ⟨rfl, hW⟩
  refine q_nm (wz := ws) (ka := kc) (kb := ks) (sz := [.int (q_b u1), .ref (ga 0)]) rfl rfl rfl rfl ?_
  refine q_if_ne (pc := 6) (tgt := 13) C dX9_equal_6 (by decide) (fun c3 => ?_) (fun c3 => ?_)
  · have hf := q_iteF hf c3
    refine q_aload_n (pc := 13) C dX9_equal_13 rfl 0 rfl ?_
    refine m_g_7 (pc := 14) C hW n_X9_equal_X9 (List.mem_of_getElem? (i := 1) rfl) dX9_equal_14 ?_
    refine q_bipush (pc := 17) C (45 : Int32) dX9_equal_17 q_cb_45 ?_
    refine q_icmp_ne (pc := 19) (tgt := 26) C dX9_equal_19 (by decide) (fun c4 => ?_) (fun c4 => ?_)
    · have hf := q_iteF hf c4
      refine q_aload_n (pc := 26) C dX9_equal_26 rfl 0 rfl ?_
      refine m_g_3 (pc := 27) C hW n_X9_equal_X9 (List.mem_of_getElem? (i := 2) rfl) dX9_equal_27 ?_
      refine q_bipush (pc := 30) C (40 : Int32) dX9_equal_30 q_cb_40 ?_
      refine q_icmp_ne (pc := 32) (tgt := 39) C dX9_equal_32 (by decide) (fun c5 => ?_) (fun c5 => ?_)
      · have hf := q_iteF hf c5
        refine q_iconst (pc := 39) C (0 : Int32) dX9_equal_39 q_ci_0 ?_
        refine q_sub (lvq := [(0, .ref (ga 0)), (1, .int a1)]) [0, 1] rfl ?_
        exact w_X9_equal_40 C (kc) (ks) a1 (0 : Int32) S ws hf hW (by omega) (by omega)
      · have hf := q_iteT hf c5
        refine q_iconst (pc := 35) C (3 : Int32) dX9_equal_35 q_ci_3 ?_
        refine q_goto (pc := 36) (tgt := 40) C dX9_equal_36 (by decide) ?_
        refine q_sub (lvq := [(0, .ref (ga 0)), (1, .int a1)]) [0, 1] rfl ?_
        exact w_X9_equal_40 C (kc) (ks) a1 (3 : Int32) S ws hf hW (by omega) (by omega)
    · have hf := q_iteT hf c4
      refine q_iconst (pc := 22) C (2 : Int32) dX9_equal_22 q_ci_2 ?_
      refine q_goto (pc := 23) (tgt := 40) C dX9_equal_23 (by decide) ?_
      refine q_sub (lvq := [(0, .ref (ga 0)), (1, .int a1)]) [0, 1] rfl ?_
      exact w_X9_equal_40 C (kc) (ks) a1 (2 : Int32) S ws hf hW (by omega) (by omega)
  · have hf := q_iteT hf c3
    refine q_iconst (pc := 9) C (1 : Int32) dX9_equal_9 q_ci_1 ?_
    refine q_goto (pc := 10) (tgt := 40) C dX9_equal_10 (by decide) ?_
    refine q_sub (lvq := [(0, .ref (ga 0)), (1, .int a1)]) [0, 1] rfl ?_
    exact w_X9_equal_40 C (kc) (ks) a1 (1 : Int32) S ws hf hW (by omega) (by omega)
theorem z_X9_answers : q_dsc yX9_answers 0 := ⟨by decide +kernel, by decide +kernel, by decide +kernel⟩
theorem n_X9_answers_X9 : ∀ w ∈ wsX90, w ∈ wsX9_answers := fun _ h => (List.mem_cons_of_mem _ (List.mem_append_right _ h))
def f_X9_answers (S : MS) : Option (Int32 × MS) := some (((mset S 0 (0 : Int32)).1 3), (mset S 0 (0 : Int32)))
set_option maxRecDepth 100000 in
set_option maxHeartbeats 8000000 in
theorem c_X9_answers (l : Launch) (D : va_G) (cc : Nat → ClassId) (N0 : Nat) (ga : Nat → Nat) (ad : Nat → Nat → Nat) (E : va_W) (S : MS) (v : (Int32 × MS)) (hf : f_X9_answers S = some v) (ws : va_W) (hW : mW cc ga ad S E ws) : q_Met l yX9_answers wsX9_answers 0 0 D cc N0 ws [.ref (ga 0)] (fun rv w1 => rv = some (.int v.1) ∧ mW cc ga ad v.2 E w1) 0 0 := by
  refine q_ofW (code := cX9_answers) (nL := 1) (ret := (some .int)) (by decide +kernel) rfl (Nat.le_of_ble_eq_true rfl) (fun p e s m below meth c C _ => ?_)
  refine q_lv (lv2 := [(0, .ref (ga 0))]) rfl ?_
  refine q_aload_n (pc := 0) C dX9_answers_0 rfl 0 rfl ?_
  refine q_iconst (pc := 1) C (0 : Int32) dX9_answers_1 q_ci_0 ?_
  refine m_p_0 (pc := 2) C hW n_X9_answers_X9 (List.mem_of_getElem? (i := 1) rfl) dX9_answers_2 (fun ws hW => ?_)
  refine q_aload_n (pc := 5) C dX9_answers_5 rfl 0 rfl ?_
  refine m_g_3 (pc := 6) C hW n_X9_answers_X9 (List.mem_of_getElem? (i := 2) rfl) dX9_answers_6 ?_
  obtain rfl := q_some hf
  exact q_iret (pc := 9) C dX9_answers_9 ⟨rfl, hW⟩
theorem z_X9_conflicts : q_dsc yX9_conflicts 1 := ⟨by decide +kernel, by decide +kernel, by decide +kernel⟩
theorem n_X9_conflicts_X9 : ∀ w ∈ wsX90, w ∈ wsX9_conflicts := fun _ h => (List.mem_cons_of_mem _ (List.mem_append_left _ (List.mem_append_right _ h)))
def f_X9_conflicts (a1 : Int32) (S : MS) : Option (Int32 × MS) := ((f_X9_isNoConcept a1 S).bind fun u1 => (if (q_b u1.1) = 0 then (if q_in a1 (u1.2.2.1 0) then (if a1.toNatClampNeg < u1.2.2.1 0 then (if (u1.2.2.2.1 0 a1.toNatClampNeg 2) = (1 : Int32) then some ((-1 : Int32), u1.2) else (if q_in a1 (u1.2.2.1 0) then (if a1.toNatClampNeg < u1.2.2.1 0 then some ((u1.2.2.2.1 0 a1.toNatClampNeg 1), u1.2) else none) else none)) else none) else none) else some ((0 : Int32), u1.2)))
set_option maxRecDepth 100000 in
set_option maxHeartbeats 8000000 in
theorem c_X9_conflicts (l : Launch) (D : va_G) (cc : Nat → ClassId) (N0 : Nat) (ga : Nat → Nat) (ad : Nat → Nat → Nat) (E : va_W) (S : MS) (a1 : Int32) (v : (Int32 × MS)) (hf : f_X9_conflicts a1 S = some v) (ws : va_W) (hW : mW cc ga ad S E ws) : q_Met l yX9_conflicts wsX9_conflicts 4 100 D cc N0 ws [.ref (ga 0), .int a1] (fun rv w1 => rv = some (.int v.1) ∧ mW cc ga ad v.2 E w1) 0 0 := by
  refine q_ofW (code := cX9_conflicts) (nL := 2) (ret := (some .int)) (by decide +kernel) rfl (Nat.le_of_ble_eq_true rfl) (fun p e s m below meth c C _ => ?_)
  refine q_lv (lv2 := [(0, .ref (ga 0)), (1, .int a1)]) rfl ?_
  refine q_aload_n (pc := 0) C dX9_conflicts_0 rfl 0 rfl ?_
  refine q_iload_n (pc := 1) C dX9_conflicts_1 rfl 1 rfl ?_
  obtain ⟨u1, e2, hf⟩ := q_bind hf
  obtain ⟨_, he⟩ := hW.obj
  refine q_callV (pc := 2) (As := [.int a1]) (rest := []) C (c_X9_isNoConcept l D cc N0 ga ad  E S a1 u1 e2 ws hW) gX9_conflicts_X9_isNoConcept rfl rfl z_X9_isNoConcept ⟨Nat.le_of_ble_eq_true rfl, Nat.le_of_ble_eq_true rfl⟩ he rfl rfl rfl (Nat.le_of_ble_eq_true rfl) dX9_conflicts_2 ⟨Nat.le_of_ble_eq_true rfl, Nat.le_of_ble_eq_true rfl⟩ ?_
  rintro _ ws ⟨rfl, hW⟩
  refine q_nm (wz := ws) (ka := 0) (kb := 0) (sz := [.int (q_b u1.1)]) rfl rfl rfl rfl ?_
  refine q_if_eq (pc := 5) (tgt := 12) C dX9_conflicts_5 (by decide) (fun c3 => ?_) (fun c3 => ?_)
  · have hf := q_iteT hf c3
    refine q_aload_n (pc := 12) C dX9_conflicts_12 rfl 0 rfl ?_
    refine m_g_1 (pc := 13) C hW n_X9_conflicts_X9 (List.mem_of_getElem? (i := 1) rfl) dX9_conflicts_13 ?_
    refine q_iload_n (pc := 16) C dX9_conflicts_16 rfl 1 rfl ?_
    obtain ⟨g4, hf⟩ := q_gd hf
    refine m_get_0 (pc := 17) C hW g4 gX9_conflicts_Jx4a65c_get_915e3_f129Jx4a65c ⟨Nat.le_of_ble_eq_true rfl, Nat.le_of_ble_eq_true rfl⟩ (Nat.le_of_ble_eq_true rfl) dX9_conflicts_17 ⟨Nat.le_of_ble_eq_true rfl, Nat.le_of_ble_eq_true rfl⟩ ?_
    refine m_cast_0 (pc := 22) C hW g4.2 (List.mem_of_getElem? (i := 2) rfl) dX9_conflicts_22 ?_
    refine q_iconst (pc := 25) C (2 : Int32) dX9_conflicts_25 q_ci_2 ?_
    obtain ⟨g5, hf⟩ := q_gd hf
    refine m_rald_0 (pc := 26) C hW g5 ⟨by decide, by decide⟩ dX9_conflicts_26 ?_
    refine q_nm (wz := ws) (ka := 0) (kb := 0) (sz := [.int (u1.2.2.2.1 0 a1.toNatClampNeg 2)]) rfl rfl rfl rfl ?_
    refine q_iconst (pc := 27) C (1 : Int32) dX9_conflicts_27 q_ci_1 ?_
    refine q_icmp_ne (pc := 28) (tgt := 35) C dX9_conflicts_28 (by decide) (fun c6 => ?_) (fun c6 => ?_)
    · have hf := q_iteF hf c6
      refine q_aload_n (pc := 35) C dX9_conflicts_35 rfl 0 rfl ?_
      refine m_g_1 (pc := 36) C hW n_X9_conflicts_X9 (List.mem_of_getElem? (i := 1) rfl) dX9_conflicts_36 ?_
      refine q_iload_n (pc := 39) C dX9_conflicts_39 rfl 1 rfl ?_
      obtain ⟨g7, hf⟩ := q_gd hf
      refine m_get_0 (pc := 40) C hW g7 gX9_conflicts_Jx4a65c_get_915e3_f129Jx4a65c ⟨Nat.le_of_ble_eq_true rfl, Nat.le_of_ble_eq_true rfl⟩ (Nat.le_of_ble_eq_true rfl) dX9_conflicts_40 ⟨Nat.le_of_ble_eq_true rfl, Nat.le_of_ble_eq_true rfl⟩ ?_
      refine m_cast_0 (pc := 45) C hW g7.2 (List.mem_of_getElem? (i := 2) rfl) dX9_conflicts_45 ?_
      refine q_iconst (pc := 48) C (1 : Int32) dX9_conflicts_48 q_ci_1 ?_
      obtain ⟨g8, hf⟩ := q_gd hf
      refine m_rald_0 (pc := 49) C hW g8 ⟨by decide, by decide⟩ dX9_conflicts_49 ?_
      refine q_nm (wz := ws) (ka := 0) (kb := 0) (sz := [.int (u1.2.2.2.1 0 a1.toNatClampNeg 1)]) rfl rfl rfl rfl ?_
      obtain rfl := q_some hf
      exact q_iret (pc := 50) C dX9_conflicts_50 ⟨rfl, hW⟩
    · have hf := q_iteT hf c6
      refine q_iconst (pc := 31) C (-1 : Int32) dX9_conflicts_31 q_ci_m1 ?_
      refine q_goto (pc := 32) (tgt := 50) C dX9_conflicts_32 (by decide) ?_
      obtain rfl := q_some hf
      exact q_iret (pc := 50) C dX9_conflicts_50 ⟨rfl, hW⟩
  · have hf := q_iteF hf c3
    refine q_iconst (pc := 8) C (0 : Int32) dX9_conflicts_8 q_ci_0 ?_
    refine q_goto (pc := 9) (tgt := 50) C dX9_conflicts_9 (by decide) ?_
    obtain rfl := q_some hf
    exact q_iret (pc := 50) C dX9_conflicts_50 ⟨rfl, hW⟩
theorem z_X9_isAlive : q_dsc yX9_isAlive 1 := ⟨by decide +kernel, by decide +kernel, by decide +kernel⟩
theorem n_X9_isAlive_X9 : ∀ w ∈ wsX90, w ∈ wsX9_isAlive := fun _ h => (List.mem_cons_of_mem _ (List.mem_append_left _ (List.mem_append_right _ h)))
def f_X9_isAlive (a1 : Int32) (S : MS) : Option (Bool × MS) := ((f_X9_isNoConcept a1 S).bind fun u1 => (if (q_b u1.1) = 0 then (if q_in a1 (u1.2.2.1 0) then ((f_X9_lives u1.2 a1.toNatClampNeg).bind fun u5 => (if (q_b u5) = 0 then some (false, u1.2) else some (true, u1.2))) else none) else some (false, u1.2)))
set_option maxRecDepth 100000 in
set_option maxHeartbeats 8000000 in
theorem c_X9_isAlive (l : Launch) (D : va_G) (cc : Nat → ClassId) (N0 : Nat) (ga : Nat → Nat) (ad : Nat → Nat → Nat) (E : va_W) (S : MS) (a1 : Int32) (v : (Bool × MS)) (hf : f_X9_isAlive a1 S = some v) (ws : va_W) (hW : mW cc ga ad S E ws) : q_Met l yX9_isAlive wsX9_isAlive 4 100 D cc N0 ws [.ref (ga 0), .int a1] (fun rv w1 => rv = some (.int (q_b v.1)) ∧ mW cc ga ad v.2 E w1) 0 0 := by
  refine q_ofW (code := cX9_isAlive) (nL := 2) (ret := (some .boolean)) (by decide +kernel) rfl (Nat.le_of_ble_eq_true rfl) (fun p e s m below meth c C _ => ?_)
  refine q_lv (lv2 := [(0, .ref (ga 0)), (1, .int a1)]) rfl ?_
  refine q_aload_n (pc := 0) C dX9_isAlive_0 rfl 0 rfl ?_
  refine q_iload_n (pc := 1) C dX9_isAlive_1 rfl 1 rfl ?_
  obtain ⟨u1, e2, hf⟩ := q_bind hf
  obtain ⟨_, he⟩ := hW.obj
  refine q_callV (pc := 2) (As := [.int a1]) (rest := []) C (c_X9_isNoConcept l D cc N0 ga ad  E S a1 u1 e2 ws hW) gX9_isAlive_X9_isNoConcept rfl rfl z_X9_isNoConcept ⟨Nat.le_of_ble_eq_true rfl, Nat.le_of_ble_eq_true rfl⟩ he rfl rfl rfl (Nat.le_of_ble_eq_true rfl) dX9_isAlive_2 ⟨Nat.le_of_ble_eq_true rfl, Nat.le_of_ble_eq_true rfl⟩ ?_
  rintro _ ws ⟨rfl, hW⟩
  refine q_nm (wz := ws) (ka := 0) (kb := 0) (sz := [.int (q_b u1.1)]) rfl rfl rfl rfl ?_
  refine q_if_ne (pc := 5) (tgt := 32) C dX9_isAlive_5 (by decide) (fun c3 => ?_) (fun c3 => ?_)
  · have hf := q_iteF hf c3
    refine q_iconst (pc := 32) C (0 : Int32) dX9_isAlive_32 q_ci_0 ?_
    obtain rfl := q_some hf
    exact q_zret (pc := 33) C (by decide +kernel) dX9_isAlive_33 ⟨rfl, hW⟩
  · have hf := q_iteT hf c3
    refine q_aload_n (pc := 8) C dX9_isAlive_8 rfl 0 rfl ?_
    refine q_aload_n (pc := 9) C dX9_isAlive_9 rfl 0 rfl ?_
    refine m_g_1 (pc := 10) C hW n_X9_isAlive_X9 (List.mem_of_getElem? (i := 1) rfl) dX9_isAlive_10 ?_
    refine q_iload_n (pc := 13) C dX9_isAlive_13 rfl 1 rfl ?_
    obtain ⟨g4, hf⟩ := q_gd hf
    refine m_get_0 (pc := 14) C hW g4 gX9_isAlive_Jx4a65c_get_915e3_f129Jx4a65c ⟨Nat.le_of_ble_eq_true rfl, Nat.le_of_ble_eq_true rfl⟩ (Nat.le_of_ble_eq_true rfl) dX9_isAlive_14 ⟨Nat.le_of_ble_eq_true rfl, Nat.le_of_ble_eq_true rfl⟩ ?_
    refine m_cast_0 (pc := 19) C hW g4.2 (List.mem_of_getElem? (i := 2) rfl) dX9_isAlive_19 ?_
    obtain ⟨u5, e6, hf⟩ := q_bind hf
    obtain ⟨_, he⟩ := hW.obj
    refine q_callV (pc := 22) (As := [.ref (ad 0 a1.toNatClampNeg)]) (rest := []) C (c_X9_lives l D cc N0 ga ad  E u1.2 a1.toNatClampNeg u5 e6 ws hW) gX9_isAlive_X9_lives rfl rfl z_X9_lives ⟨Nat.le_of_ble_eq_true rfl, Nat.le_of_ble_eq_true rfl⟩ he rfl rfl rfl (Nat.le_of_ble_eq_true rfl) dX9_isAlive_22 ⟨Nat.le_of_ble_eq_true rfl, Nat.le_of_ble_eq_true rfl⟩ ?_
    rintro _ ws ⟨rfl, hW⟩
    refine q_nm (wz := ws) (ka := 0) (kb := 0) (sz := [.int (q_b u5)]) rfl rfl rfl rfl ?_
    refine q_if_eq (pc := 25) (tgt := 32) C dX9_isAlive_25 (by decide) (fun c7 => ?_) (fun c7 => ?_)
    · have hf := q_iteT hf c7
      refine q_iconst (pc := 32) C (0 : Int32) dX9_isAlive_32 q_ci_0 ?_
      obtain rfl := q_some hf
      exact q_zret (pc := 33) C (by decide +kernel) dX9_isAlive_33 ⟨rfl, hW⟩
    · have hf := q_iteF hf c7
      refine q_iconst (pc := 28) C (1 : Int32) dX9_isAlive_28 q_ci_1 ?_
      refine q_goto (pc := 29) (tgt := 33) C dX9_isAlive_29 (by decide) ?_
      obtain rfl := q_some hf
      exact q_zret (pc := 33) C (by decide +kernel) dX9_isAlive_33 ⟨rfl, hW⟩
theorem z_X9_alive : q_dsc yX9_alive 0 := ⟨by decide +kernel, by decide +kernel, by decide +kernel⟩
theorem n_X9_alive_X9 : ∀ w ∈ wsX90, w ∈ wsX9_alive := fun _ h => (List.mem_cons_of_mem _ (List.mem_append_left _ (List.mem_append_left _ (List.mem_append_right _ h))))
def f_X9_alive (S : MS) : Option (Int32 × MS) := ((f_X9_living (mset S 0 (0 : Int32))).bind fun u1 => some (u1, (mset S 0 (0 : Int32))))
set_option maxRecDepth 100000 in
set_option maxHeartbeats 8000000 in
theorem c_X9_alive (l : Launch) (D : va_G) (cc : Nat → ClassId) (N0 : Nat) (ga : Nat → Nat) (ad : Nat → Nat → Nat) (E : va_W) (S : MS) (v : (Int32 × MS)) (hf : f_X9_alive S = some v) (ws : va_W) (hW : mW cc ga ad S E ws) : q_Met l yX9_alive wsX9_alive 4 113 D cc N0 ws [.ref (ga 0)] (fun rv w1 => rv = some (.int v.1) ∧ mW cc ga ad v.2 E w1) 1 4 := by
  refine q_ofW (code := cX9_alive) (nL := 1) (ret := (some .int)) (by decide +kernel) rfl (Nat.le_of_ble_eq_true rfl) (fun p e s m below meth c C _ => ?_)
  refine q_lv (lv2 := [(0, .ref (ga 0))]) rfl ?_
  obtain ⟨kc, hkc⟩ : ∃ z, z = 0 := ⟨_, rfl⟩
  obtain ⟨ks, hks⟩ : ∃ z, z = 0 := ⟨_, rfl⟩
  refine q_nm (wz := ws) (ka := kc) (kb := ks) (sz := []) rfl hkc.symm hks.symm rfl ?_
  refine q_aload_n (pc := 0) C dX9_alive_0 rfl 0 rfl ?_
  refine q_iconst (pc := 1) C (0 : Int32) dX9_alive_1 q_ci_0 ?_
  refine m_p_0 (pc := 2) C hW n_X9_alive_X9 (List.mem_of_getElem? (i := 1) rfl) dX9_alive_2 (fun ws hW => ?_)
  refine q_aload_n (pc := 5) C dX9_alive_5 rfl 0 rfl ?_
  obtain ⟨u1, e2, hf⟩ := q_bind hf
  obtain ⟨_, he⟩ := hW.obj
  refine q_callV (pc := 6) (As := []) (rest := []) C (c_X9_living l D cc N0 ga ad  E (mset S 0 (0 : Int32))  u1 e2 ws hW) gX9_alive_X9_living rfl rfl z_X9_living ⟨Nat.le_of_ble_eq_true rfl, Nat.le_of_ble_eq_true rfl⟩ he rfl rfl rfl (Nat.le_of_ble_eq_true rfl) dX9_alive_6 ⟨(show (kc) + 1 ≤ 1 by omega), (show (ks) + 4 ≤ 4 by omega)⟩ ?_
  rintro _ ws ⟨rfl, hW⟩
  refine q_nm (wz := ws) (ka := kc + 1) (kb := ks + 4) (sz := [.int u1]) rfl rfl rfl rfl ?_
  refine q_wid (show kc + 1 ≤ 1 by omega) (show ks + 4 ≤ 4 by omega) ?_
  obtain rfl := q_some hf
  exact q_iret (pc := 9) C dX9_alive_9 ⟨rfl, hW⟩
theorem z_X9_sure : q_dsc yX9_sure 1 := ⟨by decide +kernel, by decide +kernel, by decide +kernel⟩
theorem n_X9_sure_X9 : ∀ w ∈ wsX90, w ∈ wsX9_sure := fun _ h => (List.mem_cons_of_mem _ (List.mem_append_left _ (List.mem_append_left _ (List.mem_append_right _ h))))
def f_X9_sure_22 (v1 : Int32) (vt0 : Int32) (S : MS) : Option (Int32 × MS) := ((f_X9_isWrong vt0 S).bind fun u2 => (if (q_b u2.1) = 0 then ((f_X9_livingWith u2.2 v1).bind fun u5 => ((f_X9_living u2.2).bind fun u7 => (if u7 = 0 then some ((63 : Int32), u2.2) else ((f_X9_living u2.2).bind fun u10 => (if u5 = u10 then some ((43 : Int32), u2.2) else (if u5 = 0 then some ((45 : Int32), u2.2) else some ((63 : Int32), u2.2))))))) else some ((0 : Int32), u2.2)))
def f_X9_sure (a1 : Int32) (S : MS) : Option (Int32 × MS) := (if (q_b (f_X9_isBetween a1.toInt64 (0 : Int64) (((S.1 2) - (1 : Int32)).toInt64))) = 0 then f_X9_sure_22 a1 (1 : Int32) S else f_X9_sure_22 a1 (0 : Int32) S)
set_option maxRecDepth 100000 in
set_option maxHeartbeats 8000000 in
theorem w_X9_sure_22 {p : Program} {l : Launch} {e : Env} {s : State} {m : MethodId} {args : Array Value} {below : List Frame} {meth : Method} {c : Code} {D : va_G} {cc : Nat → ClassId} {N0 : Nat} {ga : Nat → Nat} {E : va_W} {ad : Nat → Nat → Nat} {v : (Int32 × MS)} (C : q_C p s m args meth c cX9_sure 3 (some .char) wsX9_sure RX9 D cc N0)  (kc : Nat) (ks : Nat) (v1 : Int32) (vt0 : Int32) (S : MS)  (ws : va_W) : f_X9_sure_22  v1 vt0 S = some v → mW cc ga ad S E ws → kc + 3 ≤ 3 → ks + 12 ≤ 12 → q_WA p l e (q_rm (4) (114) 3 12) s m args below meth c D N0 3 (MQ below (q_Q D N0 (fun rv w1 => rv = some (.int v.1) ∧ mW cc ga ad v.2 E w1)) args s 3 12 (q_A N0)) kc ks ws 22 [(0, .ref (ga 0)), (1, .int v1)] [.int vt0, .ref (ga 0)] := by
  intro hf hW b1 b2
  obtain ⟨u2, e3, hf⟩ := q_bind hf
  obtain ⟨_, he⟩ := hW.obj
  refine q_callV (pc := 22) (As := [.int vt0]) (rest := []) C (c_X9_isWrong l D cc N0 ga ad  E S vt0 u2 e3 ws hW) gX9_sure_X9_isWrong rfl rfl z_X9_isWrong ⟨Nat.le_of_ble_eq_true rfl, Nat.le_of_ble_eq_true rfl⟩ he rfl rfl rfl (Nat.le_of_ble_eq_true rfl) dX9_sure_22 ⟨(show (kc) + 0 ≤ 3 by omega), (show (ks) + 0 ≤ 12 by omega)⟩ ?_
  rintro _ ws ⟨rfl, hW⟩
  refine q_nm (wz := ws) (ka := kc) (kb := ks) (sz := [.int (q_b u2.1)]) rfl rfl rfl rfl ?_
  refine q_if_eq (pc := 25) (tgt := 30) C dX9_sure_25 (by decide) (fun c4 => ?_) (fun c4 => ?_)
  · have hf := q_iteT hf c4
    refine q_aload_n (pc := 30) C dX9_sure_30 rfl 0 rfl ?_
    refine q_iload_n (pc := 31) C dX9_sure_31 rfl 1 rfl ?_
    obtain ⟨u5, e6, hf⟩ := q_bind hf
    obtain ⟨_, he⟩ := hW.obj
    refine q_callV (pc := 32) (As := [.int v1]) (rest := []) C (c_X9_livingWith l D cc N0 ga ad  E u2.2 v1 u5 e6 ws hW) gX9_sure_X9_livingWith rfl rfl z_X9_livingWith ⟨Nat.le_of_ble_eq_true rfl, Nat.le_of_ble_eq_true rfl⟩ he rfl rfl rfl (Nat.le_of_ble_eq_true rfl) dX9_sure_32 ⟨(show (kc) + 1 ≤ 3 by omega), (show (ks) + 4 ≤ 12 by omega)⟩ ?_
    rintro _ ws ⟨rfl, hW⟩
    refine q_nm (wz := ws) (ka := kc + 1) (kb := ks + 4) (sz := [.int u5]) rfl rfl rfl rfl ?_
    refine q_istore_n (pc := 35) (lvq := [(2, .int u5), (0, .ref (ga 0)), (1, .int v1)]) C dX9_sure_35 rfl (by decide) rfl ?_
    refine q_aload_n (pc := 36) C dX9_sure_36 rfl 1 rfl ?_
    obtain ⟨u7, e8, hf⟩ := q_bind hf
    obtain ⟨_, he⟩ := hW.obj
    refine q_callV (pc := 37) (As := []) (rest := []) C (c_X9_living l D cc N0 ga ad  E u2.2  u7 e8 ws hW) gX9_sure_X9_living rfl rfl z_X9_living ⟨Nat.le_of_ble_eq_true rfl, Nat.le_of_ble_eq_true rfl⟩ he rfl rfl rfl (Nat.le_of_ble_eq_true rfl) dX9_sure_37 ⟨(show (kc + 1) + 1 ≤ 3 by omega), (show (ks + 4) + 4 ≤ 12 by omega)⟩ ?_
    rintro _ ws ⟨rfl, hW⟩
    refine q_nm (wz := ws) (ka := kc + 2) (kb := ks + 8) (sz := [.int u7]) rfl rfl rfl rfl ?_
    refine q_if_ne (pc := 40) (tgt := 48) C dX9_sure_40 (by decide) (fun c9 => ?_) (fun c9 => ?_)
    · have hf := q_iteF hf c9
      refine q_iload_n (pc := 48) C dX9_sure_48 rfl 0 rfl ?_
      refine q_aload_n (pc := 49) C dX9_sure_49 rfl 1 rfl ?_
      obtain ⟨u10, e11, hf⟩ := q_bind hf
      obtain ⟨_, he⟩ := hW.obj
      refine q_callV (pc := 50) (As := []) (rest := [.int u5]) C (c_X9_living l D cc N0 ga ad  E u2.2  u10 e11 ws hW) gX9_sure_X9_living rfl rfl z_X9_living ⟨Nat.le_of_ble_eq_true rfl, Nat.le_of_ble_eq_true rfl⟩ he rfl rfl rfl (Nat.le_of_ble_eq_true rfl) dX9_sure_50 ⟨(show (kc + 2) + 1 ≤ 3 by omega), (show (ks + 8) + 4 ≤ 12 by omega)⟩ ?_
      rintro _ ws ⟨rfl, hW⟩
      refine q_nm (wz := ws) (ka := kc + 3) (kb := ks + 12) (sz := [.int u10, .int u5]) rfl rfl rfl rfl ?_
      refine q_icmp_ne (pc := 53) (tgt := 61) C dX9_sure_53 (by decide) (fun c12 => ?_) (fun c12 => ?_)
      · have hf := q_iteF hf c12
        refine q_iload_n (pc := 61) C dX9_sure_61 rfl 0 rfl ?_
        refine q_if_ne (pc := 62) (tgt := 70) C dX9_sure_62 (by decide) (fun c13 => ?_) (fun c13 => ?_)
        · have hf := q_iteF hf c13
          refine q_bipush (pc := 70) C (63 : Int32) dX9_sure_70 q_cb_63 ?_
          refine q_wid (show kc + 3 ≤ 3 by omega) (show ks + 12 ≤ 12 by omega) ?_
          obtain rfl := q_some hf
          exact q_zret (pc := 72) C (by decide +kernel) dX9_sure_72 ⟨rfl, hW⟩
        · have hf := q_iteT hf c13
          refine q_bipush (pc := 65) C (45 : Int32) dX9_sure_65 q_cb_45 ?_
          refine q_goto (pc := 67) (tgt := 72) C dX9_sure_67 (by decide) ?_
          refine q_wid (show kc + 3 ≤ 3 by omega) (show ks + 12 ≤ 12 by omega) ?_
          obtain rfl := q_some hf
          exact q_zret (pc := 72) C (by decide +kernel) dX9_sure_72 ⟨rfl, hW⟩
      · have hf := q_iteT hf c12
        refine q_bipush (pc := 56) C (43 : Int32) dX9_sure_56 q_cb_43 ?_
        refine q_goto (pc := 58) (tgt := 72) C dX9_sure_58 (by decide) ?_
        refine q_wid (show kc + 3 ≤ 3 by omega) (show ks + 12 ≤ 12 by omega) ?_
        obtain rfl := q_some hf
        exact q_zret (pc := 72) C (by decide +kernel) dX9_sure_72 ⟨rfl, hW⟩
    · have hf := q_iteT hf c9
      refine q_bipush (pc := 43) C (63 : Int32) dX9_sure_43 q_cb_63 ?_
      refine q_goto (pc := 45) (tgt := 72) C dX9_sure_45 (by decide) ?_
      refine q_wid (show kc + 2 ≤ 3 by omega) (show ks + 8 ≤ 12 by omega) ?_
      obtain rfl := q_some hf
      exact q_zret (pc := 72) C (by decide +kernel) dX9_sure_72 ⟨rfl, hW⟩
  · have hf := q_iteF hf c4
    refine q_iconst (pc := 28) C (0 : Int32) dX9_sure_28 q_ci_0 ?_
    refine q_wid (show kc ≤ 3 by omega) (show ks ≤ 12 by omega) ?_
    obtain rfl := q_some hf
    exact q_zret (pc := 29) C (by decide +kernel) dX9_sure_29 ⟨rfl, hW⟩
set_option maxRecDepth 100000 in
set_option maxHeartbeats 8000000 in
theorem c_X9_sure (l : Launch) (D : va_G) (cc : Nat → ClassId) (N0 : Nat) (ga : Nat → Nat) (ad : Nat → Nat → Nat) (E : va_W) (S : MS) (a1 : Int32) (v : (Int32 × MS)) (hf : f_X9_sure a1 S = some v) (ws : va_W) (hW : mW cc ga ad S E ws) : q_Met l yX9_sure wsX9_sure 4 114 D cc N0 ws [.ref (ga 0), .int a1] (fun rv w1 => rv = some (.int v.1) ∧ mW cc ga ad v.2 E w1) 3 12 := by
  refine q_ofW (code := cX9_sure) (nL := 3) (ret := (some .char)) (by decide +kernel) rfl (Nat.le_of_ble_eq_true rfl) (fun p e s m below meth c C _ => ?_)
  refine q_lv (lv2 := [(0, .ref (ga 0)), (1, .int a1)]) rfl ?_
  obtain ⟨kc, hkc⟩ : ∃ z, z = 0 := ⟨_, rfl⟩
  obtain ⟨ks, hks⟩ : ∃ z, z = 0 := ⟨_, rfl⟩
  refine q_nm (wz := ws) (ka := kc) (kb := ks) (sz := []) rfl hkc.symm hks.symm rfl ?_
  refine q_aload_n (pc := 0) C dX9_sure_0 rfl 0 rfl ?_
  refine q_iload_n (pc := 1) C dX9_sure_1 rfl 1 rfl ?_
  refine q_i2l (pc := 2) C dX9_sure_2 rfl ?_
  refine q_lconst (pc := 3) C (0 : Int64) dX9_sure_3 q_cl_0 ?_
  refine q_aload_n (pc := 4) C dX9_sure_4 rfl 0 rfl ?_
  refine m_g_2 (pc := 5) C hW n_X9_sure_X9 (List.mem_of_getElem? (i := 1) rfl) dX9_sure_5 ?_
  refine q_iconst (pc := 8) C (1 : Int32) dX9_sure_8 q_ci_1 ?_
  refine q_isub (pc := 9) C dX9_sure_9 ?_
  refine q_i2l (pc := 10) C dX9_sure_10 rfl ?_
  refine q_callS (pc := 11) (As := [.long a1.toInt64, .long (0 : Int64), .long (((S.1 2) - (1 : Int32)).toInt64)]) (rest := [.ref (ga 0)]) C (c_X9_isBetween l D cc N0 ws a1.toInt64 (0 : Int64) (((S.1 2) - (1 : Int32)).toInt64) _ rfl) gX9_sure_X9_isBetween rfl z_X9_isBetween ⟨Nat.le_of_ble_eq_true rfl, Nat.le_of_ble_eq_true rfl⟩ rfl rfl (Nat.le_of_ble_eq_true rfl) dX9_sure_11 ⟨(show (kc) ≤ 3 by omega), (show (ks) ≤ 12 by omega)⟩ ?_
  refine q_after (rv := (some (.int (q_b (f_X9_isBetween a1.toInt64 (0 : Int64) (((S.1 2) - (1 : Int32)).toInt64)))))) (w0 := ws) (st2 := [.int (q_b (f_X9_isBetween a1.toInt64 (0 : Int64) (((S.1 2) - (1 : Int32)).toInt64))), .ref (ga 0)]) rfl rfl rfl ?_
  refine q_if_eq (pc := 14) (tgt := 21) C dX9_sure_14 (by decide) (fun c1 => ?_) (fun c1 => ?_)
  · have hf := q_iteT hf c1
    refine q_iconst (pc := 21) C (1 : Int32) dX9_sure_21 q_ci_1 ?_
    refine q_sub (lvq := [(0, .ref (ga 0)), (1, .int a1)]) [0, 1] rfl ?_
    exact w_X9_sure_22 C (kc) (ks) a1 (1 : Int32) S ws hf hW (by omega) (by omega)
  · have hf := q_iteF hf c1
    refine q_iconst (pc := 17) C (0 : Int32) dX9_sure_17 q_ci_0 ?_
    refine q_goto (pc := 18) (tgt := 22) C dX9_sure_18 (by decide) ?_
    refine q_sub (lvq := [(0, .ref (ga 0)), (1, .int a1)]) [0, 1] rfl ?_
    exact w_X9_sure_22 C (kc) (ks) a1 (0 : Int32) S ws hf hW (by omega) (by omega)
theorem z_X9_bestPoint : q_dsc yX9_bestPoint 0 := ⟨by decide +kernel, by decide +kernel, by decide +kernel⟩
theorem n_X9_bestPoint_X9 : ∀ w ∈ wsX90, w ∈ wsX9_bestPoint := fun _ h => (List.mem_cons_of_mem _ (List.mem_append_left _ (List.mem_append_left _ (List.mem_append_right _ h))))
def f_X9_bestPoint_45 (S : MS) (k6 : Int32 → Int32 → Int32 → Option Int32) (v2 : Int32) (v3 : Int32) (v4 : Int32) (vt0 : Int32) : Option Int32 := k6 vt0 (q_max v2 v4) (v3 + (1 : Int32))
def f_X9_bestPoint_6b (S : MS) (k6 : Int32 → Int32 → Int32 → Option Int32) (v1 : Int32) (v2 : Int32) (v3 : Int32) : Option Int32 := (if (S.1 2) ≤ v3 then some v1 else ((f_X9_livingWith S v3).bind fun u2 => ((f_X9_living S).bind fun u4 => ((f_X9_livingWith S v3).bind fun u6 => (if (q_min u2 (u4 - u6)) ≤ v2 then f_X9_bestPoint_45 S k6 v2 v3 (q_min u2 (u4 - u6)) v1 else f_X9_bestPoint_45 S k6 v2 v3 (q_min u2 (u4 - u6)) v3)))))
def f_X9_bestPoint_6 (S : MS) : Nat → Int32 → Int32 → Int32 → Option Int32
  | 0, _, _, _ => none
  | n + 1, v1, v2, v3 => f_X9_bestPoint_6b S (f_X9_bestPoint_6 S n) v1 v2 v3
def f_X9_bestPoint (S : MS) : Option Int32 := f_X9_bestPoint_6 S 10 (0 : Int32) (-1 : Int32) (0 : Int32)
set_option maxRecDepth 100000 in
set_option maxHeartbeats 8000000 in
theorem w_X9_bestPoint_45 {p : Program} {l : Launch} {e : Env} {s : State} {m : MethodId} {args : Array Value} {below : List Frame} {meth : Method} {c : Code} {D : va_G} {cc : Nat → ClassId} {N0 : Nat} {ga : Nat → Nat} {E : va_W} {ad : Nat → Nat → Nat} {S : MS} {k6 : Int32 → Int32 → Int32 → Option Int32} {n6 : Nat} {v : Int32} (C : q_C p s m args meth c cX9_bestPoint 5 (some .int) wsX9_bestPoint RX9 D cc N0) (hk6 : ∀ (kc : Nat) (ks : Nat) (v1 : Int32) (v2 : Int32) (v3 : Int32)  (ws : va_W), k6 v1 v2 v3 = some v → mW cc ga ad S E ws → kc + 0 + n6 * 3 ≤ 30 → ks + 0 + n6 * 12 ≤ 120 → q_WA p l e (q_rm (4) (114) 30 120) s m args below meth c D N0 5 (MQ below (q_Q D N0 (fun rv w1 => rv = some (.int v) ∧ mW cc ga ad S E w1)) args s 30 120 (q_A N0)) kc ks ws 6 [(0, .ref (ga 0)), (1, .int v1), (2, .int v2), (3, .int v3)] []) (kc : Nat) (ks : Nat) (v2 : Int32) (v3 : Int32) (v4 : Int32) (vt0 : Int32)  (ws : va_W) : f_X9_bestPoint_45 S k6 v2 v3 v4 vt0 = some v → mW cc ga ad S E ws → kc + 0 + n6 * 3 ≤ 30 → ks + 0 + n6 * 12 ≤ 120 → q_WA p l e (q_rm (4) (114) 30 120) s m args below meth c D N0 5 (MQ below (q_Q D N0 (fun rv w1 => rv = some (.int v) ∧ mW cc ga ad S E w1)) args s 30 120 (q_A N0)) kc ks ws 45 [(0, .ref (ga 0)), (2, .int v2), (3, .int v3), (4, .int v4)] [.int vt0] := by
  intro hf hW b1 b2
  refine q_istore_n (pc := 45) (lvq := [(1, .int vt0), (0, .ref (ga 0)), (2, .int v2), (3, .int v3), (4, .int v4)]) C dX9_bestPoint_45 rfl (by decide) rfl ?_
  refine q_iload_n (pc := 46) C dX9_bestPoint_46 rfl 2 rfl ?_
  refine q_iload (pc := 47) C dX9_bestPoint_47 4 rfl ?_
  refine q_mmax (pc := 49) C (List.mem_of_getElem? (i := 6) rfl) (List.mem_of_getElem? (i := 7) rfl) (List.mem_of_getElem? (i := 4) rfl) (List.mem_of_getElem? (i := 8) rfl) (Nat.le_of_ble_eq_true rfl) (Nat.le_of_ble_eq_true rfl) ⟨(show (kc) ≤ 30 by omega), (show (ks) ≤ 120 by omega)⟩ dX9_bestPoint_49 ?_
  refine q_istore_n (pc := 52) (lvq := [(2, .int (q_max v2 v4)), (1, .int vt0), (0, .ref (ga 0)), (3, .int v3), (4, .int v4)]) C dX9_bestPoint_52 rfl (by decide) rfl ?_
  refine q_iinc (pc := 53) (lvq := [(3, .int (v3 + (1 : Int32))), (2, .int (q_max v2 v4)), (1, .int vt0), (0, .ref (ga 0)), (4, .int v4)]) C (v3 + (1 : Int32)) dX9_bestPoint_53 3 rfl q_ca_1 (by decide) rfl ?_
  refine q_goto (pc := 56) (tgt := 6) C dX9_bestPoint_56 (by decide) ?_
  refine q_sub (lvq := [(0, .ref (ga 0)), (1, .int vt0), (2, .int (q_max v2 v4)), (3, .int (v3 + (1 : Int32)))]) [3, 2, 1, 0] rfl ?_
  exact hk6 (kc) (ks) vt0 (q_max v2 v4) (v3 + (1 : Int32)) ws hf hW (by omega) (by omega)
set_option maxRecDepth 100000 in
set_option maxHeartbeats 8000000 in
theorem w_X9_bestPoint_6 {p : Program} {l : Launch} {e : Env} {s : State} {m : MethodId} {args : Array Value} {below : List Frame} {meth : Method} {c : Code} {D : va_G} {cc : Nat → ClassId} {N0 : Nat} {ga : Nat → Nat} {E : va_W} {ad : Nat → Nat → Nat} {S : MS} {v : Int32} (C : q_C p s m args meth c cX9_bestPoint 5 (some .int) wsX9_bestPoint RX9 D cc N0)  : ∀ (n : Nat) (kc : Nat) (ks : Nat) (v1 : Int32) (v2 : Int32) (v3 : Int32)  (ws : va_W), f_X9_bestPoint_6 S n v1 v2 v3 = some v → mW cc ga ad S E ws → kc + 0 + n * 3 ≤ 30 → ks + 0 + n * 12 ≤ 120 → q_WA p l e (q_rm (4) (114) 30 120) s m args below meth c D N0 5 (MQ below (q_Q D N0 (fun rv w1 => rv = some (.int v) ∧ mW cc ga ad S E w1)) args s 30 120 (q_A N0)) kc ks ws 6 [(0, .ref (ga 0)), (1, .int v1), (2, .int v2), (3, .int v3)] [] := by
  intro n
  induction n with
  | zero => intro kc ks v1 v2 v3 ws hf; cases hf
  | succ n ih =>
    intro kc ks v1 v2 v3 ws hf hW b1 b2
    have hk6 : ∀ (kc : Nat) (ks : Nat) (v1 : Int32) (v2 : Int32) (v3 : Int32)  (ws : va_W), f_X9_bestPoint_6 S n v1 v2 v3 = some v → mW cc ga ad S E ws → kc + 0 + n * 3 ≤ 30 → ks + 0 + n * 12 ≤ 120 → q_WA p l e (q_rm (4) (114) 30 120) s m args below meth c D N0 5 (MQ below (q_Q D N0 (fun rv w1 => rv = some (.int v) ∧ mW cc ga ad S E w1)) args s 30 120 (q_A N0)) kc ks ws 6 [(0, .ref (ga 0)), (1, .int v1), (2, .int v2), (3, .int v3)] [] := ih
    have hf : f_X9_bestPoint_6b S (f_X9_bestPoint_6 S n) v1 v2 v3 = some v := hf
    simp only [Nat.succ_mul, Nat.add_mul] at b1 b2
    refine q_iload_n (pc := 6) C dX9_bestPoint_6 rfl 3 rfl ?_
    refine q_aload_n (pc := 7) C dX9_bestPoint_7 rfl 0 rfl ?_
    refine m_g_2 (pc := 8) C hW n_X9_bestPoint_X9 (List.mem_of_getElem? (i := 1) rfl) dX9_bestPoint_8 ?_
    refine q_icmp_ge (pc := 11) (tgt := 59) C dX9_bestPoint_11 (by decide) (fun c1 => ?_) (fun c1 => ?_)
    · have hf := q_iteT hf c1
      refine q_iload_n (pc := 59) C dX9_bestPoint_59 rfl 1 rfl ?_
      refine q_wid (show kc ≤ 30 by omega) (show ks ≤ 120 by omega) ?_
      obtain rfl := q_some hf
      exact q_iret (pc := 60) C dX9_bestPoint_60 ⟨rfl, hW⟩
    · have hf := q_iteF hf c1
      refine q_aload_n (pc := 14) C dX9_bestPoint_14 rfl 0 rfl ?_
      refine q_iload_n (pc := 15) C dX9_bestPoint_15 rfl 3 rfl ?_
      obtain ⟨u2, e3, hf⟩ := q_bind hf
      obtain ⟨_, he⟩ := hW.obj
      refine q_callV (pc := 16) (As := [.int v3]) (rest := []) C (c_X9_livingWith l D cc N0 ga ad  E S v3 u2 e3 ws hW) gX9_bestPoint_X9_livingWith rfl rfl z_X9_livingWith ⟨Nat.le_of_ble_eq_true rfl, Nat.le_of_ble_eq_true rfl⟩ he rfl rfl rfl (Nat.le_of_ble_eq_true rfl) dX9_bestPoint_16 ⟨(show (kc) + 1 ≤ 30 by omega), (show (ks) + 4 ≤ 120 by omega)⟩ ?_
      rintro _ ws ⟨rfl, hW⟩
      refine q_nm (wz := ws) (ka := kc + 1) (kb := ks + 4) (sz := [.int u2]) rfl rfl rfl rfl ?_
      refine q_aload_n (pc := 19) C dX9_bestPoint_19 rfl 0 rfl ?_
      obtain ⟨u4, e5, hf⟩ := q_bind hf
      obtain ⟨_, he⟩ := hW.obj
      refine q_callV (pc := 20) (As := []) (rest := [.int u2]) C (c_X9_living l D cc N0 ga ad  E S  u4 e5 ws hW) gX9_bestPoint_X9_living rfl rfl z_X9_living ⟨Nat.le_of_ble_eq_true rfl, Nat.le_of_ble_eq_true rfl⟩ he rfl rfl rfl (Nat.le_of_ble_eq_true rfl) dX9_bestPoint_20 ⟨(show (kc + 1) + 1 ≤ 30 by omega), (show (ks + 4) + 4 ≤ 120 by omega)⟩ ?_
      rintro _ ws ⟨rfl, hW⟩
      refine q_nm (wz := ws) (ka := kc + 2) (kb := ks + 8) (sz := [.int u4, .int u2]) rfl rfl rfl rfl ?_
      refine q_aload_n (pc := 23) C dX9_bestPoint_23 rfl 0 rfl ?_
      refine q_iload_n (pc := 24) C dX9_bestPoint_24 rfl 3 rfl ?_
      obtain ⟨u6, e7, hf⟩ := q_bind hf
      obtain ⟨_, he⟩ := hW.obj
      refine q_callV (pc := 25) (As := [.int v3]) (rest := [.int u4, .int u2]) C (c_X9_livingWith l D cc N0 ga ad  E S v3 u6 e7 ws hW) gX9_bestPoint_X9_livingWith rfl rfl z_X9_livingWith ⟨Nat.le_of_ble_eq_true rfl, Nat.le_of_ble_eq_true rfl⟩ he rfl rfl rfl (Nat.le_of_ble_eq_true rfl) dX9_bestPoint_25 ⟨(show (kc + 2) + 1 ≤ 30 by omega), (show (ks + 8) + 4 ≤ 120 by omega)⟩ ?_
      rintro _ ws ⟨rfl, hW⟩
      refine q_nm (wz := ws) (ka := kc + 3) (kb := ks + 12) (sz := [.int u6, .int u4, .int u2]) rfl rfl rfl rfl ?_
      refine q_isub (pc := 28) C dX9_bestPoint_28 ?_
      refine q_mmin (pc := 29) C (List.mem_of_getElem? (i := 2) rfl) (List.mem_of_getElem? (i := 3) rfl) (List.mem_of_getElem? (i := 4) rfl) (List.mem_of_getElem? (i := 5) rfl) (Nat.le_of_ble_eq_true rfl) (Nat.le_of_ble_eq_true rfl) ⟨(show (kc + 3) ≤ 30 by omega), (show (ks + 12) ≤ 120 by omega)⟩ dX9_bestPoint_29 ?_
      refine q_istore (pc := 32) (lvq := [(4, .int (q_min u2 (u4 - u6))), (0, .ref (ga 0)), (1, .int v1), (2, .int v2), (3, .int v3)]) C dX9_bestPoint_32 (by decide) rfl ?_
      refine q_iload (pc := 34) C dX9_bestPoint_34 0 rfl ?_
      refine q_iload_n (pc := 36) C dX9_bestPoint_36 rfl 3 rfl ?_
      refine q_icmp_le (pc := 37) (tgt := 44) C dX9_bestPoint_37 (by decide) (fun c8 => ?_) (fun c8 => ?_)
      · have hf := q_iteT hf c8
        refine q_iload_n (pc := 44) C dX9_bestPoint_44 rfl 2 rfl ?_
        refine q_sub (lvq := [(0, .ref (ga 0)), (2, .int v2), (3, .int v3), (4, .int (q_min u2 (u4 - u6)))]) [1, 3, 4, 0] rfl ?_
        exact w_X9_bestPoint_45 C hk6 (kc + 3) (ks + 12) v2 v3 (q_min u2 (u4 - u6)) v1 ws hf hW (by omega) (by omega)
      · have hf := q_iteF hf c8
        refine q_iload_n (pc := 40) C dX9_bestPoint_40 rfl 4 rfl ?_
        refine q_goto (pc := 41) (tgt := 45) C dX9_bestPoint_41 (by decide) ?_
        refine q_sub (lvq := [(0, .ref (ga 0)), (2, .int v2), (3, .int v3), (4, .int (q_min u2 (u4 - u6)))]) [1, 3, 4, 0] rfl ?_
        exact w_X9_bestPoint_45 C hk6 (kc + 3) (ks + 12) v2 v3 (q_min u2 (u4 - u6)) v3 ws hf hW (by omega) (by omega)
set_option maxRecDepth 100000 in
set_option maxHeartbeats 8000000 in
theorem c_X9_bestPoint (l : Launch) (D : va_G) (cc : Nat → ClassId) (N0 : Nat) (ga : Nat → Nat) (ad : Nat → Nat → Nat) (E : va_W) (S : MS) (v : Int32) (hf : f_X9_bestPoint S = some v) (ws : va_W) (hW : mW cc ga ad S E ws) : q_Met l yX9_bestPoint wsX9_bestPoint 4 114 D cc N0 ws [.ref (ga 0)] (fun rv w1 => rv = some (.int v) ∧ mW cc ga ad S E w1) 30 120 := by
  refine q_ofW (code := cX9_bestPoint) (nL := 5) (ret := (some .int)) (by decide +kernel) rfl (Nat.le_of_ble_eq_true rfl) (fun p e s m below meth c C _ => ?_)
  refine q_lv (lv2 := [(0, .ref (ga 0))]) rfl ?_
  obtain ⟨kc, hkc⟩ : ∃ z, z = 0 := ⟨_, rfl⟩
  obtain ⟨ks, hks⟩ : ∃ z, z = 0 := ⟨_, rfl⟩
  refine q_nm (wz := ws) (ka := kc) (kb := ks) (sz := []) rfl hkc.symm hks.symm rfl ?_
  refine q_iconst (pc := 0) C (0 : Int32) dX9_bestPoint_0 q_ci_0 ?_
  refine q_istore_n (pc := 1) (lvq := [(1, .int (0 : Int32)), (0, .ref (ga 0))]) C dX9_bestPoint_1 rfl (by decide) rfl ?_
  refine q_iconst (pc := 2) C (-1 : Int32) dX9_bestPoint_2 q_ci_m1 ?_
  refine q_istore_n (pc := 3) (lvq := [(2, .int (-1 : Int32)), (1, .int (0 : Int32)), (0, .ref (ga 0))]) C dX9_bestPoint_3 rfl (by decide) rfl ?_
  refine q_iconst (pc := 4) C (0 : Int32) dX9_bestPoint_4 q_ci_0 ?_
  refine q_istore_n (pc := 5) (lvq := [(3, .int (0 : Int32)), (2, .int (-1 : Int32)), (1, .int (0 : Int32)), (0, .ref (ga 0))]) C dX9_bestPoint_5 rfl (by decide) rfl ?_
  refine q_sub (lvq := [(0, .ref (ga 0)), (1, .int (0 : Int32)), (2, .int (-1 : Int32)), (3, .int (0 : Int32))]) [3, 2, 1, 0] rfl ?_
  exact w_X9_bestPoint_6 C 10 (kc) (ks) (0 : Int32) (-1 : Int32) (0 : Int32) ws hf hW (by omega) (by omega)
theorem z_X9_best : q_dsc yX9_best 0 := ⟨by decide +kernel, by decide +kernel, by decide +kernel⟩
def f_X9_best_14 (vt0 : Int32) (S : MS) : Option (Int32 × MS) := ((f_X9_isWrong vt0 S).bind fun u4 => (if (q_b u4.1) = 0 then ((f_X9_bestPoint u4.2).bind fun u7 => some (u7, u4.2)) else some ((0 : Int32), u4.2)))
def f_X9_best (S : MS) : Option (Int32 × MS) := ((f_X9_living S).bind fun u1 => (if (2 : Int32) ≤ u1 then f_X9_best_14 (0 : Int32) S else f_X9_best_14 (1 : Int32) S))
set_option maxRecDepth 100000 in
set_option maxHeartbeats 8000000 in
theorem w_X9_best_14 {p : Program} {l : Launch} {e : Env} {s : State} {m : MethodId} {args : Array Value} {below : List Frame} {meth : Method} {c : Code} {D : va_G} {cc : Nat → ClassId} {N0 : Nat} {ga : Nat → Nat} {E : va_W} {ad : Nat → Nat → Nat} {v : (Int32 × MS)} (C : q_C p s m args meth c cX9_best 1 (some .int) wsX9_best RX9 D cc N0)  (kc : Nat) (ks : Nat) (vt0 : Int32) (S : MS)  (ws : va_W) : f_X9_best_14  vt0 S = some v → mW cc ga ad S E ws → kc + 30 ≤ 31 → ks + 120 ≤ 124 → q_WA p l e (q_rm (5) (138) 31 124) s m args below meth c D N0 1 (MQ below (q_Q D N0 (fun rv w1 => rv = some (.int v.1) ∧ mW cc ga ad v.2 E w1)) args s 31 124 (q_A N0)) kc ks ws 14 [(0, .ref (ga 0))] [.int vt0, .ref (ga 0)] := by
  intro hf hW b1 b2
  obtain ⟨u4, e5, hf⟩ := q_bind hf
  obtain ⟨_, he⟩ := hW.obj
  refine q_callV (pc := 14) (As := [.int vt0]) (rest := []) C (c_X9_isWrong l D cc N0 ga ad  E S vt0 u4 e5 ws hW) gX9_best_X9_isWrong rfl rfl z_X9_isWrong ⟨Nat.le_of_ble_eq_true rfl, Nat.le_of_ble_eq_true rfl⟩ he rfl rfl rfl (Nat.le_of_ble_eq_true rfl) dX9_best_14 ⟨(show (kc) + 0 ≤ 31 by omega), (show (ks) + 0 ≤ 124 by omega)⟩ ?_
  rintro _ ws ⟨rfl, hW⟩
  refine q_nm (wz := ws) (ka := kc) (kb := ks) (sz := [.int (q_b u4.1)]) rfl rfl rfl rfl ?_
  refine q_if_eq (pc := 17) (tgt := 24) C dX9_best_17 (by decide) (fun c6 => ?_) (fun c6 => ?_)
  · have hf := q_iteT hf c6
    refine q_aload_n (pc := 24) C dX9_best_24 rfl 0 rfl ?_
    obtain ⟨u7, e8, hf⟩ := q_bind hf
    obtain ⟨_, he⟩ := hW.obj
    refine q_callV (pc := 25) (As := []) (rest := []) C (c_X9_bestPoint l D cc N0 ga ad  E u4.2  u7 e8 ws hW) gX9_best_X9_bestPoint rfl rfl z_X9_bestPoint ⟨Nat.le_of_ble_eq_true rfl, Nat.le_of_ble_eq_true rfl⟩ he rfl rfl rfl (Nat.le_of_ble_eq_true rfl) dX9_best_25 ⟨(show (kc) + 30 ≤ 31 by omega), (show (ks) + 120 ≤ 124 by omega)⟩ ?_
    rintro _ ws ⟨rfl, hW⟩
    refine q_nm (wz := ws) (ka := kc + 30) (kb := ks + 120) (sz := [.int u7]) rfl rfl rfl rfl ?_
    refine q_wid (show kc + 30 ≤ 31 by omega) (show ks + 120 ≤ 124 by omega) ?_
    obtain rfl := q_some hf
    exact q_iret (pc := 28) C dX9_best_28 ⟨rfl, hW⟩
  · have hf := q_iteF hf c6
    refine q_iconst (pc := 20) C (0 : Int32) dX9_best_20 q_ci_0 ?_
    refine q_goto (pc := 21) (tgt := 28) C dX9_best_21 (by decide) ?_
    refine q_wid (show kc ≤ 31 by omega) (show ks ≤ 124 by omega) ?_
    obtain rfl := q_some hf
    exact q_iret (pc := 28) C dX9_best_28 ⟨rfl, hW⟩
set_option maxRecDepth 100000 in
set_option maxHeartbeats 8000000 in
theorem c_X9_best (l : Launch) (D : va_G) (cc : Nat → ClassId) (N0 : Nat) (ga : Nat → Nat) (ad : Nat → Nat → Nat) (E : va_W) (S : MS) (v : (Int32 × MS)) (hf : f_X9_best S = some v) (ws : va_W) (hW : mW cc ga ad S E ws) : q_Met l yX9_best wsX9_best 5 138 D cc N0 ws [.ref (ga 0)] (fun rv w1 => rv = some (.int v.1) ∧ mW cc ga ad v.2 E w1) 31 124 := by
  refine q_ofW (code := cX9_best) (nL := 1) (ret := (some .int)) (by decide +kernel) rfl (Nat.le_of_ble_eq_true rfl) (fun p e s m below meth c C _ => ?_)
  refine q_lv (lv2 := [(0, .ref (ga 0))]) rfl ?_
  obtain ⟨kc, hkc⟩ : ∃ z, z = 0 := ⟨_, rfl⟩
  obtain ⟨ks, hks⟩ : ∃ z, z = 0 := ⟨_, rfl⟩
  refine q_nm (wz := ws) (ka := kc) (kb := ks) (sz := []) rfl hkc.symm hks.symm rfl ?_
  refine q_aload_n (pc := 0) C dX9_best_0 rfl 0 rfl ?_
  refine q_aload_n (pc := 1) C dX9_best_1 rfl 0 rfl ?_
  obtain ⟨u1, e2, hf⟩ := q_bind hf
  obtain ⟨_, he⟩ := hW.obj
  refine q_callV (pc := 2) (As := []) (rest := [.ref (ga 0)]) C (c_X9_living l D cc N0 ga ad  E S  u1 e2 ws hW) gX9_best_X9_living rfl rfl z_X9_living ⟨Nat.le_of_ble_eq_true rfl, Nat.le_of_ble_eq_true rfl⟩ he rfl rfl rfl (Nat.le_of_ble_eq_true rfl) dX9_best_2 ⟨(show (kc) + 1 ≤ 31 by omega), (show (ks) + 4 ≤ 124 by omega)⟩ ?_
  rintro _ ws ⟨rfl, hW⟩
  refine q_nm (wz := ws) (ka := kc + 1) (kb := ks + 4) (sz := [.int u1, .ref (ga 0)]) rfl rfl rfl rfl ?_
  refine q_iconst (pc := 5) C (2 : Int32) dX9_best_5 q_ci_2 ?_
  refine q_icmp_ge (pc := 6) (tgt := 13) C dX9_best_6 (by decide) (fun c3 => ?_) (fun c3 => ?_)
  · have hf := q_iteT hf c3
    refine q_iconst (pc := 13) C (0 : Int32) dX9_best_13 q_ci_0 ?_
    refine q_sub (lvq := [(0, .ref (ga 0))]) [0] rfl ?_
    exact w_X9_best_14 C (kc + 1) (ks + 4) (0 : Int32) S ws hf hW (by omega) (by omega)
  · have hf := q_iteF hf c3
    refine q_iconst (pc := 9) C (1 : Int32) dX9_best_9 q_ci_1 ?_
    refine q_goto (pc := 10) (tgt := 14) C dX9_best_10 (by decide) ?_
    refine q_sub (lvq := [(0, .ref (ga 0))]) [0] rfl ?_
    exact w_X9_best_14 C (kc + 1) (ks + 4) (1 : Int32) S ws hf hW (by omega) (by omega)
theorem z_X9_learn : q_dsc yX9_learn 0 := ⟨by decide +kernel, by decide +kernel, by decide +kernel⟩
theorem n_X9_learn_X9 : ∀ w ∈ wsX90, w ∈ wsX9_learn := fun _ h => (List.mem_cons_of_mem _ (List.mem_append_left _ (List.mem_append_left _ (List.mem_append_right _ h))))
def f_X9_learn_25b (k25 : Int32 → MS → Option (Int32 × MS)) (v1 : Int32) (S : MS) : Option (Int32 × MS) := ((f_X9_living S).bind fun u5 => (if u5 < (2 : Int32) then some (v1, S) else (if (40 : Int32) ≤ (S.1 3) then some (v1, S) else ((f_X9_bestPoint S).bind fun u9 => ((f_X9_asks u9 S).bind fun u11 => k25 (v1 + (1 : Int32)) u11.2)))))
def f_X9_learn_25 : Nat → Int32 → MS → Option (Int32 × MS)
  | 0, _, _ => none
  | n + 1, v1, S => f_X9_learn_25b  (f_X9_learn_25  n) v1 S
def f_X9_learn_15 (vt0 : Int32) (S : MS) : Option (Int32 × MS) := ((f_X9_isWrong vt0 S).bind fun u2 => (if (q_b u2.1) = 0 then f_X9_learn_25 45 (0 : Int32) u2.2 else some ((0 : Int32), u2.2)))
def f_X9_learn (S : MS) : Option (Int32 × MS) := (if (S.1 7) = (45 : Int32) then f_X9_learn_15 (1 : Int32) S else f_X9_learn_15 (0 : Int32) S)
set_option maxRecDepth 100000 in
set_option maxHeartbeats 8000000 in
theorem w_X9_learn_25 {p : Program} {l : Launch} {e : Env} {s : State} {m : MethodId} {args : Array Value} {below : List Frame} {meth : Method} {c : Code} {D : va_G} {cc : Nat → ClassId} {N0 : Nat} {ga : Nat → Nat} {E : va_W} {ad : Nat → Nat → Nat} {v : (Int32 × MS)} (C : q_C p s m args meth c cX9_learn 2 (some .int) wsX9_learn RX9 D cc N0)  : ∀ (n : Nat) (kc : Nat) (ks : Nat) (v1 : Int32) (S : MS)  (ws : va_W), f_X9_learn_25  n v1 S = some v → mW cc ga ad S E ws → kc + 1 + n * 34 ≤ 1600 → ks + 4 + n * 136 ≤ 6400 → q_WA p l e (q_rm (6) (160) 1600 6400) s m args below meth c D N0 2 (MQ below (q_Q D N0 (fun rv w1 => rv = some (.int v.1) ∧ mW cc ga ad v.2 E w1)) args s 1600 6400 (q_A N0)) kc ks ws 25 [(0, .ref (ga 0)), (1, .int v1)] [] := by
  intro n
  induction n with
  | zero => intro kc ks v1 S ws hf; cases hf
  | succ n ih =>
    intro kc ks v1 S ws hf hW b1 b2
    have hk25 : ∀ (kc : Nat) (ks : Nat) (v1 : Int32) (S : MS)  (ws : va_W), f_X9_learn_25  n v1 S = some v → mW cc ga ad S E ws → kc + 1 + n * 34 ≤ 1600 → ks + 4 + n * 136 ≤ 6400 → q_WA p l e (q_rm (6) (160) 1600 6400) s m args below meth c D N0 2 (MQ below (q_Q D N0 (fun rv w1 => rv = some (.int v.1) ∧ mW cc ga ad v.2 E w1)) args s 1600 6400 (q_A N0)) kc ks ws 25 [(0, .ref (ga 0)), (1, .int v1)] [] := ih
    have hf : f_X9_learn_25b  (f_X9_learn_25  n) v1 S = some v := hf
    simp only [Nat.succ_mul, Nat.add_mul] at b1 b2
    refine q_aload_n (pc := 25) C dX9_learn_25 rfl 0 rfl ?_
    obtain ⟨u5, e6, hf⟩ := q_bind hf
    obtain ⟨_, he⟩ := hW.obj
    refine q_callV (pc := 26) (As := []) (rest := []) C (c_X9_living l D cc N0 ga ad  E S  u5 e6 ws hW) gX9_learn_X9_living rfl rfl z_X9_living ⟨Nat.le_of_ble_eq_true rfl, Nat.le_of_ble_eq_true rfl⟩ he rfl rfl rfl (Nat.le_of_ble_eq_true rfl) dX9_learn_26 ⟨(show (kc) + 1 ≤ 1600 by omega), (show (ks) + 4 ≤ 6400 by omega)⟩ ?_
    rintro _ ws ⟨rfl, hW⟩
    refine q_nm (wz := ws) (ka := kc + 1) (kb := ks + 4) (sz := [.int u5]) rfl rfl rfl rfl ?_
    refine q_iconst (pc := 29) C (2 : Int32) dX9_learn_29 q_ci_2 ?_
    refine q_icmp_lt (pc := 30) (tgt := 57) C dX9_learn_30 (by decide) (fun c7 => ?_) (fun c7 => ?_)
    · have hf := q_iteT hf c7
      refine q_iload_n (pc := 57) C dX9_learn_57 rfl 1 rfl ?_
      refine q_wid (show kc + 1 ≤ 1600 by omega) (show ks + 4 ≤ 6400 by omega) ?_
      obtain rfl := q_some hf
      exact q_iret (pc := 58) C dX9_learn_58 ⟨rfl, hW⟩
    · have hf := q_iteF hf c7
      refine q_aload_n (pc := 33) C dX9_learn_33 rfl 0 rfl ?_
      refine m_g_3 (pc := 34) C hW n_X9_learn_X9 (List.mem_of_getElem? (i := 2) rfl) dX9_learn_34 ?_
      refine q_bipush (pc := 37) C (40 : Int32) dX9_learn_37 q_cb_40 ?_
      refine q_icmp_ge (pc := 39) (tgt := 57) C dX9_learn_39 (by decide) (fun c8 => ?_) (fun c8 => ?_)
      · have hf := q_iteT hf c8
        refine q_iload_n (pc := 57) C dX9_learn_57 rfl 1 rfl ?_
        refine q_wid (show kc + 1 ≤ 1600 by omega) (show ks + 4 ≤ 6400 by omega) ?_
        obtain rfl := q_some hf
        exact q_iret (pc := 58) C dX9_learn_58 ⟨rfl, hW⟩
      · have hf := q_iteF hf c8
        refine q_aload_n (pc := 42) C dX9_learn_42 rfl 0 rfl ?_
        refine q_aload_n (pc := 43) C dX9_learn_43 rfl 0 rfl ?_
        obtain ⟨u9, e10, hf⟩ := q_bind hf
        obtain ⟨_, he⟩ := hW.obj
        refine q_callV (pc := 44) (As := []) (rest := [.ref (ga 0)]) C (c_X9_bestPoint l D cc N0 ga ad  E S  u9 e10 ws hW) gX9_learn_X9_bestPoint rfl rfl z_X9_bestPoint ⟨Nat.le_of_ble_eq_true rfl, Nat.le_of_ble_eq_true rfl⟩ he rfl rfl rfl (Nat.le_of_ble_eq_true rfl) dX9_learn_44 ⟨(show (kc + 1) + 30 ≤ 1600 by omega), (show (ks + 4) + 120 ≤ 6400 by omega)⟩ ?_
        rintro _ ws ⟨rfl, hW⟩
        refine q_nm (wz := ws) (ka := kc + 31) (kb := ks + 124) (sz := [.int u9, .ref (ga 0)]) rfl rfl rfl rfl ?_
        obtain ⟨u11, e12, hf⟩ := q_bind hf
        obtain ⟨_, he⟩ := hW.obj
        refine q_callV (pc := 47) (As := [.int u9]) (rest := []) C (c_X9_asks l D cc N0 ga ad  E S u9 u11 e12 ws hW) gX9_learn_X9_asks rfl rfl z_X9_asks ⟨Nat.le_of_ble_eq_true rfl, Nat.le_of_ble_eq_true rfl⟩ he rfl rfl rfl (Nat.le_of_ble_eq_true rfl) dX9_learn_47 ⟨(show (kc + 31) + 3 ≤ 1600 by omega), (show (ks + 124) + 12 ≤ 6400 by omega)⟩ ?_
        rintro _ ws ⟨rfl, hW⟩
        refine q_nm (wz := ws) (ka := kc + 34) (kb := ks + 136) (sz := [.int (q_b u11.1)]) rfl rfl rfl rfl ?_
        refine q_pop (pc := 50) C dX9_learn_50 rfl ?_
        refine q_iinc (pc := 51) (lvq := [(1, .int (v1 + (1 : Int32))), (0, .ref (ga 0))]) C (v1 + (1 : Int32)) dX9_learn_51 1 rfl q_ca_1 (by decide) rfl ?_
        refine q_goto (pc := 54) (tgt := 25) C dX9_learn_54 (by decide) ?_
        refine q_sub (lvq := [(0, .ref (ga 0)), (1, .int (v1 + (1 : Int32)))]) [1, 0] rfl ?_
        exact hk25 (kc + 34) (ks + 136) (v1 + (1 : Int32)) u11.2 ws hf hW (by omega) (by omega)
set_option maxRecDepth 100000 in
set_option maxHeartbeats 8000000 in
theorem w_X9_learn_15 {p : Program} {l : Launch} {e : Env} {s : State} {m : MethodId} {args : Array Value} {below : List Frame} {meth : Method} {c : Code} {D : va_G} {cc : Nat → ClassId} {N0 : Nat} {ga : Nat → Nat} {E : va_W} {ad : Nat → Nat → Nat} {v : (Int32 × MS)} (C : q_C p s m args meth c cX9_learn 2 (some .int) wsX9_learn RX9 D cc N0)  (kc : Nat) (ks : Nat) (vt0 : Int32) (S : MS)  (ws : va_W) : f_X9_learn_15  vt0 S = some v → mW cc ga ad S E ws → kc + 1531 ≤ 1600 → ks + 6124 ≤ 6400 → q_WA p l e (q_rm (6) (160) 1600 6400) s m args below meth c D N0 2 (MQ below (q_Q D N0 (fun rv w1 => rv = some (.int v.1) ∧ mW cc ga ad v.2 E w1)) args s 1600 6400 (q_A N0)) kc ks ws 15 [(0, .ref (ga 0))] [.int vt0, .ref (ga 0)] := by
  intro hf hW b1 b2
  obtain ⟨u2, e3, hf⟩ := q_bind hf
  obtain ⟨_, he⟩ := hW.obj
  refine q_callV (pc := 15) (As := [.int vt0]) (rest := []) C (c_X9_isWrong l D cc N0 ga ad  E S vt0 u2 e3 ws hW) gX9_learn_X9_isWrong rfl rfl z_X9_isWrong ⟨Nat.le_of_ble_eq_true rfl, Nat.le_of_ble_eq_true rfl⟩ he rfl rfl rfl (Nat.le_of_ble_eq_true rfl) dX9_learn_15 ⟨(show (kc) + 0 ≤ 1600 by omega), (show (ks) + 0 ≤ 6400 by omega)⟩ ?_
  rintro _ ws ⟨rfl, hW⟩
  refine q_nm (wz := ws) (ka := kc) (kb := ks) (sz := [.int (q_b u2.1)]) rfl rfl rfl rfl ?_
  refine q_if_eq (pc := 18) (tgt := 23) C dX9_learn_18 (by decide) (fun c4 => ?_) (fun c4 => ?_)
  · have hf := q_iteT hf c4
    refine q_iconst (pc := 23) C (0 : Int32) dX9_learn_23 q_ci_0 ?_
    refine q_istore_n (pc := 24) (lvq := [(1, .int (0 : Int32)), (0, .ref (ga 0))]) C dX9_learn_24 rfl (by decide) rfl ?_
    refine q_sub (lvq := [(0, .ref (ga 0)), (1, .int (0 : Int32))]) [1, 0] rfl ?_
    exact w_X9_learn_25 C 45 (kc) (ks) (0 : Int32) u2.2 ws hf hW (by omega) (by omega)
  · have hf := q_iteF hf c4
    refine q_iconst (pc := 21) C (0 : Int32) dX9_learn_21 q_ci_0 ?_
    refine q_wid (show kc ≤ 1600 by omega) (show ks ≤ 6400 by omega) ?_
    obtain rfl := q_some hf
    exact q_iret (pc := 22) C dX9_learn_22 ⟨rfl, hW⟩
set_option maxRecDepth 100000 in
set_option maxHeartbeats 8000000 in
theorem c_X9_learn (l : Launch) (D : va_G) (cc : Nat → ClassId) (N0 : Nat) (ga : Nat → Nat) (ad : Nat → Nat → Nat) (E : va_W) (S : MS) (v : (Int32 × MS)) (hf : f_X9_learn S = some v) (ws : va_W) (hW : mW cc ga ad S E ws) : q_Met l yX9_learn wsX9_learn 6 160 D cc N0 ws [.ref (ga 0)] (fun rv w1 => rv = some (.int v.1) ∧ mW cc ga ad v.2 E w1) 1600 6400 := by
  refine q_ofW (code := cX9_learn) (nL := 2) (ret := (some .int)) (by decide +kernel) rfl (Nat.le_of_ble_eq_true rfl) (fun p e s m below meth c C _ => ?_)
  refine q_lv (lv2 := [(0, .ref (ga 0))]) rfl ?_
  obtain ⟨kc, hkc⟩ : ∃ z, z = 0 := ⟨_, rfl⟩
  obtain ⟨ks, hks⟩ : ∃ z, z = 0 := ⟨_, rfl⟩
  refine q_nm (wz := ws) (ka := kc) (kb := ks) (sz := []) rfl hkc.symm hks.symm rfl ?_
  refine q_aload_n (pc := 0) C dX9_learn_0 rfl 0 rfl ?_
  refine q_aload_n (pc := 1) C dX9_learn_1 rfl 0 rfl ?_
  refine m_g_7 (pc := 2) C hW n_X9_learn_X9 (List.mem_of_getElem? (i := 1) rfl) dX9_learn_2 ?_
  refine q_bipush (pc := 5) C (45 : Int32) dX9_learn_5 q_cb_45 ?_
  refine q_icmp_ne (pc := 7) (tgt := 14) C dX9_learn_7 (by decide) (fun c1 => ?_) (fun c1 => ?_)
  · have hf := q_iteF hf c1
    refine q_iconst (pc := 14) C (0 : Int32) dX9_learn_14 q_ci_0 ?_
    refine q_sub (lvq := [(0, .ref (ga 0))]) [0] rfl ?_
    exact w_X9_learn_15 C (kc) (ks) (0 : Int32) S ws hf hW (by omega) (by omega)
  · have hf := q_iteT hf c1
    refine q_iconst (pc := 10) C (1 : Int32) dX9_learn_10 q_ci_1 ?_
    refine q_goto (pc := 11) (tgt := 15) C dX9_learn_11 (by decide) ?_
    refine q_sub (lvq := [(0, .ref (ga 0))]) [0] rfl ?_
    exact w_X9_learn_15 C (kc) (ks) (1 : Int32) S ws hf hW (by omega) (by omega)
theorem z_X9_found : q_dsc yX9_found 0 := ⟨by decide +kernel, by decide +kernel, by decide +kernel⟩
theorem n_X9_found_X9 : ∀ w ∈ wsX90, w ∈ wsX9_found := fun _ h => (List.mem_cons_of_mem _ (List.mem_append_left _ (List.mem_append_left _ (List.mem_append_right _ h))))
def f_X9_found_64 (k26 : Int32 → Int32 → MS → Option (Int32 × MS)) (v2 : Int32) (vt0 : Int32) (S : MS) : Option (Int32 × MS) := k26 vt0 (v2 + (1 : Int32)) S
def f_X9_found_26b (k26 : Int32 → Int32 → MS → Option (Int32 × MS)) (v1 : Int32) (v2 : Int32) (S : MS) : Option (Int32 × MS) := (if (nI (S.2.1 0)) ≤ v2 then some (v1, S) else (if q_in v2 (S.2.1 0) then ((f_X9_lives S v2.toNatClampNeg).bind fun u9 => (if (q_b u9) = 0 then f_X9_found_64 k26 v2 v1 S else f_X9_found_64 k26 v2 v2 S)) else none))
def f_X9_found_26 : Nat → Int32 → Int32 → MS → Option (Int32 × MS)
  | 0, _, _, _ => none
  | n + 1, v1, v2, S => f_X9_found_26b  (f_X9_found_26  n) v1 v2 S
def f_X9_found_14 (vt0 : Int32) (S : MS) : Option (Int32 × MS) := ((f_X9_isWrong vt0 S).bind fun u4 => (if (q_b u4.1) = 0 then f_X9_found_26 1000 (-1 : Int32) (0 : Int32) u4.2 else some ((0 : Int32), u4.2)))
def f_X9_found (S : MS) : Option (Int32 × MS) := ((f_X9_living S).bind fun u1 => (if u1 = (1 : Int32) then f_X9_found_14 (0 : Int32) S else f_X9_found_14 (1 : Int32) S))
set_option maxRecDepth 100000 in
set_option maxHeartbeats 8000000 in
theorem w_X9_found_64 {p : Program} {l : Launch} {e : Env} {s : State} {m : MethodId} {args : Array Value} {below : List Frame} {meth : Method} {c : Code} {D : va_G} {cc : Nat → ClassId} {N0 : Nat} {ga : Nat → Nat} {E : va_W} {ad : Nat → Nat → Nat} {k26 : Int32 → Int32 → MS → Option (Int32 × MS)} {n26 : Nat} {v : (Int32 × MS)} (C : q_C p s m args meth c cX9_found 3 (some .int) wsX9_found RX9 D cc N0) (hk26 : ∀ (kc : Nat) (ks : Nat) (v1 : Int32) (v2 : Int32) (S : MS)  (ws : va_W), k26 v1 v2 S = some v → mW cc ga ad S E ws → kc + 0 + n26 * 0 ≤ 1 → ks + 0 + n26 * 0 ≤ 4 → q_WA p l e (q_rm (4) (113) 1 4) s m args below meth c D N0 3 (MQ below (q_Q D N0 (fun rv w1 => rv = some (.int v.1) ∧ mW cc ga ad v.2 E w1)) args s 1 4 (q_A N0)) kc ks ws 26 [(0, .ref (ga 0)), (1, .int v1), (2, .int v2)] []) (kc : Nat) (ks : Nat) (v2 : Int32) (vt0 : Int32) (S : MS)  (ws : va_W) : f_X9_found_64 k26 v2 vt0 S = some v → mW cc ga ad S E ws → kc + 0 + n26 * 0 ≤ 1 → ks + 0 + n26 * 0 ≤ 4 → q_WA p l e (q_rm (4) (113) 1 4) s m args below meth c D N0 3 (MQ below (q_Q D N0 (fun rv w1 => rv = some (.int v.1) ∧ mW cc ga ad v.2 E w1)) args s 1 4 (q_A N0)) kc ks ws 64 [(0, .ref (ga 0)), (2, .int v2)] [.int vt0] := by
  intro hf hW b1 b2
  refine q_istore_n (pc := 64) (lvq := [(1, .int vt0), (0, .ref (ga 0)), (2, .int v2)]) C dX9_found_64 rfl (by decide) rfl ?_
  refine q_iinc (pc := 65) (lvq := [(2, .int (v2 + (1 : Int32))), (1, .int vt0), (0, .ref (ga 0))]) C (v2 + (1 : Int32)) dX9_found_65 2 rfl q_ca_1 (by decide) rfl ?_
  refine q_goto (pc := 68) (tgt := 26) C dX9_found_68 (by decide) ?_
  refine q_sub (lvq := [(0, .ref (ga 0)), (1, .int vt0), (2, .int (v2 + (1 : Int32)))]) [2, 1, 0] rfl ?_
  exact hk26 (kc) (ks) vt0 (v2 + (1 : Int32)) S ws hf hW (by omega) (by omega)
set_option maxRecDepth 100000 in
set_option maxHeartbeats 8000000 in
theorem w_X9_found_26 {p : Program} {l : Launch} {e : Env} {s : State} {m : MethodId} {args : Array Value} {below : List Frame} {meth : Method} {c : Code} {D : va_G} {cc : Nat → ClassId} {N0 : Nat} {ga : Nat → Nat} {E : va_W} {ad : Nat → Nat → Nat} {v : (Int32 × MS)} (C : q_C p s m args meth c cX9_found 3 (some .int) wsX9_found RX9 D cc N0)  : ∀ (n : Nat) (kc : Nat) (ks : Nat) (v1 : Int32) (v2 : Int32) (S : MS)  (ws : va_W), f_X9_found_26  n v1 v2 S = some v → mW cc ga ad S E ws → kc + 0 + n * 0 ≤ 1 → ks + 0 + n * 0 ≤ 4 → q_WA p l e (q_rm (4) (113) 1 4) s m args below meth c D N0 3 (MQ below (q_Q D N0 (fun rv w1 => rv = some (.int v.1) ∧ mW cc ga ad v.2 E w1)) args s 1 4 (q_A N0)) kc ks ws 26 [(0, .ref (ga 0)), (1, .int v1), (2, .int v2)] [] := by
  intro n
  induction n with
  | zero => intro kc ks v1 v2 S ws hf; cases hf
  | succ n ih =>
    intro kc ks v1 v2 S ws hf hW b1 b2
    have hk26 : ∀ (kc : Nat) (ks : Nat) (v1 : Int32) (v2 : Int32) (S : MS)  (ws : va_W), f_X9_found_26  n v1 v2 S = some v → mW cc ga ad S E ws → kc + 0 + n * 0 ≤ 1 → ks + 0 + n * 0 ≤ 4 → q_WA p l e (q_rm (4) (113) 1 4) s m args below meth c D N0 3 (MQ below (q_Q D N0 (fun rv w1 => rv = some (.int v.1) ∧ mW cc ga ad v.2 E w1)) args s 1 4 (q_A N0)) kc ks ws 26 [(0, .ref (ga 0)), (1, .int v1), (2, .int v2)] [] := ih
    have hf : f_X9_found_26b  (f_X9_found_26  n) v1 v2 S = some v := hf
    simp only [Nat.succ_mul, Nat.add_mul] at b1 b2
    refine q_iload_n (pc := 26) C dX9_found_26 rfl 2 rfl ?_
    refine q_aload_n (pc := 27) C dX9_found_27 rfl 0 rfl ?_
    refine m_g_1 (pc := 28) C hW n_X9_found_X9 (List.mem_of_getElem? (i := 1) rfl) dX9_found_28 ?_
    refine m_size_0 (pc := 31) C hW gX9_found_Jx4a65c_size_8abf5_f50Jx4a65c ⟨Nat.le_of_ble_eq_true rfl, Nat.le_of_ble_eq_true rfl⟩ (Nat.le_of_ble_eq_true rfl) dX9_found_31 ⟨(show (kc) ≤ 1 by omega), (show (ks) ≤ 4 by omega)⟩ ?_
    refine q_icmp_ge (pc := 36) (tgt := 71) C dX9_found_36 (by decide) (fun c7 => ?_) (fun c7 => ?_)
    · have hf := q_iteT hf c7
      refine q_iload_n (pc := 71) C dX9_found_71 rfl 1 rfl ?_
      refine q_wid (show kc ≤ 1 by omega) (show ks ≤ 4 by omega) ?_
      obtain rfl := q_some hf
      exact q_iret (pc := 72) C dX9_found_72 ⟨rfl, hW⟩
    · have hf := q_iteF hf c7
      refine q_aload_n (pc := 39) C dX9_found_39 rfl 0 rfl ?_
      refine q_aload_n (pc := 40) C dX9_found_40 rfl 0 rfl ?_
      refine m_g_1 (pc := 41) C hW n_X9_found_X9 (List.mem_of_getElem? (i := 1) rfl) dX9_found_41 ?_
      refine q_iload_n (pc := 44) C dX9_found_44 rfl 2 rfl ?_
      obtain ⟨g8, hf⟩ := q_gd hf
      refine m_get_0 (pc := 45) C hW g8 gX9_found_Jx4a65c_get_915e3_f129Jx4a65c ⟨Nat.le_of_ble_eq_true rfl, Nat.le_of_ble_eq_true rfl⟩ (Nat.le_of_ble_eq_true rfl) dX9_found_45 ⟨(show (kc) ≤ 1 by omega), (show (ks) ≤ 4 by omega)⟩ ?_
      refine m_cast_0 (pc := 50) C hW g8.2 (List.mem_of_getElem? (i := 2) rfl) dX9_found_50 ?_
      obtain ⟨u9, e10, hf⟩ := q_bind hf
      obtain ⟨_, he⟩ := hW.obj
      refine q_callV (pc := 53) (As := [.ref (ad 0 v2.toNatClampNeg)]) (rest := []) C (c_X9_lives l D cc N0 ga ad  E S v2.toNatClampNeg u9 e10 ws hW) gX9_found_X9_lives rfl rfl z_X9_lives ⟨Nat.le_of_ble_eq_true rfl, Nat.le_of_ble_eq_true rfl⟩ he rfl rfl rfl (Nat.le_of_ble_eq_true rfl) dX9_found_53 ⟨(show (kc) + 0 ≤ 1 by omega), (show (ks) + 0 ≤ 4 by omega)⟩ ?_
      rintro _ ws ⟨rfl, hW⟩
      refine q_nm (wz := ws) (ka := kc) (kb := ks) (sz := [.int (q_b u9)]) rfl rfl rfl rfl ?_
      refine q_if_eq (pc := 56) (tgt := 63) C dX9_found_56 (by decide) (fun c11 => ?_) (fun c11 => ?_)
      · have hf := q_iteT hf c11
        refine q_iload_n (pc := 63) C dX9_found_63 rfl 1 rfl ?_
        refine q_sub (lvq := [(0, .ref (ga 0)), (2, .int v2)]) [0, 2] rfl ?_
        exact w_X9_found_64 C hk26 (kc) (ks) v2 v1 S ws hf hW (by omega) (by omega)
      · have hf := q_iteF hf c11
        refine q_iload_n (pc := 59) C dX9_found_59 rfl 2 rfl ?_
        refine q_goto (pc := 60) (tgt := 64) C dX9_found_60 (by decide) ?_
        refine q_sub (lvq := [(0, .ref (ga 0)), (2, .int v2)]) [0, 2] rfl ?_
        exact w_X9_found_64 C hk26 (kc) (ks) v2 v2 S ws hf hW (by omega) (by omega)
set_option maxRecDepth 100000 in
set_option maxHeartbeats 8000000 in
theorem w_X9_found_14 {p : Program} {l : Launch} {e : Env} {s : State} {m : MethodId} {args : Array Value} {below : List Frame} {meth : Method} {c : Code} {D : va_G} {cc : Nat → ClassId} {N0 : Nat} {ga : Nat → Nat} {E : va_W} {ad : Nat → Nat → Nat} {v : (Int32 × MS)} (C : q_C p s m args meth c cX9_found 3 (some .int) wsX9_found RX9 D cc N0)  (kc : Nat) (ks : Nat) (vt0 : Int32) (S : MS)  (ws : va_W) : f_X9_found_14  vt0 S = some v → mW cc ga ad S E ws → kc + 0 ≤ 1 → ks + 0 ≤ 4 → q_WA p l e (q_rm (4) (113) 1 4) s m args below meth c D N0 3 (MQ below (q_Q D N0 (fun rv w1 => rv = some (.int v.1) ∧ mW cc ga ad v.2 E w1)) args s 1 4 (q_A N0)) kc ks ws 14 [(0, .ref (ga 0))] [.int vt0, .ref (ga 0)] := by
  intro hf hW b1 b2
  obtain ⟨u4, e5, hf⟩ := q_bind hf
  obtain ⟨_, he⟩ := hW.obj
  refine q_callV (pc := 14) (As := [.int vt0]) (rest := []) C (c_X9_isWrong l D cc N0 ga ad  E S vt0 u4 e5 ws hW) gX9_found_X9_isWrong rfl rfl z_X9_isWrong ⟨Nat.le_of_ble_eq_true rfl, Nat.le_of_ble_eq_true rfl⟩ he rfl rfl rfl (Nat.le_of_ble_eq_true rfl) dX9_found_14 ⟨(show (kc) + 0 ≤ 1 by omega), (show (ks) + 0 ≤ 4 by omega)⟩ ?_
  rintro _ ws ⟨rfl, hW⟩
  refine q_nm (wz := ws) (ka := kc) (kb := ks) (sz := [.int (q_b u4.1)]) rfl rfl rfl rfl ?_
  refine q_if_eq (pc := 17) (tgt := 22) C dX9_found_17 (by decide) (fun c6 => ?_) (fun c6 => ?_)
  · have hf := q_iteT hf c6
    refine q_iconst (pc := 22) C (-1 : Int32) dX9_found_22 q_ci_m1 ?_
    refine q_istore_n (pc := 23) (lvq := [(1, .int (-1 : Int32)), (0, .ref (ga 0))]) C dX9_found_23 rfl (by decide) rfl ?_
    refine q_iconst (pc := 24) C (0 : Int32) dX9_found_24 q_ci_0 ?_
    refine q_istore_n (pc := 25) (lvq := [(2, .int (0 : Int32)), (1, .int (-1 : Int32)), (0, .ref (ga 0))]) C dX9_found_25 rfl (by decide) rfl ?_
    refine q_sub (lvq := [(0, .ref (ga 0)), (1, .int (-1 : Int32)), (2, .int (0 : Int32))]) [2, 1, 0] rfl ?_
    exact w_X9_found_26 C 1000 (kc) (ks) (-1 : Int32) (0 : Int32) u4.2 ws hf hW (by omega) (by omega)
  · have hf := q_iteF hf c6
    refine q_iconst (pc := 20) C (0 : Int32) dX9_found_20 q_ci_0 ?_
    refine q_wid (show kc ≤ 1 by omega) (show ks ≤ 4 by omega) ?_
    obtain rfl := q_some hf
    exact q_iret (pc := 21) C dX9_found_21 ⟨rfl, hW⟩
set_option maxRecDepth 100000 in
set_option maxHeartbeats 8000000 in
theorem c_X9_found (l : Launch) (D : va_G) (cc : Nat → ClassId) (N0 : Nat) (ga : Nat → Nat) (ad : Nat → Nat → Nat) (E : va_W) (S : MS) (v : (Int32 × MS)) (hf : f_X9_found S = some v) (ws : va_W) (hW : mW cc ga ad S E ws) : q_Met l yX9_found wsX9_found 4 113 D cc N0 ws [.ref (ga 0)] (fun rv w1 => rv = some (.int v.1) ∧ mW cc ga ad v.2 E w1) 1 4 := by
  refine q_ofW (code := cX9_found) (nL := 3) (ret := (some .int)) (by decide +kernel) rfl (Nat.le_of_ble_eq_true rfl) (fun p e s m below meth c C _ => ?_)
  refine q_lv (lv2 := [(0, .ref (ga 0))]) rfl ?_
  obtain ⟨kc, hkc⟩ : ∃ z, z = 0 := ⟨_, rfl⟩
  obtain ⟨ks, hks⟩ : ∃ z, z = 0 := ⟨_, rfl⟩
  refine q_nm (wz := ws) (ka := kc) (kb := ks) (sz := []) rfl hkc.symm hks.symm rfl ?_
  refine q_aload_n (pc := 0) C dX9_found_0 rfl 0 rfl ?_
  refine q_aload_n (pc := 1) C dX9_found_1 rfl 0 rfl ?_
  obtain ⟨u1, e2, hf⟩ := q_bind hf
  obtain ⟨_, he⟩ := hW.obj
  refine q_callV (pc := 2) (As := []) (rest := [.ref (ga 0)]) C (c_X9_living l D cc N0 ga ad  E S  u1 e2 ws hW) gX9_found_X9_living rfl rfl z_X9_living ⟨Nat.le_of_ble_eq_true rfl, Nat.le_of_ble_eq_true rfl⟩ he rfl rfl rfl (Nat.le_of_ble_eq_true rfl) dX9_found_2 ⟨(show (kc) + 1 ≤ 1 by omega), (show (ks) + 4 ≤ 4 by omega)⟩ ?_
  rintro _ ws ⟨rfl, hW⟩
  refine q_nm (wz := ws) (ka := kc + 1) (kb := ks + 4) (sz := [.int u1, .ref (ga 0)]) rfl rfl rfl rfl ?_
  refine q_iconst (pc := 5) C (1 : Int32) dX9_found_5 q_ci_1 ?_
  refine q_icmp_ne (pc := 6) (tgt := 13) C dX9_found_6 (by decide) (fun c3 => ?_) (fun c3 => ?_)
  · have hf := q_iteF hf c3
    refine q_iconst (pc := 13) C (1 : Int32) dX9_found_13 q_ci_1 ?_
    refine q_sub (lvq := [(0, .ref (ga 0))]) [0] rfl ?_
    exact w_X9_found_14 C (kc + 1) (ks + 4) (1 : Int32) S ws hf hW (by omega) (by omega)
  · have hf := q_iteT hf c3
    refine q_iconst (pc := 9) C (0 : Int32) dX9_found_9 q_ci_0 ?_
    refine q_goto (pc := 10) (tgt := 14) C dX9_found_10 (by decide) ?_
    refine q_sub (lvq := [(0, .ref (ga 0))]) [0] rfl ?_
    exact w_X9_found_14 C (kc + 1) (ks + 4) (0 : Int32) S ws hf hW (by omega) (by omega)
theorem z_X9_shatters : q_dsc yX9_shatters 1 := ⟨by decide +kernel, by decide +kernel, by decide +kernel⟩
theorem n_X9_shatters_X9 : ∀ w ∈ wsX90, w ∈ wsX9_shatters := fun _ h => (List.mem_cons_of_mem _ (List.mem_append_left _ (List.mem_append_left _ (List.mem_append_right _ h))))
def f_X9_shatters_61 (S : MS) (k22 : Int32 → Int32 → Nat → (Nat → Int32) → Int32 → Int32 → Option Bool) (v1 : Int32) (r5 : Nat) (vt0 : Int32) (vt1 : Int32) (m2 : Nat) (h2 : Nat → Int32) (u4 : Int32) (x4 : Int32) : Option Bool := (if r5 < S.2.1 0 then (if q_in ((S.2.2.1 0 r5 0) &&& v1) m2 then k22 v1 (vt1 + vt0) m2 (upd h2 ((S.2.2.1 0 r5 0) &&& v1).toNatClampNeg (vp_nar .boolean (1 : Int32))) u4 x4 else none) else none)
def f_X9_shatters_22b (S : MS) (k22 : Int32 → Int32 → Nat → (Nat → Int32) → Int32 → Int32 → Option Bool) (v1 : Int32) (v3 : Int32) (m2 : Nat) (h2 : Nat → Int32) (u4 : Int32) (x4 : Int32) : Option Bool := (if (q_b (!decide (u4 = nI (S.2.1 0)))) = 0 then (if v3 = ((1 : Int32) <<< ((f_J6_bitCount_0f7a4 v1) &&& 31)) then some true else some false) else (if q_in u4 (S.2.1 0) ∧ x4 = S.1 20 then (if u4.toNatClampNeg < S.2.1 0 then (if q_in ((S.2.2.1 0 u4.toNatClampNeg 0) &&& v1) m2 then (if (h2 ((S.2.2.1 0 u4.toNatClampNeg 0) &&& v1).toNatClampNeg) = 0 then f_X9_shatters_61 S k22 v1 u4.toNatClampNeg (1 : Int32) v3 m2 h2 (u4 + (1 : Int32)) x4 else f_X9_shatters_61 S k22 v1 u4.toNatClampNeg (0 : Int32) v3 m2 h2 (u4 + (1 : Int32)) x4) else none) else none) else none))
def f_X9_shatters_22 (S : MS) : Nat → Int32 → Int32 → Nat → (Nat → Int32) → Int32 → Int32 → Option Bool
  | 0, _, _, _, _, _, _ => none
  | n + 1, v1, v3, m2, h2, u4, x4 => f_X9_shatters_22b S (f_X9_shatters_22 S n) v1 v3 m2 h2 u4 x4
def f_X9_shatters (S : MS) (a1 : Int32) : Option Bool := (if ¬ ((1 : Int32) <<< ((S.1 2) &&& 31)) < 0 ∧ ((1 : Int32) <<< ((S.1 2) &&& 31)).toNatClampNeg ≤ 64 then f_X9_shatters_22 S 1000 a1 (0 : Int32) (((1 : Int32) <<< ((S.1 2) &&& 31)).toNatClampNeg) (fun _ => 0) (0 : Int32) (S.1 20) else none)
set_option maxRecDepth 100000 in
set_option maxHeartbeats 8000000 in
theorem w_X9_shatters_61 {p : Program} {l : Launch} {e : Env} {s : State} {m : MethodId} {args : Array Value} {below : List Frame} {meth : Method} {c : Code} {D : va_G} {cc : Nat → ClassId} {N0 : Nat} {ga : Nat → Nat} {E : va_W} {ad : Nat → Nat → Nat} {S : MS} {k22 : Int32 → Int32 → Nat → (Nat → Int32) → Int32 → Int32 → Option Bool} {n22 : Nat} {v : Bool} (C : q_C p s m args meth c cX9_shatters 6 (some .boolean) wsX9_shatters RX9 D cc N0) (hk22 : ∀ (kc : Nat) (ks : Nat) (v1 : Int32) (v3 : Int32) (m2 : Nat) (h2 : Nat → Int32) (u4 : Int32) (x4 : Int32) (q2 : Nat) (q4 : Nat) (z4 : Int32)  (ws : va_W), k22 v1 v3 m2 h2 u4 x4 = some v → mW cc ga ad S ((q2, .inl (cc 1, m2, .inl h2)) :: (q4, q_it u4 z4 x4 (ga 1)) :: E) ws → kc + 0 + n22 * 0 ≤ 2 → ks + 0 + n22 * 0 ≤ 68 → q_WA p l e (q_rm (3) (90) 2 68) s m args below meth c D N0 6 (MQ below (q_Q D N0 (fun rv w1 => rv = some (.int (q_b v)) ∧ mW cc ga ad S E w1)) args s 2 68 (q_A N0)) kc ks ws 22 [(1, .int v1), (2, .ref q2), (3, .int v3), (4, .ref q4)] []) (kc : Nat) (ks : Nat) (v1 : Int32) (r5 : Nat) (vt0 : Int32) (vt1 : Int32) (m2 : Nat) (h2 : Nat → Int32) (u4 : Int32) (x4 : Int32) (q2 : Nat) (q4 : Nat) (z4 : Int32)  (ws : va_W) : f_X9_shatters_61 S k22 v1 r5 vt0 vt1 m2 h2 u4 x4 = some v → mW cc ga ad S ((q2, .inl (cc 1, m2, .inl h2)) :: (q4, q_it u4 z4 x4 (ga 1)) :: E) ws → kc + 0 + n22 * 0 ≤ 2 → ks + 0 + n22 * 0 ≤ 68 → q_WA p l e (q_rm (3) (90) 2 68) s m args below meth c D N0 6 (MQ below (q_Q D N0 (fun rv w1 => rv = some (.int (q_b v)) ∧ mW cc ga ad S E w1)) args s 2 68 (q_A N0)) kc ks ws 61 [(1, .int v1), (2, .ref q2), (4, .ref q4), (5, .ref (ad 0 r5))] [.int vt0, .int vt1] := by
  intro hf hW b1 b2
  refine q_iadd (pc := 61) C dX9_shatters_61 ?_
  refine q_istore_n (pc := 62) (lvq := [(3, .int (vt1 + vt0)), (1, .int v1), (2, .ref q2), (4, .ref q4), (5, .ref (ad 0 r5))]) C dX9_shatters_62 rfl (by decide) rfl ?_
  refine q_aload_n (pc := 63) C dX9_shatters_63 rfl 2 rfl ?_
  refine q_aload (pc := 64) C dX9_shatters_64 4 rfl ?_
  refine q_iconst (pc := 66) C (0 : Int32) dX9_shatters_66 q_ci_0 ?_
  obtain ⟨g10, hf⟩ := q_gd hf
  refine m_rald_0 (pc := 67) C hW g10 ⟨by decide, by decide⟩ dX9_shatters_67 ?_
  refine q_nm (wz := ws) (ka := kc) (kb := ks) (sz := [.int (S.2.2.1 0 r5 0), .ref q2]) rfl rfl rfl rfl ?_
  refine q_iload_n (pc := 68) C dX9_shatters_68 rfl 1 rfl ?_
  refine q_iand (pc := 69) C dX9_shatters_69 ?_
  refine q_iconst (pc := 70) C (1 : Int32) dX9_shatters_70 q_ci_1 ?_
  obtain ⟨g11, hf⟩ := q_gd hf
  refine t_zast (pc := 71) C hW g11 dX9_shatters_71 (fun ws hW => ?_)
  refine q_goto (pc := 72) (tgt := 22) C dX9_shatters_72 (by decide) ?_
  have hW := hW.out (List.Perm.swap _ _ _)
  have hW := hW.out (List.Perm.swap _ _ _)
  refine q_sub (lvq := [(1, .int v1), (2, .ref q2), (3, .int (vt1 + vt0)), (4, .ref q4)]) [1, 2, 0, 3] rfl ?_
  exact hk22 (kc) (ks) v1 (vt1 + vt0) m2 (upd h2 ((S.2.2.1 0 r5 0) &&& v1).toNatClampNeg (vp_nar .boolean (1 : Int32))) u4 x4 q2 q4 z4 ws hf hW (by omega) (by omega)
set_option maxRecDepth 100000 in
set_option maxHeartbeats 8000000 in
theorem w_X9_shatters_22 {p : Program} {l : Launch} {e : Env} {s : State} {m : MethodId} {args : Array Value} {below : List Frame} {meth : Method} {c : Code} {D : va_G} {cc : Nat → ClassId} {N0 : Nat} {ga : Nat → Nat} {E : va_W} {ad : Nat → Nat → Nat} {S : MS} {v : Bool} (C : q_C p s m args meth c cX9_shatters 6 (some .boolean) wsX9_shatters RX9 D cc N0)  : ∀ (n : Nat) (kc : Nat) (ks : Nat) (v1 : Int32) (v3 : Int32) (m2 : Nat) (h2 : Nat → Int32) (u4 : Int32) (x4 : Int32) (q2 : Nat) (q4 : Nat) (z4 : Int32)  (ws : va_W), f_X9_shatters_22 S n v1 v3 m2 h2 u4 x4 = some v → mW cc ga ad S ((q2, .inl (cc 1, m2, .inl h2)) :: (q4, q_it u4 z4 x4 (ga 1)) :: E) ws → kc + 0 + n * 0 ≤ 2 → ks + 0 + n * 0 ≤ 68 → q_WA p l e (q_rm (3) (90) 2 68) s m args below meth c D N0 6 (MQ below (q_Q D N0 (fun rv w1 => rv = some (.int (q_b v)) ∧ mW cc ga ad S E w1)) args s 2 68 (q_A N0)) kc ks ws 22 [(1, .int v1), (2, .ref q2), (3, .int v3), (4, .ref q4)] [] := by
  intro n
  induction n with
  | zero => intro kc ks v1 v3 m2 h2 u4 x4 q2 q4 z4 ws hf; cases hf
  | succ n ih =>
    intro kc ks v1 v3 m2 h2 u4 x4 q2 q4 z4 ws hf hW b1 b2
    have hk22 : ∀ (kc : Nat) (ks : Nat) (v1 : Int32) (v3 : Int32) (m2 : Nat) (h2 : Nat → Int32) (u4 : Int32) (x4 : Int32) (q2 : Nat) (q4 : Nat) (z4 : Int32)  (ws : va_W), f_X9_shatters_22 S n v1 v3 m2 h2 u4 x4 = some v → mW cc ga ad S ((q2, .inl (cc 1, m2, .inl h2)) :: (q4, q_it u4 z4 x4 (ga 1)) :: E) ws → kc + 0 + n * 0 ≤ 2 → ks + 0 + n * 0 ≤ 68 → q_WA p l e (q_rm (3) (90) 2 68) s m args below meth c D N0 6 (MQ below (q_Q D N0 (fun rv w1 => rv = some (.int (q_b v)) ∧ mW cc ga ad S E w1)) args s 2 68 (q_A N0)) kc ks ws 22 [(1, .int v1), (2, .ref q2), (3, .int v3), (4, .ref q4)] [] := ih
    have hf : f_X9_shatters_22b S (f_X9_shatters_22 S n) v1 v3 m2 h2 u4 x4 = some v := hf
    simp only [Nat.succ_mul, Nat.add_mul] at b1 b2
    refine q_aload (pc := 22) C dX9_shatters_22 3 rfl ?_
    have hW := hW.out (List.Perm.swap _ _ _)
    refine m_has_0 (pc := 24) C hW gX9_shatters_Jx35411_hasNext_aae02_f76Jx35411 ⟨Nat.le_of_ble_eq_true rfl, Nat.le_of_ble_eq_true rfl⟩ (Nat.le_of_ble_eq_true rfl) dX9_shatters_24 ⟨(show (kc) ≤ 2 by omega), (show (ks) ≤ 68 by omega)⟩ ?_
    refine q_if_eq (pc := 29) (tgt := 75) C dX9_shatters_29 (by decide) (fun c4 => ?_) (fun c4 => ?_)
    · have hf := q_iteT hf c4
      refine q_iload_n (pc := 75) C dX9_shatters_75 rfl 2 rfl ?_
      refine q_iconst (pc := 76) C (1 : Int32) dX9_shatters_76 q_ci_1 ?_
      refine q_iload_n (pc := 77) C dX9_shatters_77 rfl 0 rfl ?_
      refine q_callS (pc := 78) (As := [.int v1]) (rest := [.int (1 : Int32), .int v3]) C (c_J6_bitCount_0f7a4 l D cc N0 ws v1 _ rfl) gX9_shatters_J6_bitCount_0f7a4 rfl z_J6_bitCount_0f7a4 ⟨Nat.le_of_ble_eq_true rfl, Nat.le_of_ble_eq_true rfl⟩ rfl rfl (Nat.le_of_ble_eq_true rfl) dX9_shatters_78 ⟨(show (kc) ≤ 2 by omega), (show (ks) ≤ 68 by omega)⟩ ?_
      refine q_after (rv := (some (.int (f_J6_bitCount_0f7a4 v1)))) (w0 := ws) (st2 := [.int (f_J6_bitCount_0f7a4 v1), .int (1 : Int32), .int v3]) rfl rfl rfl ?_
      refine q_ishl (pc := 81) C dX9_shatters_81 ?_
      refine q_icmp_ne (pc := 82) (tgt := 89) C dX9_shatters_82 (by decide) (fun c5 => ?_) (fun c5 => ?_)
      · have hf := q_iteF hf c5
        refine q_iconst (pc := 89) C (0 : Int32) dX9_shatters_89 q_ci_0 ?_
        refine q_wid (show kc ≤ 2 by omega) (show ks ≤ 68 by omega) ?_
        refine t_drop hW (fun ws hW => ?_)
        refine t_drop hW (fun ws hW => ?_)
        obtain rfl := q_some hf
        exact q_zret (pc := 90) C (by decide +kernel) dX9_shatters_90 ⟨rfl, hW⟩
      · have hf := q_iteT hf c5
        refine q_iconst (pc := 85) C (1 : Int32) dX9_shatters_85 q_ci_1 ?_
        refine q_goto (pc := 86) (tgt := 90) C dX9_shatters_86 (by decide) ?_
        refine q_wid (show kc ≤ 2 by omega) (show ks ≤ 68 by omega) ?_
        refine t_drop hW (fun ws hW => ?_)
        refine t_drop hW (fun ws hW => ?_)
        obtain rfl := q_some hf
        exact q_zret (pc := 90) C (by decide +kernel) dX9_shatters_90 ⟨rfl, hW⟩
    · have hf := q_iteF hf c4
      refine q_aload (pc := 32) C dX9_shatters_32 3 rfl ?_
      obtain ⟨g6, hf⟩ := q_gd hf
      refine m_next_0 (pc := 34) C hW g6 gX9_shatters_Jx35411_next_0502b_f82Jx35411 ⟨Nat.le_of_ble_eq_true rfl, Nat.le_of_ble_eq_true rfl⟩ (Nat.le_of_ble_eq_true rfl) dX9_shatters_34 ⟨(show (kc) ≤ 2 by omega), (show (ks) ≤ 68 by omega)⟩ (fun ws hW => ?_)
      refine m_cast_0 (pc := 39) C hW g6.1.2 (List.mem_of_getElem? (i := 4) rfl) dX9_shatters_39 ?_
      refine q_astore (pc := 42) (lvq := [(5, .ref (ad 0 u4.toNatClampNeg)), (1, .int v1), (2, .ref q2), (3, .int v3), (4, .ref q4)]) C dX9_shatters_42 (by decide) rfl ?_
      refine q_iload_n (pc := 44) C dX9_shatters_44 rfl 3 rfl ?_
      refine q_aload_n (pc := 45) C dX9_shatters_45 rfl 2 rfl ?_
      refine q_aload (pc := 46) C dX9_shatters_46 0 rfl ?_
      refine q_iconst (pc := 48) C (0 : Int32) dX9_shatters_48 q_ci_0 ?_
      obtain ⟨g7, hf⟩ := q_gd hf
      refine m_rald_0 (pc := 49) C hW g7 ⟨by decide, by decide⟩ dX9_shatters_49 ?_
      refine q_nm (wz := ws) (ka := kc) (kb := ks) (sz := [.int (S.2.2.1 0 u4.toNatClampNeg 0), .ref q2, .int v3]) rfl rfl rfl rfl ?_
      refine q_iload_n (pc := 50) C dX9_shatters_50 rfl 1 rfl ?_
      refine q_iand (pc := 51) C dX9_shatters_51 ?_
      have hW := hW.out (List.Perm.swap _ _ _)
      obtain ⟨g8, hf⟩ := q_gd hf
      refine t_zald (pc := 52) C hW g8 dX9_shatters_52 ?_
      refine q_if_eq (pc := 53) (tgt := 60) C dX9_shatters_53 (by decide) (fun c9 => ?_) (fun c9 => ?_)
      · have hf := q_iteT hf c9
        refine q_iconst (pc := 60) C (1 : Int32) dX9_shatters_60 q_ci_1 ?_
        have hW := hW.out (List.Perm.swap _ _ _)
        have hW := hW.out (List.Perm.swap _ _ _)
        refine q_sub (lvq := [(1, .int v1), (2, .ref q2), (4, .ref q4), (5, .ref (ad 0 u4.toNatClampNeg))]) [1, 2, 4, 0] rfl ?_
        exact w_X9_shatters_61 C hk22 (kc) (ks) v1 u4.toNatClampNeg (1 : Int32) v3 m2 h2 (u4 + (1 : Int32)) x4 q2 q4 u4 ws hf hW (by omega) (by omega)
      · have hf := q_iteF hf c9
        refine q_iconst (pc := 56) C (0 : Int32) dX9_shatters_56 q_ci_0 ?_
        refine q_goto (pc := 57) (tgt := 61) C dX9_shatters_57 (by decide) ?_
        have hW := hW.out (List.Perm.swap _ _ _)
        have hW := hW.out (List.Perm.swap _ _ _)
        refine q_sub (lvq := [(1, .int v1), (2, .ref q2), (4, .ref q4), (5, .ref (ad 0 u4.toNatClampNeg))]) [1, 2, 4, 0] rfl ?_
        exact w_X9_shatters_61 C hk22 (kc) (ks) v1 u4.toNatClampNeg (0 : Int32) v3 m2 h2 (u4 + (1 : Int32)) x4 q2 q4 u4 ws hf hW (by omega) (by omega)
set_option maxRecDepth 100000 in
set_option maxHeartbeats 8000000 in
theorem c_X9_shatters (l : Launch) (D : va_G) (cc : Nat → ClassId) (N0 : Nat) (ga : Nat → Nat) (ad : Nat → Nat → Nat) (E : va_W) (S : MS) (a1 : Int32) (v : Bool) (hf : f_X9_shatters S a1 = some v) (ws : va_W) (hW : mW cc ga ad S E ws) : q_Met l yX9_shatters wsX9_shatters 3 90 D cc N0 ws [.ref (ga 0), .int a1] (fun rv w1 => rv = some (.int (q_b v)) ∧ mW cc ga ad S E w1) 2 68 := by
  refine q_ofW (code := cX9_shatters) (nL := 6) (ret := (some .boolean)) (by decide +kernel) rfl (Nat.le_of_ble_eq_true rfl) (fun p e s m below meth c C _ => ?_)
  refine q_lv (lv2 := [(0, .ref (ga 0)), (1, .int a1)]) rfl ?_
  obtain ⟨kc, hkc⟩ : ∃ z, z = 0 := ⟨_, rfl⟩
  obtain ⟨ks, hks⟩ : ∃ z, z = 0 := ⟨_, rfl⟩
  refine q_nm (wz := ws) (ka := kc) (kb := ks) (sz := []) rfl hkc.symm hks.symm rfl ?_
  refine q_iconst (pc := 0) C (1 : Int32) dX9_shatters_0 q_ci_1 ?_
  refine q_aload_n (pc := 1) C dX9_shatters_1 rfl 0 rfl ?_
  refine m_g_2 (pc := 2) C hW n_X9_shatters_X9 (List.mem_of_getElem? (i := 1) rfl) dX9_shatters_2 ?_
  refine q_ishl (pc := 5) C dX9_shatters_5 ?_
  obtain ⟨g2, hf⟩ := q_gd hf
  refine t_new (pc := 6) C hW (ty := .boolean) 1 rfl (fun _ h => by cases h) (List.mem_of_getElem? (i := 2) rfl) rfl (N' := ((1 : Int32) <<< ((S.1 2) &&& 31)).toNatClampNeg) (((1 : Int32) <<< ((S.1 2) &&& 31)).toNatClampNeg, .inl fun _ => 0) (fun _ => rfl) g2.1 rfl (by have := g2.2; show _ * 1 ≤ _; omega) (show (kc) + 1 ≤ 2 by omega) (show (ks) + ((1 : Int32) <<< ((S.1 2) &&& 31)).toNatClampNeg ≤ 68 by have := g2.2; omega) dX9_shatters_6 (fun qa1 ws hW => ?_)
  refine q_wid (k := kc + 1) (n := ks + 64) (Nat.le_refl _) (by have := g2.2; omega) ?_
  refine q_astore_n (pc := 8) (lvq := [(2, .ref qa1), (0, .ref (ga 0)), (1, .int a1)]) C dX9_shatters_8 rfl (by decide) rfl ?_
  refine q_iconst (pc := 9) C (0 : Int32) dX9_shatters_9 q_ci_0 ?_
  refine q_istore_n (pc := 10) (lvq := [(3, .int (0 : Int32)), (2, .ref qa1), (0, .ref (ga 0)), (1, .int a1)]) C dX9_shatters_10 rfl (by decide) rfl ?_
  refine q_aload_n (pc := 11) C dX9_shatters_11 rfl 2 rfl ?_
  refine m_g_1 (pc := 12) C hW n_X9_shatters_X9 (List.mem_of_getElem? (i := 3) rfl) dX9_shatters_12 ?_
  refine m_iter_0 (pc := 15) C hW gX9_shatters_Jx4a65c_iterator_32c93_f72Jx4a65c ⟨Nat.le_of_ble_eq_true rfl, Nat.le_of_ble_eq_true rfl⟩ (Nat.le_of_ble_eq_true rfl) dX9_shatters_15 ⟨(show (kc + 1) + 1 ≤ 2 by omega), (show (ks + 64) + 4 ≤ 68 by omega)⟩ (fun it3 ws hW => ?_)
  refine q_nm (wz := ws) (ka := kc + 2) (kb := ks + 68) (sz := [.ref it3]) rfl rfl rfl rfl ?_
  refine q_astore (pc := 20) (lvq := [(4, .ref it3), (3, .int (0 : Int32)), (2, .ref qa1), (0, .ref (ga 0)), (1, .int a1)]) C dX9_shatters_20 (by decide) rfl ?_
  have hW := hW.out (List.Perm.swap _ _ _)
  refine q_sub (lvq := [(1, .int a1), (2, .ref qa1), (3, .int (0 : Int32)), (4, .ref it3)]) [4, 2, 1, 0] rfl ?_
  exact w_X9_shatters_22 C 1000 (kc + 2) (ks + 68) a1 (0 : Int32) (((1 : Int32) <<< ((S.1 2) &&& 31)).toNatClampNeg) (fun _ => 0) (0 : Int32) (S.1 20) qa1 it3 (-1 : Int32) ws hf hW (by omega) (by omega)
theorem z_X9_isShattered : q_dsc yX9_isShattered 1 := ⟨by decide +kernel, by decide +kernel, by decide +kernel⟩
def f_X9_isShattered_14 (v1 : Int32) (vt0 : Int32) (S : MS) : Option (Bool × MS) := ((f_X9_isWrong vt0 S).bind fun u4 => (if (q_b u4.1) = 0 then ((f_X9_shatters u4.2 v1).bind fun u7 => (if (q_b u7) = 0 then some (false, u4.2) else some (true, u4.2))) else some (false, u4.2)))
def f_X9_isShattered (a1 : Int32) (S : MS) : Option (Bool × MS) := ((f_X9_isSet S a1).bind fun u1 => (if (q_b u1) = 0 then f_X9_isShattered_14 a1 (1 : Int32) S else f_X9_isShattered_14 a1 (0 : Int32) S))
set_option maxRecDepth 100000 in
set_option maxHeartbeats 8000000 in
theorem w_X9_isShattered_14 {p : Program} {l : Launch} {e : Env} {s : State} {m : MethodId} {args : Array Value} {below : List Frame} {meth : Method} {c : Code} {D : va_G} {cc : Nat → ClassId} {N0 : Nat} {ga : Nat → Nat} {E : va_W} {ad : Nat → Nat → Nat} {v : (Bool × MS)} (C : q_C p s m args meth c cX9_isShattered 2 (some .boolean) wsX9_isShattered RX9 D cc N0)  (kc : Nat) (ks : Nat) (v1 : Int32) (vt0 : Int32) (S : MS)  (ws : va_W) : f_X9_isShattered_14  v1 vt0 S = some v → mW cc ga ad S E ws → kc + 2 ≤ 2 → ks + 68 ≤ 68 → q_WA p l e (q_rm (4) (115) 2 68) s m args below meth c D N0 2 (MQ below (q_Q D N0 (fun rv w1 => rv = some (.int (q_b v.1)) ∧ mW cc ga ad v.2 E w1)) args s 2 68 (q_A N0)) kc ks ws 14 [(0, .ref (ga 0)), (1, .int v1)] [.int vt0, .ref (ga 0)] := by
  intro hf hW b1 b2
  obtain ⟨u4, e5, hf⟩ := q_bind hf
  obtain ⟨_, he⟩ := hW.obj
  refine q_callV (pc := 14) (As := [.int vt0]) (rest := []) C (c_X9_isWrong l D cc N0 ga ad  E S vt0 u4 e5 ws hW) gX9_isShattered_X9_isWrong rfl rfl z_X9_isWrong ⟨Nat.le_of_ble_eq_true rfl, Nat.le_of_ble_eq_true rfl⟩ he rfl rfl rfl (Nat.le_of_ble_eq_true rfl) dX9_isShattered_14 ⟨(show (kc) + 0 ≤ 2 by omega), (show (ks) + 0 ≤ 68 by omega)⟩ ?_
  rintro _ ws ⟨rfl, hW⟩
  refine q_nm (wz := ws) (ka := kc) (kb := ks) (sz := [.int (q_b u4.1)]) rfl rfl rfl rfl ?_
  refine q_if_ne (pc := 17) (tgt := 32) C dX9_isShattered_17 (by decide) (fun c6 => ?_) (fun c6 => ?_)
  · have hf := q_iteF hf c6
    refine q_iconst (pc := 32) C (0 : Int32) dX9_isShattered_32 q_ci_0 ?_
    refine q_wid (show kc ≤ 2 by omega) (show ks ≤ 68 by omega) ?_
    obtain rfl := q_some hf
    exact q_zret (pc := 33) C (by decide +kernel) dX9_isShattered_33 ⟨rfl, hW⟩
  · have hf := q_iteT hf c6
    refine q_aload_n (pc := 20) C dX9_isShattered_20 rfl 0 rfl ?_
    refine q_iload_n (pc := 21) C dX9_isShattered_21 rfl 1 rfl ?_
    obtain ⟨u7, e8, hf⟩ := q_bind hf
    obtain ⟨_, he⟩ := hW.obj
    refine q_callV (pc := 22) (As := [.int v1]) (rest := []) C (c_X9_shatters l D cc N0 ga ad  E u4.2 v1 u7 e8 ws hW) gX9_isShattered_X9_shatters rfl rfl z_X9_shatters ⟨Nat.le_of_ble_eq_true rfl, Nat.le_of_ble_eq_true rfl⟩ he rfl rfl rfl (Nat.le_of_ble_eq_true rfl) dX9_isShattered_22 ⟨(show (kc) + 2 ≤ 2 by omega), (show (ks) + 68 ≤ 68 by omega)⟩ ?_
    rintro _ ws ⟨rfl, hW⟩
    refine q_nm (wz := ws) (ka := kc + 2) (kb := ks + 68) (sz := [.int (q_b u7)]) rfl rfl rfl rfl ?_
    refine q_if_eq (pc := 25) (tgt := 32) C dX9_isShattered_25 (by decide) (fun c9 => ?_) (fun c9 => ?_)
    · have hf := q_iteT hf c9
      refine q_iconst (pc := 32) C (0 : Int32) dX9_isShattered_32 q_ci_0 ?_
      refine q_wid (show kc + 2 ≤ 2 by omega) (show ks + 68 ≤ 68 by omega) ?_
      obtain rfl := q_some hf
      exact q_zret (pc := 33) C (by decide +kernel) dX9_isShattered_33 ⟨rfl, hW⟩
    · have hf := q_iteF hf c9
      refine q_iconst (pc := 28) C (1 : Int32) dX9_isShattered_28 q_ci_1 ?_
      refine q_goto (pc := 29) (tgt := 33) C dX9_isShattered_29 (by decide) ?_
      refine q_wid (show kc + 2 ≤ 2 by omega) (show ks + 68 ≤ 68 by omega) ?_
      obtain rfl := q_some hf
      exact q_zret (pc := 33) C (by decide +kernel) dX9_isShattered_33 ⟨rfl, hW⟩
set_option maxRecDepth 100000 in
set_option maxHeartbeats 8000000 in
theorem c_X9_isShattered (l : Launch) (D : va_G) (cc : Nat → ClassId) (N0 : Nat) (ga : Nat → Nat) (ad : Nat → Nat → Nat) (E : va_W) (S : MS) (a1 : Int32) (v : (Bool × MS)) (hf : f_X9_isShattered a1 S = some v) (ws : va_W) (hW : mW cc ga ad S E ws) : q_Met l yX9_isShattered wsX9_isShattered 4 115 D cc N0 ws [.ref (ga 0), .int a1] (fun rv w1 => rv = some (.int (q_b v.1)) ∧ mW cc ga ad v.2 E w1) 2 68 := by
  refine q_ofW (code := cX9_isShattered) (nL := 2) (ret := (some .boolean)) (by decide +kernel) rfl (Nat.le_of_ble_eq_true rfl) (fun p e s m below meth c C _ => ?_)
  refine q_lv (lv2 := [(0, .ref (ga 0)), (1, .int a1)]) rfl ?_
  obtain ⟨kc, hkc⟩ : ∃ z, z = 0 := ⟨_, rfl⟩
  obtain ⟨ks, hks⟩ : ∃ z, z = 0 := ⟨_, rfl⟩
  refine q_nm (wz := ws) (ka := kc) (kb := ks) (sz := []) rfl hkc.symm hks.symm rfl ?_
  refine q_aload_n (pc := 0) C dX9_isShattered_0 rfl 0 rfl ?_
  refine q_aload_n (pc := 1) C dX9_isShattered_1 rfl 0 rfl ?_
  refine q_iload_n (pc := 2) C dX9_isShattered_2 rfl 1 rfl ?_
  obtain ⟨u1, e2, hf⟩ := q_bind hf
  obtain ⟨_, he⟩ := hW.obj
  refine q_callV (pc := 3) (As := [.int a1]) (rest := [.ref (ga 0)]) C (c_X9_isSet l D cc N0 ga ad  E S a1 u1 e2 ws hW) gX9_isShattered_X9_isSet rfl rfl z_X9_isSet ⟨Nat.le_of_ble_eq_true rfl, Nat.le_of_ble_eq_true rfl⟩ he rfl rfl rfl (Nat.le_of_ble_eq_true rfl) dX9_isShattered_3 ⟨(show (kc) + 0 ≤ 2 by omega), (show (ks) + 0 ≤ 68 by omega)⟩ ?_
  rintro _ ws ⟨rfl, hW⟩
  refine q_nm (wz := ws) (ka := kc) (kb := ks) (sz := [.int (q_b u1), .ref (ga 0)]) rfl rfl rfl rfl ?_
  refine q_if_eq (pc := 6) (tgt := 13) C dX9_isShattered_6 (by decide) (fun c3 => ?_) (fun c3 => ?_)
  · have hf := q_iteT hf c3
    refine q_iconst (pc := 13) C (1 : Int32) dX9_isShattered_13 q_ci_1 ?_
    refine q_sub (lvq := [(0, .ref (ga 0)), (1, .int a1)]) [0, 1] rfl ?_
    exact w_X9_isShattered_14 C (kc) (ks) a1 (1 : Int32) S ws hf hW (by omega) (by omega)
  · have hf := q_iteF hf c3
    refine q_iconst (pc := 9) C (0 : Int32) dX9_isShattered_9 q_ci_0 ?_
    refine q_goto (pc := 10) (tgt := 14) C dX9_isShattered_10 (by decide) ?_
    refine q_sub (lvq := [(0, .ref (ga 0)), (1, .int a1)]) [0, 1] rfl ?_
    exact w_X9_isShattered_14 C (kc) (ks) a1 (0 : Int32) S ws hf hW (by omega) (by omega)
theorem z_X9_dimensionOf : q_dsc yX9_dimensionOf 0 := ⟨by decide +kernel, by decide +kernel, by decide +kernel⟩
theorem n_X9_dimensionOf_X9 : ∀ w ∈ wsX90, w ∈ wsX9_dimensionOf := fun _ h => (List.mem_cons_of_mem _ (List.mem_append_left _ (List.mem_append_left _ (List.mem_append_right _ h))))
def f_X9_dimensionOf_34 (S : MS) (k4 : Int32 → Int32 → Option Int32) (v2 : Int32) (vt0 : Int32) : Option Int32 := k4 vt0 (v2 + (1 : Int32))
def f_X9_dimensionOf_4b (S : MS) (k4 : Int32 → Int32 → Option Int32) (v1 : Int32) (v2 : Int32) : Option Int32 := (if ((1 : Int32) <<< ((S.1 2) &&& 31)) ≤ v2 then some v1 else ((f_X9_shatters S v2).bind fun u2 => (if (q_b u2) = 0 then f_X9_dimensionOf_34 S k4 v2 v1 else f_X9_dimensionOf_34 S k4 v2 (q_max v1 (f_J6_bitCount_0f7a4 v2)))))
def f_X9_dimensionOf_4 (S : MS) : Nat → Int32 → Int32 → Option Int32
  | 0, _, _ => none
  | n + 1, v1, v2 => f_X9_dimensionOf_4b S (f_X9_dimensionOf_4 S n) v1 v2
def f_X9_dimensionOf (S : MS) : Option Int32 := f_X9_dimensionOf_4 S 70 (-1 : Int32) (0 : Int32)
set_option maxRecDepth 100000 in
set_option maxHeartbeats 8000000 in
theorem w_X9_dimensionOf_34 {p : Program} {l : Launch} {e : Env} {s : State} {m : MethodId} {args : Array Value} {below : List Frame} {meth : Method} {c : Code} {D : va_G} {cc : Nat → ClassId} {N0 : Nat} {ga : Nat → Nat} {E : va_W} {ad : Nat → Nat → Nat} {S : MS} {k4 : Int32 → Int32 → Option Int32} {n4 : Nat} {v : Int32} (C : q_C p s m args meth c cX9_dimensionOf 3 (some .int) wsX9_dimensionOf RX9 D cc N0) (hk4 : ∀ (kc : Nat) (ks : Nat) (v1 : Int32) (v2 : Int32)  (ws : va_W), k4 v1 v2 = some v → mW cc ga ad S E ws → kc + 0 + n4 * 2 ≤ 140 → ks + 0 + n4 * 68 ≤ 4760 → q_WA p l e (q_rm (4) (115) 140 4760) s m args below meth c D N0 3 (MQ below (q_Q D N0 (fun rv w1 => rv = some (.int v) ∧ mW cc ga ad S E w1)) args s 140 4760 (q_A N0)) kc ks ws 4 [(0, .ref (ga 0)), (1, .int v1), (2, .int v2)] []) (kc : Nat) (ks : Nat) (v2 : Int32) (vt0 : Int32)  (ws : va_W) : f_X9_dimensionOf_34 S k4 v2 vt0 = some v → mW cc ga ad S E ws → kc + 0 + n4 * 2 ≤ 140 → ks + 0 + n4 * 68 ≤ 4760 → q_WA p l e (q_rm (4) (115) 140 4760) s m args below meth c D N0 3 (MQ below (q_Q D N0 (fun rv w1 => rv = some (.int v) ∧ mW cc ga ad S E w1)) args s 140 4760 (q_A N0)) kc ks ws 34 [(0, .ref (ga 0)), (2, .int v2)] [.int vt0] := by
  intro hf hW b1 b2
  refine q_istore_n (pc := 34) (lvq := [(1, .int vt0), (0, .ref (ga 0)), (2, .int v2)]) C dX9_dimensionOf_34 rfl (by decide) rfl ?_
  refine q_iinc (pc := 35) (lvq := [(2, .int (v2 + (1 : Int32))), (1, .int vt0), (0, .ref (ga 0))]) C (v2 + (1 : Int32)) dX9_dimensionOf_35 2 rfl q_ca_1 (by decide) rfl ?_
  refine q_goto (pc := 38) (tgt := 4) C dX9_dimensionOf_38 (by decide) ?_
  refine q_sub (lvq := [(0, .ref (ga 0)), (1, .int vt0), (2, .int (v2 + (1 : Int32)))]) [2, 1, 0] rfl ?_
  exact hk4 (kc) (ks) vt0 (v2 + (1 : Int32)) ws hf hW (by omega) (by omega)
set_option maxRecDepth 100000 in
set_option maxHeartbeats 8000000 in
theorem w_X9_dimensionOf_4 {p : Program} {l : Launch} {e : Env} {s : State} {m : MethodId} {args : Array Value} {below : List Frame} {meth : Method} {c : Code} {D : va_G} {cc : Nat → ClassId} {N0 : Nat} {ga : Nat → Nat} {E : va_W} {ad : Nat → Nat → Nat} {S : MS} {v : Int32} (C : q_C p s m args meth c cX9_dimensionOf 3 (some .int) wsX9_dimensionOf RX9 D cc N0)  : ∀ (n : Nat) (kc : Nat) (ks : Nat) (v1 : Int32) (v2 : Int32)  (ws : va_W), f_X9_dimensionOf_4 S n v1 v2 = some v → mW cc ga ad S E ws → kc + 0 + n * 2 ≤ 140 → ks + 0 + n * 68 ≤ 4760 → q_WA p l e (q_rm (4) (115) 140 4760) s m args below meth c D N0 3 (MQ below (q_Q D N0 (fun rv w1 => rv = some (.int v) ∧ mW cc ga ad S E w1)) args s 140 4760 (q_A N0)) kc ks ws 4 [(0, .ref (ga 0)), (1, .int v1), (2, .int v2)] [] := by
  intro n
  induction n with
  | zero => intro kc ks v1 v2 ws hf; cases hf
  | succ n ih =>
    intro kc ks v1 v2 ws hf hW b1 b2
    have hk4 : ∀ (kc : Nat) (ks : Nat) (v1 : Int32) (v2 : Int32)  (ws : va_W), f_X9_dimensionOf_4 S n v1 v2 = some v → mW cc ga ad S E ws → kc + 0 + n * 2 ≤ 140 → ks + 0 + n * 68 ≤ 4760 → q_WA p l e (q_rm (4) (115) 140 4760) s m args below meth c D N0 3 (MQ below (q_Q D N0 (fun rv w1 => rv = some (.int v) ∧ mW cc ga ad S E w1)) args s 140 4760 (q_A N0)) kc ks ws 4 [(0, .ref (ga 0)), (1, .int v1), (2, .int v2)] [] := ih
    have hf : f_X9_dimensionOf_4b S (f_X9_dimensionOf_4 S n) v1 v2 = some v := hf
    simp only [Nat.succ_mul, Nat.add_mul] at b1 b2
    refine q_iload_n (pc := 4) C dX9_dimensionOf_4 rfl 2 rfl ?_
    refine q_iconst (pc := 5) C (1 : Int32) dX9_dimensionOf_5 q_ci_1 ?_
    refine q_aload_n (pc := 6) C dX9_dimensionOf_6 rfl 0 rfl ?_
    refine m_g_2 (pc := 7) C hW n_X9_dimensionOf_X9 (List.mem_of_getElem? (i := 1) rfl) dX9_dimensionOf_7 ?_
    refine q_ishl (pc := 10) C dX9_dimensionOf_10 ?_
    refine q_icmp_ge (pc := 11) (tgt := 41) C dX9_dimensionOf_11 (by decide) (fun c1 => ?_) (fun c1 => ?_)
    · have hf := q_iteT hf c1
      refine q_iload_n (pc := 41) C dX9_dimensionOf_41 rfl 1 rfl ?_
      refine q_wid (show kc ≤ 140 by omega) (show ks ≤ 4760 by omega) ?_
      obtain rfl := q_some hf
      exact q_iret (pc := 42) C dX9_dimensionOf_42 ⟨rfl, hW⟩
    · have hf := q_iteF hf c1
      refine q_aload_n (pc := 14) C dX9_dimensionOf_14 rfl 0 rfl ?_
      refine q_iload_n (pc := 15) C dX9_dimensionOf_15 rfl 2 rfl ?_
      obtain ⟨u2, e3, hf⟩ := q_bind hf
      obtain ⟨_, he⟩ := hW.obj
      refine q_callV (pc := 16) (As := [.int v2]) (rest := []) C (c_X9_shatters l D cc N0 ga ad  E S v2 u2 e3 ws hW) gX9_dimensionOf_X9_shatters rfl rfl z_X9_shatters ⟨Nat.le_of_ble_eq_true rfl, Nat.le_of_ble_eq_true rfl⟩ he rfl rfl rfl (Nat.le_of_ble_eq_true rfl) dX9_dimensionOf_16 ⟨(show (kc) + 2 ≤ 140 by omega), (show (ks) + 68 ≤ 4760 by omega)⟩ ?_
      rintro _ ws ⟨rfl, hW⟩
      refine q_nm (wz := ws) (ka := kc + 2) (kb := ks + 68) (sz := [.int (q_b u2)]) rfl rfl rfl rfl ?_
      refine q_if_eq (pc := 19) (tgt := 33) C dX9_dimensionOf_19 (by decide) (fun c4 => ?_) (fun c4 => ?_)
      · have hf := q_iteT hf c4
        refine q_iload_n (pc := 33) C dX9_dimensionOf_33 rfl 1 rfl ?_
        refine q_sub (lvq := [(0, .ref (ga 0)), (2, .int v2)]) [0, 2] rfl ?_
        exact w_X9_dimensionOf_34 C hk4 (kc + 2) (ks + 68) v2 v1 ws hf hW (by omega) (by omega)
      · have hf := q_iteF hf c4
        refine q_iload_n (pc := 22) C dX9_dimensionOf_22 rfl 1 rfl ?_
        refine q_iload_n (pc := 23) C dX9_dimensionOf_23 rfl 2 rfl ?_
        refine q_callS (pc := 24) (As := [.int v2]) (rest := [.int v1]) C (c_J6_bitCount_0f7a4 l D cc N0 ws v2 _ rfl) gX9_dimensionOf_J6_bitCount_0f7a4 rfl z_J6_bitCount_0f7a4 ⟨Nat.le_of_ble_eq_true rfl, Nat.le_of_ble_eq_true rfl⟩ rfl rfl (Nat.le_of_ble_eq_true rfl) dX9_dimensionOf_24 ⟨(show (kc + 2) ≤ 140 by omega), (show (ks + 68) ≤ 4760 by omega)⟩ ?_
        refine q_after (rv := (some (.int (f_J6_bitCount_0f7a4 v2)))) (w0 := ws) (st2 := [.int (f_J6_bitCount_0f7a4 v2), .int v1]) rfl rfl rfl ?_
        refine q_mmax (pc := 27) C (List.mem_of_getElem? (i := 2) rfl) (List.mem_of_getElem? (i := 3) rfl) (List.mem_of_getElem? (i := 4) rfl) (List.mem_of_getElem? (i := 5) rfl) (Nat.le_of_ble_eq_true rfl) (Nat.le_of_ble_eq_true rfl) ⟨(show (kc + 2) ≤ 140 by omega), (show (ks + 68) ≤ 4760 by omega)⟩ dX9_dimensionOf_27 ?_
        refine q_goto (pc := 30) (tgt := 34) C dX9_dimensionOf_30 (by decide) ?_
        refine q_sub (lvq := [(0, .ref (ga 0)), (2, .int v2)]) [0, 2] rfl ?_
        exact w_X9_dimensionOf_34 C hk4 (kc + 2) (ks + 68) v2 (q_max v1 (f_J6_bitCount_0f7a4 v2)) ws hf hW (by omega) (by omega)
set_option maxRecDepth 100000 in
set_option maxHeartbeats 8000000 in
theorem c_X9_dimensionOf (l : Launch) (D : va_G) (cc : Nat → ClassId) (N0 : Nat) (ga : Nat → Nat) (ad : Nat → Nat → Nat) (E : va_W) (S : MS) (v : Int32) (hf : f_X9_dimensionOf S = some v) (ws : va_W) (hW : mW cc ga ad S E ws) : q_Met l yX9_dimensionOf wsX9_dimensionOf 4 115 D cc N0 ws [.ref (ga 0)] (fun rv w1 => rv = some (.int v) ∧ mW cc ga ad S E w1) 140 4760 := by
  refine q_ofW (code := cX9_dimensionOf) (nL := 3) (ret := (some .int)) (by decide +kernel) rfl (Nat.le_of_ble_eq_true rfl) (fun p e s m below meth c C _ => ?_)
  refine q_lv (lv2 := [(0, .ref (ga 0))]) rfl ?_
  obtain ⟨kc, hkc⟩ : ∃ z, z = 0 := ⟨_, rfl⟩
  obtain ⟨ks, hks⟩ : ∃ z, z = 0 := ⟨_, rfl⟩
  refine q_nm (wz := ws) (ka := kc) (kb := ks) (sz := []) rfl hkc.symm hks.symm rfl ?_
  refine q_iconst (pc := 0) C (-1 : Int32) dX9_dimensionOf_0 q_ci_m1 ?_
  refine q_istore_n (pc := 1) (lvq := [(1, .int (-1 : Int32)), (0, .ref (ga 0))]) C dX9_dimensionOf_1 rfl (by decide) rfl ?_
  refine q_iconst (pc := 2) C (0 : Int32) dX9_dimensionOf_2 q_ci_0 ?_
  refine q_istore_n (pc := 3) (lvq := [(2, .int (0 : Int32)), (1, .int (-1 : Int32)), (0, .ref (ga 0))]) C dX9_dimensionOf_3 rfl (by decide) rfl ?_
  refine q_sub (lvq := [(0, .ref (ga 0)), (1, .int (-1 : Int32)), (2, .int (0 : Int32))]) [2, 1, 0] rfl ?_
  exact w_X9_dimensionOf_4 C 70 (kc) (ks) (-1 : Int32) (0 : Int32) ws hf hW (by omega) (by omega)
theorem z_X9_dimension : q_dsc yX9_dimension 0 := ⟨by decide +kernel, by decide +kernel, by decide +kernel⟩
theorem n_X9_dimension_X9 : ∀ w ∈ wsX90, w ∈ wsX9_dimension := fun _ h => (List.mem_cons_of_mem _ (List.mem_append_left _ (List.mem_append_left _ (List.mem_append_right _ h))))
def f_X9_dimension (S : MS) : Option (Int32 × MS) := ((f_X9_dimensionOf (mset S 0 (0 : Int32))).bind fun u1 => some (u1, (mset S 0 (0 : Int32))))
set_option maxRecDepth 100000 in
set_option maxHeartbeats 8000000 in
theorem c_X9_dimension (l : Launch) (D : va_G) (cc : Nat → ClassId) (N0 : Nat) (ga : Nat → Nat) (ad : Nat → Nat → Nat) (E : va_W) (S : MS) (v : (Int32 × MS)) (hf : f_X9_dimension S = some v) (ws : va_W) (hW : mW cc ga ad S E ws) : q_Met l yX9_dimension wsX9_dimension 5 137 D cc N0 ws [.ref (ga 0)] (fun rv w1 => rv = some (.int v.1) ∧ mW cc ga ad v.2 E w1) 140 4760 := by
  refine q_ofW (code := cX9_dimension) (nL := 1) (ret := (some .int)) (by decide +kernel) rfl (Nat.le_of_ble_eq_true rfl) (fun p e s m below meth c C _ => ?_)
  refine q_lv (lv2 := [(0, .ref (ga 0))]) rfl ?_
  obtain ⟨kc, hkc⟩ : ∃ z, z = 0 := ⟨_, rfl⟩
  obtain ⟨ks, hks⟩ : ∃ z, z = 0 := ⟨_, rfl⟩
  refine q_nm (wz := ws) (ka := kc) (kb := ks) (sz := []) rfl hkc.symm hks.symm rfl ?_
  refine q_aload_n (pc := 0) C dX9_dimension_0 rfl 0 rfl ?_
  refine q_iconst (pc := 1) C (0 : Int32) dX9_dimension_1 q_ci_0 ?_
  refine m_p_0 (pc := 2) C hW n_X9_dimension_X9 (List.mem_of_getElem? (i := 1) rfl) dX9_dimension_2 (fun ws hW => ?_)
  refine q_aload_n (pc := 5) C dX9_dimension_5 rfl 0 rfl ?_
  obtain ⟨u1, e2, hf⟩ := q_bind hf
  obtain ⟨_, he⟩ := hW.obj
  refine q_callV (pc := 6) (As := []) (rest := []) C (c_X9_dimensionOf l D cc N0 ga ad  E (mset S 0 (0 : Int32))  u1 e2 ws hW) gX9_dimension_X9_dimensionOf rfl rfl z_X9_dimensionOf ⟨Nat.le_of_ble_eq_true rfl, Nat.le_of_ble_eq_true rfl⟩ he rfl rfl rfl (Nat.le_of_ble_eq_true rfl) dX9_dimension_6 ⟨(show (kc) + 140 ≤ 140 by omega), (show (ks) + 4760 ≤ 4760 by omega)⟩ ?_
  rintro _ ws ⟨rfl, hW⟩
  refine q_nm (wz := ws) (ka := kc + 140) (kb := ks + 4760) (sz := [.int u1]) rfl rfl rfl rfl ?_
  refine q_wid (show kc + 140 ≤ 140 by omega) (show ks + 4760 ≤ 4760 by omega) ?_
  obtain rfl := q_some hf
  exact q_iret (pc := 9) C dX9_dimension_9 ⟨rfl, hW⟩
theorem z_X9_lessonOf : q_dsc yX9_lessonOf 1 := ⟨by decide +kernel, by decide +kernel, by decide +kernel⟩
theorem n_X9_lessonOf_X9 : ∀ w ∈ wsX90, w ∈ wsX9_lessonOf := fun _ h => (List.mem_cons_of_mem _ (List.mem_append_left _ (List.mem_append_right _ h)))
def f_X9_lessonOf_113 (S : MS) (k7 : Int32 → Int32 → Int32 → Option Int32) (v1 : Int32) (v3 : Int32) (vt0 : Int32) : Option Int32 := k7 v1 vt0 (v3 + (1 : Int32))
def f_X9_lessonOf_87 (S : MS) (k7 : Int32 → Int32 → Int32 → Option Int32) (k23 : Int32 → Int32 → Int32 → Int32 → Int32 → Option Int32) (v1 : Int32) (v2 : Int32) (v3 : Int32) (v5 : Int32) (vt0 : Int32) (vt1 : Int32) : Option Int32 := k23 v1 v2 v3 (vt1 &&& vt0) (v5 + (1 : Int32))
def f_X9_lessonOf_82 (S : MS) (k7 : Int32 → Int32 → Int32 → Option Int32) (k23 : Int32 → Int32 → Int32 → Int32 → Int32 → Option Int32) (v1 : Int32) (v2 : Int32) (v3 : Int32) (v5 : Int32) (vt0 : Int32) : Option Int32 := f_X9_lessonOf_87 S k7 k23 v1 v2 v3 v5 (1 : Int32) vt0
def f_X9_lessonOf_23b (S : MS) (k7 : Int32 → Int32 → Int32 → Option Int32) (k23 : Int32 → Int32 → Int32 → Int32 → Int32 → Option Int32) (v1 : Int32) (v2 : Int32) (v3 : Int32) (v4 : Int32) (v5 : Int32) : Option Int32 := (if (nI (S.2.1 0)) ≤ v5 then (if v4 = 0 then f_X9_lessonOf_113 S k7 v1 v3 v2 else f_X9_lessonOf_113 S k7 v1 v3 (q_min v2 (f_J6_bitCount_0f7a4 v3))) else (if v5 = v1 then f_X9_lessonOf_82 S k7 k23 v1 v2 v3 v5 v4 else (if q_in v5 (S.2.1 0) then (if v5.toNatClampNeg < S.2.1 0 then (if q_in v1 (S.2.1 0) then (if v1.toNatClampNeg < S.2.1 0 then (if (((S.2.2.1 0 v5.toNatClampNeg 0) ^^^ (S.2.2.1 0 v1.toNatClampNeg 0)) &&& v3) = 0 then f_X9_lessonOf_87 S k7 k23 v1 v2 v3 v5 (0 : Int32) v4 else f_X9_lessonOf_82 S k7 k23 v1 v2 v3 v5 v4) else none) else none) else none) else none)))
def f_X9_lessonOf_23 (S : MS) (k7 : Int32 → Int32 → Int32 → Option Int32) : Nat → Int32 → Int32 → Int32 → Int32 → Int32 → Option Int32
  | 0, _, _, _, _, _ => none
  | n + 1, v1, v2, v3, v4, v5 => f_X9_lessonOf_23b S k7 (f_X9_lessonOf_23 S k7 n) v1 v2 v3 v4 v5
def f_X9_lessonOf_7b (S : MS) (k7 : Int32 → Int32 → Int32 → Option Int32) (v1 : Int32) (v2 : Int32) (v3 : Int32) : Option Int32 := (if ((1 : Int32) <<< ((S.1 2) &&& 31)) ≤ v3 then some v2 else f_X9_lessonOf_23 S k7 1000 v1 v2 v3 (1 : Int32) (0 : Int32))
def f_X9_lessonOf_7 (S : MS) : Nat → Int32 → Int32 → Int32 → Option Int32
  | 0, _, _, _ => none
  | n + 1, v1, v2, v3 => f_X9_lessonOf_7b S (f_X9_lessonOf_7 S n) v1 v2 v3
def f_X9_lessonOf (S : MS) (a1 : Int32) : Option Int32 := f_X9_lessonOf_7 S 1000 a1 (S.1 2) (0 : Int32)
set_option maxRecDepth 100000 in
set_option maxHeartbeats 8000000 in
theorem w_X9_lessonOf_113 {p : Program} {l : Launch} {e : Env} {s : State} {m : MethodId} {args : Array Value} {below : List Frame} {meth : Method} {c : Code} {D : va_G} {cc : Nat → ClassId} {N0 : Nat} {ga : Nat → Nat} {E : va_W} {ad : Nat → Nat → Nat} {S : MS} {k7 : Int32 → Int32 → Int32 → Option Int32} {v : Int32} (C : q_C p s m args meth c cX9_lessonOf 6 (some .int) wsX9_lessonOf RX9 D cc N0) (hk7 : ∀ (v1 : Int32) (v2 : Int32) (v3 : Int32)  (ws : va_W), k7 v1 v2 v3 = some v → mW cc ga ad S E ws → q_WA p l e (q_rm (4) (100) 0 0) s m args below meth c D N0 6 (MQ below (q_Q D N0 (fun rv w1 => rv = some (.int v) ∧ mW cc ga ad S E w1)) args s 0 0 (q_A N0)) 0 0 ws 7 [(0, .ref (ga 0)), (1, .int v1), (2, .int v2), (3, .int v3)] []) (v1 : Int32) (v3 : Int32) (vt0 : Int32)  (ws : va_W) : f_X9_lessonOf_113 S k7 v1 v3 vt0 = some v → mW cc ga ad S E ws → q_WA p l e (q_rm (4) (100) 0 0) s m args below meth c D N0 6 (MQ below (q_Q D N0 (fun rv w1 => rv = some (.int v) ∧ mW cc ga ad S E w1)) args s 0 0 (q_A N0)) 0 0 ws 113 [(0, .ref (ga 0)), (1, .int v1), (3, .int v3)] [.int vt0] := by
  intro hf hW
  refine q_istore_n (pc := 113) (lvq := [(2, .int vt0), (0, .ref (ga 0)), (1, .int v1), (3, .int v3)]) C dX9_lessonOf_113 rfl (by decide) rfl ?_
  refine q_iinc (pc := 114) (lvq := [(3, .int (v3 + (1 : Int32))), (2, .int vt0), (0, .ref (ga 0)), (1, .int v1)]) C (v3 + (1 : Int32)) dX9_lessonOf_114 3 rfl q_ca_1 (by decide) rfl ?_
  refine q_goto (pc := 117) (tgt := 7) C dX9_lessonOf_117 (by decide) ?_
  refine q_sub (lvq := [(0, .ref (ga 0)), (1, .int v1), (2, .int vt0), (3, .int (v3 + (1 : Int32)))]) [2, 3, 1, 0] rfl ?_
  exact hk7 v1 vt0 (v3 + (1 : Int32)) ws hf hW
set_option maxRecDepth 100000 in
set_option maxHeartbeats 8000000 in
theorem w_X9_lessonOf_87 {p : Program} {l : Launch} {e : Env} {s : State} {m : MethodId} {args : Array Value} {below : List Frame} {meth : Method} {c : Code} {D : va_G} {cc : Nat → ClassId} {N0 : Nat} {ga : Nat → Nat} {E : va_W} {ad : Nat → Nat → Nat} {S : MS} {k7 : Int32 → Int32 → Int32 → Option Int32} {k23 : Int32 → Int32 → Int32 → Int32 → Int32 → Option Int32} {v : Int32} (C : q_C p s m args meth c cX9_lessonOf 6 (some .int) wsX9_lessonOf RX9 D cc N0) (hk7 : ∀ (v1 : Int32) (v2 : Int32) (v3 : Int32)  (ws : va_W), k7 v1 v2 v3 = some v → mW cc ga ad S E ws → q_WA p l e (q_rm (4) (100) 0 0) s m args below meth c D N0 6 (MQ below (q_Q D N0 (fun rv w1 => rv = some (.int v) ∧ mW cc ga ad S E w1)) args s 0 0 (q_A N0)) 0 0 ws 7 [(0, .ref (ga 0)), (1, .int v1), (2, .int v2), (3, .int v3)] []) (hk23 : ∀ (v1 : Int32) (v2 : Int32) (v3 : Int32) (v4 : Int32) (v5 : Int32)  (ws : va_W), k23 v1 v2 v3 v4 v5 = some v → mW cc ga ad S E ws → q_WA p l e (q_rm (4) (100) 0 0) s m args below meth c D N0 6 (MQ below (q_Q D N0 (fun rv w1 => rv = some (.int v) ∧ mW cc ga ad S E w1)) args s 0 0 (q_A N0)) 0 0 ws 23 [(0, .ref (ga 0)), (1, .int v1), (2, .int v2), (3, .int v3), (4, .int v4), (5, .int v5)] []) (v1 : Int32) (v2 : Int32) (v3 : Int32) (v5 : Int32) (vt0 : Int32) (vt1 : Int32)  (ws : va_W) : f_X9_lessonOf_87 S k7 k23 v1 v2 v3 v5 vt0 vt1 = some v → mW cc ga ad S E ws → q_WA p l e (q_rm (4) (100) 0 0) s m args below meth c D N0 6 (MQ below (q_Q D N0 (fun rv w1 => rv = some (.int v) ∧ mW cc ga ad S E w1)) args s 0 0 (q_A N0)) 0 0 ws 87 [(0, .ref (ga 0)), (1, .int v1), (2, .int v2), (3, .int v3), (5, .int v5)] [.int vt0, .int vt1] := by
  intro hf hW
  refine q_iand (pc := 87) C dX9_lessonOf_87 ?_
  refine q_istore (pc := 88) (lvq := [(4, .int (vt1 &&& vt0)), (0, .ref (ga 0)), (1, .int v1), (2, .int v2), (3, .int v3), (5, .int v5)]) C dX9_lessonOf_88 (by decide) rfl ?_
  refine q_iinc (pc := 90) (lvq := [(5, .int (v5 + (1 : Int32))), (4, .int (vt1 &&& vt0)), (0, .ref (ga 0)), (1, .int v1), (2, .int v2), (3, .int v3)]) C (v5 + (1 : Int32)) dX9_lessonOf_90 5 rfl q_ca_1 (by decide) rfl ?_
  refine q_goto (pc := 93) (tgt := 23) C dX9_lessonOf_93 (by decide) ?_
  refine q_sub (lvq := [(0, .ref (ga 0)), (1, .int v1), (2, .int v2), (3, .int v3), (4, .int (vt1 &&& vt0)), (5, .int (v5 + (1 : Int32)))]) [2, 3, 4, 5, 1, 0] rfl ?_
  exact hk23 v1 v2 v3 (vt1 &&& vt0) (v5 + (1 : Int32)) ws hf hW
set_option maxRecDepth 100000 in
set_option maxHeartbeats 8000000 in
theorem w_X9_lessonOf_82 {p : Program} {l : Launch} {e : Env} {s : State} {m : MethodId} {args : Array Value} {below : List Frame} {meth : Method} {c : Code} {D : va_G} {cc : Nat → ClassId} {N0 : Nat} {ga : Nat → Nat} {E : va_W} {ad : Nat → Nat → Nat} {S : MS} {k7 : Int32 → Int32 → Int32 → Option Int32} {k23 : Int32 → Int32 → Int32 → Int32 → Int32 → Option Int32} {v : Int32} (C : q_C p s m args meth c cX9_lessonOf 6 (some .int) wsX9_lessonOf RX9 D cc N0) (hk7 : ∀ (v1 : Int32) (v2 : Int32) (v3 : Int32)  (ws : va_W), k7 v1 v2 v3 = some v → mW cc ga ad S E ws → q_WA p l e (q_rm (4) (100) 0 0) s m args below meth c D N0 6 (MQ below (q_Q D N0 (fun rv w1 => rv = some (.int v) ∧ mW cc ga ad S E w1)) args s 0 0 (q_A N0)) 0 0 ws 7 [(0, .ref (ga 0)), (1, .int v1), (2, .int v2), (3, .int v3)] []) (hk23 : ∀ (v1 : Int32) (v2 : Int32) (v3 : Int32) (v4 : Int32) (v5 : Int32)  (ws : va_W), k23 v1 v2 v3 v4 v5 = some v → mW cc ga ad S E ws → q_WA p l e (q_rm (4) (100) 0 0) s m args below meth c D N0 6 (MQ below (q_Q D N0 (fun rv w1 => rv = some (.int v) ∧ mW cc ga ad S E w1)) args s 0 0 (q_A N0)) 0 0 ws 23 [(0, .ref (ga 0)), (1, .int v1), (2, .int v2), (3, .int v3), (4, .int v4), (5, .int v5)] []) (v1 : Int32) (v2 : Int32) (v3 : Int32) (v5 : Int32) (vt0 : Int32)  (ws : va_W) : f_X9_lessonOf_82 S k7 k23 v1 v2 v3 v5 vt0 = some v → mW cc ga ad S E ws → q_WA p l e (q_rm (4) (100) 0 0) s m args below meth c D N0 6 (MQ below (q_Q D N0 (fun rv w1 => rv = some (.int v) ∧ mW cc ga ad S E w1)) args s 0 0 (q_A N0)) 0 0 ws 82 [(0, .ref (ga 0)), (1, .int v1), (2, .int v2), (3, .int v3), (5, .int v5)] [.int vt0] := by
  intro hf hW
  refine q_iconst (pc := 82) C (1 : Int32) dX9_lessonOf_82 q_ci_1 ?_
  refine q_goto (pc := 83) (tgt := 87) C dX9_lessonOf_83 (by decide) ?_
  refine q_sub (lvq := [(0, .ref (ga 0)), (1, .int v1), (2, .int v2), (3, .int v3), (5, .int v5)]) [0, 1, 2, 3, 4] rfl ?_
  exact w_X9_lessonOf_87 C hk7 hk23 v1 v2 v3 v5 (1 : Int32) vt0 ws hf hW
set_option maxRecDepth 100000 in
set_option maxHeartbeats 8000000 in
theorem w_X9_lessonOf_23 {p : Program} {l : Launch} {e : Env} {s : State} {m : MethodId} {args : Array Value} {below : List Frame} {meth : Method} {c : Code} {D : va_G} {cc : Nat → ClassId} {N0 : Nat} {ga : Nat → Nat} {E : va_W} {ad : Nat → Nat → Nat} {S : MS} {k7 : Int32 → Int32 → Int32 → Option Int32} {v : Int32} (C : q_C p s m args meth c cX9_lessonOf 6 (some .int) wsX9_lessonOf RX9 D cc N0) (hk7 : ∀ (v1 : Int32) (v2 : Int32) (v3 : Int32)  (ws : va_W), k7 v1 v2 v3 = some v → mW cc ga ad S E ws → q_WA p l e (q_rm (4) (100) 0 0) s m args below meth c D N0 6 (MQ below (q_Q D N0 (fun rv w1 => rv = some (.int v) ∧ mW cc ga ad S E w1)) args s 0 0 (q_A N0)) 0 0 ws 7 [(0, .ref (ga 0)), (1, .int v1), (2, .int v2), (3, .int v3)] []) : ∀ (n : Nat) (v1 : Int32) (v2 : Int32) (v3 : Int32) (v4 : Int32) (v5 : Int32)  (ws : va_W), f_X9_lessonOf_23 S k7 n v1 v2 v3 v4 v5 = some v → mW cc ga ad S E ws → q_WA p l e (q_rm (4) (100) 0 0) s m args below meth c D N0 6 (MQ below (q_Q D N0 (fun rv w1 => rv = some (.int v) ∧ mW cc ga ad S E w1)) args s 0 0 (q_A N0)) 0 0 ws 23 [(0, .ref (ga 0)), (1, .int v1), (2, .int v2), (3, .int v3), (4, .int v4), (5, .int v5)] [] := by
  intro n
  induction n with
  | zero => intro v1 v2 v3 v4 v5 ws hf; cases hf
  | succ n ih =>
    intro v1 v2 v3 v4 v5 ws hf hW
    have hk23 : ∀ (v1 : Int32) (v2 : Int32) (v3 : Int32) (v4 : Int32) (v5 : Int32)  (ws : va_W), f_X9_lessonOf_23 S k7 n v1 v2 v3 v4 v5 = some v → mW cc ga ad S E ws → q_WA p l e (q_rm (4) (100) 0 0) s m args below meth c D N0 6 (MQ below (q_Q D N0 (fun rv w1 => rv = some (.int v) ∧ mW cc ga ad S E w1)) args s 0 0 (q_A N0)) 0 0 ws 23 [(0, .ref (ga 0)), (1, .int v1), (2, .int v2), (3, .int v3), (4, .int v4), (5, .int v5)] [] := ih
    have hf : f_X9_lessonOf_23b S k7 (f_X9_lessonOf_23 S k7 n) v1 v2 v3 v4 v5 = some v := hf
    refine q_iload (pc := 23) C dX9_lessonOf_23 5 rfl ?_
    refine q_aload_n (pc := 25) C dX9_lessonOf_25 rfl 0 rfl ?_
    refine m_g_1 (pc := 26) C hW n_X9_lessonOf_X9 (List.mem_of_getElem? (i := 2) rfl) dX9_lessonOf_26 ?_
    refine m_size_0 (pc := 29) C hW gX9_lessonOf_Jx4a65c_size_8abf5_f50Jx4a65c ⟨Nat.le_of_ble_eq_true rfl, Nat.le_of_ble_eq_true rfl⟩ (Nat.le_of_ble_eq_true rfl) dX9_lessonOf_29 ⟨Nat.le_of_ble_eq_true rfl, Nat.le_of_ble_eq_true rfl⟩ ?_
    refine q_icmp_ge (pc := 34) (tgt := 96) C dX9_lessonOf_34 (by decide) (fun c2 => ?_) (fun c2 => ?_)
    · have hf := q_iteT hf c2
      refine q_iload (pc := 96) C dX9_lessonOf_96 4 rfl ?_
      refine q_if_eq (pc := 98) (tgt := 112) C dX9_lessonOf_98 (by decide) (fun c3 => ?_) (fun c3 => ?_)
      · have hf := q_iteT hf c3
        refine q_iload_n (pc := 112) C dX9_lessonOf_112 rfl 2 rfl ?_
        refine q_sub (lvq := [(0, .ref (ga 0)), (1, .int v1), (3, .int v3)]) [0, 1, 3] rfl ?_
        exact w_X9_lessonOf_113 C hk7 v1 v3 v2 ws hf hW
      · have hf := q_iteF hf c3
        refine q_iload_n (pc := 101) C dX9_lessonOf_101 rfl 2 rfl ?_
        refine q_iload_n (pc := 102) C dX9_lessonOf_102 rfl 3 rfl ?_
        refine q_callS (pc := 103) (As := [.int v3]) (rest := [.int v2]) C (c_J6_bitCount_0f7a4 l D cc N0 ws v3 _ rfl) gX9_lessonOf_J6_bitCount_0f7a4 rfl z_J6_bitCount_0f7a4 ⟨Nat.le_of_ble_eq_true rfl, Nat.le_of_ble_eq_true rfl⟩ rfl rfl (Nat.le_of_ble_eq_true rfl) dX9_lessonOf_103 ⟨Nat.le_of_ble_eq_true rfl, Nat.le_of_ble_eq_true rfl⟩ ?_
        refine q_after (rv := (some (.int (f_J6_bitCount_0f7a4 v3)))) (w0 := ws) (st2 := [.int (f_J6_bitCount_0f7a4 v3), .int v2]) rfl rfl rfl ?_
        refine q_mmin (pc := 106) C (List.mem_of_getElem? (i := 4) rfl) (List.mem_of_getElem? (i := 5) rfl) (List.mem_of_getElem? (i := 6) rfl) (List.mem_of_getElem? (i := 7) rfl) (Nat.le_of_ble_eq_true rfl) (Nat.le_of_ble_eq_true rfl) ⟨Nat.le_of_ble_eq_true rfl, Nat.le_of_ble_eq_true rfl⟩ dX9_lessonOf_106 ?_
        refine q_goto (pc := 109) (tgt := 113) C dX9_lessonOf_109 (by decide) ?_
        refine q_sub (lvq := [(0, .ref (ga 0)), (1, .int v1), (3, .int v3)]) [0, 1, 3] rfl ?_
        exact w_X9_lessonOf_113 C hk7 v1 v3 (q_min v2 (f_J6_bitCount_0f7a4 v3)) ws hf hW
    · have hf := q_iteF hf c2
      refine q_iload (pc := 37) C dX9_lessonOf_37 4 rfl ?_
      refine q_iload (pc := 39) C dX9_lessonOf_39 5 rfl ?_
      refine q_iload_n (pc := 41) C dX9_lessonOf_41 rfl 1 rfl ?_
      refine q_icmp_eq (pc := 42) (tgt := 82) C dX9_lessonOf_42 (by decide) (fun c4 => ?_) (fun c4 => ?_)
      · have hf := q_iteT hf c4
        refine q_sub (lvq := [(0, .ref (ga 0)), (1, .int v1), (2, .int v2), (3, .int v3), (5, .int v5)]) [0, 1, 2, 3, 5] rfl ?_
        exact w_X9_lessonOf_82 C hk7 hk23 v1 v2 v3 v5 v4 ws hf hW
      · have hf := q_iteF hf c4
        refine q_aload_n (pc := 45) C dX9_lessonOf_45 rfl 0 rfl ?_
        refine m_g_1 (pc := 46) C hW n_X9_lessonOf_X9 (List.mem_of_getElem? (i := 2) rfl) dX9_lessonOf_46 ?_
        refine q_iload (pc := 49) C dX9_lessonOf_49 5 rfl ?_
        obtain ⟨g5, hf⟩ := q_gd hf
        refine m_get_0 (pc := 51) C hW g5 gX9_lessonOf_Jx4a65c_get_915e3_f129Jx4a65c ⟨Nat.le_of_ble_eq_true rfl, Nat.le_of_ble_eq_true rfl⟩ (Nat.le_of_ble_eq_true rfl) dX9_lessonOf_51 ⟨Nat.le_of_ble_eq_true rfl, Nat.le_of_ble_eq_true rfl⟩ ?_
        refine m_cast_0 (pc := 56) C hW g5.2 (List.mem_of_getElem? (i := 3) rfl) dX9_lessonOf_56 ?_
        refine q_iconst (pc := 59) C (0 : Int32) dX9_lessonOf_59 q_ci_0 ?_
        obtain ⟨g6, hf⟩ := q_gd hf
        refine m_rald_0 (pc := 60) C hW g6 ⟨by decide, by decide⟩ dX9_lessonOf_60 ?_
        refine q_nm (wz := ws) (ka := 0) (kb := 0) (sz := [.int (S.2.2.1 0 v5.toNatClampNeg 0), .int v4]) rfl rfl rfl rfl ?_
        refine q_aload_n (pc := 61) C dX9_lessonOf_61 rfl 0 rfl ?_
        refine m_g_1 (pc := 62) C hW n_X9_lessonOf_X9 (List.mem_of_getElem? (i := 2) rfl) dX9_lessonOf_62 ?_
        refine q_iload_n (pc := 65) C dX9_lessonOf_65 rfl 1 rfl ?_
        obtain ⟨g7, hf⟩ := q_gd hf
        refine m_get_0 (pc := 66) C hW g7 gX9_lessonOf_Jx4a65c_get_915e3_f129Jx4a65c ⟨Nat.le_of_ble_eq_true rfl, Nat.le_of_ble_eq_true rfl⟩ (Nat.le_of_ble_eq_true rfl) dX9_lessonOf_66 ⟨Nat.le_of_ble_eq_true rfl, Nat.le_of_ble_eq_true rfl⟩ ?_
        refine m_cast_0 (pc := 71) C hW g7.2 (List.mem_of_getElem? (i := 3) rfl) dX9_lessonOf_71 ?_
        refine q_iconst (pc := 74) C (0 : Int32) dX9_lessonOf_74 q_ci_0 ?_
        obtain ⟨g8, hf⟩ := q_gd hf
        refine m_rald_0 (pc := 75) C hW g8 ⟨by decide, by decide⟩ dX9_lessonOf_75 ?_
        refine q_nm (wz := ws) (ka := 0) (kb := 0) (sz := [.int (S.2.2.1 0 v1.toNatClampNeg 0), .int (S.2.2.1 0 v5.toNatClampNeg 0), .int v4]) rfl rfl rfl rfl ?_
        refine q_ixor (pc := 76) C dX9_lessonOf_76 ?_
        refine q_iload_n (pc := 77) C dX9_lessonOf_77 rfl 3 rfl ?_
        refine q_iand (pc := 78) C dX9_lessonOf_78 ?_
        refine q_if_eq (pc := 79) (tgt := 86) C dX9_lessonOf_79 (by decide) (fun c9 => ?_) (fun c9 => ?_)
        · have hf := q_iteT hf c9
          refine q_iconst (pc := 86) C (0 : Int32) dX9_lessonOf_86 q_ci_0 ?_
          refine q_sub (lvq := [(0, .ref (ga 0)), (1, .int v1), (2, .int v2), (3, .int v3), (5, .int v5)]) [0, 1, 2, 3, 5] rfl ?_
          exact w_X9_lessonOf_87 C hk7 hk23 v1 v2 v3 v5 (0 : Int32) v4 ws hf hW
        · have hf := q_iteF hf c9
          refine q_sub (lvq := [(0, .ref (ga 0)), (1, .int v1), (2, .int v2), (3, .int v3), (5, .int v5)]) [0, 1, 2, 3, 5] rfl ?_
          exact w_X9_lessonOf_82 C hk7 hk23 v1 v2 v3 v5 v4 ws hf hW
set_option maxRecDepth 100000 in
set_option maxHeartbeats 8000000 in
theorem w_X9_lessonOf_7 {p : Program} {l : Launch} {e : Env} {s : State} {m : MethodId} {args : Array Value} {below : List Frame} {meth : Method} {c : Code} {D : va_G} {cc : Nat → ClassId} {N0 : Nat} {ga : Nat → Nat} {E : va_W} {ad : Nat → Nat → Nat} {S : MS} {v : Int32} (C : q_C p s m args meth c cX9_lessonOf 6 (some .int) wsX9_lessonOf RX9 D cc N0)  : ∀ (n : Nat) (v1 : Int32) (v2 : Int32) (v3 : Int32)  (ws : va_W), f_X9_lessonOf_7 S n v1 v2 v3 = some v → mW cc ga ad S E ws → q_WA p l e (q_rm (4) (100) 0 0) s m args below meth c D N0 6 (MQ below (q_Q D N0 (fun rv w1 => rv = some (.int v) ∧ mW cc ga ad S E w1)) args s 0 0 (q_A N0)) 0 0 ws 7 [(0, .ref (ga 0)), (1, .int v1), (2, .int v2), (3, .int v3)] [] := by
  intro n
  induction n with
  | zero => intro v1 v2 v3 ws hf; cases hf
  | succ n ih =>
    intro v1 v2 v3 ws hf hW
    have hk7 : ∀ (v1 : Int32) (v2 : Int32) (v3 : Int32)  (ws : va_W), f_X9_lessonOf_7 S n v1 v2 v3 = some v → mW cc ga ad S E ws → q_WA p l e (q_rm (4) (100) 0 0) s m args below meth c D N0 6 (MQ below (q_Q D N0 (fun rv w1 => rv = some (.int v) ∧ mW cc ga ad S E w1)) args s 0 0 (q_A N0)) 0 0 ws 7 [(0, .ref (ga 0)), (1, .int v1), (2, .int v2), (3, .int v3)] [] := ih
    have hf : f_X9_lessonOf_7b S (f_X9_lessonOf_7 S n) v1 v2 v3 = some v := hf
    refine q_iload_n (pc := 7) C dX9_lessonOf_7 rfl 3 rfl ?_
    refine q_iconst (pc := 8) C (1 : Int32) dX9_lessonOf_8 q_ci_1 ?_
    refine q_aload_n (pc := 9) C dX9_lessonOf_9 rfl 0 rfl ?_
    refine m_g_2 (pc := 10) C hW n_X9_lessonOf_X9 (List.mem_of_getElem? (i := 1) rfl) dX9_lessonOf_10 ?_
    refine q_ishl (pc := 13) C dX9_lessonOf_13 ?_
    refine q_icmp_ge (pc := 14) (tgt := 120) C dX9_lessonOf_14 (by decide) (fun c1 => ?_) (fun c1 => ?_)
    · have hf := q_iteT hf c1
      refine q_iload_n (pc := 120) C dX9_lessonOf_120 rfl 2 rfl ?_
      obtain rfl := q_some hf
      exact q_iret (pc := 121) C dX9_lessonOf_121 ⟨rfl, hW⟩
    · have hf := q_iteF hf c1
      refine q_iconst (pc := 17) C (1 : Int32) dX9_lessonOf_17 q_ci_1 ?_
      refine q_istore (pc := 18) (lvq := [(4, .int (1 : Int32)), (0, .ref (ga 0)), (1, .int v1), (2, .int v2), (3, .int v3)]) C dX9_lessonOf_18 (by decide) rfl ?_
      refine q_iconst (pc := 20) C (0 : Int32) dX9_lessonOf_20 q_ci_0 ?_
      refine q_istore (pc := 21) (lvq := [(5, .int (0 : Int32)), (4, .int (1 : Int32)), (0, .ref (ga 0)), (1, .int v1), (2, .int v2), (3, .int v3)]) C dX9_lessonOf_21 (by decide) rfl ?_
      refine q_sub (lvq := [(0, .ref (ga 0)), (1, .int v1), (2, .int v2), (3, .int v3), (4, .int (1 : Int32)), (5, .int (0 : Int32))]) [2, 3, 4, 5, 1, 0] rfl ?_
      exact w_X9_lessonOf_23 C hk7 1000 v1 v2 v3 (1 : Int32) (0 : Int32) ws hf hW
set_option maxRecDepth 100000 in
set_option maxHeartbeats 8000000 in
theorem c_X9_lessonOf (l : Launch) (D : va_G) (cc : Nat → ClassId) (N0 : Nat) (ga : Nat → Nat) (ad : Nat → Nat → Nat) (E : va_W) (S : MS) (a1 : Int32) (v : Int32) (hf : f_X9_lessonOf S a1 = some v) (ws : va_W) (hW : mW cc ga ad S E ws) : q_Met l yX9_lessonOf wsX9_lessonOf 4 100 D cc N0 ws [.ref (ga 0), .int a1] (fun rv w1 => rv = some (.int v) ∧ mW cc ga ad S E w1) 0 0 := by
  refine q_ofW (code := cX9_lessonOf) (nL := 6) (ret := (some .int)) (by decide +kernel) rfl (Nat.le_of_ble_eq_true rfl) (fun p e s m below meth c C _ => ?_)
  refine q_lv (lv2 := [(0, .ref (ga 0)), (1, .int a1)]) rfl ?_
  refine q_aload_n (pc := 0) C dX9_lessonOf_0 rfl 0 rfl ?_
  refine m_g_2 (pc := 1) C hW n_X9_lessonOf_X9 (List.mem_of_getElem? (i := 1) rfl) dX9_lessonOf_1 ?_
  refine q_istore_n (pc := 4) (lvq := [(2, .int (S.1 2)), (0, .ref (ga 0)), (1, .int a1)]) C dX9_lessonOf_4 rfl (by decide) rfl ?_
  refine q_iconst (pc := 5) C (0 : Int32) dX9_lessonOf_5 q_ci_0 ?_
  refine q_istore_n (pc := 6) (lvq := [(3, .int (0 : Int32)), (2, .int (S.1 2)), (0, .ref (ga 0)), (1, .int a1)]) C dX9_lessonOf_6 rfl (by decide) rfl ?_
  refine q_sub (lvq := [(0, .ref (ga 0)), (1, .int a1), (2, .int (S.1 2)), (3, .int (0 : Int32))]) [2, 3, 1, 0] rfl ?_
  exact w_X9_lessonOf_7 C 1000 a1 (S.1 2) (0 : Int32) ws hf hW
theorem z_X9_lesson : q_dsc yX9_lesson 1 := ⟨by decide +kernel, by decide +kernel, by decide +kernel⟩
def f_X9_lesson (a1 : Int32) (S : MS) : Option (Int32 × MS) := ((f_X9_isNoConcept a1 S).bind fun u1 => (if (q_b u1.1) = 0 then ((f_X9_lessonOf u1.2 a1).bind fun u4 => some (u4, u1.2)) else some ((0 : Int32), u1.2)))
set_option maxRecDepth 100000 in
set_option maxHeartbeats 8000000 in
theorem c_X9_lesson (l : Launch) (D : va_G) (cc : Nat → ClassId) (N0 : Nat) (ga : Nat → Nat) (ad : Nat → Nat → Nat) (E : va_W) (S : MS) (a1 : Int32) (v : (Int32 × MS)) (hf : f_X9_lesson a1 S = some v) (ws : va_W) (hW : mW cc ga ad S E ws) : q_Met l yX9_lesson wsX9_lesson 5 125 D cc N0 ws [.ref (ga 0), .int a1] (fun rv w1 => rv = some (.int v.1) ∧ mW cc ga ad v.2 E w1) 0 0 := by
  refine q_ofW (code := cX9_lesson) (nL := 2) (ret := (some .int)) (by decide +kernel) rfl (Nat.le_of_ble_eq_true rfl) (fun p e s m below meth c C _ => ?_)
  refine q_lv (lv2 := [(0, .ref (ga 0)), (1, .int a1)]) rfl ?_
  refine q_aload_n (pc := 0) C dX9_lesson_0 rfl 0 rfl ?_
  refine q_iload_n (pc := 1) C dX9_lesson_1 rfl 1 rfl ?_
  obtain ⟨u1, e2, hf⟩ := q_bind hf
  obtain ⟨_, he⟩ := hW.obj
  refine q_callV (pc := 2) (As := [.int a1]) (rest := []) C (c_X9_isNoConcept l D cc N0 ga ad  E S a1 u1 e2 ws hW) gX9_lesson_X9_isNoConcept rfl rfl z_X9_isNoConcept ⟨Nat.le_of_ble_eq_true rfl, Nat.le_of_ble_eq_true rfl⟩ he rfl rfl rfl (Nat.le_of_ble_eq_true rfl) dX9_lesson_2 ⟨Nat.le_of_ble_eq_true rfl, Nat.le_of_ble_eq_true rfl⟩ ?_
  rintro _ ws ⟨rfl, hW⟩
  refine q_nm (wz := ws) (ka := 0) (kb := 0) (sz := [.int (q_b u1.1)]) rfl rfl rfl rfl ?_
  refine q_if_eq (pc := 5) (tgt := 12) C dX9_lesson_5 (by decide) (fun c3 => ?_) (fun c3 => ?_)
  · have hf := q_iteT hf c3
    refine q_aload_n (pc := 12) C dX9_lesson_12 rfl 0 rfl ?_
    refine q_iload_n (pc := 13) C dX9_lesson_13 rfl 1 rfl ?_
    obtain ⟨u4, e5, hf⟩ := q_bind hf
    obtain ⟨_, he⟩ := hW.obj
    refine q_callV (pc := 14) (As := [.int a1]) (rest := []) C (c_X9_lessonOf l D cc N0 ga ad  E u1.2 a1 u4 e5 ws hW) gX9_lesson_X9_lessonOf rfl rfl z_X9_lessonOf ⟨Nat.le_of_ble_eq_true rfl, Nat.le_of_ble_eq_true rfl⟩ he rfl rfl rfl (Nat.le_of_ble_eq_true rfl) dX9_lesson_14 ⟨Nat.le_of_ble_eq_true rfl, Nat.le_of_ble_eq_true rfl⟩ ?_
    rintro _ ws ⟨rfl, hW⟩
    refine q_nm (wz := ws) (ka := 0) (kb := 0) (sz := [.int u4]) rfl rfl rfl rfl ?_
    obtain rfl := q_some hf
    exact q_iret (pc := 17) C dX9_lesson_17 ⟨rfl, hW⟩
  · have hf := q_iteF hf c3
    refine q_iconst (pc := 8) C (0 : Int32) dX9_lesson_8 q_ci_0 ?_
    refine q_goto (pc := 9) (tgt := 17) C dX9_lesson_9 (by decide) ?_
    obtain rfl := q_some hf
    exact q_iret (pc := 17) C dX9_lesson_17 ⟨rfl, hW⟩
theorem z_X9_with : q_dsc yX9_with 3 := ⟨by decide +kernel, by decide +kernel, by decide +kernel⟩
theorem n_X9_with_X9 : ∀ w ∈ wsX90, w ∈ wsX9_with := fun _ h => (List.mem_cons_of_mem _ (List.mem_append_left _ (List.mem_append_right _ h)))
def f_X9_with_64 (S : MS) (k6 : Int32 → Int32 → Int32 → Int32 → Int32 → Option Int32) (v1 : Int32) (v2 : Int32) (v3 : Int32) (v5 : Int32) (vt0 : Int32) (vt1 : Int32) : Option Int32 := k6 v1 v2 v3 (vt1 ||| vt0) (v5 + (1 : Int32))
def f_X9_with_63 (S : MS) (k6 : Int32 → Int32 → Int32 → Int32 → Int32 → Option Int32) (v1 : Int32) (v2 : Int32) (v3 : Int32) (v5 : Int32) (vt0 : Int32) : Option Int32 := f_X9_with_64 S k6 v1 v2 v3 v5 (0 : Int32) vt0
def f_X9_with_6b (S : MS) (k6 : Int32 → Int32 → Int32 → Int32 → Int32 → Option Int32) (v1 : Int32) (v2 : Int32) (v3 : Int32) (v4 : Int32) (v5 : Int32) : Option Int32 := (if (nI (S.2.1 0)) ≤ v5 then some v4 else (if ((v1 >>> (v5 &&& 31)) &&& (1 : Int32)) = (1 : Int32) then (if q_in v5 (S.2.1 0) then (if v5.toNatClampNeg < S.2.1 0 then (if (q_b (f_X9_hasPoint (S.2.2.1 0 v5.toNatClampNeg 0) v2)) = v3 then f_X9_with_64 S k6 v1 v2 v3 v5 ((1 : Int32) <<< (v5 &&& 31)) v4 else f_X9_with_63 S k6 v1 v2 v3 v5 v4) else none) else none) else f_X9_with_63 S k6 v1 v2 v3 v5 v4))
def f_X9_with_6 (S : MS) : Nat → Int32 → Int32 → Int32 → Int32 → Int32 → Option Int32
  | 0, _, _, _, _, _ => none
  | n + 1, v1, v2, v3, v4, v5 => f_X9_with_6b S (f_X9_with_6 S n) v1 v2 v3 v4 v5
def f_X9_with (S : MS) (a1 : Int32) (a2 : Int32) (a3 : Int32) : Option Int32 := f_X9_with_6 S 1000 a1 a2 a3 (0 : Int32) (0 : Int32)
set_option maxRecDepth 100000 in
set_option maxHeartbeats 8000000 in
theorem w_X9_with_64 {p : Program} {l : Launch} {e : Env} {s : State} {m : MethodId} {args : Array Value} {below : List Frame} {meth : Method} {c : Code} {D : va_G} {cc : Nat → ClassId} {N0 : Nat} {ga : Nat → Nat} {E : va_W} {ad : Nat → Nat → Nat} {S : MS} {k6 : Int32 → Int32 → Int32 → Int32 → Int32 → Option Int32} {v : Int32} (C : q_C p s m args meth c cX9_with 6 (some .int) wsX9_with RX9 D cc N0) (hk6 : ∀ (v1 : Int32) (v2 : Int32) (v3 : Int32) (v4 : Int32) (v5 : Int32)  (ws : va_W), k6 v1 v2 v3 v4 v5 = some v → mW cc ga ad S E ws → q_WA p l e (q_rm (4) (100) 0 0) s m args below meth c D N0 6 (MQ below (q_Q D N0 (fun rv w1 => rv = some (.int v) ∧ mW cc ga ad S E w1)) args s 0 0 (q_A N0)) 0 0 ws 6 [(0, .ref (ga 0)), (1, .int v1), (2, .int v2), (3, .int v3), (4, .int v4), (5, .int v5)] []) (v1 : Int32) (v2 : Int32) (v3 : Int32) (v5 : Int32) (vt0 : Int32) (vt1 : Int32)  (ws : va_W) : f_X9_with_64 S k6 v1 v2 v3 v5 vt0 vt1 = some v → mW cc ga ad S E ws → q_WA p l e (q_rm (4) (100) 0 0) s m args below meth c D N0 6 (MQ below (q_Q D N0 (fun rv w1 => rv = some (.int v) ∧ mW cc ga ad S E w1)) args s 0 0 (q_A N0)) 0 0 ws 64 [(0, .ref (ga 0)), (1, .int v1), (2, .int v2), (3, .int v3), (5, .int v5)] [.int vt0, .int vt1] := by
  intro hf hW
  refine q_ior (pc := 64) C dX9_with_64 ?_
  refine q_istore (pc := 65) (lvq := [(4, .int (vt1 ||| vt0)), (0, .ref (ga 0)), (1, .int v1), (2, .int v2), (3, .int v3), (5, .int v5)]) C dX9_with_65 (by decide) rfl ?_
  refine q_iinc (pc := 67) (lvq := [(5, .int (v5 + (1 : Int32))), (4, .int (vt1 ||| vt0)), (0, .ref (ga 0)), (1, .int v1), (2, .int v2), (3, .int v3)]) C (v5 + (1 : Int32)) dX9_with_67 5 rfl q_ca_1 (by decide) rfl ?_
  refine q_goto (pc := 70) (tgt := 6) C dX9_with_70 (by decide) ?_
  refine q_sub (lvq := [(0, .ref (ga 0)), (1, .int v1), (2, .int v2), (3, .int v3), (4, .int (vt1 ||| vt0)), (5, .int (v5 + (1 : Int32)))]) [2, 3, 4, 5, 1, 0] rfl ?_
  exact hk6 v1 v2 v3 (vt1 ||| vt0) (v5 + (1 : Int32)) ws hf hW
set_option maxRecDepth 100000 in
set_option maxHeartbeats 8000000 in
theorem w_X9_with_63 {p : Program} {l : Launch} {e : Env} {s : State} {m : MethodId} {args : Array Value} {below : List Frame} {meth : Method} {c : Code} {D : va_G} {cc : Nat → ClassId} {N0 : Nat} {ga : Nat → Nat} {E : va_W} {ad : Nat → Nat → Nat} {S : MS} {k6 : Int32 → Int32 → Int32 → Int32 → Int32 → Option Int32} {v : Int32} (C : q_C p s m args meth c cX9_with 6 (some .int) wsX9_with RX9 D cc N0) (hk6 : ∀ (v1 : Int32) (v2 : Int32) (v3 : Int32) (v4 : Int32) (v5 : Int32)  (ws : va_W), k6 v1 v2 v3 v4 v5 = some v → mW cc ga ad S E ws → q_WA p l e (q_rm (4) (100) 0 0) s m args below meth c D N0 6 (MQ below (q_Q D N0 (fun rv w1 => rv = some (.int v) ∧ mW cc ga ad S E w1)) args s 0 0 (q_A N0)) 0 0 ws 6 [(0, .ref (ga 0)), (1, .int v1), (2, .int v2), (3, .int v3), (4, .int v4), (5, .int v5)] []) (v1 : Int32) (v2 : Int32) (v3 : Int32) (v5 : Int32) (vt0 : Int32)  (ws : va_W) : f_X9_with_63 S k6 v1 v2 v3 v5 vt0 = some v → mW cc ga ad S E ws → q_WA p l e (q_rm (4) (100) 0 0) s m args below meth c D N0 6 (MQ below (q_Q D N0 (fun rv w1 => rv = some (.int v) ∧ mW cc ga ad S E w1)) args s 0 0 (q_A N0)) 0 0 ws 63 [(0, .ref (ga 0)), (1, .int v1), (2, .int v2), (3, .int v3), (5, .int v5)] [.int vt0] := by
  intro hf hW
  refine q_iconst (pc := 63) C (0 : Int32) dX9_with_63 q_ci_0 ?_
  refine q_sub (lvq := [(0, .ref (ga 0)), (1, .int v1), (2, .int v2), (3, .int v3), (5, .int v5)]) [0, 1, 2, 3, 4] rfl ?_
  exact w_X9_with_64 C hk6 v1 v2 v3 v5 (0 : Int32) vt0 ws hf hW
set_option maxRecDepth 100000 in
set_option maxHeartbeats 8000000 in
theorem w_X9_with_6 {p : Program} {l : Launch} {e : Env} {s : State} {m : MethodId} {args : Array Value} {below : List Frame} {meth : Method} {c : Code} {D : va_G} {cc : Nat → ClassId} {N0 : Nat} {ga : Nat → Nat} {E : va_W} {ad : Nat → Nat → Nat} {S : MS} {v : Int32} (C : q_C p s m args meth c cX9_with 6 (some .int) wsX9_with RX9 D cc N0)  : ∀ (n : Nat) (v1 : Int32) (v2 : Int32) (v3 : Int32) (v4 : Int32) (v5 : Int32)  (ws : va_W), f_X9_with_6 S n v1 v2 v3 v4 v5 = some v → mW cc ga ad S E ws → q_WA p l e (q_rm (4) (100) 0 0) s m args below meth c D N0 6 (MQ below (q_Q D N0 (fun rv w1 => rv = some (.int v) ∧ mW cc ga ad S E w1)) args s 0 0 (q_A N0)) 0 0 ws 6 [(0, .ref (ga 0)), (1, .int v1), (2, .int v2), (3, .int v3), (4, .int v4), (5, .int v5)] [] := by
  intro n
  induction n with
  | zero => intro v1 v2 v3 v4 v5 ws hf; cases hf
  | succ n ih =>
    intro v1 v2 v3 v4 v5 ws hf hW
    have hk6 : ∀ (v1 : Int32) (v2 : Int32) (v3 : Int32) (v4 : Int32) (v5 : Int32)  (ws : va_W), f_X9_with_6 S n v1 v2 v3 v4 v5 = some v → mW cc ga ad S E ws → q_WA p l e (q_rm (4) (100) 0 0) s m args below meth c D N0 6 (MQ below (q_Q D N0 (fun rv w1 => rv = some (.int v) ∧ mW cc ga ad S E w1)) args s 0 0 (q_A N0)) 0 0 ws 6 [(0, .ref (ga 0)), (1, .int v1), (2, .int v2), (3, .int v3), (4, .int v4), (5, .int v5)] [] := ih
    have hf : f_X9_with_6b S (f_X9_with_6 S n) v1 v2 v3 v4 v5 = some v := hf
    refine q_iload (pc := 6) C dX9_with_6 5 rfl ?_
    refine q_aload_n (pc := 8) C dX9_with_8 rfl 0 rfl ?_
    refine m_g_1 (pc := 9) C hW n_X9_with_X9 (List.mem_of_getElem? (i := 1) rfl) dX9_with_9 ?_
    refine m_size_0 (pc := 12) C hW gX9_with_Jx4a65c_size_8abf5_f50Jx4a65c ⟨Nat.le_of_ble_eq_true rfl, Nat.le_of_ble_eq_true rfl⟩ (Nat.le_of_ble_eq_true rfl) dX9_with_12 ⟨Nat.le_of_ble_eq_true rfl, Nat.le_of_ble_eq_true rfl⟩ ?_
    refine q_icmp_ge (pc := 17) (tgt := 73) C dX9_with_17 (by decide) (fun c1 => ?_) (fun c1 => ?_)
    · have hf := q_iteT hf c1
      refine q_iload (pc := 73) C dX9_with_73 4 rfl ?_
      obtain rfl := q_some hf
      exact q_iret (pc := 75) C dX9_with_75 ⟨rfl, hW⟩
    · have hf := q_iteF hf c1
      refine q_iload (pc := 20) C dX9_with_20 4 rfl ?_
      refine q_iload_n (pc := 22) C dX9_with_22 rfl 1 rfl ?_
      refine q_iload (pc := 23) C dX9_with_23 5 rfl ?_
      refine q_ishr (pc := 25) C dX9_with_25 ?_
      refine q_iconst (pc := 26) C (1 : Int32) dX9_with_26 q_ci_1 ?_
      refine q_iand (pc := 27) C dX9_with_27 ?_
      refine q_iconst (pc := 28) C (1 : Int32) dX9_with_28 q_ci_1 ?_
      refine q_icmp_ne (pc := 29) (tgt := 63) C dX9_with_29 (by decide) (fun c2 => ?_) (fun c2 => ?_)
      · have hf := q_iteF hf c2
        refine q_sub (lvq := [(0, .ref (ga 0)), (1, .int v1), (2, .int v2), (3, .int v3), (5, .int v5)]) [0, 1, 2, 3, 5] rfl ?_
        exact w_X9_with_63 C hk6 v1 v2 v3 v5 v4 ws hf hW
      · have hf := q_iteT hf c2
        refine q_aload_n (pc := 32) C dX9_with_32 rfl 0 rfl ?_
        refine m_g_1 (pc := 33) C hW n_X9_with_X9 (List.mem_of_getElem? (i := 1) rfl) dX9_with_33 ?_
        refine q_iload (pc := 36) C dX9_with_36 5 rfl ?_
        obtain ⟨g3, hf⟩ := q_gd hf
        refine m_get_0 (pc := 38) C hW g3 gX9_with_Jx4a65c_get_915e3_f129Jx4a65c ⟨Nat.le_of_ble_eq_true rfl, Nat.le_of_ble_eq_true rfl⟩ (Nat.le_of_ble_eq_true rfl) dX9_with_38 ⟨Nat.le_of_ble_eq_true rfl, Nat.le_of_ble_eq_true rfl⟩ ?_
        refine m_cast_0 (pc := 43) C hW g3.2 (List.mem_of_getElem? (i := 2) rfl) dX9_with_43 ?_
        refine q_iconst (pc := 46) C (0 : Int32) dX9_with_46 q_ci_0 ?_
        obtain ⟨g4, hf⟩ := q_gd hf
        refine m_rald_0 (pc := 47) C hW g4 ⟨by decide, by decide⟩ dX9_with_47 ?_
        refine q_nm (wz := ws) (ka := 0) (kb := 0) (sz := [.int (S.2.2.1 0 v5.toNatClampNeg 0), .int v4]) rfl rfl rfl rfl ?_
        refine q_iload_n (pc := 48) C dX9_with_48 rfl 2 rfl ?_
        refine q_callS (pc := 49) (As := [.int (S.2.2.1 0 v5.toNatClampNeg 0), .int v2]) (rest := [.int v4]) C (c_X9_hasPoint l D cc N0 ws (S.2.2.1 0 v5.toNatClampNeg 0) v2 _ rfl) gX9_with_X9_hasPoint rfl z_X9_hasPoint ⟨Nat.le_of_ble_eq_true rfl, Nat.le_of_ble_eq_true rfl⟩ rfl rfl (Nat.le_of_ble_eq_true rfl) dX9_with_49 ⟨Nat.le_of_ble_eq_true rfl, Nat.le_of_ble_eq_true rfl⟩ ?_
        refine q_after (rv := (some (.int (q_b (f_X9_hasPoint (S.2.2.1 0 v5.toNatClampNeg 0) v2))))) (w0 := ws) (st2 := [.int (q_b (f_X9_hasPoint (S.2.2.1 0 v5.toNatClampNeg 0) v2)), .int v4]) rfl rfl rfl ?_
        refine q_iload_n (pc := 52) C dX9_with_52 rfl 3 rfl ?_
        refine q_icmp_ne (pc := 53) (tgt := 63) C dX9_with_53 (by decide) (fun c5 => ?_) (fun c5 => ?_)
        · have hf := q_iteF hf c5
          refine q_sub (lvq := [(0, .ref (ga 0)), (1, .int v1), (2, .int v2), (3, .int v3), (5, .int v5)]) [0, 1, 2, 3, 5] rfl ?_
          exact w_X9_with_63 C hk6 v1 v2 v3 v5 v4 ws hf hW
        · have hf := q_iteT hf c5
          refine q_iconst (pc := 56) C (1 : Int32) dX9_with_56 q_ci_1 ?_
          refine q_iload (pc := 57) C dX9_with_57 5 rfl ?_
          refine q_ishl (pc := 59) C dX9_with_59 ?_
          refine q_goto (pc := 60) (tgt := 64) C dX9_with_60 (by decide) ?_
          refine q_sub (lvq := [(0, .ref (ga 0)), (1, .int v1), (2, .int v2), (3, .int v3), (5, .int v5)]) [0, 1, 2, 3, 5] rfl ?_
          exact w_X9_with_64 C hk6 v1 v2 v3 v5 ((1 : Int32) <<< (v5 &&& 31)) v4 ws hf hW
set_option maxRecDepth 100000 in
set_option maxHeartbeats 8000000 in
theorem c_X9_with (l : Launch) (D : va_G) (cc : Nat → ClassId) (N0 : Nat) (ga : Nat → Nat) (ad : Nat → Nat → Nat) (E : va_W) (S : MS) (a1 : Int32) (a2 : Int32) (a3 : Int32) (v : Int32) (hf : f_X9_with S a1 a2 a3 = some v) (ws : va_W) (hW : mW cc ga ad S E ws) : q_Met l yX9_with wsX9_with 4 100 D cc N0 ws [.ref (ga 0), .int a1, .int a2, .int a3] (fun rv w1 => rv = some (.int v) ∧ mW cc ga ad S E w1) 0 0 := by
  refine q_ofW (code := cX9_with) (nL := 6) (ret := (some .int)) (by decide +kernel) rfl (Nat.le_of_ble_eq_true rfl) (fun p e s m below meth c C _ => ?_)
  refine q_lv (lv2 := [(0, .ref (ga 0)), (1, .int a1), (2, .int a2), (3, .int a3)]) rfl ?_
  refine q_iconst (pc := 0) C (0 : Int32) dX9_with_0 q_ci_0 ?_
  refine q_istore (pc := 1) (lvq := [(4, .int (0 : Int32)), (0, .ref (ga 0)), (1, .int a1), (2, .int a2), (3, .int a3)]) C dX9_with_1 (by decide) rfl ?_
  refine q_iconst (pc := 3) C (0 : Int32) dX9_with_3 q_ci_0 ?_
  refine q_istore (pc := 4) (lvq := [(5, .int (0 : Int32)), (4, .int (0 : Int32)), (0, .ref (ga 0)), (1, .int a1), (2, .int a2), (3, .int a3)]) C dX9_with_4 (by decide) rfl ?_
  refine q_sub (lvq := [(0, .ref (ga 0)), (1, .int a1), (2, .int a2), (3, .int a3), (4, .int (0 : Int32)), (5, .int (0 : Int32))]) [2, 3, 4, 5, 1, 0] rfl ?_
  exact w_X9_with_6 C 1000 a1 a2 a3 (0 : Int32) (0 : Int32) ws hf hW
theorem z_X9_depthOf : q_dsc yX9_depthOf 1 := ⟨by decide +kernel, by decide +kernel, by decide +kernel⟩
theorem n_X9_depthOf_X9 : ∀ w ∈ wsX90, w ∈ wsX9_depthOf := fun _ h => (List.mem_cons_of_mem _ (List.mem_append_left _ (List.mem_append_right _ h)))
def f_X9_depthOf_86 (S : MS) (rc : Int32 → Option Int32) (k17 : Int32 → Int32 → Int32 → Option Int32) (v1 : Int32) (v2 : Int32) (v3 : Int32) : Option Int32 := k17 v1 v2 (v3 + (1 : Int32))
def f_X9_depthOf_17b (S : MS) (rc : Int32 → Option Int32) (k17 : Int32 → Int32 → Int32 → Option Int32) (v1 : Int32) (v2 : Int32) (v3 : Int32) : Option Int32 := (if (S.1 2) ≤ v3 then some v2 else ((f_X9_with S v1 v3 (1 : Int32)).bind fun u3 => (if u3 = 0 then f_X9_depthOf_86 S rc k17 v1 v2 v3 else (if u3 = v1 then f_X9_depthOf_86 S rc k17 v1 v2 v3 else ((rc u3).bind fun u7 => (if v2 ≤ (u7 + (1 : Int32)) then f_X9_depthOf_86 S rc k17 v1 v2 v3 else ((rc (v1 &&& (u3 ^^^ (-1 : Int32)))).bind fun u10 => f_X9_depthOf_86 S rc k17 v1 (q_min v2 ((1 : Int32) + (q_max u7 u10))) v3)))))))
def f_X9_depthOf_17 (S : MS) (rc : Int32 → Option Int32) : Nat → Int32 → Int32 → Int32 → Option Int32
  | 0, _, _, _ => none
  | n + 1, v1, v2, v3 => f_X9_depthOf_17b S rc (f_X9_depthOf_17 S rc n) v1 v2 v3
def f_X9_depthOfb (S : MS) (rc : Int32 → Option Int32) (a1 : Int32) : Option Int32 := (if (2 : Int32) ≤ (f_J6_bitCount_0f7a4 a1) then f_X9_depthOf_17 S rc 1000 a1 (S.1 2) (0 : Int32) else some (0 : Int32))
def f_X9_depthOf (S : MS) : Nat → Int32 → Option Int32
  | 0, _ => none
  | n + 1, a1 => f_X9_depthOfb S (f_X9_depthOf S n) a1
set_option maxRecDepth 100000 in
set_option maxHeartbeats 8000000 in
theorem w_X9_depthOf_86 {p : Program} {l : Launch} {e : Env} {s : State} {m : MethodId} {args : Array Value} {below : List Frame} {meth : Method} {c : Code} {D : va_G} {cc : Nat → ClassId} {N0 : Nat} {ga : Nat → Nat} {E : va_W} {ad : Nat → Nat → Nat} {S : MS} {rc : Int32 → Option Int32} {fu : Nat} {k17 : Int32 → Int32 → Int32 → Option Int32} {v : Int32} (C : q_C p s m args meth c cX9_depthOf 6 (some .int) wsX9_depthOf RX9 D cc N0) (hrec : ∀ (E : va_W) (a1 : Int32) (v : Int32), rc a1 = some v → ∀ ws, mW cc ga ad S E ws → q_Met l yX9_depthOf wsX9_depthOf (fu + 5) (fu * 25 + 125) D cc N0 ws [.ref (ga 0), .int a1] (fun rv w1 => rv = some (.int v) ∧ mW cc ga ad S E w1) 0 0) (hk17 : ∀ (v1 : Int32) (v2 : Int32) (v3 : Int32)  (ws : va_W), k17 v1 v2 v3 = some v → mW cc ga ad S E ws → q_WA p l e (q_rm ((fu + 1) + 5) ((fu + 1) * 25 + 125) 0 0) s m args below meth c D N0 6 (MQ below (q_Q D N0 (fun rv w1 => rv = some (.int v) ∧ mW cc ga ad S E w1)) args s 0 0 (q_A N0)) 0 0 ws 17 [(0, .ref (ga 0)), (1, .int v1), (2, .int v2), (3, .int v3)] []) (v1 : Int32) (v2 : Int32) (v3 : Int32)  (ws : va_W) : f_X9_depthOf_86 S rc k17 v1 v2 v3 = some v → mW cc ga ad S E ws → q_WA p l e (q_rm ((fu + 1) + 5) ((fu + 1) * 25 + 125) 0 0) s m args below meth c D N0 6 (MQ below (q_Q D N0 (fun rv w1 => rv = some (.int v) ∧ mW cc ga ad S E w1)) args s 0 0 (q_A N0)) 0 0 ws 86 [(0, .ref (ga 0)), (1, .int v1), (2, .int v2), (3, .int v3)] [] := by
  intro hf hW
  refine q_iinc (pc := 86) (lvq := [(3, .int (v3 + (1 : Int32))), (0, .ref (ga 0)), (1, .int v1), (2, .int v2)]) C (v3 + (1 : Int32)) dX9_depthOf_86 3 rfl q_ca_1 (by decide) rfl ?_
  refine q_goto (pc := 89) (tgt := 17) C dX9_depthOf_89 (by decide) ?_
  refine q_sub (lvq := [(0, .ref (ga 0)), (1, .int v1), (2, .int v2), (3, .int (v3 + (1 : Int32)))]) [1, 2, 3, 0] rfl ?_
  exact hk17 v1 v2 (v3 + (1 : Int32)) ws hf hW
set_option maxRecDepth 100000 in
set_option maxHeartbeats 8000000 in
theorem w_X9_depthOf_17 {p : Program} {l : Launch} {e : Env} {s : State} {m : MethodId} {args : Array Value} {below : List Frame} {meth : Method} {c : Code} {D : va_G} {cc : Nat → ClassId} {N0 : Nat} {ga : Nat → Nat} {E : va_W} {ad : Nat → Nat → Nat} {S : MS} {rc : Int32 → Option Int32} {fu : Nat} {v : Int32} (C : q_C p s m args meth c cX9_depthOf 6 (some .int) wsX9_depthOf RX9 D cc N0) (hrec : ∀ (E : va_W) (a1 : Int32) (v : Int32), rc a1 = some v → ∀ ws, mW cc ga ad S E ws → q_Met l yX9_depthOf wsX9_depthOf (fu + 5) (fu * 25 + 125) D cc N0 ws [.ref (ga 0), .int a1] (fun rv w1 => rv = some (.int v) ∧ mW cc ga ad S E w1) 0 0)  : ∀ (n : Nat) (v1 : Int32) (v2 : Int32) (v3 : Int32)  (ws : va_W), f_X9_depthOf_17 S rc n v1 v2 v3 = some v → mW cc ga ad S E ws → q_WA p l e (q_rm ((fu + 1) + 5) ((fu + 1) * 25 + 125) 0 0) s m args below meth c D N0 6 (MQ below (q_Q D N0 (fun rv w1 => rv = some (.int v) ∧ mW cc ga ad S E w1)) args s 0 0 (q_A N0)) 0 0 ws 17 [(0, .ref (ga 0)), (1, .int v1), (2, .int v2), (3, .int v3)] [] := by
  intro n
  induction n with
  | zero => intro v1 v2 v3 ws hf; cases hf
  | succ n ih =>
    intro v1 v2 v3 ws hf hW
    have hk17 : ∀ (v1 : Int32) (v2 : Int32) (v3 : Int32)  (ws : va_W), f_X9_depthOf_17 S rc n v1 v2 v3 = some v → mW cc ga ad S E ws → q_WA p l e (q_rm ((fu + 1) + 5) ((fu + 1) * 25 + 125) 0 0) s m args below meth c D N0 6 (MQ below (q_Q D N0 (fun rv w1 => rv = some (.int v) ∧ mW cc ga ad S E w1)) args s 0 0 (q_A N0)) 0 0 ws 17 [(0, .ref (ga 0)), (1, .int v1), (2, .int v2), (3, .int v3)] [] := ih
    have hf : f_X9_depthOf_17b S rc (f_X9_depthOf_17 S rc n) v1 v2 v3 = some v := hf
    refine q_iload_n (pc := 17) C dX9_depthOf_17 rfl 3 rfl ?_
    refine q_aload_n (pc := 18) C dX9_depthOf_18 rfl 0 rfl ?_
    refine m_g_2 (pc := 19) C hW n_X9_depthOf_X9 (List.mem_of_getElem? (i := 1) rfl) dX9_depthOf_19 ?_
    refine q_icmp_ge (pc := 22) (tgt := 92) C dX9_depthOf_22 (by decide) (fun c2 => ?_) (fun c2 => ?_)
    · have hf := q_iteT hf c2
      refine q_iload_n (pc := 92) C dX9_depthOf_92 rfl 2 rfl ?_
      obtain rfl := q_some hf
      exact q_iret (pc := 93) C dX9_depthOf_93 ⟨rfl, hW⟩
    · have hf := q_iteF hf c2
      refine q_aload_n (pc := 25) C dX9_depthOf_25 rfl 0 rfl ?_
      refine q_iload_n (pc := 26) C dX9_depthOf_26 rfl 1 rfl ?_
      refine q_iload_n (pc := 27) C dX9_depthOf_27 rfl 3 rfl ?_
      refine q_iconst (pc := 28) C (1 : Int32) dX9_depthOf_28 q_ci_1 ?_
      obtain ⟨u3, e4, hf⟩ := q_bind hf
      obtain ⟨_, he⟩ := hW.obj
      refine q_callV (pc := 29) (As := [.int v1, .int v3, .int (1 : Int32)]) (rest := []) C (c_X9_with l D cc N0 ga ad  E S v1 v3 (1 : Int32) u3 e4 ws hW) gX9_depthOf_X9_with rfl rfl z_X9_with ⟨(by show (_ : Nat) ≤ (fu + 1) + 5; omega), (by show (_ : Nat) ≤ (fu + 1) * 25 + 125; omega)⟩ he rfl rfl rfl (Nat.le_of_ble_eq_true rfl) dX9_depthOf_29 ⟨Nat.le_of_ble_eq_true rfl, Nat.le_of_ble_eq_true rfl⟩ ?_
      rintro _ ws ⟨rfl, hW⟩
      refine q_nm (wz := ws) (ka := 0) (kb := 0) (sz := [.int u3]) rfl rfl rfl rfl ?_
      refine q_istore (pc := 32) (lvq := [(4, .int u3), (0, .ref (ga 0)), (1, .int v1), (2, .int v2), (3, .int v3)]) C dX9_depthOf_32 (by decide) rfl ?_
      refine q_iload (pc := 34) C dX9_depthOf_34 0 rfl ?_
      refine q_if_eq (pc := 36) (tgt := 86) C dX9_depthOf_36 (by decide) (fun c5 => ?_) (fun c5 => ?_)
      · have hf := q_iteT hf c5
        refine q_sub (lvq := [(0, .ref (ga 0)), (1, .int v1), (2, .int v2), (3, .int v3)]) [1, 2, 3, 4] rfl ?_
        exact w_X9_depthOf_86 C hrec hk17 v1 v2 v3 ws hf hW
      · have hf := q_iteF hf c5
        refine q_iload (pc := 39) C dX9_depthOf_39 0 rfl ?_
        refine q_iload_n (pc := 41) C dX9_depthOf_41 rfl 2 rfl ?_
        refine q_icmp_ne (pc := 42) (tgt := 48) C dX9_depthOf_42 (by decide) (fun c6 => ?_) (fun c6 => ?_)
        · have hf := q_iteF hf c6
          refine q_aload_n (pc := 48) C dX9_depthOf_48 rfl 1 rfl ?_
          refine q_iload (pc := 49) C dX9_depthOf_49 0 rfl ?_
          obtain ⟨u7, e8, hf⟩ := q_bind hf
          obtain ⟨_, he⟩ := hW.obj
          refine q_callV (pc := 51) (As := [.int u3]) (rest := []) C (hrec E u3 u7 e8 ws hW) gX9_depthOf_X9_depthOf rfl rfl z_X9_depthOf ⟨(by show (_ : Nat) ≤ (fu + 1) + 5; omega), (by show (_ : Nat) ≤ (fu + 1) * 25 + 125; omega)⟩ he rfl rfl rfl (Nat.le_of_ble_eq_true rfl) dX9_depthOf_51 ⟨Nat.le_of_ble_eq_true rfl, Nat.le_of_ble_eq_true rfl⟩ ?_
          rintro _ ws ⟨rfl, hW⟩
          refine q_nm (wz := ws) (ka := 0) (kb := 0) (sz := [.int u7]) rfl rfl rfl rfl ?_
          refine q_istore (pc := 54) (lvq := [(5, .int u7), (4, .int u3), (0, .ref (ga 0)), (1, .int v1), (2, .int v2), (3, .int v3)]) C dX9_depthOf_54 (by decide) rfl ?_
          refine q_iload (pc := 56) C dX9_depthOf_56 0 rfl ?_
          refine q_iconst (pc := 58) C (1 : Int32) dX9_depthOf_58 q_ci_1 ?_
          refine q_iadd (pc := 59) C dX9_depthOf_59 ?_
          refine q_iload_n (pc := 60) C dX9_depthOf_60 rfl 4 rfl ?_
          refine q_icmp_ge (pc := 61) (tgt := 86) C dX9_depthOf_61 (by decide) (fun c9 => ?_) (fun c9 => ?_)
          · have hf := q_iteT hf c9
            refine q_sub (lvq := [(0, .ref (ga 0)), (1, .int v1), (2, .int v2), (3, .int v3)]) [2, 3, 4, 5] rfl ?_
            exact w_X9_depthOf_86 C hrec hk17 v1 v2 v3 ws hf hW
          · have hf := q_iteF hf c9
            refine q_iload_n (pc := 64) C dX9_depthOf_64 rfl 4 rfl ?_
            refine q_iconst (pc := 65) C (1 : Int32) dX9_depthOf_65 q_ci_1 ?_
            refine q_iload (pc := 66) C dX9_depthOf_66 0 rfl ?_
            refine q_aload_n (pc := 68) C dX9_depthOf_68 rfl 2 rfl ?_
            refine q_iload_n (pc := 69) C dX9_depthOf_69 rfl 3 rfl ?_
            refine q_iload (pc := 70) C dX9_depthOf_70 1 rfl ?_
            refine q_iconst (pc := 72) C (-1 : Int32) dX9_depthOf_72 q_ci_m1 ?_
            refine q_ixor (pc := 73) C dX9_depthOf_73 ?_
            refine q_iand (pc := 74) C dX9_depthOf_74 ?_
            obtain ⟨u10, e11, hf⟩ := q_bind hf
            obtain ⟨_, he⟩ := hW.obj
            refine q_callV (pc := 75) (As := [.int (v1 &&& (u3 ^^^ (-1 : Int32)))]) (rest := [.int u7, .int (1 : Int32), .int v2]) C (hrec E (v1 &&& (u3 ^^^ (-1 : Int32))) u10 e11 ws hW) gX9_depthOf_X9_depthOf rfl rfl z_X9_depthOf ⟨(by show (_ : Nat) ≤ (fu + 1) + 5; omega), (by show (_ : Nat) ≤ (fu + 1) * 25 + 125; omega)⟩ he rfl rfl rfl (Nat.le_of_ble_eq_true rfl) dX9_depthOf_75 ⟨Nat.le_of_ble_eq_true rfl, Nat.le_of_ble_eq_true rfl⟩ ?_
            rintro _ ws ⟨rfl, hW⟩
            refine q_nm (wz := ws) (ka := 0) (kb := 0) (sz := [.int u10, .int u7, .int (1 : Int32), .int v2]) rfl rfl rfl rfl ?_
            refine q_mmax (pc := 78) C (List.mem_of_getElem? (i := 2) rfl) (List.mem_of_getElem? (i := 3) rfl) (List.mem_of_getElem? (i := 4) rfl) (List.mem_of_getElem? (i := 5) rfl) (by show (_ : Nat) ≤ (fu + 1) + 5; omega) (Nat.le_trans (m := 125) (Nat.le_of_ble_eq_true rfl) (by show 125 ≤ (fu + 1) * 25 + 125; omega)) ⟨Nat.le_of_ble_eq_true rfl, Nat.le_of_ble_eq_true rfl⟩ dX9_depthOf_78 ?_
            refine q_iadd (pc := 81) C dX9_depthOf_81 ?_
            refine q_mmin (pc := 82) C (List.mem_of_getElem? (i := 6) rfl) (List.mem_of_getElem? (i := 7) rfl) (List.mem_of_getElem? (i := 4) rfl) (List.mem_of_getElem? (i := 8) rfl) (by show (_ : Nat) ≤ (fu + 1) + 5; omega) (Nat.le_trans (m := 125) (Nat.le_of_ble_eq_true rfl) (by show 125 ≤ (fu + 1) * 25 + 125; omega)) ⟨Nat.le_of_ble_eq_true rfl, Nat.le_of_ble_eq_true rfl⟩ dX9_depthOf_82 ?_
            refine q_istore_n (pc := 85) (lvq := [(2, .int (q_min v2 ((1 : Int32) + (q_max u7 u10)))), (5, .int u7), (4, .int u3), (0, .ref (ga 0)), (1, .int v1), (3, .int v3)]) C dX9_depthOf_85 rfl (by decide) rfl ?_
            refine q_sub (lvq := [(0, .ref (ga 0)), (1, .int v1), (2, .int (q_min v2 ((1 : Int32) + (q_max u7 u10)))), (3, .int v3)]) [3, 4, 0, 5] rfl ?_
            exact w_X9_depthOf_86 C hrec hk17 v1 (q_min v2 ((1 : Int32) + (q_max u7 u10))) v3 ws hf hW
        · have hf := q_iteT hf c6
          refine q_goto (pc := 45) (tgt := 86) C dX9_depthOf_45 (by decide) ?_
          refine q_sub (lvq := [(0, .ref (ga 0)), (1, .int v1), (2, .int v2), (3, .int v3)]) [1, 2, 3, 4] rfl ?_
          exact w_X9_depthOf_86 C hrec hk17 v1 v2 v3 ws hf hW
set_option maxRecDepth 100000 in
set_option maxHeartbeats 8000000 in
theorem c_X9_depthOfb (l : Launch) (D : va_G) (cc : Nat → ClassId) (N0 : Nat) (ga : Nat → Nat) (ad : Nat → Nat → Nat) (E : va_W) (S : MS) (rc : Int32 → Option Int32) (fu : Nat) (hrec : ∀ (E : va_W) (a1 : Int32) (v : Int32), rc a1 = some v → ∀ ws, mW cc ga ad S E ws → q_Met l yX9_depthOf wsX9_depthOf (fu + 5) (fu * 25 + 125) D cc N0 ws [.ref (ga 0), .int a1] (fun rv w1 => rv = some (.int v) ∧ mW cc ga ad S E w1) 0 0) (a1 : Int32) (v : Int32) (hf : f_X9_depthOfb S rc a1 = some v) (ws : va_W) (hW : mW cc ga ad S E ws) : q_Met l yX9_depthOf wsX9_depthOf ((fu + 1) + 5) ((fu + 1) * 25 + 125) D cc N0 ws [.ref (ga 0), .int a1] (fun rv w1 => rv = some (.int v) ∧ mW cc ga ad S E w1) 0 0 := by
  refine q_ofW (code := cX9_depthOf) (nL := 6) (ret := (some .int)) (by decide +kernel) rfl (Nat.le_of_ble_eq_true rfl) (fun p e s m below meth c C _ => ?_)
  refine q_lv (lv2 := [(0, .ref (ga 0)), (1, .int a1)]) rfl ?_
  refine q_iload_n (pc := 0) C dX9_depthOf_0 rfl 1 rfl ?_
  refine q_callS (pc := 1) (As := [.int a1]) (rest := []) C (c_J6_bitCount_0f7a4 l D cc N0 ws a1 _ rfl) gX9_depthOf_J6_bitCount_0f7a4 rfl z_J6_bitCount_0f7a4 ⟨(Nat.le_trans (m := 5) (Nat.le_of_ble_eq_true rfl) (by show 5 ≤ (fu + 1) + 5; omega)), (Nat.le_trans (m := 125) (Nat.le_of_ble_eq_true rfl) (by show 125 ≤ (fu + 1) * 25 + 125; omega))⟩ rfl rfl (Nat.le_of_ble_eq_true rfl) dX9_depthOf_1 ⟨Nat.le_of_ble_eq_true rfl, Nat.le_of_ble_eq_true rfl⟩ ?_
  refine q_after (rv := (some (.int (f_J6_bitCount_0f7a4 a1)))) (w0 := ws) (st2 := [.int (f_J6_bitCount_0f7a4 a1)]) rfl rfl rfl ?_
  refine q_iconst (pc := 4) C (2 : Int32) dX9_depthOf_4 q_ci_2 ?_
  refine q_icmp_ge (pc := 5) (tgt := 10) C dX9_depthOf_5 (by decide) (fun c1 => ?_) (fun c1 => ?_)
  · have hf := q_iteT hf c1
    refine q_aload_n (pc := 10) C dX9_depthOf_10 rfl 0 rfl ?_
    refine m_g_2 (pc := 11) C hW n_X9_depthOf_X9 (List.mem_of_getElem? (i := 1) rfl) dX9_depthOf_11 ?_
    refine q_istore_n (pc := 14) (lvq := [(2, .int (S.1 2)), (0, .ref (ga 0)), (1, .int a1)]) C dX9_depthOf_14 rfl (by decide) rfl ?_
    refine q_iconst (pc := 15) C (0 : Int32) dX9_depthOf_15 q_ci_0 ?_
    refine q_istore_n (pc := 16) (lvq := [(3, .int (0 : Int32)), (2, .int (S.1 2)), (0, .ref (ga 0)), (1, .int a1)]) C dX9_depthOf_16 rfl (by decide) rfl ?_
    refine q_sub (lvq := [(0, .ref (ga 0)), (1, .int a1), (2, .int (S.1 2)), (3, .int (0 : Int32))]) [2, 3, 1, 0] rfl ?_
    exact w_X9_depthOf_17 C hrec 1000 a1 (S.1 2) (0 : Int32) ws hf hW
  · have hf := q_iteF hf c1
    refine q_iconst (pc := 8) C (0 : Int32) dX9_depthOf_8 q_ci_0 ?_
    obtain rfl := q_some hf
    exact q_iret (pc := 9) C dX9_depthOf_9 ⟨rfl, hW⟩
theorem c_X9_depthOf (l : Launch) (D : va_G) (cc : Nat → ClassId) (N0 : Nat) (ga : Nat → Nat) (ad : Nat → Nat → Nat) : ∀ (fu : Nat) (E : va_W) (S : MS) (a1 : Int32) (v : Int32), f_X9_depthOf S fu a1 = some v → ∀ ws, mW cc ga ad S E ws → q_Met l yX9_depthOf wsX9_depthOf (fu + 5) (fu * 25 + 125) D cc N0 ws [.ref (ga 0), .int a1] (fun rv w1 => rv = some (.int v) ∧ mW cc ga ad S E w1) 0 0 := by
  intro fu
  induction fu with
  | zero => intro E S a1 v hf; cases hf
  | succ fu ih =>
    intro E S a1 v hf ws hW
    exact c_X9_depthOfb l D cc N0 ga ad E S (f_X9_depthOf S fu) fu (fun E a1 v hf ws hW => ih E S a1 v hf ws hW) a1 v hf ws hW
theorem z_X9_depth : q_dsc yX9_depth 0 := ⟨by decide +kernel, by decide +kernel, by decide +kernel⟩
theorem n_X9_depth_X9 : ∀ w ∈ wsX90, w ∈ wsX9_depth := fun _ h => (List.mem_cons_of_mem _ (List.mem_append_left _ (List.mem_append_right _ h)))
def f_X9_depth (S : MS) : Option (Int32 × MS) := ((f_X9_depthOf (mset S 0 (0 : Int32)) 10 (((1 : Int32) <<< ((nI ((mset S 0 (0 : Int32)).2.1 0)) &&& 31)) - (1 : Int32))).bind fun u1 => some (u1, (mset S 0 (0 : Int32))))
set_option maxRecDepth 100000 in
set_option maxHeartbeats 8000000 in
theorem c_X9_depth (l : Launch) (D : va_G) (cc : Nat → ClassId) (N0 : Nat) (ga : Nat → Nat) (ad : Nat → Nat → Nat) (E : va_W) (S : MS) (v : (Int32 × MS)) (hf : f_X9_depth S = some v) (ws : va_W) (hW : mW cc ga ad S E ws) : q_Met l yX9_depth wsX9_depth 16 400 D cc N0 ws [.ref (ga 0)] (fun rv w1 => rv = some (.int v.1) ∧ mW cc ga ad v.2 E w1) 0 0 := by
  refine q_ofW (code := cX9_depth) (nL := 1) (ret := (some .int)) (by decide +kernel) rfl (Nat.le_of_ble_eq_true rfl) (fun p e s m below meth c C _ => ?_)
  refine q_lv (lv2 := [(0, .ref (ga 0))]) rfl ?_
  refine q_aload_n (pc := 0) C dX9_depth_0 rfl 0 rfl ?_
  refine q_iconst (pc := 1) C (0 : Int32) dX9_depth_1 q_ci_0 ?_
  refine m_p_0 (pc := 2) C hW n_X9_depth_X9 (List.mem_of_getElem? (i := 1) rfl) dX9_depth_2 (fun ws hW => ?_)
  refine q_aload_n (pc := 5) C dX9_depth_5 rfl 0 rfl ?_
  refine q_iconst (pc := 6) C (1 : Int32) dX9_depth_6 q_ci_1 ?_
  refine q_aload_n (pc := 7) C dX9_depth_7 rfl 0 rfl ?_
  refine m_g_1 (pc := 8) C hW n_X9_depth_X9 (List.mem_of_getElem? (i := 2) rfl) dX9_depth_8 ?_
  refine m_size_0 (pc := 11) C hW gX9_depth_Jx4a65c_size_8abf5_f50Jx4a65c ⟨Nat.le_of_ble_eq_true rfl, Nat.le_of_ble_eq_true rfl⟩ (Nat.le_of_ble_eq_true rfl) dX9_depth_11 ⟨Nat.le_of_ble_eq_true rfl, Nat.le_of_ble_eq_true rfl⟩ ?_
  refine q_ishl (pc := 16) C dX9_depth_16 ?_
  refine q_iconst (pc := 17) C (1 : Int32) dX9_depth_17 q_ci_1 ?_
  refine q_isub (pc := 18) C dX9_depth_18 ?_
  obtain ⟨u1, e2, hf⟩ := q_bind hf
  obtain ⟨_, he⟩ := hW.obj
  refine q_callV (pc := 19) (As := [.int (((1 : Int32) <<< ((nI ((mset S 0 (0 : Int32)).2.1 0)) &&& 31)) - (1 : Int32))]) (rest := []) C (c_X9_depthOf l D cc N0 ga ad 10 E (mset S 0 (0 : Int32)) (((1 : Int32) <<< ((nI ((mset S 0 (0 : Int32)).2.1 0)) &&& 31)) - (1 : Int32)) u1 e2 ws hW) gX9_depth_X9_depthOf rfl rfl z_X9_depthOf ⟨Nat.le_of_ble_eq_true rfl, Nat.le_of_ble_eq_true rfl⟩ he rfl rfl rfl (Nat.le_of_ble_eq_true rfl) dX9_depth_19 ⟨Nat.le_of_ble_eq_true rfl, Nat.le_of_ble_eq_true rfl⟩ ?_
  rintro _ ws ⟨rfl, hW⟩
  refine q_nm (wz := ws) (ka := 0) (kb := 0) (sz := [.int u1]) rfl rfl rfl rfl ?_
  obtain rfl := q_some hf
  exact q_iret (pc := 22) C dX9_depth_22 ⟨rfl, hW⟩
theorem z_X9_mistakesOf : q_dsc yX9_mistakesOf 1 := ⟨by decide +kernel, by decide +kernel, by decide +kernel⟩
theorem n_X9_mistakesOf_X9 : ∀ w ∈ wsX90, w ∈ wsX9_mistakesOf := fun _ h => (List.mem_cons_of_mem _ (List.mem_append_left _ (List.mem_append_right _ h)))
def f_X9_mistakesOf_71 (S : MS) (rc : Int32 → Option Int32) (k14 : Int32 → Int32 → Int32 → Option Int32) (v1 : Int32) (v2 : Int32) (v3 : Int32) : Option Int32 := k14 v1 v2 (v3 + (1 : Int32))
def f_X9_mistakesOf_14b (S : MS) (rc : Int32 → Option Int32) (k14 : Int32 → Int32 → Int32 → Option Int32) (v1 : Int32) (v2 : Int32) (v3 : Int32) : Option Int32 := (if (S.1 2) ≤ v3 then some v2 else ((f_X9_with S v1 v3 (1 : Int32)).bind fun u3 => (if u3 = 0 then f_X9_mistakesOf_71 S rc k14 v1 v2 v3 else (if u3 = v1 then f_X9_mistakesOf_71 S rc k14 v1 v2 v3 else ((rc u3).bind fun u7 => ((rc (v1 &&& (u3 ^^^ (-1 : Int32)))).bind fun u9 => f_X9_mistakesOf_71 S rc k14 v1 (q_max v2 ((1 : Int32) + (q_min u7 u9))) v3))))))
def f_X9_mistakesOf_14 (S : MS) (rc : Int32 → Option Int32) : Nat → Int32 → Int32 → Int32 → Option Int32
  | 0, _, _, _ => none
  | n + 1, v1, v2, v3 => f_X9_mistakesOf_14b S rc (f_X9_mistakesOf_14 S rc n) v1 v2 v3
def f_X9_mistakesOfb (S : MS) (rc : Int32 → Option Int32) (a1 : Int32) : Option Int32 := (if (2 : Int32) ≤ (f_J6_bitCount_0f7a4 a1) then f_X9_mistakesOf_14 S rc 1000 a1 (0 : Int32) (0 : Int32) else some (0 : Int32))
def f_X9_mistakesOf (S : MS) : Nat → Int32 → Option Int32
  | 0, _ => none
  | n + 1, a1 => f_X9_mistakesOfb S (f_X9_mistakesOf S n) a1
set_option maxRecDepth 100000 in
set_option maxHeartbeats 8000000 in
theorem w_X9_mistakesOf_71 {p : Program} {l : Launch} {e : Env} {s : State} {m : MethodId} {args : Array Value} {below : List Frame} {meth : Method} {c : Code} {D : va_G} {cc : Nat → ClassId} {N0 : Nat} {ga : Nat → Nat} {E : va_W} {ad : Nat → Nat → Nat} {S : MS} {rc : Int32 → Option Int32} {fu : Nat} {k14 : Int32 → Int32 → Int32 → Option Int32} {v : Int32} (C : q_C p s m args meth c cX9_mistakesOf 5 (some .int) wsX9_mistakesOf RX9 D cc N0) (hrec : ∀ (E : va_W) (a1 : Int32) (v : Int32), rc a1 = some v → ∀ ws, mW cc ga ad S E ws → q_Met l yX9_mistakesOf wsX9_mistakesOf (fu + 5) (fu * 24 + 125) D cc N0 ws [.ref (ga 0), .int a1] (fun rv w1 => rv = some (.int v) ∧ mW cc ga ad S E w1) 0 0) (hk14 : ∀ (v1 : Int32) (v2 : Int32) (v3 : Int32)  (ws : va_W), k14 v1 v2 v3 = some v → mW cc ga ad S E ws → q_WA p l e (q_rm ((fu + 1) + 5) ((fu + 1) * 24 + 125) 0 0) s m args below meth c D N0 5 (MQ below (q_Q D N0 (fun rv w1 => rv = some (.int v) ∧ mW cc ga ad S E w1)) args s 0 0 (q_A N0)) 0 0 ws 14 [(0, .ref (ga 0)), (1, .int v1), (2, .int v2), (3, .int v3)] []) (v1 : Int32) (v2 : Int32) (v3 : Int32)  (ws : va_W) : f_X9_mistakesOf_71 S rc k14 v1 v2 v3 = some v → mW cc ga ad S E ws → q_WA p l e (q_rm ((fu + 1) + 5) ((fu + 1) * 24 + 125) 0 0) s m args below meth c D N0 5 (MQ below (q_Q D N0 (fun rv w1 => rv = some (.int v) ∧ mW cc ga ad S E w1)) args s 0 0 (q_A N0)) 0 0 ws 71 [(0, .ref (ga 0)), (1, .int v1), (2, .int v2), (3, .int v3)] [] := by
  intro hf hW
  refine q_iinc (pc := 71) (lvq := [(3, .int (v3 + (1 : Int32))), (0, .ref (ga 0)), (1, .int v1), (2, .int v2)]) C (v3 + (1 : Int32)) dX9_mistakesOf_71 3 rfl q_ca_1 (by decide) rfl ?_
  refine q_goto (pc := 74) (tgt := 14) C dX9_mistakesOf_74 (by decide) ?_
  refine q_sub (lvq := [(0, .ref (ga 0)), (1, .int v1), (2, .int v2), (3, .int (v3 + (1 : Int32)))]) [1, 2, 3, 0] rfl ?_
  exact hk14 v1 v2 (v3 + (1 : Int32)) ws hf hW
set_option maxRecDepth 100000 in
set_option maxHeartbeats 8000000 in
theorem w_X9_mistakesOf_14 {p : Program} {l : Launch} {e : Env} {s : State} {m : MethodId} {args : Array Value} {below : List Frame} {meth : Method} {c : Code} {D : va_G} {cc : Nat → ClassId} {N0 : Nat} {ga : Nat → Nat} {E : va_W} {ad : Nat → Nat → Nat} {S : MS} {rc : Int32 → Option Int32} {fu : Nat} {v : Int32} (C : q_C p s m args meth c cX9_mistakesOf 5 (some .int) wsX9_mistakesOf RX9 D cc N0) (hrec : ∀ (E : va_W) (a1 : Int32) (v : Int32), rc a1 = some v → ∀ ws, mW cc ga ad S E ws → q_Met l yX9_mistakesOf wsX9_mistakesOf (fu + 5) (fu * 24 + 125) D cc N0 ws [.ref (ga 0), .int a1] (fun rv w1 => rv = some (.int v) ∧ mW cc ga ad S E w1) 0 0)  : ∀ (n : Nat) (v1 : Int32) (v2 : Int32) (v3 : Int32)  (ws : va_W), f_X9_mistakesOf_14 S rc n v1 v2 v3 = some v → mW cc ga ad S E ws → q_WA p l e (q_rm ((fu + 1) + 5) ((fu + 1) * 24 + 125) 0 0) s m args below meth c D N0 5 (MQ below (q_Q D N0 (fun rv w1 => rv = some (.int v) ∧ mW cc ga ad S E w1)) args s 0 0 (q_A N0)) 0 0 ws 14 [(0, .ref (ga 0)), (1, .int v1), (2, .int v2), (3, .int v3)] [] := by
  intro n
  induction n with
  | zero => intro v1 v2 v3 ws hf; cases hf
  | succ n ih =>
    intro v1 v2 v3 ws hf hW
    have hk14 : ∀ (v1 : Int32) (v2 : Int32) (v3 : Int32)  (ws : va_W), f_X9_mistakesOf_14 S rc n v1 v2 v3 = some v → mW cc ga ad S E ws → q_WA p l e (q_rm ((fu + 1) + 5) ((fu + 1) * 24 + 125) 0 0) s m args below meth c D N0 5 (MQ below (q_Q D N0 (fun rv w1 => rv = some (.int v) ∧ mW cc ga ad S E w1)) args s 0 0 (q_A N0)) 0 0 ws 14 [(0, .ref (ga 0)), (1, .int v1), (2, .int v2), (3, .int v3)] [] := ih
    have hf : f_X9_mistakesOf_14b S rc (f_X9_mistakesOf_14 S rc n) v1 v2 v3 = some v := hf
    refine q_iload_n (pc := 14) C dX9_mistakesOf_14 rfl 3 rfl ?_
    refine q_aload_n (pc := 15) C dX9_mistakesOf_15 rfl 0 rfl ?_
    refine m_g_2 (pc := 16) C hW n_X9_mistakesOf_X9 (List.mem_of_getElem? (i := 1) rfl) dX9_mistakesOf_16 ?_
    refine q_icmp_ge (pc := 19) (tgt := 77) C dX9_mistakesOf_19 (by decide) (fun c2 => ?_) (fun c2 => ?_)
    · have hf := q_iteT hf c2
      refine q_iload_n (pc := 77) C dX9_mistakesOf_77 rfl 2 rfl ?_
      obtain rfl := q_some hf
      exact q_iret (pc := 78) C dX9_mistakesOf_78 ⟨rfl, hW⟩
    · have hf := q_iteF hf c2
      refine q_aload_n (pc := 22) C dX9_mistakesOf_22 rfl 0 rfl ?_
      refine q_iload_n (pc := 23) C dX9_mistakesOf_23 rfl 1 rfl ?_
      refine q_iload_n (pc := 24) C dX9_mistakesOf_24 rfl 3 rfl ?_
      refine q_iconst (pc := 25) C (1 : Int32) dX9_mistakesOf_25 q_ci_1 ?_
      obtain ⟨u3, e4, hf⟩ := q_bind hf
      obtain ⟨_, he⟩ := hW.obj
      refine q_callV (pc := 26) (As := [.int v1, .int v3, .int (1 : Int32)]) (rest := []) C (c_X9_with l D cc N0 ga ad  E S v1 v3 (1 : Int32) u3 e4 ws hW) gX9_mistakesOf_X9_with rfl rfl z_X9_with ⟨(by show (_ : Nat) ≤ (fu + 1) + 5; omega), (by show (_ : Nat) ≤ (fu + 1) * 24 + 125; omega)⟩ he rfl rfl rfl (Nat.le_of_ble_eq_true rfl) dX9_mistakesOf_26 ⟨Nat.le_of_ble_eq_true rfl, Nat.le_of_ble_eq_true rfl⟩ ?_
      rintro _ ws ⟨rfl, hW⟩
      refine q_nm (wz := ws) (ka := 0) (kb := 0) (sz := [.int u3]) rfl rfl rfl rfl ?_
      refine q_istore (pc := 29) (lvq := [(4, .int u3), (0, .ref (ga 0)), (1, .int v1), (2, .int v2), (3, .int v3)]) C dX9_mistakesOf_29 (by decide) rfl ?_
      refine q_iload (pc := 31) C dX9_mistakesOf_31 0 rfl ?_
      refine q_if_eq (pc := 33) (tgt := 71) C dX9_mistakesOf_33 (by decide) (fun c5 => ?_) (fun c5 => ?_)
      · have hf := q_iteT hf c5
        refine q_sub (lvq := [(0, .ref (ga 0)), (1, .int v1), (2, .int v2), (3, .int v3)]) [1, 2, 3, 4] rfl ?_
        exact w_X9_mistakesOf_71 C hrec hk14 v1 v2 v3 ws hf hW
      · have hf := q_iteF hf c5
        refine q_iload (pc := 36) C dX9_mistakesOf_36 0 rfl ?_
        refine q_iload_n (pc := 38) C dX9_mistakesOf_38 rfl 2 rfl ?_
        refine q_icmp_ne (pc := 39) (tgt := 45) C dX9_mistakesOf_39 (by decide) (fun c6 => ?_) (fun c6 => ?_)
        · have hf := q_iteF hf c6
          refine q_iload_n (pc := 45) C dX9_mistakesOf_45 rfl 3 rfl ?_
          refine q_iconst (pc := 46) C (1 : Int32) dX9_mistakesOf_46 q_ci_1 ?_
          refine q_aload_n (pc := 47) C dX9_mistakesOf_47 rfl 1 rfl ?_
          refine q_iload (pc := 48) C dX9_mistakesOf_48 0 rfl ?_
          obtain ⟨u7, e8, hf⟩ := q_bind hf
          obtain ⟨_, he⟩ := hW.obj
          refine q_callV (pc := 50) (As := [.int u3]) (rest := [.int (1 : Int32), .int v2]) C (hrec E u3 u7 e8 ws hW) gX9_mistakesOf_X9_mistakesOf rfl rfl z_X9_mistakesOf ⟨(by show (_ : Nat) ≤ (fu + 1) + 5; omega), (by show (_ : Nat) ≤ (fu + 1) * 24 + 125; omega)⟩ he rfl rfl rfl (Nat.le_of_ble_eq_true rfl) dX9_mistakesOf_50 ⟨Nat.le_of_ble_eq_true rfl, Nat.le_of_ble_eq_true rfl⟩ ?_
          rintro _ ws ⟨rfl, hW⟩
          refine q_nm (wz := ws) (ka := 0) (kb := 0) (sz := [.int u7, .int (1 : Int32), .int v2]) rfl rfl rfl rfl ?_
          refine q_aload_n (pc := 53) C dX9_mistakesOf_53 rfl 1 rfl ?_
          refine q_iload_n (pc := 54) C dX9_mistakesOf_54 rfl 2 rfl ?_
          refine q_iload (pc := 55) C dX9_mistakesOf_55 0 rfl ?_
          refine q_iconst (pc := 57) C (-1 : Int32) dX9_mistakesOf_57 q_ci_m1 ?_
          refine q_ixor (pc := 58) C dX9_mistakesOf_58 ?_
          refine q_iand (pc := 59) C dX9_mistakesOf_59 ?_
          obtain ⟨u9, e10, hf⟩ := q_bind hf
          obtain ⟨_, he⟩ := hW.obj
          refine q_callV (pc := 60) (As := [.int (v1 &&& (u3 ^^^ (-1 : Int32)))]) (rest := [.int u7, .int (1 : Int32), .int v2]) C (hrec E (v1 &&& (u3 ^^^ (-1 : Int32))) u9 e10 ws hW) gX9_mistakesOf_X9_mistakesOf rfl rfl z_X9_mistakesOf ⟨(by show (_ : Nat) ≤ (fu + 1) + 5; omega), (by show (_ : Nat) ≤ (fu + 1) * 24 + 125; omega)⟩ he rfl rfl rfl (Nat.le_of_ble_eq_true rfl) dX9_mistakesOf_60 ⟨Nat.le_of_ble_eq_true rfl, Nat.le_of_ble_eq_true rfl⟩ ?_
          rintro _ ws ⟨rfl, hW⟩
          refine q_nm (wz := ws) (ka := 0) (kb := 0) (sz := [.int u9, .int u7, .int (1 : Int32), .int v2]) rfl rfl rfl rfl ?_
          refine q_mmin (pc := 63) C (List.mem_of_getElem? (i := 2) rfl) (List.mem_of_getElem? (i := 3) rfl) (List.mem_of_getElem? (i := 4) rfl) (List.mem_of_getElem? (i := 5) rfl) (by show (_ : Nat) ≤ (fu + 1) + 5; omega) (Nat.le_trans (m := 125) (Nat.le_of_ble_eq_true rfl) (by show 125 ≤ (fu + 1) * 24 + 125; omega)) ⟨Nat.le_of_ble_eq_true rfl, Nat.le_of_ble_eq_true rfl⟩ dX9_mistakesOf_63 ?_
          refine q_iadd (pc := 66) C dX9_mistakesOf_66 ?_
          refine q_mmax (pc := 67) C (List.mem_of_getElem? (i := 6) rfl) (List.mem_of_getElem? (i := 7) rfl) (List.mem_of_getElem? (i := 4) rfl) (List.mem_of_getElem? (i := 8) rfl) (by show (_ : Nat) ≤ (fu + 1) + 5; omega) (Nat.le_trans (m := 125) (Nat.le_of_ble_eq_true rfl) (by show 125 ≤ (fu + 1) * 24 + 125; omega)) ⟨Nat.le_of_ble_eq_true rfl, Nat.le_of_ble_eq_true rfl⟩ dX9_mistakesOf_67 ?_
          refine q_istore_n (pc := 70) (lvq := [(2, .int (q_max v2 ((1 : Int32) + (q_min u7 u9)))), (4, .int u3), (0, .ref (ga 0)), (1, .int v1), (3, .int v3)]) C dX9_mistakesOf_70 rfl (by decide) rfl ?_
          refine q_sub (lvq := [(0, .ref (ga 0)), (1, .int v1), (2, .int (q_max v2 ((1 : Int32) + (q_min u7 u9)))), (3, .int v3)]) [2, 3, 0, 4] rfl ?_
          exact w_X9_mistakesOf_71 C hrec hk14 v1 (q_max v2 ((1 : Int32) + (q_min u7 u9))) v3 ws hf hW
        · have hf := q_iteT hf c6
          refine q_goto (pc := 42) (tgt := 71) C dX9_mistakesOf_42 (by decide) ?_
          refine q_sub (lvq := [(0, .ref (ga 0)), (1, .int v1), (2, .int v2), (3, .int v3)]) [1, 2, 3, 4] rfl ?_
          exact w_X9_mistakesOf_71 C hrec hk14 v1 v2 v3 ws hf hW
set_option maxRecDepth 100000 in
set_option maxHeartbeats 8000000 in
theorem c_X9_mistakesOfb (l : Launch) (D : va_G) (cc : Nat → ClassId) (N0 : Nat) (ga : Nat → Nat) (ad : Nat → Nat → Nat) (E : va_W) (S : MS) (rc : Int32 → Option Int32) (fu : Nat) (hrec : ∀ (E : va_W) (a1 : Int32) (v : Int32), rc a1 = some v → ∀ ws, mW cc ga ad S E ws → q_Met l yX9_mistakesOf wsX9_mistakesOf (fu + 5) (fu * 24 + 125) D cc N0 ws [.ref (ga 0), .int a1] (fun rv w1 => rv = some (.int v) ∧ mW cc ga ad S E w1) 0 0) (a1 : Int32) (v : Int32) (hf : f_X9_mistakesOfb S rc a1 = some v) (ws : va_W) (hW : mW cc ga ad S E ws) : q_Met l yX9_mistakesOf wsX9_mistakesOf ((fu + 1) + 5) ((fu + 1) * 24 + 125) D cc N0 ws [.ref (ga 0), .int a1] (fun rv w1 => rv = some (.int v) ∧ mW cc ga ad S E w1) 0 0 := by
  refine q_ofW (code := cX9_mistakesOf) (nL := 5) (ret := (some .int)) (by decide +kernel) rfl (Nat.le_of_ble_eq_true rfl) (fun p e s m below meth c C _ => ?_)
  refine q_lv (lv2 := [(0, .ref (ga 0)), (1, .int a1)]) rfl ?_
  refine q_iload_n (pc := 0) C dX9_mistakesOf_0 rfl 1 rfl ?_
  refine q_callS (pc := 1) (As := [.int a1]) (rest := []) C (c_J6_bitCount_0f7a4 l D cc N0 ws a1 _ rfl) gX9_mistakesOf_J6_bitCount_0f7a4 rfl z_J6_bitCount_0f7a4 ⟨(Nat.le_trans (m := 5) (Nat.le_of_ble_eq_true rfl) (by show 5 ≤ (fu + 1) + 5; omega)), (Nat.le_trans (m := 125) (Nat.le_of_ble_eq_true rfl) (by show 125 ≤ (fu + 1) * 24 + 125; omega))⟩ rfl rfl (Nat.le_of_ble_eq_true rfl) dX9_mistakesOf_1 ⟨Nat.le_of_ble_eq_true rfl, Nat.le_of_ble_eq_true rfl⟩ ?_
  refine q_after (rv := (some (.int (f_J6_bitCount_0f7a4 a1)))) (w0 := ws) (st2 := [.int (f_J6_bitCount_0f7a4 a1)]) rfl rfl rfl ?_
  refine q_iconst (pc := 4) C (2 : Int32) dX9_mistakesOf_4 q_ci_2 ?_
  refine q_icmp_ge (pc := 5) (tgt := 10) C dX9_mistakesOf_5 (by decide) (fun c1 => ?_) (fun c1 => ?_)
  · have hf := q_iteT hf c1
    refine q_iconst (pc := 10) C (0 : Int32) dX9_mistakesOf_10 q_ci_0 ?_
    refine q_istore_n (pc := 11) (lvq := [(2, .int (0 : Int32)), (0, .ref (ga 0)), (1, .int a1)]) C dX9_mistakesOf_11 rfl (by decide) rfl ?_
    refine q_iconst (pc := 12) C (0 : Int32) dX9_mistakesOf_12 q_ci_0 ?_
    refine q_istore_n (pc := 13) (lvq := [(3, .int (0 : Int32)), (2, .int (0 : Int32)), (0, .ref (ga 0)), (1, .int a1)]) C dX9_mistakesOf_13 rfl (by decide) rfl ?_
    refine q_sub (lvq := [(0, .ref (ga 0)), (1, .int a1), (2, .int (0 : Int32)), (3, .int (0 : Int32))]) [2, 3, 1, 0] rfl ?_
    exact w_X9_mistakesOf_14 C hrec 1000 a1 (0 : Int32) (0 : Int32) ws hf hW
  · have hf := q_iteF hf c1
    refine q_iconst (pc := 8) C (0 : Int32) dX9_mistakesOf_8 q_ci_0 ?_
    obtain rfl := q_some hf
    exact q_iret (pc := 9) C dX9_mistakesOf_9 ⟨rfl, hW⟩
theorem c_X9_mistakesOf (l : Launch) (D : va_G) (cc : Nat → ClassId) (N0 : Nat) (ga : Nat → Nat) (ad : Nat → Nat → Nat) : ∀ (fu : Nat) (E : va_W) (S : MS) (a1 : Int32) (v : Int32), f_X9_mistakesOf S fu a1 = some v → ∀ ws, mW cc ga ad S E ws → q_Met l yX9_mistakesOf wsX9_mistakesOf (fu + 5) (fu * 24 + 125) D cc N0 ws [.ref (ga 0), .int a1] (fun rv w1 => rv = some (.int v) ∧ mW cc ga ad S E w1) 0 0 := by
  intro fu
  induction fu with
  | zero => intro E S a1 v hf; cases hf
  | succ fu ih =>
    intro E S a1 v hf ws hW
    exact c_X9_mistakesOfb l D cc N0 ga ad E S (f_X9_mistakesOf S fu) fu (fun E a1 v hf ws hW => ih E S a1 v hf ws hW) a1 v hf ws hW
theorem z_X9_mistakes : q_dsc yX9_mistakes 0 := ⟨by decide +kernel, by decide +kernel, by decide +kernel⟩
theorem n_X9_mistakes_X9 : ∀ w ∈ wsX90, w ∈ wsX9_mistakes := fun _ h => (List.mem_cons_of_mem _ (List.mem_append_left _ (List.mem_append_right _ h)))
def f_X9_mistakes (S : MS) : Option (Int32 × MS) := ((f_X9_mistakesOf (mset S 0 (0 : Int32)) 10 (((1 : Int32) <<< ((nI ((mset S 0 (0 : Int32)).2.1 0)) &&& 31)) - (1 : Int32))).bind fun u1 => some (u1, (mset S 0 (0 : Int32))))
set_option maxRecDepth 100000 in
set_option maxHeartbeats 8000000 in
theorem c_X9_mistakes (l : Launch) (D : va_G) (cc : Nat → ClassId) (N0 : Nat) (ga : Nat → Nat) (ad : Nat → Nat → Nat) (E : va_W) (S : MS) (v : (Int32 × MS)) (hf : f_X9_mistakes S = some v) (ws : va_W) (hW : mW cc ga ad S E ws) : q_Met l yX9_mistakes wsX9_mistakes 16 389 D cc N0 ws [.ref (ga 0)] (fun rv w1 => rv = some (.int v.1) ∧ mW cc ga ad v.2 E w1) 0 0 := by
  refine q_ofW (code := cX9_mistakes) (nL := 1) (ret := (some .int)) (by decide +kernel) rfl (Nat.le_of_ble_eq_true rfl) (fun p e s m below meth c C _ => ?_)
  refine q_lv (lv2 := [(0, .ref (ga 0))]) rfl ?_
  refine q_aload_n (pc := 0) C dX9_mistakes_0 rfl 0 rfl ?_
  refine q_iconst (pc := 1) C (0 : Int32) dX9_mistakes_1 q_ci_0 ?_
  refine m_p_0 (pc := 2) C hW n_X9_mistakes_X9 (List.mem_of_getElem? (i := 1) rfl) dX9_mistakes_2 (fun ws hW => ?_)
  refine q_aload_n (pc := 5) C dX9_mistakes_5 rfl 0 rfl ?_
  refine q_iconst (pc := 6) C (1 : Int32) dX9_mistakes_6 q_ci_1 ?_
  refine q_aload_n (pc := 7) C dX9_mistakes_7 rfl 0 rfl ?_
  refine m_g_1 (pc := 8) C hW n_X9_mistakes_X9 (List.mem_of_getElem? (i := 2) rfl) dX9_mistakes_8 ?_
  refine m_size_0 (pc := 11) C hW gX9_mistakes_Jx4a65c_size_8abf5_f50Jx4a65c ⟨Nat.le_of_ble_eq_true rfl, Nat.le_of_ble_eq_true rfl⟩ (Nat.le_of_ble_eq_true rfl) dX9_mistakes_11 ⟨Nat.le_of_ble_eq_true rfl, Nat.le_of_ble_eq_true rfl⟩ ?_
  refine q_ishl (pc := 16) C dX9_mistakes_16 ?_
  refine q_iconst (pc := 17) C (1 : Int32) dX9_mistakes_17 q_ci_1 ?_
  refine q_isub (pc := 18) C dX9_mistakes_18 ?_
  obtain ⟨u1, e2, hf⟩ := q_bind hf
  obtain ⟨_, he⟩ := hW.obj
  refine q_callV (pc := 19) (As := [.int (((1 : Int32) <<< ((nI ((mset S 0 (0 : Int32)).2.1 0)) &&& 31)) - (1 : Int32))]) (rest := []) C (c_X9_mistakesOf l D cc N0 ga ad 10 E (mset S 0 (0 : Int32)) (((1 : Int32) <<< ((nI ((mset S 0 (0 : Int32)).2.1 0)) &&& 31)) - (1 : Int32)) u1 e2 ws hW) gX9_mistakes_X9_mistakesOf rfl rfl z_X9_mistakesOf ⟨Nat.le_of_ble_eq_true rfl, Nat.le_of_ble_eq_true rfl⟩ he rfl rfl rfl (Nat.le_of_ble_eq_true rfl) dX9_mistakes_19 ⟨Nat.le_of_ble_eq_true rfl, Nat.le_of_ble_eq_true rfl⟩ ?_
  rintro _ ws ⟨rfl, hW⟩
  refine q_nm (wz := ws) (ka := 0) (kb := 0) (sz := [.int u1]) rfl rfl rfl rfl ?_
  obtain rfl := q_some hf
  exact q_iret (pc := 22) C dX9_mistakes_22 ⟨rfl, hW⟩
theorem z_X9_halver : q_dsc yX9_halver 1 := ⟨by decide +kernel, by decide +kernel, by decide +kernel⟩
theorem n_X9_halver_X9 : ∀ w ∈ wsX90, w ∈ wsX9_halver := fun _ h => (List.mem_cons_of_mem _ (List.mem_append_left _ (List.mem_append_right _ h)))
def f_X9_halver_122 (k29 : Int32 → Int32 → Int32 → Int32 → MS → Option (Int32 × MS)) (v1 : Int32) (v3 : Int32) (v4 : Int32) (vt0 : Int32) (S : MS) : Option (Int32 × MS) := k29 v1 vt0 v3 (v4 + (1 : Int32)) S
def f_X9_halver_104 (k29 : Int32 → Int32 → Int32 → Int32 → MS → Option (Int32 × MS)) (v1 : Int32) (v2 : Int32) (v4 : Int32) (v5 : Int32) (v7 : Int32) (vt0 : Int32) (vt1 : Int32) (S : MS) : Option (Int32 × MS) := (if v7 = 0 then f_X9_halver_122 k29 v1 (vt1 + vt0) v4 (v2 &&& (v5 ^^^ (-1 : Int32))) S else f_X9_halver_122 k29 v1 (vt1 + vt0) v4 v5 S)
def f_X9_halver_67 (k29 : Int32 → Int32 → Int32 → Int32 → MS → Option (Int32 × MS)) (v1 : Int32) (v2 : Int32) (v3 : Int32) (v4 : Int32) (v5 : Int32) (vt0 : Int32) (S : MS) : Option (Int32 × MS) := (if q_in v1 (S.2.1 0) then (if v1.toNatClampNeg < S.2.1 0 then (if vt0 = (q_b (f_X9_hasPoint (S.2.2.1 0 v1.toNatClampNeg 0) v4)) then f_X9_halver_104 k29 v1 v2 v4 v5 (q_b (f_X9_hasPoint (S.2.2.1 0 v1.toNatClampNeg 0) v4)) (0 : Int32) v3 S else f_X9_halver_104 k29 v1 v2 v4 v5 (q_b (f_X9_hasPoint (S.2.2.1 0 v1.toNatClampNeg 0) v4)) (1 : Int32) v3 S) else none) else none)
def f_X9_halver_29b (k29 : Int32 → Int32 → Int32 → Int32 → MS → Option (Int32 × MS)) (v1 : Int32) (v2 : Int32) (v3 : Int32) (v4 : Int32) (S : MS) : Option (Int32 × MS) := (if (S.1 2) ≤ v4 then some (v3, S) else ((f_X9_with S v2 v4 (1 : Int32)).bind fun u5 => (if ((2 : Int32) * (f_J6_bitCount_0f7a4 u5)) < (f_J6_bitCount_0f7a4 v2) then f_X9_halver_67 k29 v1 v2 v3 v4 u5 (0 : Int32) S else f_X9_halver_67 k29 v1 v2 v3 v4 u5 (1 : Int32) S)))
def f_X9_halver_29 : Nat → Int32 → Int32 → Int32 → Int32 → MS → Option (Int32 × MS)
  | 0, _, _, _, _, _ => none
  | n + 1, v1, v2, v3, v4, S => f_X9_halver_29b  (f_X9_halver_29  n) v1 v2 v3 v4 S
def f_X9_halver (a1 : Int32) (S : MS) : Option (Int32 × MS) := ((f_X9_isNoConcept a1 S).bind fun u1 => (if (q_b u1.1) = 0 then f_X9_halver_29 1000 a1 (((1 : Int32) <<< ((nI (u1.2.2.1 0)) &&& 31)) - (1 : Int32)) (0 : Int32) (0 : Int32) u1.2 else some ((0 : Int32), u1.2)))
set_option maxRecDepth 100000 in
set_option maxHeartbeats 8000000 in
theorem w_X9_halver_122 {p : Program} {l : Launch} {e : Env} {s : State} {m : MethodId} {args : Array Value} {below : List Frame} {meth : Method} {c : Code} {D : va_G} {cc : Nat → ClassId} {N0 : Nat} {ga : Nat → Nat} {E : va_W} {ad : Nat → Nat → Nat} {k29 : Int32 → Int32 → Int32 → Int32 → MS → Option (Int32 × MS)} {v : (Int32 × MS)} (C : q_C p s m args meth c cX9_halver 8 (some .int) wsX9_halver RX9 D cc N0) (hk29 : ∀ (v1 : Int32) (v2 : Int32) (v3 : Int32) (v4 : Int32) (S : MS)  (ws : va_W), k29 v1 v2 v3 v4 S = some v → mW cc ga ad S E ws → q_WA p l e (q_rm (5) (125) 0 0) s m args below meth c D N0 8 (MQ below (q_Q D N0 (fun rv w1 => rv = some (.int v.1) ∧ mW cc ga ad v.2 E w1)) args s 0 0 (q_A N0)) 0 0 ws 29 [(0, .ref (ga 0)), (1, .int v1), (2, .int v2), (3, .int v3), (4, .int v4)] []) (v1 : Int32) (v3 : Int32) (v4 : Int32) (vt0 : Int32) (S : MS)  (ws : va_W) : f_X9_halver_122 k29 v1 v3 v4 vt0 S = some v → mW cc ga ad S E ws → q_WA p l e (q_rm (5) (125) 0 0) s m args below meth c D N0 8 (MQ below (q_Q D N0 (fun rv w1 => rv = some (.int v.1) ∧ mW cc ga ad v.2 E w1)) args s 0 0 (q_A N0)) 0 0 ws 122 [(0, .ref (ga 0)), (1, .int v1), (3, .int v3), (4, .int v4)] [.int vt0] := by
  intro hf hW
  refine q_istore_n (pc := 122) (lvq := [(2, .int vt0), (0, .ref (ga 0)), (1, .int v1), (3, .int v3), (4, .int v4)]) C dX9_halver_122 rfl (by decide) rfl ?_
  refine q_iinc (pc := 123) (lvq := [(4, .int (v4 + (1 : Int32))), (2, .int vt0), (0, .ref (ga 0)), (1, .int v1), (3, .int v3)]) C (v4 + (1 : Int32)) dX9_halver_123 4 rfl q_ca_1 (by decide) rfl ?_
  refine q_goto (pc := 126) (tgt := 29) C dX9_halver_126 (by decide) ?_
  refine q_sub (lvq := [(0, .ref (ga 0)), (1, .int v1), (2, .int vt0), (3, .int v3), (4, .int (v4 + (1 : Int32)))]) [2, 3, 1, 4, 0] rfl ?_
  exact hk29 v1 vt0 v3 (v4 + (1 : Int32)) S ws hf hW
set_option maxRecDepth 100000 in
set_option maxHeartbeats 8000000 in
theorem w_X9_halver_104 {p : Program} {l : Launch} {e : Env} {s : State} {m : MethodId} {args : Array Value} {below : List Frame} {meth : Method} {c : Code} {D : va_G} {cc : Nat → ClassId} {N0 : Nat} {ga : Nat → Nat} {E : va_W} {ad : Nat → Nat → Nat} {k29 : Int32 → Int32 → Int32 → Int32 → MS → Option (Int32 × MS)} {v : (Int32 × MS)} (C : q_C p s m args meth c cX9_halver 8 (some .int) wsX9_halver RX9 D cc N0) (hk29 : ∀ (v1 : Int32) (v2 : Int32) (v3 : Int32) (v4 : Int32) (S : MS)  (ws : va_W), k29 v1 v2 v3 v4 S = some v → mW cc ga ad S E ws → q_WA p l e (q_rm (5) (125) 0 0) s m args below meth c D N0 8 (MQ below (q_Q D N0 (fun rv w1 => rv = some (.int v.1) ∧ mW cc ga ad v.2 E w1)) args s 0 0 (q_A N0)) 0 0 ws 29 [(0, .ref (ga 0)), (1, .int v1), (2, .int v2), (3, .int v3), (4, .int v4)] []) (v1 : Int32) (v2 : Int32) (v4 : Int32) (v5 : Int32) (v7 : Int32) (vt0 : Int32) (vt1 : Int32) (S : MS)  (ws : va_W) : f_X9_halver_104 k29 v1 v2 v4 v5 v7 vt0 vt1 S = some v → mW cc ga ad S E ws → q_WA p l e (q_rm (5) (125) 0 0) s m args below meth c D N0 8 (MQ below (q_Q D N0 (fun rv w1 => rv = some (.int v.1) ∧ mW cc ga ad v.2 E w1)) args s 0 0 (q_A N0)) 0 0 ws 104 [(0, .ref (ga 0)), (1, .int v1), (2, .int v2), (4, .int v4), (5, .int v5), (7, .int v7)] [.int vt0, .int vt1] := by
  intro hf hW
  refine q_iadd (pc := 104) C dX9_halver_104 ?_
  refine q_istore_n (pc := 105) (lvq := [(3, .int (vt1 + vt0)), (0, .ref (ga 0)), (1, .int v1), (2, .int v2), (4, .int v4), (5, .int v5), (7, .int v7)]) C dX9_halver_105 rfl (by decide) rfl ?_
  refine q_iload (pc := 106) C dX9_halver_106 6 rfl ?_
  refine q_if_eq (pc := 108) (tgt := 116) C dX9_halver_108 (by decide) (fun c11 => ?_) (fun c11 => ?_)
  · have hf := q_iteT hf c11
    refine q_iload_n (pc := 116) C dX9_halver_116 rfl 3 rfl ?_
    refine q_iload (pc := 117) C dX9_halver_117 5 rfl ?_
    refine q_iconst (pc := 119) C (-1 : Int32) dX9_halver_119 q_ci_m1 ?_
    refine q_ixor (pc := 120) C dX9_halver_120 ?_
    refine q_iand (pc := 121) C dX9_halver_121 ?_
    refine q_sub (lvq := [(0, .ref (ga 0)), (1, .int v1), (3, .int (vt1 + vt0)), (4, .int v4)]) [1, 2, 0, 4] rfl ?_
    exact w_X9_halver_122 C hk29 v1 (vt1 + vt0) v4 (v2 &&& (v5 ^^^ (-1 : Int32))) S ws hf hW
  · have hf := q_iteF hf c11
    refine q_iload (pc := 111) C dX9_halver_111 5 rfl ?_
    refine q_goto (pc := 113) (tgt := 122) C dX9_halver_113 (by decide) ?_
    refine q_sub (lvq := [(0, .ref (ga 0)), (1, .int v1), (3, .int (vt1 + vt0)), (4, .int v4)]) [1, 2, 0, 4] rfl ?_
    exact w_X9_halver_122 C hk29 v1 (vt1 + vt0) v4 v5 S ws hf hW
set_option maxRecDepth 100000 in
set_option maxHeartbeats 8000000 in
theorem w_X9_halver_67 {p : Program} {l : Launch} {e : Env} {s : State} {m : MethodId} {args : Array Value} {below : List Frame} {meth : Method} {c : Code} {D : va_G} {cc : Nat → ClassId} {N0 : Nat} {ga : Nat → Nat} {E : va_W} {ad : Nat → Nat → Nat} {k29 : Int32 → Int32 → Int32 → Int32 → MS → Option (Int32 × MS)} {v : (Int32 × MS)} (C : q_C p s m args meth c cX9_halver 8 (some .int) wsX9_halver RX9 D cc N0) (hk29 : ∀ (v1 : Int32) (v2 : Int32) (v3 : Int32) (v4 : Int32) (S : MS)  (ws : va_W), k29 v1 v2 v3 v4 S = some v → mW cc ga ad S E ws → q_WA p l e (q_rm (5) (125) 0 0) s m args below meth c D N0 8 (MQ below (q_Q D N0 (fun rv w1 => rv = some (.int v.1) ∧ mW cc ga ad v.2 E w1)) args s 0 0 (q_A N0)) 0 0 ws 29 [(0, .ref (ga 0)), (1, .int v1), (2, .int v2), (3, .int v3), (4, .int v4)] []) (v1 : Int32) (v2 : Int32) (v3 : Int32) (v4 : Int32) (v5 : Int32) (vt0 : Int32) (S : MS)  (ws : va_W) : f_X9_halver_67 k29 v1 v2 v3 v4 v5 vt0 S = some v → mW cc ga ad S E ws → q_WA p l e (q_rm (5) (125) 0 0) s m args below meth c D N0 8 (MQ below (q_Q D N0 (fun rv w1 => rv = some (.int v.1) ∧ mW cc ga ad v.2 E w1)) args s 0 0 (q_A N0)) 0 0 ws 67 [(0, .ref (ga 0)), (1, .int v1), (2, .int v2), (3, .int v3), (4, .int v4), (5, .int v5)] [.int vt0] := by
  intro hf hW
  refine q_istore (pc := 67) (lvq := [(6, .int vt0), (0, .ref (ga 0)), (1, .int v1), (2, .int v2), (3, .int v3), (4, .int v4), (5, .int v5)]) C dX9_halver_67 (by decide) rfl ?_
  refine q_aload_n (pc := 69) C dX9_halver_69 rfl 1 rfl ?_
  refine m_g_1 (pc := 70) C hW n_X9_halver_X9 (List.mem_of_getElem? (i := 1) rfl) dX9_halver_70 ?_
  refine q_iload_n (pc := 73) C dX9_halver_73 rfl 2 rfl ?_
  obtain ⟨g8, hf⟩ := q_gd hf
  refine m_get_0 (pc := 74) C hW g8 gX9_halver_Jx4a65c_get_915e3_f129Jx4a65c ⟨Nat.le_of_ble_eq_true rfl, Nat.le_of_ble_eq_true rfl⟩ (Nat.le_of_ble_eq_true rfl) dX9_halver_74 ⟨Nat.le_of_ble_eq_true rfl, Nat.le_of_ble_eq_true rfl⟩ ?_
  refine m_cast_0 (pc := 79) C hW g8.2 (List.mem_of_getElem? (i := 3) rfl) dX9_halver_79 ?_
  refine q_iconst (pc := 82) C (0 : Int32) dX9_halver_82 q_ci_0 ?_
  obtain ⟨g9, hf⟩ := q_gd hf
  refine m_rald_0 (pc := 83) C hW g9 ⟨by decide, by decide⟩ dX9_halver_83 ?_
  refine q_nm (wz := ws) (ka := 0) (kb := 0) (sz := [.int (S.2.2.1 0 v1.toNatClampNeg 0)]) rfl rfl rfl rfl ?_
  refine q_iload (pc := 84) C dX9_halver_84 5 rfl ?_
  refine q_callS (pc := 86) (As := [.int (S.2.2.1 0 v1.toNatClampNeg 0), .int v4]) (rest := []) C (c_X9_hasPoint l D cc N0 ws (S.2.2.1 0 v1.toNatClampNeg 0) v4 _ rfl) gX9_halver_X9_hasPoint rfl z_X9_hasPoint ⟨Nat.le_of_ble_eq_true rfl, Nat.le_of_ble_eq_true rfl⟩ rfl rfl (Nat.le_of_ble_eq_true rfl) dX9_halver_86 ⟨Nat.le_of_ble_eq_true rfl, Nat.le_of_ble_eq_true rfl⟩ ?_
  refine q_after (rv := (some (.int (q_b (f_X9_hasPoint (S.2.2.1 0 v1.toNatClampNeg 0) v4))))) (w0 := ws) (st2 := [.int (q_b (f_X9_hasPoint (S.2.2.1 0 v1.toNatClampNeg 0) v4))]) rfl rfl rfl ?_
  refine q_istore (pc := 89) (lvq := [(7, .int (q_b (f_X9_hasPoint (S.2.2.1 0 v1.toNatClampNeg 0) v4))), (6, .int vt0), (0, .ref (ga 0)), (1, .int v1), (2, .int v2), (3, .int v3), (4, .int v4), (5, .int v5)]) C dX9_halver_89 (by decide) rfl ?_
  refine q_iload_n (pc := 91) C dX9_halver_91 rfl 5 rfl ?_
  refine q_iload (pc := 92) C dX9_halver_92 1 rfl ?_
  refine q_iload (pc := 94) C dX9_halver_94 0 rfl ?_
  refine q_icmp_ne (pc := 96) (tgt := 103) C dX9_halver_96 (by decide) (fun c10 => ?_) (fun c10 => ?_)
  · have hf := q_iteF hf c10
    refine q_iconst (pc := 103) C (1 : Int32) dX9_halver_103 q_ci_1 ?_
    refine q_sub (lvq := [(0, .ref (ga 0)), (1, .int v1), (2, .int v2), (4, .int v4), (5, .int v5), (7, .int (q_b (f_X9_hasPoint (S.2.2.1 0 v1.toNatClampNeg 0) v4)))]) [2, 3, 4, 6, 7, 0] rfl ?_
    exact w_X9_halver_104 C hk29 v1 v2 v4 v5 (q_b (f_X9_hasPoint (S.2.2.1 0 v1.toNatClampNeg 0) v4)) (1 : Int32) v3 S ws hf hW
  · have hf := q_iteT hf c10
    refine q_iconst (pc := 99) C (0 : Int32) dX9_halver_99 q_ci_0 ?_
    refine q_goto (pc := 100) (tgt := 104) C dX9_halver_100 (by decide) ?_
    refine q_sub (lvq := [(0, .ref (ga 0)), (1, .int v1), (2, .int v2), (4, .int v4), (5, .int v5), (7, .int (q_b (f_X9_hasPoint (S.2.2.1 0 v1.toNatClampNeg 0) v4)))]) [2, 3, 4, 6, 7, 0] rfl ?_
    exact w_X9_halver_104 C hk29 v1 v2 v4 v5 (q_b (f_X9_hasPoint (S.2.2.1 0 v1.toNatClampNeg 0) v4)) (0 : Int32) v3 S ws hf hW
set_option maxRecDepth 100000 in
set_option maxHeartbeats 8000000 in
theorem w_X9_halver_29 {p : Program} {l : Launch} {e : Env} {s : State} {m : MethodId} {args : Array Value} {below : List Frame} {meth : Method} {c : Code} {D : va_G} {cc : Nat → ClassId} {N0 : Nat} {ga : Nat → Nat} {E : va_W} {ad : Nat → Nat → Nat} {v : (Int32 × MS)} (C : q_C p s m args meth c cX9_halver 8 (some .int) wsX9_halver RX9 D cc N0)  : ∀ (n : Nat) (v1 : Int32) (v2 : Int32) (v3 : Int32) (v4 : Int32) (S : MS)  (ws : va_W), f_X9_halver_29  n v1 v2 v3 v4 S = some v → mW cc ga ad S E ws → q_WA p l e (q_rm (5) (125) 0 0) s m args below meth c D N0 8 (MQ below (q_Q D N0 (fun rv w1 => rv = some (.int v.1) ∧ mW cc ga ad v.2 E w1)) args s 0 0 (q_A N0)) 0 0 ws 29 [(0, .ref (ga 0)), (1, .int v1), (2, .int v2), (3, .int v3), (4, .int v4)] [] := by
  intro n
  induction n with
  | zero => intro v1 v2 v3 v4 S ws hf; cases hf
  | succ n ih =>
    intro v1 v2 v3 v4 S ws hf hW
    have hk29 : ∀ (v1 : Int32) (v2 : Int32) (v3 : Int32) (v4 : Int32) (S : MS)  (ws : va_W), f_X9_halver_29  n v1 v2 v3 v4 S = some v → mW cc ga ad S E ws → q_WA p l e (q_rm (5) (125) 0 0) s m args below meth c D N0 8 (MQ below (q_Q D N0 (fun rv w1 => rv = some (.int v.1) ∧ mW cc ga ad v.2 E w1)) args s 0 0 (q_A N0)) 0 0 ws 29 [(0, .ref (ga 0)), (1, .int v1), (2, .int v2), (3, .int v3), (4, .int v4)] [] := ih
    have hf : f_X9_halver_29b  (f_X9_halver_29  n) v1 v2 v3 v4 S = some v := hf
    refine q_iload (pc := 29) C dX9_halver_29 4 rfl ?_
    refine q_aload_n (pc := 31) C dX9_halver_31 rfl 0 rfl ?_
    refine m_g_2 (pc := 32) C hW n_X9_halver_X9 (List.mem_of_getElem? (i := 2) rfl) dX9_halver_32 ?_
    refine q_icmp_ge (pc := 35) (tgt := 129) C dX9_halver_35 (by decide) (fun c4 => ?_) (fun c4 => ?_)
    · have hf := q_iteT hf c4
      refine q_iload_n (pc := 129) C dX9_halver_129 rfl 3 rfl ?_
      obtain rfl := q_some hf
      exact q_iret (pc := 130) C dX9_halver_130 ⟨rfl, hW⟩
    · have hf := q_iteF hf c4
      refine q_aload_n (pc := 38) C dX9_halver_38 rfl 0 rfl ?_
      refine q_iload_n (pc := 39) C dX9_halver_39 rfl 2 rfl ?_
      refine q_iload (pc := 40) C dX9_halver_40 4 rfl ?_
      refine q_iconst (pc := 42) C (1 : Int32) dX9_halver_42 q_ci_1 ?_
      obtain ⟨u5, e6, hf⟩ := q_bind hf
      obtain ⟨_, he⟩ := hW.obj
      refine q_callV (pc := 43) (As := [.int v2, .int v4, .int (1 : Int32)]) (rest := []) C (c_X9_with l D cc N0 ga ad  E S v2 v4 (1 : Int32) u5 e6 ws hW) gX9_halver_X9_with rfl rfl z_X9_with ⟨Nat.le_of_ble_eq_true rfl, Nat.le_of_ble_eq_true rfl⟩ he rfl rfl rfl (Nat.le_of_ble_eq_true rfl) dX9_halver_43 ⟨Nat.le_of_ble_eq_true rfl, Nat.le_of_ble_eq_true rfl⟩ ?_
      rintro _ ws ⟨rfl, hW⟩
      refine q_nm (wz := ws) (ka := 0) (kb := 0) (sz := [.int u5]) rfl rfl rfl rfl ?_
      refine q_istore (pc := 46) (lvq := [(5, .int u5), (0, .ref (ga 0)), (1, .int v1), (2, .int v2), (3, .int v3), (4, .int v4)]) C dX9_halver_46 (by decide) rfl ?_
      refine q_iconst (pc := 48) C (2 : Int32) dX9_halver_48 q_ci_2 ?_
      refine q_iload (pc := 49) C dX9_halver_49 0 rfl ?_
      refine q_callS (pc := 51) (As := [.int u5]) (rest := [.int (2 : Int32)]) C (c_J6_bitCount_0f7a4 l D cc N0 ws u5 _ rfl) gX9_halver_J6_bitCount_0f7a4 rfl z_J6_bitCount_0f7a4 ⟨Nat.le_of_ble_eq_true rfl, Nat.le_of_ble_eq_true rfl⟩ rfl rfl (Nat.le_of_ble_eq_true rfl) dX9_halver_51 ⟨Nat.le_of_ble_eq_true rfl, Nat.le_of_ble_eq_true rfl⟩ ?_
      refine q_after (rv := (some (.int (f_J6_bitCount_0f7a4 u5)))) (w0 := ws) (st2 := [.int (f_J6_bitCount_0f7a4 u5), .int (2 : Int32)]) rfl rfl rfl ?_
      refine q_imul (pc := 54) C dX9_halver_54 ?_
      refine q_iload_n (pc := 55) C dX9_halver_55 rfl 3 rfl ?_
      refine q_callS (pc := 56) (As := [.int v2]) (rest := [.int ((2 : Int32) * (f_J6_bitCount_0f7a4 u5))]) C (c_J6_bitCount_0f7a4 l D cc N0 ws v2 _ rfl) gX9_halver_J6_bitCount_0f7a4 rfl z_J6_bitCount_0f7a4 ⟨Nat.le_of_ble_eq_true rfl, Nat.le_of_ble_eq_true rfl⟩ rfl rfl (Nat.le_of_ble_eq_true rfl) dX9_halver_56 ⟨Nat.le_of_ble_eq_true rfl, Nat.le_of_ble_eq_true rfl⟩ ?_
      refine q_after (rv := (some (.int (f_J6_bitCount_0f7a4 v2)))) (w0 := ws) (st2 := [.int (f_J6_bitCount_0f7a4 v2), .int ((2 : Int32) * (f_J6_bitCount_0f7a4 u5))]) rfl rfl rfl ?_
      refine q_icmp_lt (pc := 59) (tgt := 66) C dX9_halver_59 (by decide) (fun c7 => ?_) (fun c7 => ?_)
      · have hf := q_iteT hf c7
        refine q_iconst (pc := 66) C (0 : Int32) dX9_halver_66 q_ci_0 ?_
        refine q_sub (lvq := [(0, .ref (ga 0)), (1, .int v1), (2, .int v2), (3, .int v3), (4, .int v4), (5, .int u5)]) [1, 2, 3, 4, 5, 0] rfl ?_
        exact w_X9_halver_67 C hk29 v1 v2 v3 v4 u5 (0 : Int32) S ws hf hW
      · have hf := q_iteF hf c7
        refine q_iconst (pc := 62) C (1 : Int32) dX9_halver_62 q_ci_1 ?_
        refine q_goto (pc := 63) (tgt := 67) C dX9_halver_63 (by decide) ?_
        refine q_sub (lvq := [(0, .ref (ga 0)), (1, .int v1), (2, .int v2), (3, .int v3), (4, .int v4), (5, .int u5)]) [1, 2, 3, 4, 5, 0] rfl ?_
        exact w_X9_halver_67 C hk29 v1 v2 v3 v4 u5 (1 : Int32) S ws hf hW
set_option maxRecDepth 100000 in
set_option maxHeartbeats 8000000 in
theorem c_X9_halver (l : Launch) (D : va_G) (cc : Nat → ClassId) (N0 : Nat) (ga : Nat → Nat) (ad : Nat → Nat → Nat) (E : va_W) (S : MS) (a1 : Int32) (v : (Int32 × MS)) (hf : f_X9_halver a1 S = some v) (ws : va_W) (hW : mW cc ga ad S E ws) : q_Met l yX9_halver wsX9_halver 5 125 D cc N0 ws [.ref (ga 0), .int a1] (fun rv w1 => rv = some (.int v.1) ∧ mW cc ga ad v.2 E w1) 0 0 := by
  refine q_ofW (code := cX9_halver) (nL := 8) (ret := (some .int)) (by decide +kernel) rfl (Nat.le_of_ble_eq_true rfl) (fun p e s m below meth c C _ => ?_)
  refine q_lv (lv2 := [(0, .ref (ga 0)), (1, .int a1)]) rfl ?_
  refine q_aload_n (pc := 0) C dX9_halver_0 rfl 0 rfl ?_
  refine q_iload_n (pc := 1) C dX9_halver_1 rfl 1 rfl ?_
  obtain ⟨u1, e2, hf⟩ := q_bind hf
  obtain ⟨_, he⟩ := hW.obj
  refine q_callV (pc := 2) (As := [.int a1]) (rest := []) C (c_X9_isNoConcept l D cc N0 ga ad  E S a1 u1 e2 ws hW) gX9_halver_X9_isNoConcept rfl rfl z_X9_isNoConcept ⟨Nat.le_of_ble_eq_true rfl, Nat.le_of_ble_eq_true rfl⟩ he rfl rfl rfl (Nat.le_of_ble_eq_true rfl) dX9_halver_2 ⟨Nat.le_of_ble_eq_true rfl, Nat.le_of_ble_eq_true rfl⟩ ?_
  rintro _ ws ⟨rfl, hW⟩
  refine q_nm (wz := ws) (ka := 0) (kb := 0) (sz := [.int (q_b u1.1)]) rfl rfl rfl rfl ?_
  refine q_if_eq (pc := 5) (tgt := 10) C dX9_halver_5 (by decide) (fun c3 => ?_) (fun c3 => ?_)
  · have hf := q_iteT hf c3
    refine q_iconst (pc := 10) C (1 : Int32) dX9_halver_10 q_ci_1 ?_
    refine q_aload_n (pc := 11) C dX9_halver_11 rfl 0 rfl ?_
    refine m_g_1 (pc := 12) C hW n_X9_halver_X9 (List.mem_of_getElem? (i := 1) rfl) dX9_halver_12 ?_
    refine m_size_0 (pc := 15) C hW gX9_halver_Jx4a65c_size_8abf5_f50Jx4a65c ⟨Nat.le_of_ble_eq_true rfl, Nat.le_of_ble_eq_true rfl⟩ (Nat.le_of_ble_eq_true rfl) dX9_halver_15 ⟨Nat.le_of_ble_eq_true rfl, Nat.le_of_ble_eq_true rfl⟩ ?_
    refine q_ishl (pc := 20) C dX9_halver_20 ?_
    refine q_iconst (pc := 21) C (1 : Int32) dX9_halver_21 q_ci_1 ?_
    refine q_isub (pc := 22) C dX9_halver_22 ?_
    refine q_istore_n (pc := 23) (lvq := [(2, .int (((1 : Int32) <<< ((nI (u1.2.2.1 0)) &&& 31)) - (1 : Int32))), (0, .ref (ga 0)), (1, .int a1)]) C dX9_halver_23 rfl (by decide) rfl ?_
    refine q_iconst (pc := 24) C (0 : Int32) dX9_halver_24 q_ci_0 ?_
    refine q_istore_n (pc := 25) (lvq := [(3, .int (0 : Int32)), (2, .int (((1 : Int32) <<< ((nI (u1.2.2.1 0)) &&& 31)) - (1 : Int32))), (0, .ref (ga 0)), (1, .int a1)]) C dX9_halver_25 rfl (by decide) rfl ?_
    refine q_iconst (pc := 26) C (0 : Int32) dX9_halver_26 q_ci_0 ?_
    refine q_istore (pc := 27) (lvq := [(4, .int (0 : Int32)), (3, .int (0 : Int32)), (2, .int (((1 : Int32) <<< ((nI (u1.2.2.1 0)) &&& 31)) - (1 : Int32))), (0, .ref (ga 0)), (1, .int a1)]) C dX9_halver_27 (by decide) rfl ?_
    refine q_sub (lvq := [(0, .ref (ga 0)), (1, .int a1), (2, .int (((1 : Int32) <<< ((nI (u1.2.2.1 0)) &&& 31)) - (1 : Int32))), (3, .int (0 : Int32)), (4, .int (0 : Int32))]) [3, 4, 2, 1, 0] rfl ?_
    exact w_X9_halver_29 C 1000 a1 (((1 : Int32) <<< ((nI (u1.2.2.1 0)) &&& 31)) - (1 : Int32)) (0 : Int32) (0 : Int32) u1.2 ws hf hW
  · have hf := q_iteF hf c3
    refine q_iconst (pc := 8) C (0 : Int32) dX9_halver_8 q_ci_0 ?_
    obtain rfl := q_some hf
    exact q_iret (pc := 9) C dX9_halver_9 ⟨rfl, hW⟩
