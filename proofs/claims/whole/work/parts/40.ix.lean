def f_J1_canEncode_9a6ad (a1 : Int32) : Bool := (if a1 < 0 then false else (if (255 : Int32) < a1 then false else true))
set_option maxRecDepth 100000 in
set_option maxHeartbeats 4000000 in
theorem c_J1_canEncode_9a6ad (l : Launch) (D : va_G) (cc : Nat → ClassId) (N0 : Nat) (ws : va_W) (a1 : Int32) (v : Bool) (hf : f_J1_canEncode_9a6ad a1 = v) : q_Met l yJ1_canEncode_9a6ad wsJ1_canEncode_9a6ad 0 0 D cc N0 ws [.int a1] (q_p (some (.int (q_b v))) ws) 0 0 := by
  refine q_ofW (code := cJ1_canEncode_9a6ad) (nL := 1) (ret := (some .boolean)) (by decide +kernel) rfl (Nat.le_of_ble_eq_true rfl) (fun p e s m below meth c C _ => ?_)
  refine q_lv (lv2 := [(0, .int a1)]) rfl ?_
  refine q_iload_n (pc := 0) C dJ1_canEncode_9a6ad_0 rfl 0 rfl ?_
  refine q_if_lt (pc := 1) (tgt := 15) C dJ1_canEncode_9a6ad_1 (by decide) (fun c1 => ?_) (fun c1 => ?_)
  · have hf := q_iteT hf c1
    refine q_iconst (pc := 15) C (0 : Int32) dJ1_canEncode_9a6ad_15 q_ci_0 ?_
    obtain rfl := hf
    exact q_zret (pc := 16) C (by decide +kernel) dJ1_canEncode_9a6ad_16 ⟨rfl, rfl⟩
  · have hf := q_iteF hf c1
    refine q_iload_n (pc := 4) C dJ1_canEncode_9a6ad_4 rfl 0 rfl ?_
    refine q_sipush (pc := 5) C (255 : Int32) dJ1_canEncode_9a6ad_5 q_cs_255 ?_
    refine q_icmp_gt (pc := 8) (tgt := 15) C dJ1_canEncode_9a6ad_8 (by decide) (fun c2 => ?_) (fun c2 => ?_)
    · have hf := q_iteT hf c2
      refine q_iconst (pc := 15) C (0 : Int32) dJ1_canEncode_9a6ad_15 q_ci_0 ?_
      obtain rfl := hf
      exact q_zret (pc := 16) C (by decide +kernel) dJ1_canEncode_9a6ad_16 ⟨rfl, rfl⟩
    · have hf := q_iteF hf c2
      refine q_iconst (pc := 11) C (1 : Int32) dJ1_canEncode_9a6ad_11 q_ci_1 ?_
      refine q_goto (pc := 12) (tgt := 16) C dJ1_canEncode_9a6ad_12 (by decide) ?_
      obtain rfl := hf
      exact q_zret (pc := 16) C (by decide +kernel) dJ1_canEncode_9a6ad_16 ⟨rfl, rfl⟩
theorem z_J1_canEncode_9a6ad : q_dsc yJ1_canEncode_9a6ad 1 := ⟨by decide +kernel, by decide +kernel, by decide +kernel⟩
theorem z_J1_indexOfChar_4cfef : q_dsc yJ1_indexOfChar_4cfef 4 := ⟨by decide +kernel, by decide +kernel, by decide +kernel⟩
def f_J1_indexOfChar_4cfef_7b (S : MS) (k7 : Int32 → Int32 → Int32 → Option Int32) (v3 : Int32) (v4 : Int32) (v5 : Int32) : Option Int32 := (if v3 ≤ v5 then some (-1 : Int32) else (if q_in v5 4 then (if (tb v5.toNatClampNeg) = v4 then some v5 else k7 v3 v4 (v5 + (1 : Int32))) else none))
def f_J1_indexOfChar_4cfef_7 (S : MS) : Nat → Int32 → Int32 → Int32 → Option Int32
  | 0, _, _, _ => none
  | n + 1, v3, v4, v5 => f_J1_indexOfChar_4cfef_7b S (f_J1_indexOfChar_4cfef_7 S n) v3 v4 v5
def f_J1_indexOfChar_4cfef (S : MS) (a2 : Int32) (a3 : Int32) (a4 : Int32) : Option Int32 := f_J1_indexOfChar_4cfef_7 S 1000 a4 (a2.toInt8.toInt32) a3
set_option maxRecDepth 100000 in
set_option maxHeartbeats 8000000 in
theorem w_J1_indexOfChar_4cfef_7 {p : Program} {l : Launch} {e : Env} {s : State} {m : MethodId} {args : Array Value} {below : List Frame} {meth : Method} {c : Code} {D : va_G} {cc : Nat → ClassId} {N0 : Nat} {ga : Nat → Nat} {E : va_W} {ad : Nat → Nat → Nat} {S : MS} {v : Int32} (C : q_C p s m args meth c cJ1_indexOfChar_4cfef 6 (some .int) wsJ1_indexOfChar_4cfef RJ1 D cc N0)  : ∀ (n : Nat) (v3 : Int32) (v4 : Int32) (v5 : Int32)  (ws : va_W), f_J1_indexOfChar_4cfef_7 S n v3 v4 v5 = some v → mW cc ga ad S E ws → q_WA p l e (q_rm (0) (0) 0 0) s m args below meth c D N0 6 (MQ below (q_Q D N0 (fun rv w1 => rv = some (.int v) ∧ mW cc ga ad S E w1)) args s 0 0 (q_A N0)) 0 0 ws 7 [(0, .ref (cc 12)), (3, .int v3), (4, .int v4), (5, .int v5)] [] := by
  intro n
  induction n with
  | zero => intro v3 v4 v5 ws hf; cases hf
  | succ n ih =>
    intro v3 v4 v5 ws hf hW
    have hk7 : ∀ (v3 : Int32) (v4 : Int32) (v5 : Int32)  (ws : va_W), f_J1_indexOfChar_4cfef_7 S n v3 v4 v5 = some v → mW cc ga ad S E ws → q_WA p l e (q_rm (0) (0) 0 0) s m args below meth c D N0 6 (MQ below (q_Q D N0 (fun rv w1 => rv = some (.int v) ∧ mW cc ga ad S E w1)) args s 0 0 (q_A N0)) 0 0 ws 7 [(0, .ref (cc 12)), (3, .int v3), (4, .int v4), (5, .int v5)] [] := ih
    have hf : f_J1_indexOfChar_4cfef_7b S (f_J1_indexOfChar_4cfef_7 S n) v3 v4 v5 = some v := hf
    refine q_iload (pc := 7) C dJ1_indexOfChar_4cfef_7 3 rfl ?_
    refine q_iload_n (pc := 9) C dJ1_indexOfChar_4cfef_9 rfl 1 rfl ?_
    refine q_icmp_ge (pc := 10) (tgt := 31) C dJ1_indexOfChar_4cfef_10 (by decide) (fun c1 => ?_) (fun c1 => ?_)
    · have hf := q_iteT hf c1
      refine q_iconst (pc := 31) C (-1 : Int32) dJ1_indexOfChar_4cfef_31 q_ci_m1 ?_
      obtain rfl := q_some hf
      exact q_iret (pc := 32) C dJ1_indexOfChar_4cfef_32 ⟨rfl, hW⟩
    · have hf := q_iteF hf c1
      refine q_aload_n (pc := 13) C dJ1_indexOfChar_4cfef_13 rfl 0 rfl ?_
      refine q_iload (pc := 14) C dJ1_indexOfChar_4cfef_14 3 rfl ?_
      obtain ⟨g2, hf⟩ := q_gd hf
      refine q_tbld (pc := 16) C g2 dJ1_indexOfChar_4cfef_16 ?_
      refine q_iload (pc := 17) C dJ1_indexOfChar_4cfef_17 2 rfl ?_
      refine q_icmp_ne (pc := 19) (tgt := 25) C dJ1_indexOfChar_4cfef_19 (by decide) (fun c3 => ?_) (fun c3 => ?_)
      · have hf := q_iteF hf c3
        refine q_iinc (pc := 25) (lvq := [(5, .int (v5 + (1 : Int32))), (0, .ref (cc 12)), (3, .int v3), (4, .int v4)]) C (v5 + (1 : Int32)) dJ1_indexOfChar_4cfef_25 3 rfl q_ca_1 (by decide) rfl ?_
        refine q_goto (pc := 28) (tgt := 7) C dJ1_indexOfChar_4cfef_28 (by decide) ?_
        refine q_sub (lvq := [(0, .ref (cc 12)), (3, .int v3), (4, .int v4), (5, .int (v5 + (1 : Int32)))]) [1, 2, 3, 0] rfl ?_
        exact hk7 v3 v4 (v5 + (1 : Int32)) ws hf hW
      · have hf := q_iteT hf c3
        refine q_iload (pc := 22) C dJ1_indexOfChar_4cfef_22 3 rfl ?_
        obtain rfl := q_some hf
        exact q_iret (pc := 24) C dJ1_indexOfChar_4cfef_24 ⟨rfl, hW⟩
set_option maxRecDepth 100000 in
set_option maxHeartbeats 8000000 in
theorem c_J1_indexOfChar_4cfef (l : Launch) (D : va_G) (cc : Nat → ClassId) (N0 : Nat) (ga : Nat → Nat) (ad : Nat → Nat → Nat) (E : va_W) (S : MS) (a2 : Int32) (a3 : Int32) (a4 : Int32) (v : Int32) (hf : f_J1_indexOfChar_4cfef S a2 a3 a4 = some v) (ws : va_W) (hW : mW cc ga ad S E ws) : q_Met l yJ1_indexOfChar_4cfef wsJ1_indexOfChar_4cfef 0 0 D cc N0 ws [.ref (cc 12), .int a2, .int a3, .int a4] (fun rv w1 => rv = some (.int v) ∧ mW cc ga ad S E w1) 0 0 := by
  refine q_ofW (code := cJ1_indexOfChar_4cfef) (nL := 6) (ret := (some .int)) (by decide +kernel) rfl (Nat.le_of_ble_eq_true rfl) (fun p e s m below meth c C _ => ?_)
  refine q_lv (lv2 := [(0, .ref (cc 12)), (1, .int a2), (2, .int a3), (3, .int a4)]) rfl ?_
  refine q_iload_n (pc := 0) C dJ1_indexOfChar_4cfef_0 rfl 1 rfl ?_
  refine q_i2b (pc := 1) C dJ1_indexOfChar_4cfef_1 rfl ?_
  refine q_istore (pc := 2) (lvq := [(4, .int (a2.toInt8.toInt32)), (0, .ref (cc 12)), (1, .int a2), (2, .int a3), (3, .int a4)]) C dJ1_indexOfChar_4cfef_2 (by decide) rfl ?_
  refine q_iload_n (pc := 4) C dJ1_indexOfChar_4cfef_4 rfl 3 rfl ?_
  refine q_istore (pc := 5) (lvq := [(5, .int a3), (4, .int (a2.toInt8.toInt32)), (0, .ref (cc 12)), (1, .int a2), (2, .int a3), (3, .int a4)]) C dJ1_indexOfChar_4cfef_5 (by decide) rfl ?_
  refine q_sub (lvq := [(0, .ref (cc 12)), (3, .int a4), (4, .int (a2.toInt8.toInt32)), (5, .int a3)]) [2, 5, 1, 0] rfl ?_
  exact w_J1_indexOfChar_4cfef_7 C 1000 a4 (a2.toInt8.toInt32) a3 ws hf hW
theorem z_J1_indexOf_4cfef : q_dsc yJ1_indexOf_4cfef 4 := ⟨by decide +kernel, by decide +kernel, by decide +kernel⟩
def f_J1_indexOf_4cfef (S : MS) (a2 : Int32) (a3 : Int32) (a4 : Int32) : Option Int32 := (if (q_b (f_J1_canEncode_9a6ad a2)) = 0 then some (-1 : Int32) else (if (q_max a3 (0 : Int32)) < (q_min a4 (4 : Int32)) then ((f_J1_indexOfChar_4cfef S a2 (q_max a3 (0 : Int32)) (q_min a4 (4 : Int32))).bind fun u3 => some u3) else some (-1 : Int32)))
set_option maxRecDepth 100000 in
set_option maxHeartbeats 8000000 in
theorem c_J1_indexOf_4cfef (l : Launch) (D : va_G) (cc : Nat → ClassId) (N0 : Nat) (ga : Nat → Nat) (ad : Nat → Nat → Nat) (E : va_W) (S : MS) (a2 : Int32) (a3 : Int32) (a4 : Int32) (v : Int32) (hf : f_J1_indexOf_4cfef S a2 a3 a4 = some v) (ws : va_W) (hW : mW cc ga ad S E ws) : q_Met l yJ1_indexOf_4cfef wsJ1_indexOf_4cfef 1 25 D cc N0 ws [.ref (cc 12), .int a2, .int a3, .int a4] (fun rv w1 => rv = some (.int v) ∧ mW cc ga ad S E w1) 0 0 := by
  refine q_ofW (code := cJ1_indexOf_4cfef) (nL := 4) (ret := (some .int)) (by decide +kernel) rfl (Nat.le_of_ble_eq_true rfl) (fun p e s m below meth c C _ => ?_)
  refine q_lv (lv2 := [(0, .ref (cc 12)), (1, .int a2), (2, .int a3), (3, .int a4)]) rfl ?_
  refine q_iload_n (pc := 0) C dJ1_indexOf_4cfef_0 rfl 1 rfl ?_
  refine q_callS (pc := 1) (As := [.int a2]) (rest := []) C (c_J1_canEncode_9a6ad l D cc N0 ws a2 _ rfl) gJ1_indexOf_4cfef_J1_canEncode_9a6ad rfl z_J1_canEncode_9a6ad ⟨Nat.le_of_ble_eq_true rfl, Nat.le_of_ble_eq_true rfl⟩ rfl rfl (Nat.le_of_ble_eq_true rfl) dJ1_indexOf_4cfef_1 ⟨Nat.le_of_ble_eq_true rfl, Nat.le_of_ble_eq_true rfl⟩ ?_
  refine q_after (rv := (some (.int (q_b (f_J1_canEncode_9a6ad a2))))) (w0 := ws) (st2 := [.int (q_b (f_J1_canEncode_9a6ad a2))]) rfl rfl rfl ?_
  refine q_if_ne (pc := 4) (tgt := 9) C dJ1_indexOf_4cfef_4 (by decide) (fun c1 => ?_) (fun c1 => ?_)
  · have hf := q_iteF hf c1
    refine q_iload_n (pc := 9) C dJ1_indexOf_4cfef_9 rfl 2 rfl ?_
    refine q_iconst (pc := 10) C (0 : Int32) dJ1_indexOf_4cfef_10 q_ci_0 ?_
    refine q_mmax (pc := 11) C (List.mem_of_getElem? (i := 1) rfl) (List.mem_of_getElem? (i := 2) rfl) (List.mem_of_getElem? (i := 3) rfl) (List.mem_of_getElem? (i := 4) rfl) (Nat.le_of_ble_eq_true rfl) (Nat.le_of_ble_eq_true rfl) ⟨Nat.le_of_ble_eq_true rfl, Nat.le_of_ble_eq_true rfl⟩ dJ1_indexOf_4cfef_11 ?_
    refine q_istore_n (pc := 14) (lvq := [(2, .int (q_max a3 (0 : Int32))), (0, .ref (cc 12)), (1, .int a2), (3, .int a4)]) C dJ1_indexOf_4cfef_14 rfl (by decide) rfl ?_
    refine q_iload_n (pc := 15) C dJ1_indexOf_4cfef_15 rfl 3 rfl ?_
    refine q_aload_n (pc := 16) C dJ1_indexOf_4cfef_16 rfl 1 rfl ?_
    refine q_tln (pc := 17) C dJ1_indexOf_4cfef_17 ?_
    refine q_mmin (pc := 18) C (List.mem_of_getElem? (i := 5) rfl) (List.mem_of_getElem? (i := 6) rfl) (List.mem_of_getElem? (i := 3) rfl) (List.mem_of_getElem? (i := 7) rfl) (Nat.le_of_ble_eq_true rfl) (Nat.le_of_ble_eq_true rfl) ⟨Nat.le_of_ble_eq_true rfl, Nat.le_of_ble_eq_true rfl⟩ dJ1_indexOf_4cfef_18 ?_
    refine q_istore_n (pc := 21) (lvq := [(3, .int (q_min a4 (4 : Int32))), (2, .int (q_max a3 (0 : Int32))), (0, .ref (cc 12)), (1, .int a2)]) C dJ1_indexOf_4cfef_21 rfl (by decide) rfl ?_
    refine q_iload_n (pc := 22) C dJ1_indexOf_4cfef_22 rfl 1 rfl ?_
    refine q_iload_n (pc := 23) C dJ1_indexOf_4cfef_23 rfl 0 rfl ?_
    refine q_icmp_lt (pc := 24) (tgt := 29) C dJ1_indexOf_4cfef_24 (by decide) (fun c2 => ?_) (fun c2 => ?_)
    · have hf := q_iteT hf c2
      refine q_aload_n (pc := 29) C dJ1_indexOf_4cfef_29 rfl 2 rfl ?_
      refine q_iload_n (pc := 30) C dJ1_indexOf_4cfef_30 rfl 3 rfl ?_
      refine q_iload_n (pc := 31) C dJ1_indexOf_4cfef_31 rfl 1 rfl ?_
      refine q_iload_n (pc := 32) C dJ1_indexOf_4cfef_32 rfl 0 rfl ?_
      obtain ⟨u3, e4, hf⟩ := q_bind hf
      refine q_callS (pc := 33) (As := [.ref (cc 12), .int a2, .int (q_max a3 (0 : Int32)), .int (q_min a4 (4 : Int32))]) (rest := []) C (c_J1_indexOfChar_4cfef l D cc N0 ga ad  E S a2 (q_max a3 (0 : Int32)) (q_min a4 (4 : Int32)) u3 e4 ws hW) gJ1_indexOf_4cfef_J1_indexOfChar_4cfef rfl z_J1_indexOfChar_4cfef ⟨Nat.le_of_ble_eq_true rfl, Nat.le_of_ble_eq_true rfl⟩ rfl rfl (Nat.le_of_ble_eq_true rfl) dJ1_indexOf_4cfef_33 ⟨Nat.le_of_ble_eq_true rfl, Nat.le_of_ble_eq_true rfl⟩ ?_
      rintro _ ws ⟨rfl, hW⟩
      refine q_nm (wz := ws) (ka := 0) (kb := 0) (sz := [.int u3]) rfl rfl rfl rfl ?_
      obtain rfl := q_some hf
      exact q_iret (pc := 36) C dJ1_indexOf_4cfef_36 ⟨rfl, hW⟩
    · have hf := q_iteF hf c2
      refine q_iconst (pc := 27) C (-1 : Int32) dJ1_indexOf_4cfef_27 q_ci_m1 ?_
      obtain rfl := q_some hf
      exact q_iret (pc := 28) C dJ1_indexOf_4cfef_28 ⟨rfl, hW⟩
  · have hf := q_iteT hf c1
    refine q_iconst (pc := 7) C (-1 : Int32) dJ1_indexOf_4cfef_7 q_ci_m1 ?_
    obtain rfl := q_some hf
    exact q_iret (pc := 8) C dJ1_indexOf_4cfef_8 ⟨rfl, hW⟩
theorem z_J0_indexOf_7cf53 : q_dsc yJ0_indexOf_7cf53 2 := ⟨by decide +kernel, by decide +kernel, by decide +kernel⟩
def f_J0_indexOf_7cf53 (S : MS) (a1 : Int32) (a2 : Int32) : Option Int32 := ((f_J1_indexOf_4cfef S a1 a2 (4 : Int32)).bind fun u1 => some u1)
set_option maxRecDepth 100000 in
set_option maxHeartbeats 8000000 in
theorem c_J0_indexOf_7cf53 (l : Launch) (D : va_G) (cc : Nat → ClassId) (N0 : Nat) (ga : Nat → Nat) (ad : Nat → Nat → Nat) (E : va_W) (S : MS) (a1 : Int32) (a2 : Int32) (v : Int32) (hf : f_J0_indexOf_7cf53 S a1 a2 = some v) (ws : va_W) (hW : mW cc ga ad S E ws) : q_Met l yJ0_indexOf_7cf53 wsJ0_indexOf_7cf53 2 48 D cc N0 ws [.ref (cc 11), .int a1, .int a2] (fun rv w1 => rv = some (.int v) ∧ mW cc ga ad S E w1) 0 0 := by
  refine q_ofW (code := cJ0_indexOf_7cf53) (nL := 3) (ret := (some .int)) (by decide +kernel) rfl (Nat.le_of_ble_eq_true rfl) (fun p e s m below meth c C _ => ?_)
  refine q_lv (lv2 := [(0, .ref (cc 11)), (1, .int a1), (2, .int a2)]) rfl ?_
  refine q_aload_n (pc := 0) C dJ0_indexOf_7cf53_0 rfl 0 rfl ?_
  refine q_callT (pc := 1) (As := []) (rest := []) C (c_s_latin l D cc N0 ws) gJ0_indexOf_7cf53_J0_isLatin1_aae02 rfl rfl z_J0_isLatin1_aae02 ⟨Nat.le_of_ble_eq_true rfl, Nat.le_of_ble_eq_true rfl⟩ rfl rfl (Nat.le_of_ble_eq_true rfl) dJ0_indexOf_7cf53_1 ⟨Nat.le_of_ble_eq_true rfl, Nat.le_of_ble_eq_true rfl⟩ ?_
  refine q_after (rv := (some (.int (1 : Int32)))) (w0 := ws) (st2 := [.int (1 : Int32)]) rfl rfl rfl ?_
  refine q_if_eq (pc := 4) (tgt := 23) C dJ0_indexOf_7cf53_4 (by decide) (fun c1 => absurd c1 (by decide)) (fun _ => ?_)
  refine q_aload_n (pc := 7) C dJ0_indexOf_7cf53_7 rfl 0 rfl ?_
  refine q_tval (pc := 8) C (List.mem_of_getElem? (i := 1) rfl) dJ0_indexOf_7cf53_8 ?_
  refine q_iload_n (pc := 11) C dJ0_indexOf_7cf53_11 rfl 1 rfl ?_
  refine q_iload_n (pc := 12) C dJ0_indexOf_7cf53_12 rfl 2 rfl ?_
  refine q_aload_n (pc := 13) C dJ0_indexOf_7cf53_13 rfl 0 rfl ?_
  refine q_callT (pc := 14) (As := []) (rest := [.int a2, .int a1, .ref (cc 12)]) C (c_s_length l D cc N0 ws) gJ0_indexOf_7cf53_J0_length_8abf5 rfl rfl z_J0_length_8abf5 ⟨Nat.le_of_ble_eq_true rfl, Nat.le_of_ble_eq_true rfl⟩ rfl rfl (Nat.le_of_ble_eq_true rfl) dJ0_indexOf_7cf53_14 ⟨Nat.le_of_ble_eq_true rfl, Nat.le_of_ble_eq_true rfl⟩ ?_
  refine q_after (rv := (some (.int (4 : Int32)))) (w0 := ws) (st2 := [.int (4 : Int32), .int a2, .int a1, .ref (cc 12)]) rfl rfl rfl ?_
  obtain ⟨u1, e2, hf⟩ := q_bind hf
  refine q_callS (pc := 17) (As := [.ref (cc 12), .int a1, .int a2, .int (4 : Int32)]) (rest := []) C (c_J1_indexOf_4cfef l D cc N0 ga ad  E S a1 a2 (4 : Int32) u1 e2 ws hW) gJ0_indexOf_7cf53_J1_indexOf_4cfef rfl z_J1_indexOf_4cfef ⟨Nat.le_of_ble_eq_true rfl, Nat.le_of_ble_eq_true rfl⟩ rfl rfl (Nat.le_of_ble_eq_true rfl) dJ0_indexOf_7cf53_17 ⟨Nat.le_of_ble_eq_true rfl, Nat.le_of_ble_eq_true rfl⟩ ?_
  rintro _ ws ⟨rfl, hW⟩
  refine q_nm (wz := ws) (ka := 0) (kb := 0) (sz := [.int u1]) rfl rfl rfl rfl ?_
  refine q_goto (pc := 20) (tgt := 36) C dJ0_indexOf_7cf53_20 (by decide) ?_
  obtain rfl := q_some hf
  exact q_iret (pc := 36) C dJ0_indexOf_7cf53_36 ⟨rfl, hW⟩
theorem z_J0_indexOf_0f7a4 : q_dsc yJ0_indexOf_0f7a4 1 := ⟨by decide +kernel, by decide +kernel, by decide +kernel⟩
def f_J0_indexOf_0f7a4 (S : MS) (a1 : Int32) : Option Int32 := ((f_J0_indexOf_7cf53 S a1 (0 : Int32)).bind fun u1 => some u1)
set_option maxRecDepth 100000 in
set_option maxHeartbeats 8000000 in
theorem c_J0_indexOf_0f7a4 (l : Launch) (D : va_G) (cc : Nat → ClassId) (N0 : Nat) (ga : Nat → Nat) (ad : Nat → Nat → Nat) (E : va_W) (S : MS) (a1 : Int32) (v : Int32) (hf : f_J0_indexOf_0f7a4 S a1 = some v) (ws : va_W) (hW : mW cc ga ad S E ws) : q_Met l yJ0_indexOf_0f7a4 wsJ0_indexOf_0f7a4 3 70 D cc N0 ws [.ref (cc 11), .int a1] (fun rv w1 => rv = some (.int v) ∧ mW cc ga ad S E w1) 0 0 := by
  refine q_ofW (code := cJ0_indexOf_0f7a4) (nL := 2) (ret := (some .int)) (by decide +kernel) rfl (Nat.le_of_ble_eq_true rfl) (fun p e s m below meth c C _ => ?_)
  refine q_lv (lv2 := [(0, .ref (cc 11)), (1, .int a1)]) rfl ?_
  refine q_aload_n (pc := 0) C dJ0_indexOf_0f7a4_0 rfl 0 rfl ?_
  refine q_iload_n (pc := 1) C dJ0_indexOf_0f7a4_1 rfl 1 rfl ?_
  refine q_iconst (pc := 2) C (0 : Int32) dJ0_indexOf_0f7a4_2 q_ci_0 ?_
  obtain ⟨u1, e2, hf⟩ := q_bind hf
  refine q_callT (pc := 3) (As := [.int a1, .int (0 : Int32)]) (rest := []) C (c_J0_indexOf_7cf53 l D cc N0 ga ad  E S a1 (0 : Int32) u1 e2 ws hW) gJ0_indexOf_0f7a4_J0_indexOf_7cf53 rfl rfl z_J0_indexOf_7cf53 ⟨Nat.le_of_ble_eq_true rfl, Nat.le_of_ble_eq_true rfl⟩ rfl rfl (Nat.le_of_ble_eq_true rfl) dJ0_indexOf_0f7a4_3 ⟨Nat.le_of_ble_eq_true rfl, Nat.le_of_ble_eq_true rfl⟩ ?_
  rintro _ ws ⟨rfl, hW⟩
  refine q_nm (wz := ws) (ka := 0) (kb := 0) (sz := [.int u1]) rfl rfl rfl rfl ?_
  obtain rfl := q_some hf
  exact q_iret (pc := 6) C dJ0_indexOf_0f7a4_6 ⟨rfl, hW⟩
