theorem z_X9_secret : q_dsc yX9_secret 1 := ⟨by decide +kernel, by decide +kernel, by decide +kernel⟩
theorem n_X9_secret_X9 : ∀ w ∈ wsX90, w ∈ wsX9_secret := fun _ h => (List.mem_cons_of_mem _ (List.mem_append_left _ (List.mem_append_right _ h)))
def f_X9_secret_13 (v1 : Int32) (vt0 : Int32) (S : MS) : Option (Int32 × MS) := ((f_X9_isWrong vt0 S).bind fun u2 => (if (q_b u2.1) = 0 then some ((nI (u2.2.2.1 4)), (mset (mclr u2.2 4) 14 v1)) else some ((0 : Int32), u2.2)))
def f_X9_secret (a1 : Int32) (S : MS) : Option (Int32 × MS) := (if (q_b (f_X9_isCode a1)) = 0 then f_X9_secret_13 a1 (1 : Int32) S else f_X9_secret_13 a1 (0 : Int32) S)
set_option maxRecDepth 100000 in
set_option maxHeartbeats 8000000 in
theorem w_X9_secret_13 {p : Program} {l : Launch} {e : Env} {s : State} {m : MethodId} {args : Array Value} {below : List Frame} {meth : Method} {c : Code} {D : va_G} {cc : Nat → ClassId} {N0 : Nat} {ga : Nat → Nat} {E : va_W} {ad : Nat → Nat → Nat} {v : (Int32 × MS)} (C : q_C p s m args meth c cX9_secret 3 (some .int) wsX9_secret RX9 D cc N0)  (v1 : Int32) (vt0 : Int32) (S : MS)  (ws : va_W) : f_X9_secret_13  v1 vt0 S = some v → mW cc ga ad S E ws → q_WA p l e (q_rm (2) (45) 0 0) s m args below meth c D N0 3 (MQ below (q_Q D N0 (fun rv w1 => rv = some (.int v.1) ∧ mW cc ga ad v.2 E w1)) args s 0 0 (q_A N0)) 0 0 ws 13 [(0, .ref (ga 0)), (1, .int v1)] [.int vt0, .ref (ga 0)] := by
  intro hf hW
  obtain ⟨u2, e3, hf⟩ := q_bind hf
  obtain ⟨_, he⟩ := hW.obj
  refine q_callV (pc := 13) (As := [.int vt0]) (rest := []) C (c_X9_isWrong l D cc N0 ga ad  E S vt0 u2 e3 ws hW) gX9_secret_X9_isWrong rfl rfl z_X9_isWrong ⟨Nat.le_of_ble_eq_true rfl, Nat.le_of_ble_eq_true rfl⟩ he rfl rfl rfl (Nat.le_of_ble_eq_true rfl) dX9_secret_13 ⟨Nat.le_of_ble_eq_true rfl, Nat.le_of_ble_eq_true rfl⟩ ?_
  rintro _ ws ⟨rfl, hW⟩
  refine q_nm (wz := ws) (ka := 0) (kb := 0) (sz := [.int (q_b u2.1)]) rfl rfl rfl rfl ?_
  refine q_if_eq (pc := 16) (tgt := 21) C dX9_secret_16 (by decide) (fun c4 => ?_) (fun c4 => ?_)
  · have hf := q_iteT hf c4
    refine q_aload_n (pc := 21) C dX9_secret_21 rfl 0 rfl ?_
    refine m_g_13 (pc := 22) C hW n_X9_secret_X9 (List.mem_of_getElem? (i := 1) rfl) dX9_secret_22 ?_
    refine m_size_4 (pc := 25) C hW gX9_secret_Jx4a65c_size_8abf5_f50Jx4a65c ⟨Nat.le_of_ble_eq_true rfl, Nat.le_of_ble_eq_true rfl⟩ (Nat.le_of_ble_eq_true rfl) dX9_secret_25 ⟨Nat.le_of_ble_eq_true rfl, Nat.le_of_ble_eq_true rfl⟩ ?_
    refine q_istore_n (pc := 30) (lvq := [(2, .int (nI (u2.2.2.1 4))), (0, .ref (ga 0)), (1, .int v1)]) C dX9_secret_30 rfl (by decide) rfl ?_
    refine q_aload_n (pc := 31) C dX9_secret_31 rfl 1 rfl ?_
    refine m_g_13 (pc := 32) C hW n_X9_secret_X9 (List.mem_of_getElem? (i := 1) rfl) dX9_secret_32 ?_
    refine m_clear_4 (pc := 35) C hW gX9_secret_Jx4a65c_clear_da8c8_f66Jx4a65c ⟨Nat.le_of_ble_eq_true rfl, Nat.le_of_ble_eq_true rfl⟩ (Nat.le_of_ble_eq_true rfl) dX9_secret_35 ⟨Nat.le_of_ble_eq_true rfl, Nat.le_of_ble_eq_true rfl⟩ (fun ws hW => ?_)
    refine q_aload_n (pc := 40) C dX9_secret_40 rfl 1 rfl ?_
    refine q_iload_n (pc := 41) C dX9_secret_41 rfl 2 rfl ?_
    refine m_p_14 (pc := 42) C hW n_X9_secret_X9 (List.mem_of_getElem? (i := 2) rfl) dX9_secret_42 (fun ws hW => ?_)
    refine q_iload_n (pc := 45) C dX9_secret_45 rfl 0 rfl ?_
    obtain rfl := q_some hf
    exact q_iret (pc := 46) C dX9_secret_46 ⟨rfl, hW⟩
  · have hf := q_iteF hf c4
    refine q_iconst (pc := 19) C (0 : Int32) dX9_secret_19 q_ci_0 ?_
    obtain rfl := q_some hf
    exact q_iret (pc := 20) C dX9_secret_20 ⟨rfl, hW⟩
set_option maxRecDepth 100000 in
set_option maxHeartbeats 8000000 in
theorem c_X9_secret (l : Launch) (D : va_G) (cc : Nat → ClassId) (N0 : Nat) (ga : Nat → Nat) (ad : Nat → Nat → Nat) (E : va_W) (S : MS) (a1 : Int32) (v : (Int32 × MS)) (hf : f_X9_secret a1 S = some v) (ws : va_W) (hW : mW cc ga ad S E ws) : q_Met l yX9_secret wsX9_secret 2 45 D cc N0 ws [.ref (ga 0), .int a1] (fun rv w1 => rv = some (.int v.1) ∧ mW cc ga ad v.2 E w1) 0 0 := by
  refine q_ofW (code := cX9_secret) (nL := 3) (ret := (some .int)) (by decide +kernel) rfl (Nat.le_of_ble_eq_true rfl) (fun p e s m below meth c C _ => ?_)
  refine q_lv (lv2 := [(0, .ref (ga 0)), (1, .int a1)]) rfl ?_
  refine q_aload_n (pc := 0) C dX9_secret_0 rfl 0 rfl ?_
  refine q_iload_n (pc := 1) C dX9_secret_1 rfl 1 rfl ?_
  refine q_callS (pc := 2) (As := [.int a1]) (rest := [.ref (ga 0)]) C (c_X9_isCode l D cc N0 ws a1 _ rfl) gX9_secret_X9_isCode rfl z_X9_isCode ⟨Nat.le_of_ble_eq_true rfl, Nat.le_of_ble_eq_true rfl⟩ rfl rfl (Nat.le_of_ble_eq_true rfl) dX9_secret_2 ⟨Nat.le_of_ble_eq_true rfl, Nat.le_of_ble_eq_true rfl⟩ ?_
  refine q_after (rv := (some (.int (q_b (f_X9_isCode a1))))) (w0 := ws) (st2 := [.int (q_b (f_X9_isCode a1)), .ref (ga 0)]) rfl rfl rfl ?_
  refine q_if_eq (pc := 5) (tgt := 12) C dX9_secret_5 (by decide) (fun c1 => ?_) (fun c1 => ?_)
  · have hf := q_iteT hf c1
    refine q_iconst (pc := 12) C (1 : Int32) dX9_secret_12 q_ci_1 ?_
    refine q_sub (lvq := [(0, .ref (ga 0)), (1, .int a1)]) [0, 1] rfl ?_
    exact w_X9_secret_13 C a1 (1 : Int32) S ws hf hW
  · have hf := q_iteF hf c1
    refine q_iconst (pc := 8) C (0 : Int32) dX9_secret_8 q_ci_0 ?_
    refine q_goto (pc := 9) (tgt := 13) C dX9_secret_9 (by decide) ?_
    refine q_sub (lvq := [(0, .ref (ga 0)), (1, .int a1)]) [0, 1] rfl ?_
    exact w_X9_secret_13 C a1 (0 : Int32) S ws hf hW
theorem z_X9_guess : q_dsc yX9_guess 1 := ⟨by decide +kernel, by decide +kernel, by decide +kernel⟩
theorem n_X9_guess_X9 : ∀ w ∈ wsX90, w ∈ wsX9_guess := fun _ h => (List.mem_cons_of_mem _ (List.mem_append_left _ (List.mem_append_right _ h)))
def f_X9_guess_31 (v1 : Int32) (vt0 : Int32) (S : MS) : Option (Int32 × MS) := ((f_X9_isWrong vt0 S).bind fun u3 => (if (q_b u3.1) = 0 then ((f_X9_hint (u3.2.1 14) v1).bind fun u7 => (if u3.2.2.1 4 < 64 then ((f_X9_hint ((madd u3.2 4 (upd (upd (fun _ => 0) 0 v1) 1 u7)).1 14) v1).bind fun u10 => some (u10, (madd u3.2 4 (upd (upd (fun _ => 0) 0 v1) 1 u7)))) else none)) else some ((0 : Int32), u3.2)))
def f_X9_guess (a1 : Int32) (S : MS) : Option (Int32 × MS) := (if (q_b (f_X9_isCode a1)) = 0 then f_X9_guess_31 a1 (1 : Int32) S else (if (nI (S.2.1 4)) = (20 : Int32) then f_X9_guess_31 a1 (2 : Int32) S else f_X9_guess_31 a1 (0 : Int32) S))
set_option maxRecDepth 100000 in
set_option maxHeartbeats 8000000 in
theorem w_X9_guess_31 {p : Program} {l : Launch} {e : Env} {s : State} {m : MethodId} {args : Array Value} {below : List Frame} {meth : Method} {c : Code} {D : va_G} {cc : Nat → ClassId} {N0 : Nat} {ga : Nat → Nat} {E : va_W} {v : (Int32 × MS)} (C : q_C p s m args meth c cX9_guess 2 (some .int) wsX9_guess RX9 D cc N0)  (kc : Nat) (ks : Nat) (v1 : Int32) (vt0 : Int32) (S : MS) (ad : Nat → Nat → Nat) (ws : va_W) : f_X9_guess_31  v1 vt0 S = some v → mW cc ga ad S E ws → kc + 2 ≤ 2 → ks + 102 ≤ 102 → q_WA p l e (q_rm (10) (400) 2 102) s m args below meth c D N0 2 (MQ below (q_Q D N0 (fun rv w1 => rv = some (.int v.1) ∧ ∃ ad : Nat → Nat → Nat, mW cc ga ad v.2 E w1)) args s 2 102 (q_A N0)) kc ks ws 31 [(0, .ref (ga 0)), (1, .int v1)] [.int vt0, .ref (ga 0)] := by
  intro hf hW b1 b2
  obtain ⟨u3, e4, hf⟩ := q_bind hf
  obtain ⟨_, he⟩ := hW.obj
  refine q_callV (pc := 31) (As := [.int vt0]) (rest := []) C (c_X9_isWrong l D cc N0 ga ad  E S vt0 u3 e4 ws hW) gX9_guess_X9_isWrong rfl rfl z_X9_isWrong ⟨Nat.le_of_ble_eq_true rfl, Nat.le_of_ble_eq_true rfl⟩ he rfl rfl rfl (Nat.le_of_ble_eq_true rfl) dX9_guess_31 ⟨(show (kc) + 0 ≤ 2 by omega), (show (ks) + 0 ≤ 102 by omega)⟩ ?_
  rintro _ ws ⟨rfl, hW⟩
  refine q_nm (wz := ws) (ka := kc) (kb := ks) (sz := [.int (q_b u3.1)]) rfl rfl rfl rfl ?_
  refine q_if_eq (pc := 34) (tgt := 39) C dX9_guess_34 (by decide) (fun c5 => ?_) (fun c5 => ?_)
  · have hf := q_iteT hf c5
    refine q_aload_n (pc := 39) C dX9_guess_39 rfl 0 rfl ?_
    refine m_g_13 (pc := 40) C hW n_X9_guess_X9 (List.mem_of_getElem? (i := 1) rfl) dX9_guess_40 ?_
    refine q_iconst (pc := 43) C (2 : Int32) dX9_guess_43 q_ci_2 ?_
    refine t_new (pc := 44) C hW (ty := .int) 0 rfl (fun _ h => by cases h) (List.mem_of_getElem? (i := 2) rfl) rfl (N' := 2) (2, .inl fun _ => 0) (fun _ => rfl) (by decide) (by decide) (by decide) (show (kc) + 1 ≤ 2 by omega) (show (ks) + 2 ≤ 102 by omega) dX9_guess_44 (fun qa6 ws hW => ?_)
    refine q_nm (wz := ws) (ka := kc + 1) (kb := ks + 2) (sz := [.ref qa6, .ref (ga 5)]) rfl rfl rfl rfl ?_
    refine q_dup (pc := 46) C dX9_guess_46 rfl ?_
    refine q_iconst (pc := 47) C (0 : Int32) dX9_guess_47 q_ci_0 ?_
    refine q_iload_n (pc := 48) C dX9_guess_48 rfl 1 rfl ?_
    refine t_iast (pc := 49) C hW ⟨by decide, by decide⟩ dX9_guess_49 (fun ws hW => ?_)
    have hW : mW cc ga ad u3.2 ((qa6, .inl (cc 0, 2, .inl (upd (fun _ => 0) 0 v1))) :: E) ws := hW
    refine q_dup (pc := 50) C dX9_guess_50 rfl ?_
    refine q_iconst (pc := 51) C (1 : Int32) dX9_guess_51 q_ci_1 ?_
    refine q_aload_n (pc := 52) C dX9_guess_52 rfl 0 rfl ?_
    refine m_g_14 (pc := 53) C hW n_X9_guess_X9 (List.mem_of_getElem? (i := 3) rfl) dX9_guess_53 ?_
    refine q_iload_n (pc := 56) C dX9_guess_56 rfl 1 rfl ?_
    obtain ⟨u7, e8, hf⟩ := q_bind hf
    refine q_callS (pc := 57) (As := [.int (u3.2.1 14), .int v1]) (rest := [.int (1 : Int32), .ref qa6, .ref qa6, .ref (ga 5)]) C (c_X9_hint l D cc N0 ws (u3.2.1 14) v1 u7 e8) gX9_guess_X9_hint rfl z_X9_hint ⟨Nat.le_of_ble_eq_true rfl, Nat.le_of_ble_eq_true rfl⟩ rfl rfl (Nat.le_of_ble_eq_true rfl) dX9_guess_57 ⟨(show (kc + 1) ≤ 2 by omega), (show (ks + 2) ≤ 102 by omega)⟩ ?_
    refine q_after (rv := (some (.int u7))) (w0 := ws) (st2 := [.int u7, .int (1 : Int32), .ref qa6, .ref qa6, .ref (ga 5)]) rfl rfl rfl ?_
    refine t_iast (pc := 60) C hW ⟨by decide, by decide⟩ dX9_guess_60 (fun ws hW => ?_)
    have hW : mW cc ga ad u3.2 ((qa6, .inl (cc 0, 2, .inl (upd (upd (fun _ => 0) 0 v1) 1 u7))) :: E) ws := hW
    obtain ⟨g9, hf⟩ := q_gd hf
    refine m_add_4 (pc := 61) C hW g9 gX9_guess_Jx4a65c_add_9ea2d_f94Jx4a65c ⟨Nat.le_of_ble_eq_true rfl, Nat.le_of_ble_eq_true rfl⟩ (Nat.le_of_ble_eq_true rfl) dX9_guess_61 ⟨(show (kc + 1) + 1 ≤ 2 by omega), (show (ks + 2) + 100 ≤ 102 by omega)⟩ (fun ad ws hW => ?_)
    refine q_nm (wz := ws) (ka := kc + 2) (kb := ks + 102) (sz := [.int (1 : Int32)]) rfl rfl rfl rfl ?_
    refine q_pop (pc := 66) C dX9_guess_66 rfl ?_
    refine q_aload_n (pc := 67) C dX9_guess_67 rfl 0 rfl ?_
    refine m_g_14 (pc := 68) C hW n_X9_guess_X9 (List.mem_of_getElem? (i := 3) rfl) dX9_guess_68 ?_
    refine q_iload_n (pc := 71) C dX9_guess_71 rfl 1 rfl ?_
    obtain ⟨u10, e11, hf⟩ := q_bind hf
    refine q_callS (pc := 72) (As := [.int ((madd u3.2 4 (upd (upd (fun _ => 0) 0 v1) 1 u7)).1 14), .int v1]) (rest := []) C (c_X9_hint l D cc N0 ws ((madd u3.2 4 (upd (upd (fun _ => 0) 0 v1) 1 u7)).1 14) v1 u10 e11) gX9_guess_X9_hint rfl z_X9_hint ⟨Nat.le_of_ble_eq_true rfl, Nat.le_of_ble_eq_true rfl⟩ rfl rfl (Nat.le_of_ble_eq_true rfl) dX9_guess_72 ⟨(show (kc + 2) ≤ 2 by omega), (show (ks + 102) ≤ 102 by omega)⟩ ?_
    refine q_after (rv := (some (.int u10))) (w0 := ws) (st2 := [.int u10]) rfl rfl rfl ?_
    refine q_wid (show kc + 2 ≤ 2 by omega) (show ks + 102 ≤ 102 by omega) ?_
    obtain rfl := q_some hf
    exact q_iret (pc := 75) C dX9_guess_75 ⟨rfl, ad, hW⟩
  · have hf := q_iteF hf c5
    refine q_iconst (pc := 37) C (0 : Int32) dX9_guess_37 q_ci_0 ?_
    refine q_wid (show kc ≤ 2 by omega) (show ks ≤ 102 by omega) ?_
    obtain rfl := q_some hf
    exact q_iret (pc := 38) C dX9_guess_38 ⟨rfl, ad, hW⟩
set_option maxRecDepth 100000 in
set_option maxHeartbeats 8000000 in
theorem c_X9_guess (l : Launch) (D : va_G) (cc : Nat → ClassId) (N0 : Nat) (ga : Nat → Nat) (ad : Nat → Nat → Nat) (E : va_W) (S : MS) (a1 : Int32) (v : (Int32 × MS)) (hf : f_X9_guess a1 S = some v) (ws : va_W) (hW : mW cc ga ad S E ws) : q_Met l yX9_guess wsX9_guess 10 400 D cc N0 ws [.ref (ga 0), .int a1] (fun rv w1 => rv = some (.int v.1) ∧ ∃ ad : Nat → Nat → Nat, mW cc ga ad v.2 E w1) 2 102 := by
  refine q_ofW (code := cX9_guess) (nL := 2) (ret := (some .int)) (by decide +kernel) rfl (Nat.le_of_ble_eq_true rfl) (fun p e s m below meth c C _ => ?_)
  refine q_lv (lv2 := [(0, .ref (ga 0)), (1, .int a1)]) rfl ?_
  obtain ⟨kc, hkc⟩ : ∃ z, z = 0 := ⟨_, rfl⟩
  obtain ⟨ks, hks⟩ : ∃ z, z = 0 := ⟨_, rfl⟩
  refine q_nm (wz := ws) (ka := kc) (kb := ks) (sz := []) rfl hkc.symm hks.symm rfl ?_
  refine q_aload_n (pc := 0) C dX9_guess_0 rfl 0 rfl ?_
  refine q_iload_n (pc := 1) C dX9_guess_1 rfl 1 rfl ?_
  refine q_callS (pc := 2) (As := [.int a1]) (rest := [.ref (ga 0)]) C (c_X9_isCode l D cc N0 ws a1 _ rfl) gX9_guess_X9_isCode rfl z_X9_isCode ⟨Nat.le_of_ble_eq_true rfl, Nat.le_of_ble_eq_true rfl⟩ rfl rfl (Nat.le_of_ble_eq_true rfl) dX9_guess_2 ⟨(show (kc) ≤ 2 by omega), (show (ks) ≤ 102 by omega)⟩ ?_
  refine q_after (rv := (some (.int (q_b (f_X9_isCode a1))))) (w0 := ws) (st2 := [.int (q_b (f_X9_isCode a1)), .ref (ga 0)]) rfl rfl rfl ?_
  refine q_if_ne (pc := 5) (tgt := 12) C dX9_guess_5 (by decide) (fun c1 => ?_) (fun c1 => ?_)
  · have hf := q_iteF hf c1
    refine q_aload_n (pc := 12) C dX9_guess_12 rfl 0 rfl ?_
    refine m_g_13 (pc := 13) C hW n_X9_guess_X9 (List.mem_of_getElem? (i := 1) rfl) dX9_guess_13 ?_
    refine m_size_4 (pc := 16) C hW gX9_guess_Jx4a65c_size_8abf5_f50Jx4a65c ⟨Nat.le_of_ble_eq_true rfl, Nat.le_of_ble_eq_true rfl⟩ (Nat.le_of_ble_eq_true rfl) dX9_guess_16 ⟨(show (kc) ≤ 2 by omega), (show (ks) ≤ 102 by omega)⟩ ?_
    refine q_bipush (pc := 21) C (20 : Int32) dX9_guess_21 q_cb_20 ?_
    refine q_icmp_ne (pc := 23) (tgt := 30) C dX9_guess_23 (by decide) (fun c2 => ?_) (fun c2 => ?_)
    · have hf := q_iteF hf c2
      refine q_iconst (pc := 30) C (0 : Int32) dX9_guess_30 q_ci_0 ?_
      refine q_sub (lvq := [(0, .ref (ga 0)), (1, .int a1)]) [0, 1] rfl ?_
      exact w_X9_guess_31 C (kc) (ks) a1 (0 : Int32) S ad ws hf hW (by omega) (by omega)
    · have hf := q_iteT hf c2
      refine q_iconst (pc := 26) C (2 : Int32) dX9_guess_26 q_ci_2 ?_
      refine q_goto (pc := 27) (tgt := 31) C dX9_guess_27 (by decide) ?_
      refine q_sub (lvq := [(0, .ref (ga 0)), (1, .int a1)]) [0, 1] rfl ?_
      exact w_X9_guess_31 C (kc) (ks) a1 (2 : Int32) S ad ws hf hW (by omega) (by omega)
  · have hf := q_iteT hf c1
    refine q_iconst (pc := 8) C (1 : Int32) dX9_guess_8 q_ci_1 ?_
    refine q_goto (pc := 9) (tgt := 31) C dX9_guess_9 (by decide) ?_
    refine q_sub (lvq := [(0, .ref (ga 0)), (1, .int a1)]) [0, 1] rfl ?_
    exact w_X9_guess_31 C (kc) (ks) a1 (1 : Int32) S ad ws hf hW (by omega) (by omega)
theorem z_X9_isPossible : q_dsc yX9_isPossible 1 := ⟨by decide +kernel, by decide +kernel, by decide +kernel⟩
theorem n_X9_isPossible_X9 : ∀ w ∈ wsX90, w ∈ wsX9_isPossible := fun _ h => (List.mem_cons_of_mem _ (List.mem_append_left _ (List.mem_append_left _ (List.mem_append_right _ h))))
def f_X9_isPossible_59 (S : MS) (k15 : Int32 → Int32 → Int32 → Int32 → Option Bool) (v1 : Int32) (vt0 : Int32) (u3 : Int32) (x3 : Int32) : Option Bool := k15 v1 vt0 u3 x3
def f_X9_isPossible_58 (S : MS) (k15 : Int32 → Int32 → Int32 → Int32 → Option Bool) (v1 : Int32) (u3 : Int32) (x3 : Int32) : Option Bool := f_X9_isPossible_59 S k15 v1 (0 : Int32) u3 x3
def f_X9_isPossible_15b (S : MS) (k15 : Int32 → Int32 → Int32 → Int32 → Option Bool) (v1 : Int32) (v2 : Int32) (u3 : Int32) (x3 : Int32) : Option Bool := (if (q_b (!decide (u3 = nI (S.2.1 4)))) = 0 then (if v2 = 0 then some false else if v2 = 1 then some true else none) else (if q_in u3 (S.2.1 4) ∧ x3 = S.1 24 then (if v2 = 0 then f_X9_isPossible_58 S k15 v1 (u3 + (1 : Int32)) x3 else (if u3.toNatClampNeg < S.2.1 4 then ((f_X9_hint v1 (S.2.2.1 4 u3.toNatClampNeg 0)).bind fun u7 => (if u3.toNatClampNeg < S.2.1 4 then (if u7 = (S.2.2.1 4 u3.toNatClampNeg 1) then f_X9_isPossible_59 S k15 v1 (1 : Int32) (u3 + (1 : Int32)) x3 else f_X9_isPossible_58 S k15 v1 (u3 + (1 : Int32)) x3) else none)) else none)) else none))
def f_X9_isPossible_15 (S : MS) : Nat → Int32 → Int32 → Int32 → Int32 → Option Bool
  | 0, _, _, _, _ => none
  | n + 1, v1, v2, u3, x3 => f_X9_isPossible_15b S (f_X9_isPossible_15 S n) v1 v2 u3 x3
def f_X9_isPossible (S : MS) (a1 : Int32) : Option Bool := f_X9_isPossible_15 S 1000 a1 (q_b (f_X9_isCode a1)) (0 : Int32) (S.1 24)
set_option maxRecDepth 100000 in
set_option maxHeartbeats 8000000 in
theorem w_X9_isPossible_59 {p : Program} {l : Launch} {e : Env} {s : State} {m : MethodId} {args : Array Value} {below : List Frame} {meth : Method} {c : Code} {D : va_G} {cc : Nat → ClassId} {N0 : Nat} {ga : Nat → Nat} {E : va_W} {ad : Nat → Nat → Nat} {S : MS} {k15 : Int32 → Int32 → Int32 → Int32 → Option Bool} {n15 : Nat} {v : Bool} (C : q_C p s m args meth c cX9_isPossible 5 (some .boolean) wsX9_isPossible RX9 D cc N0) (hk15 : ∀ (kc : Nat) (ks : Nat) (v1 : Int32) (v2 : Int32) (u3 : Int32) (x3 : Int32) (q3 : Nat) (z3 : Int32)  (ws : va_W), k15 v1 v2 u3 x3 = some v → mW cc ga ad S ((q3, q_it u3 z3 x3 (ga 5)) :: E) ws → kc + 0 + n15 * 0 ≤ 1 → ks + 0 + n15 * 0 ≤ 4 → q_WA p l e (q_rm (3) (90) 1 4) s m args below meth c D N0 5 (MQ below (q_Q D N0 (fun rv w1 => rv = some (.int (q_b v)) ∧ mW cc ga ad S E w1)) args s 1 4 (q_A N0)) kc ks ws 15 [(1, .int v1), (2, .int v2), (3, .ref q3)] []) (kc : Nat) (ks : Nat) (v1 : Int32) (vt0 : Int32) (u3 : Int32) (x3 : Int32) (q3 : Nat) (z3 : Int32)  (ws : va_W) : f_X9_isPossible_59 S k15 v1 vt0 u3 x3 = some v → mW cc ga ad S ((q3, q_it u3 z3 x3 (ga 5)) :: E) ws → kc + 0 + n15 * 0 ≤ 1 → ks + 0 + n15 * 0 ≤ 4 → q_WA p l e (q_rm (3) (90) 1 4) s m args below meth c D N0 5 (MQ below (q_Q D N0 (fun rv w1 => rv = some (.int (q_b v)) ∧ mW cc ga ad S E w1)) args s 1 4 (q_A N0)) kc ks ws 59 [(1, .int v1), (3, .ref q3)] [.int vt0] := by
  intro hf hW b1 b2
  refine q_istore_n (pc := 59) (lvq := [(2, .int vt0), (1, .int v1), (3, .ref q3)]) C dX9_isPossible_59 rfl (by decide) rfl ?_
  refine q_goto (pc := 60) (tgt := 15) C dX9_isPossible_60 (by decide) ?_
  refine q_sub (lvq := [(1, .int v1), (2, .int vt0), (3, .ref q3)]) [1, 0, 2] rfl ?_
  exact hk15 (kc) (ks) v1 vt0 u3 x3 q3 z3 ws hf hW (by omega) (by omega)
set_option maxRecDepth 100000 in
set_option maxHeartbeats 8000000 in
theorem w_X9_isPossible_58 {p : Program} {l : Launch} {e : Env} {s : State} {m : MethodId} {args : Array Value} {below : List Frame} {meth : Method} {c : Code} {D : va_G} {cc : Nat → ClassId} {N0 : Nat} {ga : Nat → Nat} {E : va_W} {ad : Nat → Nat → Nat} {S : MS} {k15 : Int32 → Int32 → Int32 → Int32 → Option Bool} {n15 : Nat} {v : Bool} (C : q_C p s m args meth c cX9_isPossible 5 (some .boolean) wsX9_isPossible RX9 D cc N0) (hk15 : ∀ (kc : Nat) (ks : Nat) (v1 : Int32) (v2 : Int32) (u3 : Int32) (x3 : Int32) (q3 : Nat) (z3 : Int32)  (ws : va_W), k15 v1 v2 u3 x3 = some v → mW cc ga ad S ((q3, q_it u3 z3 x3 (ga 5)) :: E) ws → kc + 0 + n15 * 0 ≤ 1 → ks + 0 + n15 * 0 ≤ 4 → q_WA p l e (q_rm (3) (90) 1 4) s m args below meth c D N0 5 (MQ below (q_Q D N0 (fun rv w1 => rv = some (.int (q_b v)) ∧ mW cc ga ad S E w1)) args s 1 4 (q_A N0)) kc ks ws 15 [(1, .int v1), (2, .int v2), (3, .ref q3)] []) (kc : Nat) (ks : Nat) (v1 : Int32) (u3 : Int32) (x3 : Int32) (q3 : Nat) (z3 : Int32)  (ws : va_W) : f_X9_isPossible_58 S k15 v1 u3 x3 = some v → mW cc ga ad S ((q3, q_it u3 z3 x3 (ga 5)) :: E) ws → kc + 0 + n15 * 0 ≤ 1 → ks + 0 + n15 * 0 ≤ 4 → q_WA p l e (q_rm (3) (90) 1 4) s m args below meth c D N0 5 (MQ below (q_Q D N0 (fun rv w1 => rv = some (.int (q_b v)) ∧ mW cc ga ad S E w1)) args s 1 4 (q_A N0)) kc ks ws 58 [(1, .int v1), (3, .ref q3)] [] := by
  intro hf hW b1 b2
  refine q_iconst (pc := 58) C (0 : Int32) dX9_isPossible_58 q_ci_0 ?_
  refine q_sub (lvq := [(1, .int v1), (3, .ref q3)]) [0, 1] rfl ?_
  exact w_X9_isPossible_59 C hk15 (kc) (ks) v1 (0 : Int32) u3 x3 q3 z3 ws hf hW (by omega) (by omega)
set_option maxRecDepth 100000 in
set_option maxHeartbeats 8000000 in
theorem w_X9_isPossible_15 {p : Program} {l : Launch} {e : Env} {s : State} {m : MethodId} {args : Array Value} {below : List Frame} {meth : Method} {c : Code} {D : va_G} {cc : Nat → ClassId} {N0 : Nat} {ga : Nat → Nat} {E : va_W} {ad : Nat → Nat → Nat} {S : MS} {v : Bool} (C : q_C p s m args meth c cX9_isPossible 5 (some .boolean) wsX9_isPossible RX9 D cc N0)  : ∀ (n : Nat) (kc : Nat) (ks : Nat) (v1 : Int32) (v2 : Int32) (u3 : Int32) (x3 : Int32) (q3 : Nat) (z3 : Int32)  (ws : va_W), f_X9_isPossible_15 S n v1 v2 u3 x3 = some v → mW cc ga ad S ((q3, q_it u3 z3 x3 (ga 5)) :: E) ws → kc + 0 + n * 0 ≤ 1 → ks + 0 + n * 0 ≤ 4 → q_WA p l e (q_rm (3) (90) 1 4) s m args below meth c D N0 5 (MQ below (q_Q D N0 (fun rv w1 => rv = some (.int (q_b v)) ∧ mW cc ga ad S E w1)) args s 1 4 (q_A N0)) kc ks ws 15 [(1, .int v1), (2, .int v2), (3, .ref q3)] [] := by
  intro n
  induction n with
  | zero => intro kc ks v1 v2 u3 x3 q3 z3 ws hf; cases hf
  | succ n ih =>
    intro kc ks v1 v2 u3 x3 q3 z3 ws hf hW b1 b2
    have hk15 : ∀ (kc : Nat) (ks : Nat) (v1 : Int32) (v2 : Int32) (u3 : Int32) (x3 : Int32) (q3 : Nat) (z3 : Int32)  (ws : va_W), f_X9_isPossible_15 S n v1 v2 u3 x3 = some v → mW cc ga ad S ((q3, q_it u3 z3 x3 (ga 5)) :: E) ws → kc + 0 + n * 0 ≤ 1 → ks + 0 + n * 0 ≤ 4 → q_WA p l e (q_rm (3) (90) 1 4) s m args below meth c D N0 5 (MQ below (q_Q D N0 (fun rv w1 => rv = some (.int (q_b v)) ∧ mW cc ga ad S E w1)) args s 1 4 (q_A N0)) kc ks ws 15 [(1, .int v1), (2, .int v2), (3, .ref q3)] [] := ih
    have hf : f_X9_isPossible_15b S (f_X9_isPossible_15 S n) v1 v2 u3 x3 = some v := hf
    simp only [Nat.succ_mul, Nat.add_mul] at b1 b2
    refine q_aload_n (pc := 15) C dX9_isPossible_15 rfl 2 rfl ?_
    refine m_has_4 (pc := 16) C hW gX9_isPossible_Jx35411_hasNext_aae02_f76Jx35411 ⟨Nat.le_of_ble_eq_true rfl, Nat.le_of_ble_eq_true rfl⟩ (Nat.le_of_ble_eq_true rfl) dX9_isPossible_16 ⟨(show (kc) ≤ 1 by omega), (show (ks) ≤ 4 by omega)⟩ ?_
    refine q_if_eq (pc := 21) (tgt := 63) C dX9_isPossible_21 (by decide) (fun c2 => ?_) (fun c2 => ?_)
    · have hf := q_iteT hf c2
      refine q_iload_n (pc := 63) C dX9_isPossible_63 rfl 1 rfl ?_
      refine q_wid (show kc ≤ 1 by omega) (show ks ≤ 4 by omega) ?_
      refine t_drop hW (fun ws hW => ?_)
      have hz := q_z01 hf
      rcases hz with ⟨c3, hf⟩ | ⟨c3, hf⟩
      · obtain rfl := q_some hf
        rw [c3]
        exact q_zret (pc := 64) C (by decide +kernel) dX9_isPossible_64 ⟨rfl, hW⟩
      · obtain rfl := q_some hf
        rw [c3]
        exact q_zret (pc := 64) C (by decide +kernel) dX9_isPossible_64 ⟨rfl, hW⟩
    · have hf := q_iteF hf c2
      refine q_aload_n (pc := 24) C dX9_isPossible_24 rfl 2 rfl ?_
      obtain ⟨g4, hf⟩ := q_gd hf
      refine m_next_4 (pc := 25) C hW g4 gX9_isPossible_Jx35411_next_0502b_f82Jx35411 ⟨Nat.le_of_ble_eq_true rfl, Nat.le_of_ble_eq_true rfl⟩ (Nat.le_of_ble_eq_true rfl) dX9_isPossible_25 ⟨(show (kc) ≤ 1 by omega), (show (ks) ≤ 4 by omega)⟩ (fun ws hW => ?_)
      refine m_cast_4 (pc := 30) C hW g4.1.2 (List.mem_of_getElem? (i := 2) rfl) dX9_isPossible_30 ?_
      refine q_astore (pc := 33) (lvq := [(4, .ref (ad 4 u3.toNatClampNeg)), (1, .int v1), (2, .int v2), (3, .ref q3)]) C dX9_isPossible_33 (by decide) rfl ?_
      refine q_iload_n (pc := 35) C dX9_isPossible_35 rfl 2 rfl ?_
      refine q_if_eq (pc := 36) (tgt := 58) C dX9_isPossible_36 (by decide) (fun c5 => ?_) (fun c5 => ?_)
      · have hf := q_iteT hf c5
        refine q_sub (lvq := [(1, .int v1), (3, .ref q3)]) [1, 3] rfl ?_
        exact w_X9_isPossible_58 C hk15 (kc) (ks) v1 (u3 + (1 : Int32)) x3 q3 u3 ws hf hW (by omega) (by omega)
      · have hf := q_iteF hf c5
        refine q_iload_n (pc := 39) C dX9_isPossible_39 rfl 1 rfl ?_
        refine q_aload (pc := 40) C dX9_isPossible_40 0 rfl ?_
        refine q_iconst (pc := 42) C (0 : Int32) dX9_isPossible_42 q_ci_0 ?_
        obtain ⟨g6, hf⟩ := q_gd hf
        refine m_rald_4 (pc := 43) C hW g6 ⟨by decide, by decide⟩ dX9_isPossible_43 ?_
        refine q_nm (wz := ws) (ka := kc) (kb := ks) (sz := [.int (S.2.2.1 4 u3.toNatClampNeg 0), .int v1]) rfl rfl rfl rfl ?_
        obtain ⟨u7, e8, hf⟩ := q_bind hf
        refine q_callS (pc := 44) (As := [.int v1, .int (S.2.2.1 4 u3.toNatClampNeg 0)]) (rest := []) C (c_X9_hint l D cc N0 ws v1 (S.2.2.1 4 u3.toNatClampNeg 0) u7 e8) gX9_isPossible_X9_hint rfl z_X9_hint ⟨Nat.le_of_ble_eq_true rfl, Nat.le_of_ble_eq_true rfl⟩ rfl rfl (Nat.le_of_ble_eq_true rfl) dX9_isPossible_44 ⟨(show (kc) ≤ 1 by omega), (show (ks) ≤ 4 by omega)⟩ ?_
        refine q_after (rv := (some (.int u7))) (w0 := ws) (st2 := [.int u7]) rfl rfl rfl ?_
        refine q_aload (pc := 47) C dX9_isPossible_47 0 rfl ?_
        refine q_iconst (pc := 49) C (1 : Int32) dX9_isPossible_49 q_ci_1 ?_
        obtain ⟨g9, hf⟩ := q_gd hf
        refine m_rald_4 (pc := 50) C hW g9 ⟨by decide, by decide⟩ dX9_isPossible_50 ?_
        refine q_nm (wz := ws) (ka := kc) (kb := ks) (sz := [.int (S.2.2.1 4 u3.toNatClampNeg 1), .int u7]) rfl rfl rfl rfl ?_
        refine q_icmp_ne (pc := 51) (tgt := 58) C dX9_isPossible_51 (by decide) (fun c10 => ?_) (fun c10 => ?_)
        · have hf := q_iteF hf c10
          refine q_sub (lvq := [(1, .int v1), (3, .ref q3)]) [1, 3] rfl ?_
          exact w_X9_isPossible_58 C hk15 (kc) (ks) v1 (u3 + (1 : Int32)) x3 q3 u3 ws hf hW (by omega) (by omega)
        · have hf := q_iteT hf c10
          refine q_iconst (pc := 54) C (1 : Int32) dX9_isPossible_54 q_ci_1 ?_
          refine q_goto (pc := 55) (tgt := 59) C dX9_isPossible_55 (by decide) ?_
          refine q_sub (lvq := [(1, .int v1), (3, .ref q3)]) [1, 3] rfl ?_
          exact w_X9_isPossible_59 C hk15 (kc) (ks) v1 (1 : Int32) (u3 + (1 : Int32)) x3 q3 u3 ws hf hW (by omega) (by omega)
set_option maxRecDepth 100000 in
set_option maxHeartbeats 8000000 in
theorem c_X9_isPossible (l : Launch) (D : va_G) (cc : Nat → ClassId) (N0 : Nat) (ga : Nat → Nat) (ad : Nat → Nat → Nat) (E : va_W) (S : MS) (a1 : Int32) (v : Bool) (hf : f_X9_isPossible S a1 = some v) (ws : va_W) (hW : mW cc ga ad S E ws) : q_Met l yX9_isPossible wsX9_isPossible 3 90 D cc N0 ws [.ref (ga 0), .int a1] (fun rv w1 => rv = some (.int (q_b v)) ∧ mW cc ga ad S E w1) 1 4 := by
  refine q_ofW (code := cX9_isPossible) (nL := 5) (ret := (some .boolean)) (by decide +kernel) rfl (Nat.le_of_ble_eq_true rfl) (fun p e s m below meth c C _ => ?_)
  refine q_lv (lv2 := [(0, .ref (ga 0)), (1, .int a1)]) rfl ?_
  obtain ⟨kc, hkc⟩ : ∃ z, z = 0 := ⟨_, rfl⟩
  obtain ⟨ks, hks⟩ : ∃ z, z = 0 := ⟨_, rfl⟩
  refine q_nm (wz := ws) (ka := kc) (kb := ks) (sz := []) rfl hkc.symm hks.symm rfl ?_
  refine q_iload_n (pc := 0) C dX9_isPossible_0 rfl 1 rfl ?_
  refine q_callS (pc := 1) (As := [.int a1]) (rest := []) C (c_X9_isCode l D cc N0 ws a1 _ rfl) gX9_isPossible_X9_isCode rfl z_X9_isCode ⟨Nat.le_of_ble_eq_true rfl, Nat.le_of_ble_eq_true rfl⟩ rfl rfl (Nat.le_of_ble_eq_true rfl) dX9_isPossible_1 ⟨(show (kc) ≤ 1 by omega), (show (ks) ≤ 4 by omega)⟩ ?_
  refine q_after (rv := (some (.int (q_b (f_X9_isCode a1))))) (w0 := ws) (st2 := [.int (q_b (f_X9_isCode a1))]) rfl rfl rfl ?_
  refine q_istore_n (pc := 4) (lvq := [(2, .int (q_b (f_X9_isCode a1))), (0, .ref (ga 0)), (1, .int a1)]) C dX9_isPossible_4 rfl (by decide) rfl ?_
  refine q_aload_n (pc := 5) C dX9_isPossible_5 rfl 1 rfl ?_
  refine m_g_13 (pc := 6) C hW n_X9_isPossible_X9 (List.mem_of_getElem? (i := 1) rfl) dX9_isPossible_6 ?_
  refine m_iter_4 (pc := 9) C hW gX9_isPossible_Jx4a65c_iterator_32c93_f72Jx4a65c ⟨Nat.le_of_ble_eq_true rfl, Nat.le_of_ble_eq_true rfl⟩ (Nat.le_of_ble_eq_true rfl) dX9_isPossible_9 ⟨(show (kc) + 1 ≤ 1 by omega), (show (ks) + 4 ≤ 4 by omega)⟩ (fun it1 ws hW => ?_)
  refine q_nm (wz := ws) (ka := kc + 1) (kb := ks + 4) (sz := [.ref it1]) rfl rfl rfl rfl ?_
  refine q_astore_n (pc := 14) (lvq := [(3, .ref it1), (2, .int (q_b (f_X9_isCode a1))), (0, .ref (ga 0)), (1, .int a1)]) C dX9_isPossible_14 rfl (by decide) rfl ?_
  refine q_sub (lvq := [(1, .int a1), (2, .int (q_b (f_X9_isCode a1))), (3, .ref it1)]) [3, 1, 0] rfl ?_
  exact w_X9_isPossible_15 C 1000 (kc + 1) (ks + 4) a1 (q_b (f_X9_isCode a1)) (0 : Int32) (S.1 24) it1 (-1 : Int32) ws hf hW (by omega) (by omega)
theorem z_X9_possibleCodes : q_dsc yX9_possibleCodes 0 := ⟨by decide +kernel, by decide +kernel, by decide +kernel⟩
def f_X9_possibleCodes_25 (S : MS) (k4 : Int32 → Int32 → Option Int32) (v2 : Int32) (vt0 : Int32) (vt1 : Int32) : Option Int32 := k4 (vt1 + vt0) (v2 + (1 : Int32))
def f_X9_possibleCodes_4b (S : MS) (k4 : Int32 → Int32 → Option Int32) (v1 : Int32) (v2 : Int32) : Option Int32 := (if (333 : Int32) < v2 then some v1 else ((f_X9_isPossible S v2).bind fun u2 => (if (q_b u2) = 0 then f_X9_possibleCodes_25 S k4 v2 (0 : Int32) v1 else f_X9_possibleCodes_25 S k4 v2 (1 : Int32) v1)))
def f_X9_possibleCodes_4 (S : MS) : Nat → Int32 → Int32 → Option Int32
  | 0, _, _ => none
  | n + 1, v1, v2 => f_X9_possibleCodes_4b S (f_X9_possibleCodes_4 S n) v1 v2
def f_X9_possibleCodes (S : MS) : Option Int32 := f_X9_possibleCodes_4 S 340 (0 : Int32) (0 : Int32)
set_option maxRecDepth 100000 in
set_option maxHeartbeats 8000000 in
theorem w_X9_possibleCodes_25 {p : Program} {l : Launch} {e : Env} {s : State} {m : MethodId} {args : Array Value} {below : List Frame} {meth : Method} {c : Code} {D : va_G} {cc : Nat → ClassId} {N0 : Nat} {ga : Nat → Nat} {E : va_W} {ad : Nat → Nat → Nat} {S : MS} {k4 : Int32 → Int32 → Option Int32} {n4 : Nat} {v : Int32} (C : q_C p s m args meth c cX9_possibleCodes 3 (some .int) wsX9_possibleCodes RX9 D cc N0) (hk4 : ∀ (kc : Nat) (ks : Nat) (v1 : Int32) (v2 : Int32)  (ws : va_W), k4 v1 v2 = some v → mW cc ga ad S E ws → kc + 0 + n4 * 1 ≤ 340 → ks + 0 + n4 * 4 ≤ 1360 → q_WA p l e (q_rm (4) (114) 340 1360) s m args below meth c D N0 3 (MQ below (q_Q D N0 (fun rv w1 => rv = some (.int v) ∧ mW cc ga ad S E w1)) args s 340 1360 (q_A N0)) kc ks ws 4 [(0, .ref (ga 0)), (1, .int v1), (2, .int v2)] []) (kc : Nat) (ks : Nat) (v2 : Int32) (vt0 : Int32) (vt1 : Int32)  (ws : va_W) : f_X9_possibleCodes_25 S k4 v2 vt0 vt1 = some v → mW cc ga ad S E ws → kc + 0 + n4 * 1 ≤ 340 → ks + 0 + n4 * 4 ≤ 1360 → q_WA p l e (q_rm (4) (114) 340 1360) s m args below meth c D N0 3 (MQ below (q_Q D N0 (fun rv w1 => rv = some (.int v) ∧ mW cc ga ad S E w1)) args s 340 1360 (q_A N0)) kc ks ws 25 [(0, .ref (ga 0)), (2, .int v2)] [.int vt0, .int vt1] := by
  intro hf hW b1 b2
  refine q_iadd (pc := 25) C dX9_possibleCodes_25 ?_
  refine q_istore_n (pc := 26) (lvq := [(1, .int (vt1 + vt0)), (0, .ref (ga 0)), (2, .int v2)]) C dX9_possibleCodes_26 rfl (by decide) rfl ?_
  refine q_iinc (pc := 27) (lvq := [(2, .int (v2 + (1 : Int32))), (1, .int (vt1 + vt0)), (0, .ref (ga 0))]) C (v2 + (1 : Int32)) dX9_possibleCodes_27 2 rfl q_ca_1 (by decide) rfl ?_
  refine q_goto (pc := 30) (tgt := 4) C dX9_possibleCodes_30 (by decide) ?_
  refine q_sub (lvq := [(0, .ref (ga 0)), (1, .int (vt1 + vt0)), (2, .int (v2 + (1 : Int32)))]) [2, 1, 0] rfl ?_
  exact hk4 (kc) (ks) (vt1 + vt0) (v2 + (1 : Int32)) ws hf hW (by omega) (by omega)
set_option maxRecDepth 100000 in
set_option maxHeartbeats 8000000 in
theorem w_X9_possibleCodes_4 {p : Program} {l : Launch} {e : Env} {s : State} {m : MethodId} {args : Array Value} {below : List Frame} {meth : Method} {c : Code} {D : va_G} {cc : Nat → ClassId} {N0 : Nat} {ga : Nat → Nat} {E : va_W} {ad : Nat → Nat → Nat} {S : MS} {v : Int32} (C : q_C p s m args meth c cX9_possibleCodes 3 (some .int) wsX9_possibleCodes RX9 D cc N0)  : ∀ (n : Nat) (kc : Nat) (ks : Nat) (v1 : Int32) (v2 : Int32)  (ws : va_W), f_X9_possibleCodes_4 S n v1 v2 = some v → mW cc ga ad S E ws → kc + 0 + n * 1 ≤ 340 → ks + 0 + n * 4 ≤ 1360 → q_WA p l e (q_rm (4) (114) 340 1360) s m args below meth c D N0 3 (MQ below (q_Q D N0 (fun rv w1 => rv = some (.int v) ∧ mW cc ga ad S E w1)) args s 340 1360 (q_A N0)) kc ks ws 4 [(0, .ref (ga 0)), (1, .int v1), (2, .int v2)] [] := by
  intro n
  induction n with
  | zero => intro kc ks v1 v2 ws hf; cases hf
  | succ n ih =>
    intro kc ks v1 v2 ws hf hW b1 b2
    have hk4 : ∀ (kc : Nat) (ks : Nat) (v1 : Int32) (v2 : Int32)  (ws : va_W), f_X9_possibleCodes_4 S n v1 v2 = some v → mW cc ga ad S E ws → kc + 0 + n * 1 ≤ 340 → ks + 0 + n * 4 ≤ 1360 → q_WA p l e (q_rm (4) (114) 340 1360) s m args below meth c D N0 3 (MQ below (q_Q D N0 (fun rv w1 => rv = some (.int v) ∧ mW cc ga ad S E w1)) args s 340 1360 (q_A N0)) kc ks ws 4 [(0, .ref (ga 0)), (1, .int v1), (2, .int v2)] [] := ih
    have hf : f_X9_possibleCodes_4b S (f_X9_possibleCodes_4 S n) v1 v2 = some v := hf
    simp only [Nat.succ_mul, Nat.add_mul] at b1 b2
    refine q_iload_n (pc := 4) C dX9_possibleCodes_4 rfl 2 rfl ?_
    refine q_sipush (pc := 5) C (333 : Int32) dX9_possibleCodes_5 q_cs_333 ?_
    refine q_icmp_gt (pc := 8) (tgt := 33) C dX9_possibleCodes_8 (by decide) (fun c1 => ?_) (fun c1 => ?_)
    · have hf := q_iteT hf c1
      refine q_iload_n (pc := 33) C dX9_possibleCodes_33 rfl 1 rfl ?_
      refine q_wid (show kc ≤ 340 by omega) (show ks ≤ 1360 by omega) ?_
      obtain rfl := q_some hf
      exact q_iret (pc := 34) C dX9_possibleCodes_34 ⟨rfl, hW⟩
    · have hf := q_iteF hf c1
      refine q_iload_n (pc := 11) C dX9_possibleCodes_11 rfl 1 rfl ?_
      refine q_aload_n (pc := 12) C dX9_possibleCodes_12 rfl 0 rfl ?_
      refine q_iload_n (pc := 13) C dX9_possibleCodes_13 rfl 2 rfl ?_
      obtain ⟨u2, e3, hf⟩ := q_bind hf
      obtain ⟨_, he⟩ := hW.obj
      refine q_callV (pc := 14) (As := [.int v2]) (rest := [.int v1]) C (c_X9_isPossible l D cc N0 ga ad  E S v2 u2 e3 ws hW) gX9_possibleCodes_X9_isPossible rfl rfl z_X9_isPossible ⟨Nat.le_of_ble_eq_true rfl, Nat.le_of_ble_eq_true rfl⟩ he rfl rfl rfl (Nat.le_of_ble_eq_true rfl) dX9_possibleCodes_14 ⟨(show (kc) + 1 ≤ 340 by omega), (show (ks) + 4 ≤ 1360 by omega)⟩ ?_
      rintro _ ws ⟨rfl, hW⟩
      refine q_nm (wz := ws) (ka := kc + 1) (kb := ks + 4) (sz := [.int (q_b u2), .int v1]) rfl rfl rfl rfl ?_
      refine q_if_eq (pc := 17) (tgt := 24) C dX9_possibleCodes_17 (by decide) (fun c4 => ?_) (fun c4 => ?_)
      · have hf := q_iteT hf c4
        refine q_iconst (pc := 24) C (0 : Int32) dX9_possibleCodes_24 q_ci_0 ?_
        refine q_sub (lvq := [(0, .ref (ga 0)), (2, .int v2)]) [0, 2] rfl ?_
        exact w_X9_possibleCodes_25 C hk4 (kc + 1) (ks + 4) v2 (0 : Int32) v1 ws hf hW (by omega) (by omega)
      · have hf := q_iteF hf c4
        refine q_iconst (pc := 20) C (1 : Int32) dX9_possibleCodes_20 q_ci_1 ?_
        refine q_goto (pc := 21) (tgt := 25) C dX9_possibleCodes_21 (by decide) ?_
        refine q_sub (lvq := [(0, .ref (ga 0)), (2, .int v2)]) [0, 2] rfl ?_
        exact w_X9_possibleCodes_25 C hk4 (kc + 1) (ks + 4) v2 (1 : Int32) v1 ws hf hW (by omega) (by omega)
set_option maxRecDepth 100000 in
set_option maxHeartbeats 8000000 in
theorem c_X9_possibleCodes (l : Launch) (D : va_G) (cc : Nat → ClassId) (N0 : Nat) (ga : Nat → Nat) (ad : Nat → Nat → Nat) (E : va_W) (S : MS) (v : Int32) (hf : f_X9_possibleCodes S = some v) (ws : va_W) (hW : mW cc ga ad S E ws) : q_Met l yX9_possibleCodes wsX9_possibleCodes 4 114 D cc N0 ws [.ref (ga 0)] (fun rv w1 => rv = some (.int v) ∧ mW cc ga ad S E w1) 340 1360 := by
  refine q_ofW (code := cX9_possibleCodes) (nL := 3) (ret := (some .int)) (by decide +kernel) rfl (Nat.le_of_ble_eq_true rfl) (fun p e s m below meth c C _ => ?_)
  refine q_lv (lv2 := [(0, .ref (ga 0))]) rfl ?_
  obtain ⟨kc, hkc⟩ : ∃ z, z = 0 := ⟨_, rfl⟩
  obtain ⟨ks, hks⟩ : ∃ z, z = 0 := ⟨_, rfl⟩
  refine q_nm (wz := ws) (ka := kc) (kb := ks) (sz := []) rfl hkc.symm hks.symm rfl ?_
  refine q_iconst (pc := 0) C (0 : Int32) dX9_possibleCodes_0 q_ci_0 ?_
  refine q_istore_n (pc := 1) (lvq := [(1, .int (0 : Int32)), (0, .ref (ga 0))]) C dX9_possibleCodes_1 rfl (by decide) rfl ?_
  refine q_iconst (pc := 2) C (0 : Int32) dX9_possibleCodes_2 q_ci_0 ?_
  refine q_istore_n (pc := 3) (lvq := [(2, .int (0 : Int32)), (1, .int (0 : Int32)), (0, .ref (ga 0))]) C dX9_possibleCodes_3 rfl (by decide) rfl ?_
  refine q_sub (lvq := [(0, .ref (ga 0)), (1, .int (0 : Int32)), (2, .int (0 : Int32))]) [2, 1, 0] rfl ?_
  exact w_X9_possibleCodes_4 C 340 (kc) (ks) (0 : Int32) (0 : Int32) ws hf hW (by omega) (by omega)
theorem z_X9_possible : q_dsc yX9_possible 0 := ⟨by decide +kernel, by decide +kernel, by decide +kernel⟩
theorem n_X9_possible_X9 : ∀ w ∈ wsX90, w ∈ wsX9_possible := fun _ h => (List.mem_cons_of_mem _ (List.mem_append_left _ (List.mem_append_left _ (List.mem_append_right _ h))))
def f_X9_possible (S : MS) : Option (Int32 × MS) := ((f_X9_possibleCodes (mset S 0 (0 : Int32))).bind fun u1 => some (u1, (mset S 0 (0 : Int32))))
set_option maxRecDepth 100000 in
set_option maxHeartbeats 8000000 in
theorem c_X9_possible (l : Launch) (D : va_G) (cc : Nat → ClassId) (N0 : Nat) (ga : Nat → Nat) (ad : Nat → Nat → Nat) (E : va_W) (S : MS) (v : (Int32 × MS)) (hf : f_X9_possible S = some v) (ws : va_W) (hW : mW cc ga ad S E ws) : q_Met l yX9_possible wsX9_possible 5 136 D cc N0 ws [.ref (ga 0)] (fun rv w1 => rv = some (.int v.1) ∧ mW cc ga ad v.2 E w1) 340 1360 := by
  refine q_ofW (code := cX9_possible) (nL := 1) (ret := (some .int)) (by decide +kernel) rfl (Nat.le_of_ble_eq_true rfl) (fun p e s m below meth c C _ => ?_)
  refine q_lv (lv2 := [(0, .ref (ga 0))]) rfl ?_
  obtain ⟨kc, hkc⟩ : ∃ z, z = 0 := ⟨_, rfl⟩
  obtain ⟨ks, hks⟩ : ∃ z, z = 0 := ⟨_, rfl⟩
  refine q_nm (wz := ws) (ka := kc) (kb := ks) (sz := []) rfl hkc.symm hks.symm rfl ?_
  refine q_aload_n (pc := 0) C dX9_possible_0 rfl 0 rfl ?_
  refine q_iconst (pc := 1) C (0 : Int32) dX9_possible_1 q_ci_0 ?_
  refine m_p_0 (pc := 2) C hW n_X9_possible_X9 (List.mem_of_getElem? (i := 1) rfl) dX9_possible_2 (fun ws hW => ?_)
  refine q_aload_n (pc := 5) C dX9_possible_5 rfl 0 rfl ?_
  obtain ⟨u1, e2, hf⟩ := q_bind hf
  obtain ⟨_, he⟩ := hW.obj
  refine q_callV (pc := 6) (As := []) (rest := []) C (c_X9_possibleCodes l D cc N0 ga ad  E (mset S 0 (0 : Int32))  u1 e2 ws hW) gX9_possible_X9_possibleCodes rfl rfl z_X9_possibleCodes ⟨Nat.le_of_ble_eq_true rfl, Nat.le_of_ble_eq_true rfl⟩ he rfl rfl rfl (Nat.le_of_ble_eq_true rfl) dX9_possible_6 ⟨(show (kc) + 340 ≤ 340 by omega), (show (ks) + 1360 ≤ 1360 by omega)⟩ ?_
  rintro _ ws ⟨rfl, hW⟩
  refine q_nm (wz := ws) (ka := kc + 340) (kb := ks + 1360) (sz := [.int u1]) rfl rfl rfl rfl ?_
  refine q_wid (show kc + 340 ≤ 340 by omega) (show ks + 1360 ≤ 1360 by omega) ?_
  obtain rfl := q_some hf
  exact q_iret (pc := 9) C dX9_possible_9 ⟨rfl, hW⟩
theorem z_X9_nextCode : q_dsc yX9_nextCode 0 := ⟨by decide +kernel, by decide +kernel, by decide +kernel⟩
theorem n_X9_nextCode_X9 : ∀ w ∈ wsX90, w ∈ wsX9_nextCode := fun _ h => (List.mem_cons_of_mem _ (List.mem_append_left _ (List.mem_append_left _ (List.mem_append_right _ h))))
def f_X9_nextCode_7b (k7 : Int32 → MS → Option (Int32 × MS)) (v1 : Int32) (S : MS) : Option (Int32 × MS) := ((f_X9_isPossible S v1).bind fun u1 => (if (q_b u1) = 0 then k7 (v1 + (1 : Int32)) S else some (v1, S)))
def f_X9_nextCode_7 : Nat → Int32 → MS → Option (Int32 × MS)
  | 0, _, _ => none
  | n + 1, v1, S => f_X9_nextCode_7b  (f_X9_nextCode_7  n) v1 S
def f_X9_nextCode (S : MS) : Option (Int32 × MS) := f_X9_nextCode_7 340 (0 : Int32) (mset S 0 (0 : Int32))
set_option maxRecDepth 100000 in
set_option maxHeartbeats 8000000 in
theorem w_X9_nextCode_7 {p : Program} {l : Launch} {e : Env} {s : State} {m : MethodId} {args : Array Value} {below : List Frame} {meth : Method} {c : Code} {D : va_G} {cc : Nat → ClassId} {N0 : Nat} {ga : Nat → Nat} {E : va_W} {ad : Nat → Nat → Nat} {v : (Int32 × MS)} (C : q_C p s m args meth c cX9_nextCode 2 (some .int) wsX9_nextCode RX9 D cc N0)  : ∀ (n : Nat) (kc : Nat) (ks : Nat) (v1 : Int32) (S : MS)  (ws : va_W), f_X9_nextCode_7  n v1 S = some v → mW cc ga ad S E ws → kc + 1 + n * 1 ≤ 345 → ks + 4 + n * 4 ≤ 1380 → q_WA p l e (q_rm (4) (114) 345 1380) s m args below meth c D N0 2 (MQ below (q_Q D N0 (fun rv w1 => rv = some (.int v.1) ∧ mW cc ga ad v.2 E w1)) args s 345 1380 (q_A N0)) kc ks ws 7 [(0, .ref (ga 0)), (1, .int v1)] [] := by
  intro n
  induction n with
  | zero => intro kc ks v1 S ws hf; cases hf
  | succ n ih =>
    intro kc ks v1 S ws hf hW b1 b2
    have hk7 : ∀ (kc : Nat) (ks : Nat) (v1 : Int32) (S : MS)  (ws : va_W), f_X9_nextCode_7  n v1 S = some v → mW cc ga ad S E ws → kc + 1 + n * 1 ≤ 345 → ks + 4 + n * 4 ≤ 1380 → q_WA p l e (q_rm (4) (114) 345 1380) s m args below meth c D N0 2 (MQ below (q_Q D N0 (fun rv w1 => rv = some (.int v.1) ∧ mW cc ga ad v.2 E w1)) args s 345 1380 (q_A N0)) kc ks ws 7 [(0, .ref (ga 0)), (1, .int v1)] [] := ih
    have hf : f_X9_nextCode_7b  (f_X9_nextCode_7  n) v1 S = some v := hf
    simp only [Nat.succ_mul, Nat.add_mul] at b1 b2
    refine q_aload_n (pc := 7) C dX9_nextCode_7 rfl 0 rfl ?_
    refine q_iload_n (pc := 8) C dX9_nextCode_8 rfl 1 rfl ?_
    obtain ⟨u1, e2, hf⟩ := q_bind hf
    obtain ⟨_, he⟩ := hW.obj
    refine q_callV (pc := 9) (As := [.int v1]) (rest := []) C (c_X9_isPossible l D cc N0 ga ad  E S v1 u1 e2 ws hW) gX9_nextCode_X9_isPossible rfl rfl z_X9_isPossible ⟨Nat.le_of_ble_eq_true rfl, Nat.le_of_ble_eq_true rfl⟩ he rfl rfl rfl (Nat.le_of_ble_eq_true rfl) dX9_nextCode_9 ⟨(show (kc) + 1 ≤ 345 by omega), (show (ks) + 4 ≤ 1380 by omega)⟩ ?_
    rintro _ ws ⟨rfl, hW⟩
    refine q_nm (wz := ws) (ka := kc + 1) (kb := ks + 4) (sz := [.int (q_b u1)]) rfl rfl rfl rfl ?_
    refine q_if_ne (pc := 12) (tgt := 21) C dX9_nextCode_12 (by decide) (fun c3 => ?_) (fun c3 => ?_)
    · have hf := q_iteF hf c3
      refine q_iload_n (pc := 21) C dX9_nextCode_21 rfl 1 rfl ?_
      refine q_wid (show kc + 1 ≤ 345 by omega) (show ks + 4 ≤ 1380 by omega) ?_
      obtain rfl := q_some hf
      exact q_iret (pc := 22) C dX9_nextCode_22 ⟨rfl, hW⟩
    · have hf := q_iteT hf c3
      refine q_iinc (pc := 15) (lvq := [(1, .int (v1 + (1 : Int32))), (0, .ref (ga 0))]) C (v1 + (1 : Int32)) dX9_nextCode_15 1 rfl q_ca_1 (by decide) rfl ?_
      refine q_goto (pc := 18) (tgt := 7) C dX9_nextCode_18 (by decide) ?_
      refine q_sub (lvq := [(0, .ref (ga 0)), (1, .int (v1 + (1 : Int32)))]) [1, 0] rfl ?_
      exact hk7 (kc + 1) (ks + 4) (v1 + (1 : Int32)) S ws hf hW (by omega) (by omega)
set_option maxRecDepth 100000 in
set_option maxHeartbeats 8000000 in
theorem c_X9_nextCode (l : Launch) (D : va_G) (cc : Nat → ClassId) (N0 : Nat) (ga : Nat → Nat) (ad : Nat → Nat → Nat) (E : va_W) (S : MS) (v : (Int32 × MS)) (hf : f_X9_nextCode S = some v) (ws : va_W) (hW : mW cc ga ad S E ws) : q_Met l yX9_nextCode wsX9_nextCode 4 114 D cc N0 ws [.ref (ga 0)] (fun rv w1 => rv = some (.int v.1) ∧ mW cc ga ad v.2 E w1) 345 1380 := by
  refine q_ofW (code := cX9_nextCode) (nL := 2) (ret := (some .int)) (by decide +kernel) rfl (Nat.le_of_ble_eq_true rfl) (fun p e s m below meth c C _ => ?_)
  refine q_lv (lv2 := [(0, .ref (ga 0))]) rfl ?_
  obtain ⟨kc, hkc⟩ : ∃ z, z = 0 := ⟨_, rfl⟩
  obtain ⟨ks, hks⟩ : ∃ z, z = 0 := ⟨_, rfl⟩
  refine q_nm (wz := ws) (ka := kc) (kb := ks) (sz := []) rfl hkc.symm hks.symm rfl ?_
  refine q_aload_n (pc := 0) C dX9_nextCode_0 rfl 0 rfl ?_
  refine q_iconst (pc := 1) C (0 : Int32) dX9_nextCode_1 q_ci_0 ?_
  refine m_p_0 (pc := 2) C hW n_X9_nextCode_X9 (List.mem_of_getElem? (i := 1) rfl) dX9_nextCode_2 (fun ws hW => ?_)
  refine q_iconst (pc := 5) C (0 : Int32) dX9_nextCode_5 q_ci_0 ?_
  refine q_istore_n (pc := 6) (lvq := [(1, .int (0 : Int32)), (0, .ref (ga 0))]) C dX9_nextCode_6 rfl (by decide) rfl ?_
  refine q_sub (lvq := [(0, .ref (ga 0)), (1, .int (0 : Int32))]) [1, 0] rfl ?_
  exact w_X9_nextCode_7 C 340 (kc) (ks) (0 : Int32) (mset S 0 (0 : Int32)) ws hf hW (by omega) (by omega)
theorem z_X9_things : q_dsc yX9_things 1 := ⟨by decide +kernel, by decide +kernel, by decide +kernel⟩
theorem n_X9_things_X9 : ∀ w ∈ wsX90, w ∈ wsX9_things := fun _ h => (List.mem_cons_of_mem _ (List.mem_append_right _ h))
def f_X9_things_66b (k50 : Int32 → Int32 → Int32 → MS → Option (Int32 × MS)) (k66 : Int32 → Int32 → Int32 → Nat → Int32 → MS → Option (Int32 × MS)) (v2 : Int32) (v4 : Int32) (v5 : Int32) (r6 : Nat) (v7 : Int32) (S : MS) : Option (Int32 × MS) := (if (5 : Int32) ≤ v7 then k50 v2 v4 (v5 + (1 : Int32)) S else (if r6 < 5 ∧ q_in v7 5 then k66 v2 v4 v5 r6 (v7 + (1 : Int32)) (mgrid S r6 (upd (S.2.2.2 r6) v7.toNatClampNeg (vp_nar .boolean (0 : Int32)))) else none))
def f_X9_things_66 (k50 : Int32 → Int32 → Int32 → MS → Option (Int32 × MS)) : Nat → Int32 → Int32 → Int32 → Nat → Int32 → MS → Option (Int32 × MS)
  | 0, _, _, _, _, _, _ => none
  | n + 1, v2, v4, v5, r6, v7, S => f_X9_things_66b k50 (f_X9_things_66 k50 n) v2 v4 v5 r6 v7 S
def f_X9_things_50b (k50 : Int32 → Int32 → Int32 → MS → Option (Int32 × MS)) (v2 : Int32) (v4 : Int32) (v5 : Int32) (S : MS) : Option (Int32 × MS) := (if v4 ≤ v5 then some (v2, S) else (if q_in v5 5 then f_X9_things_66 k50 1000 v2 v4 v5 v5.toNatClampNeg (0 : Int32) S else none))
def f_X9_things_50 : Nat → Int32 → Int32 → Int32 → MS → Option (Int32 × MS)
  | 0, _, _, _, _ => none
  | n + 1, v2, v4, v5, S => f_X9_things_50b  (f_X9_things_50  n) v2 v4 v5 S
def f_X9_things_20 (v1 : Int32) (vt0 : Int32) (S : MS) : Option (Int32 × MS) := ((f_X9_isWrong vt0 S).bind fun u2 => (if (q_b u2.1) = 0 then f_X9_things_50 1000 (u2.2.1 15) (5 : Int32) (0 : Int32) (mset u2.2 15 v1) else some ((0 : Int32), u2.2)))
def f_X9_things (a1 : Int32) (S : MS) : Option (Int32 × MS) := (if (q_b (f_X9_isBetween a1.toInt64 (2 : Int64) (5 : Int64))) = 0 then f_X9_things_20 a1 (1 : Int32) S else f_X9_things_20 a1 (0 : Int32) S)
set_option maxRecDepth 100000 in
set_option maxHeartbeats 8000000 in
theorem w_X9_things_66 {p : Program} {l : Launch} {e : Env} {s : State} {m : MethodId} {args : Array Value} {below : List Frame} {meth : Method} {c : Code} {D : va_G} {cc : Nat → ClassId} {N0 : Nat} {ga : Nat → Nat} {E : va_W} {ad : Nat → Nat → Nat} {k50 : Int32 → Int32 → Int32 → MS → Option (Int32 × MS)} {v : (Int32 × MS)} (C : q_C p s m args meth c cX9_things 8 (some .int) wsX9_things RX9 D cc N0) (hk50 : ∀ (v2 : Int32) (v4 : Int32) (v5 : Int32) (S : MS)  (ws : va_W), k50 v2 v4 v5 S = some v → mW cc ga ad S E ws → q_WA p l e (q_rm (1) (25) 0 0) s m args below meth c D N0 8 (MQ below (q_Q D N0 (fun rv w1 => rv = some (.int v.1) ∧ mW cc ga ad v.2 E w1)) args s 0 0 (q_A N0)) 0 0 ws 50 [(2, .int v2), (3, .ref (ga 6)), (4, .int v4), (5, .int v5)] []) : ∀ (n : Nat) (v2 : Int32) (v4 : Int32) (v5 : Int32) (r6 : Nat) (v7 : Int32) (S : MS)  (ws : va_W), f_X9_things_66 k50 n v2 v4 v5 r6 v7 S = some v → mW cc ga ad S E ws → q_WA p l e (q_rm (1) (25) 0 0) s m args below meth c D N0 8 (MQ below (q_Q D N0 (fun rv w1 => rv = some (.int v.1) ∧ mW cc ga ad v.2 E w1)) args s 0 0 (q_A N0)) 0 0 ws 66 [(2, .int v2), (3, .ref (ga 6)), (4, .int v4), (5, .int v5), (6, .ref (ga (7 + r6))), (7, .int v7)] [] := by
  intro n
  induction n with
  | zero => intro v2 v4 v5 r6 v7 S ws hf; cases hf
  | succ n ih =>
    intro v2 v4 v5 r6 v7 S ws hf hW
    have hk66 : ∀ (v2 : Int32) (v4 : Int32) (v5 : Int32) (r6 : Nat) (v7 : Int32) (S : MS)  (ws : va_W), f_X9_things_66 k50 n v2 v4 v5 r6 v7 S = some v → mW cc ga ad S E ws → q_WA p l e (q_rm (1) (25) 0 0) s m args below meth c D N0 8 (MQ below (q_Q D N0 (fun rv w1 => rv = some (.int v.1) ∧ mW cc ga ad v.2 E w1)) args s 0 0 (q_A N0)) 0 0 ws 66 [(2, .int v2), (3, .ref (ga 6)), (4, .int v4), (5, .int v5), (6, .ref (ga (7 + r6))), (7, .int v7)] [] := ih
    have hf : f_X9_things_66b k50 (f_X9_things_66 k50 n) v2 v4 v5 r6 v7 S = some v := hf
    refine q_iload (pc := 66) C dX9_things_66 5 rfl ?_
    refine q_iconst (pc := 68) C (5 : Int32) dX9_things_68 q_ci_5 ?_
    refine q_icmp_ge (pc := 69) (tgt := 84) C dX9_things_69 (by decide) (fun c7 => ?_) (fun c7 => ?_)
    · have hf := q_iteT hf c7
      refine q_iinc (pc := 84) (lvq := [(5, .int (v5 + (1 : Int32))), (2, .int v2), (3, .ref (ga 6)), (4, .int v4), (6, .ref (ga (7 + r6))), (7, .int v7)]) C (v5 + (1 : Int32)) dX9_things_84 3 rfl q_ca_1 (by decide) rfl ?_
      refine q_goto (pc := 87) (tgt := 50) C dX9_things_87 (by decide) ?_
      refine q_sub (lvq := [(2, .int v2), (3, .ref (ga 6)), (4, .int v4), (5, .int (v5 + (1 : Int32)))]) [1, 2, 3, 0] rfl ?_
      exact hk50 v2 v4 (v5 + (1 : Int32)) S ws hf hW
    · have hf := q_iteF hf c7
      refine q_aload (pc := 72) C dX9_things_72 4 rfl ?_
      refine q_iload (pc := 74) C dX9_things_74 5 rfl ?_
      refine q_iconst (pc := 76) C (0 : Int32) dX9_things_76 q_ci_0 ?_
      obtain ⟨g8, hf⟩ := q_gd hf
      refine m_gzst (pc := 77) C hW g8.1 g8.2 dX9_things_77 (fun ws hW => ?_)
      refine q_iinc (pc := 78) (lvq := [(7, .int (v7 + (1 : Int32))), (2, .int v2), (3, .ref (ga 6)), (4, .int v4), (5, .int v5), (6, .ref (ga (7 + r6)))]) C (v7 + (1 : Int32)) dX9_things_78 5 rfl q_ca_1 (by decide) rfl ?_
      refine q_goto (pc := 81) (tgt := 66) C dX9_things_81 (by decide) ?_
      refine q_sub (lvq := [(2, .int v2), (3, .ref (ga 6)), (4, .int v4), (5, .int v5), (6, .ref (ga (7 + r6))), (7, .int (v7 + (1 : Int32)))]) [1, 2, 3, 4, 5, 0] rfl ?_
      exact hk66 v2 v4 v5 r6 (v7 + (1 : Int32)) (mgrid S r6 (upd (S.2.2.2 r6) v7.toNatClampNeg (vp_nar .boolean (0 : Int32)))) ws hf hW
set_option maxRecDepth 100000 in
set_option maxHeartbeats 8000000 in
theorem w_X9_things_50 {p : Program} {l : Launch} {e : Env} {s : State} {m : MethodId} {args : Array Value} {below : List Frame} {meth : Method} {c : Code} {D : va_G} {cc : Nat → ClassId} {N0 : Nat} {ga : Nat → Nat} {E : va_W} {ad : Nat → Nat → Nat} {v : (Int32 × MS)} (C : q_C p s m args meth c cX9_things 8 (some .int) wsX9_things RX9 D cc N0)  : ∀ (n : Nat) (v2 : Int32) (v4 : Int32) (v5 : Int32) (S : MS)  (ws : va_W), f_X9_things_50  n v2 v4 v5 S = some v → mW cc ga ad S E ws → q_WA p l e (q_rm (1) (25) 0 0) s m args below meth c D N0 8 (MQ below (q_Q D N0 (fun rv w1 => rv = some (.int v.1) ∧ mW cc ga ad v.2 E w1)) args s 0 0 (q_A N0)) 0 0 ws 50 [(2, .int v2), (3, .ref (ga 6)), (4, .int v4), (5, .int v5)] [] := by
  intro n
  induction n with
  | zero => intro v2 v4 v5 S ws hf; cases hf
  | succ n ih =>
    intro v2 v4 v5 S ws hf hW
    have hk50 : ∀ (v2 : Int32) (v4 : Int32) (v5 : Int32) (S : MS)  (ws : va_W), f_X9_things_50  n v2 v4 v5 S = some v → mW cc ga ad S E ws → q_WA p l e (q_rm (1) (25) 0 0) s m args below meth c D N0 8 (MQ below (q_Q D N0 (fun rv w1 => rv = some (.int v.1) ∧ mW cc ga ad v.2 E w1)) args s 0 0 (q_A N0)) 0 0 ws 50 [(2, .int v2), (3, .ref (ga 6)), (4, .int v4), (5, .int v5)] [] := ih
    have hf : f_X9_things_50b  (f_X9_things_50  n) v2 v4 v5 S = some v := hf
    refine q_iload (pc := 50) C dX9_things_50 3 rfl ?_
    refine q_iload (pc := 52) C dX9_things_52 2 rfl ?_
    refine q_icmp_ge (pc := 54) (tgt := 90) C dX9_things_54 (by decide) (fun c5 => ?_) (fun c5 => ?_)
    · have hf := q_iteT hf c5
      refine q_iload_n (pc := 90) C dX9_things_90 rfl 0 rfl ?_
      obtain rfl := q_some hf
      exact q_iret (pc := 91) C dX9_things_91 ⟨rfl, hW⟩
    · have hf := q_iteF hf c5
      refine q_aload_n (pc := 57) C dX9_things_57 rfl 1 rfl ?_
      refine q_iload (pc := 58) C dX9_things_58 3 rfl ?_
      obtain ⟨g6, hf⟩ := q_gd hf
      refine m_gald (pc := 60) C hW g6 dX9_things_60 ?_
      refine q_astore (pc := 61) (lvq := [(6, .ref (ga (7 + v5.toNatClampNeg))), (2, .int v2), (3, .ref (ga 6)), (4, .int v4), (5, .int v5)]) C dX9_things_61 (by decide) rfl ?_
      refine q_iconst (pc := 63) C (0 : Int32) dX9_things_63 q_ci_0 ?_
      refine q_istore (pc := 64) (lvq := [(7, .int (0 : Int32)), (6, .ref (ga (7 + v5.toNatClampNeg))), (2, .int v2), (3, .ref (ga 6)), (4, .int v4), (5, .int v5)]) C dX9_things_64 (by decide) rfl ?_
      refine q_sub (lvq := [(2, .int v2), (3, .ref (ga 6)), (4, .int v4), (5, .int v5), (6, .ref (ga (7 + v5.toNatClampNeg))), (7, .int (0 : Int32))]) [2, 3, 4, 5, 1, 0] rfl ?_
      exact w_X9_things_66 C hk50 1000 v2 v4 v5 v5.toNatClampNeg (0 : Int32) S ws hf hW
set_option maxRecDepth 100000 in
set_option maxHeartbeats 8000000 in
theorem w_X9_things_20 {p : Program} {l : Launch} {e : Env} {s : State} {m : MethodId} {args : Array Value} {below : List Frame} {meth : Method} {c : Code} {D : va_G} {cc : Nat → ClassId} {N0 : Nat} {ga : Nat → Nat} {E : va_W} {ad : Nat → Nat → Nat} {v : (Int32 × MS)} (C : q_C p s m args meth c cX9_things 8 (some .int) wsX9_things RX9 D cc N0)  (v1 : Int32) (vt0 : Int32) (S : MS)  (ws : va_W) : f_X9_things_20  v1 vt0 S = some v → mW cc ga ad S E ws → q_WA p l e (q_rm (1) (25) 0 0) s m args below meth c D N0 8 (MQ below (q_Q D N0 (fun rv w1 => rv = some (.int v.1) ∧ mW cc ga ad v.2 E w1)) args s 0 0 (q_A N0)) 0 0 ws 20 [(0, .ref (ga 0)), (1, .int v1)] [.int vt0, .ref (ga 0)] := by
  intro hf hW
  obtain ⟨u2, e3, hf⟩ := q_bind hf
  obtain ⟨_, he⟩ := hW.obj
  refine q_callV (pc := 20) (As := [.int vt0]) (rest := []) C (c_X9_isWrong l D cc N0 ga ad  E S vt0 u2 e3 ws hW) gX9_things_X9_isWrong rfl rfl z_X9_isWrong ⟨Nat.le_of_ble_eq_true rfl, Nat.le_of_ble_eq_true rfl⟩ he rfl rfl rfl (Nat.le_of_ble_eq_true rfl) dX9_things_20 ⟨Nat.le_of_ble_eq_true rfl, Nat.le_of_ble_eq_true rfl⟩ ?_
  rintro _ ws ⟨rfl, hW⟩
  refine q_nm (wz := ws) (ka := 0) (kb := 0) (sz := [.int (q_b u2.1)]) rfl rfl rfl rfl ?_
  refine q_if_eq (pc := 23) (tgt := 28) C dX9_things_23 (by decide) (fun c4 => ?_) (fun c4 => ?_)
  · have hf := q_iteT hf c4
    refine q_aload_n (pc := 28) C dX9_things_28 rfl 0 rfl ?_
    refine m_g_15 (pc := 29) C hW n_X9_things_X9 (List.mem_of_getElem? (i := 3) rfl) dX9_things_29 ?_
    refine q_istore_n (pc := 32) (lvq := [(2, .int (u2.2.1 15)), (0, .ref (ga 0)), (1, .int v1)]) C dX9_things_32 rfl (by decide) rfl ?_
    refine q_aload_n (pc := 33) C dX9_things_33 rfl 1 rfl ?_
    refine q_iload_n (pc := 34) C dX9_things_34 rfl 2 rfl ?_
    refine m_p_15 (pc := 35) C hW n_X9_things_X9 (List.mem_of_getElem? (i := 3) rfl) dX9_things_35 (fun ws hW => ?_)
    refine q_aload_n (pc := 38) C dX9_things_38 rfl 1 rfl ?_
    refine m_g_16 (pc := 39) C hW n_X9_things_X9 (List.mem_of_getElem? (i := 4) rfl) dX9_things_39 ?_
    refine q_astore_n (pc := 42) (lvq := [(3, .ref (ga 6)), (2, .int (u2.2.1 15)), (0, .ref (ga 0)), (1, .int v1)]) C dX9_things_42 rfl (by decide) rfl ?_
    refine q_aload_n (pc := 43) C dX9_things_43 rfl 0 rfl ?_
    refine m_glen (pc := 44) C hW dX9_things_44 ?_
    refine q_istore (pc := 45) (lvq := [(4, .int (5 : Int32)), (3, .ref (ga 6)), (2, .int (u2.2.1 15)), (0, .ref (ga 0)), (1, .int v1)]) C dX9_things_45 (by decide) rfl ?_
    refine q_iconst (pc := 47) C (0 : Int32) dX9_things_47 q_ci_0 ?_
    refine q_istore (pc := 48) (lvq := [(5, .int (0 : Int32)), (4, .int (5 : Int32)), (3, .ref (ga 6)), (2, .int (u2.2.1 15)), (0, .ref (ga 0)), (1, .int v1)]) C dX9_things_48 (by decide) rfl ?_
    refine q_sub (lvq := [(2, .int (u2.2.1 15)), (3, .ref (ga 6)), (4, .int (5 : Int32)), (5, .int (0 : Int32))]) [3, 2, 1, 0] rfl ?_
    exact w_X9_things_50 C 1000 (u2.2.1 15) (5 : Int32) (0 : Int32) (mset u2.2 15 v1) ws hf hW
  · have hf := q_iteF hf c4
    refine q_iconst (pc := 26) C (0 : Int32) dX9_things_26 q_ci_0 ?_
    obtain rfl := q_some hf
    exact q_iret (pc := 27) C dX9_things_27 ⟨rfl, hW⟩
set_option maxRecDepth 100000 in
set_option maxHeartbeats 8000000 in
theorem c_X9_things (l : Launch) (D : va_G) (cc : Nat → ClassId) (N0 : Nat) (ga : Nat → Nat) (ad : Nat → Nat → Nat) (E : va_W) (S : MS) (a1 : Int32) (v : (Int32 × MS)) (hf : f_X9_things a1 S = some v) (ws : va_W) (hW : mW cc ga ad S E ws) : q_Met l yX9_things wsX9_things 1 25 D cc N0 ws [.ref (ga 0), .int a1] (fun rv w1 => rv = some (.int v.1) ∧ mW cc ga ad v.2 E w1) 0 0 := by
  refine q_ofW (code := cX9_things) (nL := 8) (ret := (some .int)) (by decide +kernel) rfl (Nat.le_of_ble_eq_true rfl) (fun p e s m below meth c C _ => ?_)
  refine q_lv (lv2 := [(0, .ref (ga 0)), (1, .int a1)]) rfl ?_
  refine q_aload_n (pc := 0) C dX9_things_0 rfl 0 rfl ?_
  refine q_iload_n (pc := 1) C dX9_things_1 rfl 1 rfl ?_
  refine q_i2l (pc := 2) C dX9_things_2 rfl ?_
  refine q_ldc2 (pc := 3) (v := (2 : Int64)) C (List.mem_of_getElem? (i := 1) rfl) dX9_things_3 ?_
  refine q_ldc2 (pc := 6) (v := (5 : Int64)) C (List.mem_of_getElem? (i := 2) rfl) dX9_things_6 ?_
  refine q_callS (pc := 9) (As := [.long a1.toInt64, .long (2 : Int64), .long (5 : Int64)]) (rest := [.ref (ga 0)]) C (c_X9_isBetween l D cc N0 ws a1.toInt64 (2 : Int64) (5 : Int64) _ rfl) gX9_things_X9_isBetween rfl z_X9_isBetween ⟨Nat.le_of_ble_eq_true rfl, Nat.le_of_ble_eq_true rfl⟩ rfl rfl (Nat.le_of_ble_eq_true rfl) dX9_things_9 ⟨Nat.le_of_ble_eq_true rfl, Nat.le_of_ble_eq_true rfl⟩ ?_
  refine q_after (rv := (some (.int (q_b (f_X9_isBetween a1.toInt64 (2 : Int64) (5 : Int64)))))) (w0 := ws) (st2 := [.int (q_b (f_X9_isBetween a1.toInt64 (2 : Int64) (5 : Int64))), .ref (ga 0)]) rfl rfl rfl ?_
  refine q_if_eq (pc := 12) (tgt := 19) C dX9_things_12 (by decide) (fun c1 => ?_) (fun c1 => ?_)
  · have hf := q_iteT hf c1
    refine q_iconst (pc := 19) C (1 : Int32) dX9_things_19 q_ci_1 ?_
    refine q_sub (lvq := [(0, .ref (ga 0)), (1, .int a1)]) [0, 1] rfl ?_
    exact w_X9_things_20 C a1 (1 : Int32) S ws hf hW
  · have hf := q_iteF hf c1
    refine q_iconst (pc := 15) C (0 : Int32) dX9_things_15 q_ci_0 ?_
    refine q_goto (pc := 16) (tgt := 20) C dX9_things_16 (by decide) ?_
    refine q_sub (lvq := [(0, .ref (ga 0)), (1, .int a1)]) [0, 1] rfl ?_
    exact w_X9_things_20 C a1 (0 : Int32) S ws hf hW
theorem z_X9_orders : q_dsc yX9_orders 3 := ⟨by decide +kernel, by decide +kernel, by decide +kernel⟩
theorem n_X9_orders_X9 : ∀ w ∈ wsX90, w ∈ wsX9_orders := fun _ h => (List.mem_cons_of_mem _ (List.mem_append_right _ h))
def f_X9_orders_139 (S : MS) (rc : Int32 → Int32 → Int32 → Option Int32) (k20 : Int32 → Int32 → Int32 → Int32 → Int32 → Option Int32) (v1 : Int32) (v2 : Int32) (v3 : Int32) (v5 : Int32) (vt0 : Int32) (vt1 : Int32) : Option Int32 := k20 v1 v2 v3 (vt1 + vt0) (v5 + (1 : Int32))
def f_X9_orders_107 (S : MS) (rc : Int32 → Int32 → Int32 → Option Int32) (k20 : Int32 → Int32 → Int32 → Int32 → Int32 → Option Int32) (k68 : Int32 → Int32 → Int32 → Int32 → Int32 → Int32 → Int32 → Option Int32) (v1 : Int32) (v2 : Int32) (v3 : Int32) (v4 : Int32) (v5 : Int32) (v7 : Int32) (vt0 : Int32) (vt1 : Int32) : Option Int32 := k68 v1 v2 v3 v4 v5 (vt1 &&& vt0) (v7 + (1 : Int32))
def f_X9_orders_102 (S : MS) (rc : Int32 → Int32 → Int32 → Option Int32) (k20 : Int32 → Int32 → Int32 → Int32 → Int32 → Option Int32) (k68 : Int32 → Int32 → Int32 → Int32 → Int32 → Int32 → Int32 → Option Int32) (v1 : Int32) (v2 : Int32) (v3 : Int32) (v4 : Int32) (v5 : Int32) (v7 : Int32) (vt0 : Int32) : Option Int32 := f_X9_orders_107 S rc k20 k68 v1 v2 v3 v4 v5 v7 (1 : Int32) vt0
def f_X9_orders_68b (S : MS) (rc : Int32 → Int32 → Int32 → Option Int32) (k20 : Int32 → Int32 → Int32 → Int32 → Int32 → Option Int32) (k68 : Int32 → Int32 → Int32 → Int32 → Int32 → Int32 → Int32 → Option Int32) (v1 : Int32) (v2 : Int32) (v3 : Int32) (v4 : Int32) (v5 : Int32) (v6 : Int32) (v7 : Int32) : Option Int32 := (if (S.1 15) ≤ v7 then (if v6 = 0 then f_X9_orders_139 S rc k20 v1 v2 v3 v5 (0 : Int32) v4 else ((rc (v1 ||| ((1 : Int32) <<< (v5 &&& 31))) v2 v3).bind fun u6 => f_X9_orders_139 S rc k20 v1 v2 v3 v5 u6 v4)) else (if q_in v7 5 then (if v7.toNatClampNeg < 5 ∧ q_in v5 5 then (if (S.2.2.2 v7.toNatClampNeg v5.toNatClampNeg) = 0 then f_X9_orders_102 S rc k20 k68 v1 v2 v3 v4 v5 v7 v6 else (if ((v1 >>> (v7 &&& 31)) &&& (1 : Int32)) = (1 : Int32) then f_X9_orders_102 S rc k20 k68 v1 v2 v3 v4 v5 v7 v6 else f_X9_orders_107 S rc k20 k68 v1 v2 v3 v4 v5 v7 (0 : Int32) v6)) else none) else none))
def f_X9_orders_68 (S : MS) (rc : Int32 → Int32 → Int32 → Option Int32) (k20 : Int32 → Int32 → Int32 → Int32 → Int32 → Option Int32) : Nat → Int32 → Int32 → Int32 → Int32 → Int32 → Int32 → Int32 → Option Int32
  | 0, _, _, _, _, _, _, _ => none
  | n + 1, v1, v2, v3, v4, v5, v6, v7 => f_X9_orders_68b S rc k20 (f_X9_orders_68 S rc k20 n) v1 v2 v3 v4 v5 v6 v7
def f_X9_orders_63 (S : MS) (rc : Int32 → Int32 → Int32 → Option Int32) (k20 : Int32 → Int32 → Int32 → Int32 → Int32 → Option Int32) (v1 : Int32) (v2 : Int32) (v3 : Int32) (v4 : Int32) (v5 : Int32) (vt0 : Int32) : Option Int32 := f_X9_orders_68 S rc k20 1000 v1 v2 v3 v4 v5 vt0 (0 : Int32)
def f_X9_orders_62 (S : MS) (rc : Int32 → Int32 → Int32 → Option Int32) (k20 : Int32 → Int32 → Int32 → Int32 → Int32 → Option Int32) (v1 : Int32) (v2 : Int32) (v3 : Int32) (v4 : Int32) (v5 : Int32) : Option Int32 := f_X9_orders_63 S rc k20 v1 v2 v3 v4 v5 (0 : Int32)
def f_X9_orders_58 (S : MS) (rc : Int32 → Int32 → Int32 → Option Int32) (k20 : Int32 → Int32 → Int32 → Int32 → Int32 → Option Int32) (v1 : Int32) (v2 : Int32) (v3 : Int32) (v4 : Int32) (v5 : Int32) : Option Int32 := f_X9_orders_63 S rc k20 v1 v2 v3 v4 v5 (1 : Int32)
def f_X9_orders_20b (S : MS) (rc : Int32 → Int32 → Int32 → Option Int32) (k20 : Int32 → Int32 → Int32 → Int32 → Int32 → Option Int32) (v1 : Int32) (v2 : Int32) (v3 : Int32) (v4 : Int32) (v5 : Int32) : Option Int32 := (if (S.1 15) ≤ v5 then some v4 else (if ((v1 >>> (v5 &&& 31)) &&& (1 : Int32)) = 0 then (if v5 = v3 then (if v2 = (-1 : Int32) then f_X9_orders_58 S rc k20 v1 v2 v3 v4 v5 else (if ((v1 >>> (v2 &&& 31)) &&& (1 : Int32)) = (1 : Int32) then f_X9_orders_58 S rc k20 v1 v2 v3 v4 v5 else f_X9_orders_62 S rc k20 v1 v2 v3 v4 v5)) else f_X9_orders_58 S rc k20 v1 v2 v3 v4 v5) else f_X9_orders_62 S rc k20 v1 v2 v3 v4 v5))
def f_X9_orders_20 (S : MS) (rc : Int32 → Int32 → Int32 → Option Int32) : Nat → Int32 → Int32 → Int32 → Int32 → Int32 → Option Int32
  | 0, _, _, _, _, _ => none
  | n + 1, v1, v2, v3, v4, v5 => f_X9_orders_20b S rc (f_X9_orders_20 S rc n) v1 v2 v3 v4 v5
def f_X9_ordersb (S : MS) (rc : Int32 → Int32 → Int32 → Option Int32) (a1 : Int32) (a2 : Int32) (a3 : Int32) : Option Int32 := (if a1 = (((1 : Int32) <<< ((S.1 15) &&& 31)) - (1 : Int32)) then some (1 : Int32) else f_X9_orders_20 S rc 1000 a1 a2 a3 (0 : Int32) (0 : Int32))
def f_X9_orders (S : MS) : Nat → Int32 → Int32 → Int32 → Option Int32
  | 0, _, _, _ => none
  | n + 1, a1, a2, a3 => f_X9_ordersb S (f_X9_orders S n) a1 a2 a3
set_option maxRecDepth 100000 in
set_option maxHeartbeats 8000000 in
theorem w_X9_orders_139 {p : Program} {l : Launch} {e : Env} {s : State} {m : MethodId} {args : Array Value} {below : List Frame} {meth : Method} {c : Code} {D : va_G} {cc : Nat → ClassId} {N0 : Nat} {ga : Nat → Nat} {E : va_W} {ad : Nat → Nat → Nat} {S : MS} {rc : Int32 → Int32 → Int32 → Option Int32} {fu : Nat} {k20 : Int32 → Int32 → Int32 → Int32 → Int32 → Option Int32} {v : Int32} (C : q_C p s m args meth c cX9_orders 8 (some .int) wsX9_orders RX9 D cc N0) (hrec : ∀ (E : va_W) (a1 : Int32) (a2 : Int32) (a3 : Int32) (v : Int32), rc a1 a2 a3 = some v → ∀ ws, mW cc ga ad S E ws → q_Met l yX9_orders wsX9_orders (fu + 4) (fu * 27 + 60) D cc N0 ws [.ref (ga 0), .int a1, .int a2, .int a3] (fun rv w1 => rv = some (.int v) ∧ mW cc ga ad S E w1) 0 0) (hk20 : ∀ (v1 : Int32) (v2 : Int32) (v3 : Int32) (v4 : Int32) (v5 : Int32)  (ws : va_W), k20 v1 v2 v3 v4 v5 = some v → mW cc ga ad S E ws → q_WA p l e (q_rm ((fu + 1) + 4) ((fu + 1) * 27 + 60) 0 0) s m args below meth c D N0 8 (MQ below (q_Q D N0 (fun rv w1 => rv = some (.int v) ∧ mW cc ga ad S E w1)) args s 0 0 (q_A N0)) 0 0 ws 20 [(0, .ref (ga 0)), (1, .int v1), (2, .int v2), (3, .int v3), (4, .int v4), (5, .int v5)] []) (v1 : Int32) (v2 : Int32) (v3 : Int32) (v5 : Int32) (vt0 : Int32) (vt1 : Int32)  (ws : va_W) : f_X9_orders_139 S rc k20 v1 v2 v3 v5 vt0 vt1 = some v → mW cc ga ad S E ws → q_WA p l e (q_rm ((fu + 1) + 4) ((fu + 1) * 27 + 60) 0 0) s m args below meth c D N0 8 (MQ below (q_Q D N0 (fun rv w1 => rv = some (.int v) ∧ mW cc ga ad S E w1)) args s 0 0 (q_A N0)) 0 0 ws 139 [(0, .ref (ga 0)), (1, .int v1), (2, .int v2), (3, .int v3), (5, .int v5)] [.int vt0, .int vt1] := by
  intro hf hW
  refine q_iadd (pc := 139) C dX9_orders_139 ?_
  refine q_istore (pc := 140) (lvq := [(4, .int (vt1 + vt0)), (0, .ref (ga 0)), (1, .int v1), (2, .int v2), (3, .int v3), (5, .int v5)]) C dX9_orders_140 (by decide) rfl ?_
  refine q_iinc (pc := 142) (lvq := [(5, .int (v5 + (1 : Int32))), (4, .int (vt1 + vt0)), (0, .ref (ga 0)), (1, .int v1), (2, .int v2), (3, .int v3)]) C (v5 + (1 : Int32)) dX9_orders_142 5 rfl q_ca_1 (by decide) rfl ?_
  refine q_goto (pc := 145) (tgt := 20) C dX9_orders_145 (by decide) ?_
  refine q_sub (lvq := [(0, .ref (ga 0)), (1, .int v1), (2, .int v2), (3, .int v3), (4, .int (vt1 + vt0)), (5, .int (v5 + (1 : Int32)))]) [2, 3, 4, 5, 1, 0] rfl ?_
  exact hk20 v1 v2 v3 (vt1 + vt0) (v5 + (1 : Int32)) ws hf hW
set_option maxRecDepth 100000 in
set_option maxHeartbeats 8000000 in
theorem w_X9_orders_107 {p : Program} {l : Launch} {e : Env} {s : State} {m : MethodId} {args : Array Value} {below : List Frame} {meth : Method} {c : Code} {D : va_G} {cc : Nat → ClassId} {N0 : Nat} {ga : Nat → Nat} {E : va_W} {ad : Nat → Nat → Nat} {S : MS} {rc : Int32 → Int32 → Int32 → Option Int32} {fu : Nat} {k20 : Int32 → Int32 → Int32 → Int32 → Int32 → Option Int32} {k68 : Int32 → Int32 → Int32 → Int32 → Int32 → Int32 → Int32 → Option Int32} {v : Int32} (C : q_C p s m args meth c cX9_orders 8 (some .int) wsX9_orders RX9 D cc N0) (hrec : ∀ (E : va_W) (a1 : Int32) (a2 : Int32) (a3 : Int32) (v : Int32), rc a1 a2 a3 = some v → ∀ ws, mW cc ga ad S E ws → q_Met l yX9_orders wsX9_orders (fu + 4) (fu * 27 + 60) D cc N0 ws [.ref (ga 0), .int a1, .int a2, .int a3] (fun rv w1 => rv = some (.int v) ∧ mW cc ga ad S E w1) 0 0) (hk20 : ∀ (v1 : Int32) (v2 : Int32) (v3 : Int32) (v4 : Int32) (v5 : Int32)  (ws : va_W), k20 v1 v2 v3 v4 v5 = some v → mW cc ga ad S E ws → q_WA p l e (q_rm ((fu + 1) + 4) ((fu + 1) * 27 + 60) 0 0) s m args below meth c D N0 8 (MQ below (q_Q D N0 (fun rv w1 => rv = some (.int v) ∧ mW cc ga ad S E w1)) args s 0 0 (q_A N0)) 0 0 ws 20 [(0, .ref (ga 0)), (1, .int v1), (2, .int v2), (3, .int v3), (4, .int v4), (5, .int v5)] []) (hk68 : ∀ (v1 : Int32) (v2 : Int32) (v3 : Int32) (v4 : Int32) (v5 : Int32) (v6 : Int32) (v7 : Int32)  (ws : va_W), k68 v1 v2 v3 v4 v5 v6 v7 = some v → mW cc ga ad S E ws → q_WA p l e (q_rm ((fu + 1) + 4) ((fu + 1) * 27 + 60) 0 0) s m args below meth c D N0 8 (MQ below (q_Q D N0 (fun rv w1 => rv = some (.int v) ∧ mW cc ga ad S E w1)) args s 0 0 (q_A N0)) 0 0 ws 68 [(0, .ref (ga 0)), (1, .int v1), (2, .int v2), (3, .int v3), (4, .int v4), (5, .int v5), (6, .int v6), (7, .int v7)] []) (v1 : Int32) (v2 : Int32) (v3 : Int32) (v4 : Int32) (v5 : Int32) (v7 : Int32) (vt0 : Int32) (vt1 : Int32)  (ws : va_W) : f_X9_orders_107 S rc k20 k68 v1 v2 v3 v4 v5 v7 vt0 vt1 = some v → mW cc ga ad S E ws → q_WA p l e (q_rm ((fu + 1) + 4) ((fu + 1) * 27 + 60) 0 0) s m args below meth c D N0 8 (MQ below (q_Q D N0 (fun rv w1 => rv = some (.int v) ∧ mW cc ga ad S E w1)) args s 0 0 (q_A N0)) 0 0 ws 107 [(0, .ref (ga 0)), (1, .int v1), (2, .int v2), (3, .int v3), (4, .int v4), (5, .int v5), (7, .int v7)] [.int vt0, .int vt1] := by
  intro hf hW
  refine q_iand (pc := 107) C dX9_orders_107 ?_
  refine q_istore (pc := 108) (lvq := [(6, .int (vt1 &&& vt0)), (0, .ref (ga 0)), (1, .int v1), (2, .int v2), (3, .int v3), (4, .int v4), (5, .int v5), (7, .int v7)]) C dX9_orders_108 (by decide) rfl ?_
  refine q_iinc (pc := 110) (lvq := [(7, .int (v7 + (1 : Int32))), (6, .int (vt1 &&& vt0)), (0, .ref (ga 0)), (1, .int v1), (2, .int v2), (3, .int v3), (4, .int v4), (5, .int v5)]) C (v7 + (1 : Int32)) dX9_orders_110 7 rfl q_ca_1 (by decide) rfl ?_
  refine q_goto (pc := 113) (tgt := 68) C dX9_orders_113 (by decide) ?_
  refine q_sub (lvq := [(0, .ref (ga 0)), (1, .int v1), (2, .int v2), (3, .int v3), (4, .int v4), (5, .int v5), (6, .int (vt1 &&& vt0)), (7, .int (v7 + (1 : Int32)))]) [2, 3, 4, 5, 6, 7, 1, 0] rfl ?_
  exact hk68 v1 v2 v3 v4 v5 (vt1 &&& vt0) (v7 + (1 : Int32)) ws hf hW
set_option maxRecDepth 100000 in
set_option maxHeartbeats 8000000 in
theorem w_X9_orders_102 {p : Program} {l : Launch} {e : Env} {s : State} {m : MethodId} {args : Array Value} {below : List Frame} {meth : Method} {c : Code} {D : va_G} {cc : Nat → ClassId} {N0 : Nat} {ga : Nat → Nat} {E : va_W} {ad : Nat → Nat → Nat} {S : MS} {rc : Int32 → Int32 → Int32 → Option Int32} {fu : Nat} {k20 : Int32 → Int32 → Int32 → Int32 → Int32 → Option Int32} {k68 : Int32 → Int32 → Int32 → Int32 → Int32 → Int32 → Int32 → Option Int32} {v : Int32} (C : q_C p s m args meth c cX9_orders 8 (some .int) wsX9_orders RX9 D cc N0) (hrec : ∀ (E : va_W) (a1 : Int32) (a2 : Int32) (a3 : Int32) (v : Int32), rc a1 a2 a3 = some v → ∀ ws, mW cc ga ad S E ws → q_Met l yX9_orders wsX9_orders (fu + 4) (fu * 27 + 60) D cc N0 ws [.ref (ga 0), .int a1, .int a2, .int a3] (fun rv w1 => rv = some (.int v) ∧ mW cc ga ad S E w1) 0 0) (hk20 : ∀ (v1 : Int32) (v2 : Int32) (v3 : Int32) (v4 : Int32) (v5 : Int32)  (ws : va_W), k20 v1 v2 v3 v4 v5 = some v → mW cc ga ad S E ws → q_WA p l e (q_rm ((fu + 1) + 4) ((fu + 1) * 27 + 60) 0 0) s m args below meth c D N0 8 (MQ below (q_Q D N0 (fun rv w1 => rv = some (.int v) ∧ mW cc ga ad S E w1)) args s 0 0 (q_A N0)) 0 0 ws 20 [(0, .ref (ga 0)), (1, .int v1), (2, .int v2), (3, .int v3), (4, .int v4), (5, .int v5)] []) (hk68 : ∀ (v1 : Int32) (v2 : Int32) (v3 : Int32) (v4 : Int32) (v5 : Int32) (v6 : Int32) (v7 : Int32)  (ws : va_W), k68 v1 v2 v3 v4 v5 v6 v7 = some v → mW cc ga ad S E ws → q_WA p l e (q_rm ((fu + 1) + 4) ((fu + 1) * 27 + 60) 0 0) s m args below meth c D N0 8 (MQ below (q_Q D N0 (fun rv w1 => rv = some (.int v) ∧ mW cc ga ad S E w1)) args s 0 0 (q_A N0)) 0 0 ws 68 [(0, .ref (ga 0)), (1, .int v1), (2, .int v2), (3, .int v3), (4, .int v4), (5, .int v5), (6, .int v6), (7, .int v7)] []) (v1 : Int32) (v2 : Int32) (v3 : Int32) (v4 : Int32) (v5 : Int32) (v7 : Int32) (vt0 : Int32)  (ws : va_W) : f_X9_orders_102 S rc k20 k68 v1 v2 v3 v4 v5 v7 vt0 = some v → mW cc ga ad S E ws → q_WA p l e (q_rm ((fu + 1) + 4) ((fu + 1) * 27 + 60) 0 0) s m args below meth c D N0 8 (MQ below (q_Q D N0 (fun rv w1 => rv = some (.int v) ∧ mW cc ga ad S E w1)) args s 0 0 (q_A N0)) 0 0 ws 102 [(0, .ref (ga 0)), (1, .int v1), (2, .int v2), (3, .int v3), (4, .int v4), (5, .int v5), (7, .int v7)] [.int vt0] := by
  intro hf hW
  refine q_iconst (pc := 102) C (1 : Int32) dX9_orders_102 q_ci_1 ?_
  refine q_goto (pc := 103) (tgt := 107) C dX9_orders_103 (by decide) ?_
  refine q_sub (lvq := [(0, .ref (ga 0)), (1, .int v1), (2, .int v2), (3, .int v3), (4, .int v4), (5, .int v5), (7, .int v7)]) [0, 1, 2, 3, 4, 5, 6] rfl ?_
  exact w_X9_orders_107 C hrec hk20 hk68 v1 v2 v3 v4 v5 v7 (1 : Int32) vt0 ws hf hW
set_option maxRecDepth 100000 in
set_option maxHeartbeats 8000000 in
theorem w_X9_orders_68 {p : Program} {l : Launch} {e : Env} {s : State} {m : MethodId} {args : Array Value} {below : List Frame} {meth : Method} {c : Code} {D : va_G} {cc : Nat → ClassId} {N0 : Nat} {ga : Nat → Nat} {E : va_W} {ad : Nat → Nat → Nat} {S : MS} {rc : Int32 → Int32 → Int32 → Option Int32} {fu : Nat} {k20 : Int32 → Int32 → Int32 → Int32 → Int32 → Option Int32} {v : Int32} (C : q_C p s m args meth c cX9_orders 8 (some .int) wsX9_orders RX9 D cc N0) (hrec : ∀ (E : va_W) (a1 : Int32) (a2 : Int32) (a3 : Int32) (v : Int32), rc a1 a2 a3 = some v → ∀ ws, mW cc ga ad S E ws → q_Met l yX9_orders wsX9_orders (fu + 4) (fu * 27 + 60) D cc N0 ws [.ref (ga 0), .int a1, .int a2, .int a3] (fun rv w1 => rv = some (.int v) ∧ mW cc ga ad S E w1) 0 0) (hk20 : ∀ (v1 : Int32) (v2 : Int32) (v3 : Int32) (v4 : Int32) (v5 : Int32)  (ws : va_W), k20 v1 v2 v3 v4 v5 = some v → mW cc ga ad S E ws → q_WA p l e (q_rm ((fu + 1) + 4) ((fu + 1) * 27 + 60) 0 0) s m args below meth c D N0 8 (MQ below (q_Q D N0 (fun rv w1 => rv = some (.int v) ∧ mW cc ga ad S E w1)) args s 0 0 (q_A N0)) 0 0 ws 20 [(0, .ref (ga 0)), (1, .int v1), (2, .int v2), (3, .int v3), (4, .int v4), (5, .int v5)] []) : ∀ (n : Nat) (v1 : Int32) (v2 : Int32) (v3 : Int32) (v4 : Int32) (v5 : Int32) (v6 : Int32) (v7 : Int32)  (ws : va_W), f_X9_orders_68 S rc k20 n v1 v2 v3 v4 v5 v6 v7 = some v → mW cc ga ad S E ws → q_WA p l e (q_rm ((fu + 1) + 4) ((fu + 1) * 27 + 60) 0 0) s m args below meth c D N0 8 (MQ below (q_Q D N0 (fun rv w1 => rv = some (.int v) ∧ mW cc ga ad S E w1)) args s 0 0 (q_A N0)) 0 0 ws 68 [(0, .ref (ga 0)), (1, .int v1), (2, .int v2), (3, .int v3), (4, .int v4), (5, .int v5), (6, .int v6), (7, .int v7)] [] := by
  intro n
  induction n with
  | zero => intro v1 v2 v3 v4 v5 v6 v7 ws hf; cases hf
  | succ n ih =>
    intro v1 v2 v3 v4 v5 v6 v7 ws hf hW
    have hk68 : ∀ (v1 : Int32) (v2 : Int32) (v3 : Int32) (v4 : Int32) (v5 : Int32) (v6 : Int32) (v7 : Int32)  (ws : va_W), f_X9_orders_68 S rc k20 n v1 v2 v3 v4 v5 v6 v7 = some v → mW cc ga ad S E ws → q_WA p l e (q_rm ((fu + 1) + 4) ((fu + 1) * 27 + 60) 0 0) s m args below meth c D N0 8 (MQ below (q_Q D N0 (fun rv w1 => rv = some (.int v) ∧ mW cc ga ad S E w1)) args s 0 0 (q_A N0)) 0 0 ws 68 [(0, .ref (ga 0)), (1, .int v1), (2, .int v2), (3, .int v3), (4, .int v4), (5, .int v5), (6, .int v6), (7, .int v7)] [] := ih
    have hf : f_X9_orders_68b S rc k20 (f_X9_orders_68 S rc k20 n) v1 v2 v3 v4 v5 v6 v7 = some v := hf
    refine q_iload (pc := 68) C dX9_orders_68 7 rfl ?_
    refine q_aload_n (pc := 70) C dX9_orders_70 rfl 0 rfl ?_
    refine m_g_15 (pc := 71) C hW n_X9_orders_X9 (List.mem_of_getElem? (i := 1) rfl) dX9_orders_71 ?_
    refine q_icmp_ge (pc := 74) (tgt := 116) C dX9_orders_74 (by decide) (fun c4 => ?_) (fun c4 => ?_)
    · have hf := q_iteT hf c4
      refine q_iload (pc := 116) C dX9_orders_116 4 rfl ?_
      refine q_iload (pc := 118) C dX9_orders_118 6 rfl ?_
      refine q_if_eq (pc := 120) (tgt := 138) C dX9_orders_120 (by decide) (fun c5 => ?_) (fun c5 => ?_)
      · have hf := q_iteT hf c5
        refine q_iconst (pc := 138) C (0 : Int32) dX9_orders_138 q_ci_0 ?_
        refine q_sub (lvq := [(0, .ref (ga 0)), (1, .int v1), (2, .int v2), (3, .int v3), (5, .int v5)]) [0, 1, 2, 3, 5] rfl ?_
        exact w_X9_orders_139 C hrec hk20 v1 v2 v3 v5 (0 : Int32) v4 ws hf hW
      · have hf := q_iteF hf c5
        refine q_aload_n (pc := 123) C dX9_orders_123 rfl 0 rfl ?_
        refine q_iload_n (pc := 124) C dX9_orders_124 rfl 1 rfl ?_
        refine q_iconst (pc := 125) C (1 : Int32) dX9_orders_125 q_ci_1 ?_
        refine q_iload (pc := 126) C dX9_orders_126 5 rfl ?_
        refine q_ishl (pc := 128) C dX9_orders_128 ?_
        refine q_ior (pc := 129) C dX9_orders_129 ?_
        refine q_iload_n (pc := 130) C dX9_orders_130 rfl 2 rfl ?_
        refine q_iload_n (pc := 131) C dX9_orders_131 rfl 3 rfl ?_
        obtain ⟨u6, e7, hf⟩ := q_bind hf
        obtain ⟨_, he⟩ := hW.obj
        refine q_callV (pc := 132) (As := [.int (v1 ||| ((1 : Int32) <<< (v5 &&& 31))), .int v2, .int v3]) (rest := [.int v4]) C (hrec E (v1 ||| ((1 : Int32) <<< (v5 &&& 31))) v2 v3 u6 e7 ws hW) gX9_orders_X9_orders rfl rfl z_X9_orders ⟨(by show (_ : Nat) ≤ (fu + 1) + 4; omega), (by show (_ : Nat) ≤ (fu + 1) * 27 + 60; omega)⟩ he rfl rfl rfl (Nat.le_of_ble_eq_true rfl) dX9_orders_132 ⟨Nat.le_of_ble_eq_true rfl, Nat.le_of_ble_eq_true rfl⟩ ?_
        rintro _ ws ⟨rfl, hW⟩
        refine q_nm (wz := ws) (ka := 0) (kb := 0) (sz := [.int u6, .int v4]) rfl rfl rfl rfl ?_
        refine q_goto (pc := 135) (tgt := 139) C dX9_orders_135 (by decide) ?_
        refine q_sub (lvq := [(0, .ref (ga 0)), (1, .int v1), (2, .int v2), (3, .int v3), (5, .int v5)]) [0, 1, 2, 3, 5] rfl ?_
        exact w_X9_orders_139 C hrec hk20 v1 v2 v3 v5 u6 v4 ws hf hW
    · have hf := q_iteF hf c4
      refine q_iload (pc := 77) C dX9_orders_77 6 rfl ?_
      refine q_aload_n (pc := 79) C dX9_orders_79 rfl 0 rfl ?_
      refine m_g_16 (pc := 80) C hW n_X9_orders_X9 (List.mem_of_getElem? (i := 2) rfl) dX9_orders_80 ?_
      refine q_iload (pc := 83) C dX9_orders_83 7 rfl ?_
      obtain ⟨g8, hf⟩ := q_gd hf
      refine m_gald (pc := 85) C hW g8 dX9_orders_85 ?_
      refine q_iload (pc := 86) C dX9_orders_86 5 rfl ?_
      obtain ⟨g9, hf⟩ := q_gd hf
      refine m_gzld (pc := 88) C hW g9.1 g9.2 dX9_orders_88 ?_
      refine q_if_eq (pc := 89) (tgt := 102) C dX9_orders_89 (by decide) (fun c10 => ?_) (fun c10 => ?_)
      · have hf := q_iteT hf c10
        refine q_sub (lvq := [(0, .ref (ga 0)), (1, .int v1), (2, .int v2), (3, .int v3), (4, .int v4), (5, .int v5), (7, .int v7)]) [0, 1, 2, 3, 4, 5, 7] rfl ?_
        exact w_X9_orders_102 C hrec hk20 hk68 v1 v2 v3 v4 v5 v7 v6 ws hf hW
      · have hf := q_iteF hf c10
        refine q_iload_n (pc := 92) C dX9_orders_92 rfl 1 rfl ?_
        refine q_iload (pc := 93) C dX9_orders_93 7 rfl ?_
        refine q_ishr (pc := 95) C dX9_orders_95 ?_
        refine q_iconst (pc := 96) C (1 : Int32) dX9_orders_96 q_ci_1 ?_
        refine q_iand (pc := 97) C dX9_orders_97 ?_
        refine q_iconst (pc := 98) C (1 : Int32) dX9_orders_98 q_ci_1 ?_
        refine q_icmp_ne (pc := 99) (tgt := 106) C dX9_orders_99 (by decide) (fun c11 => ?_) (fun c11 => ?_)
        · have hf := q_iteF hf c11
          refine q_iconst (pc := 106) C (0 : Int32) dX9_orders_106 q_ci_0 ?_
          refine q_sub (lvq := [(0, .ref (ga 0)), (1, .int v1), (2, .int v2), (3, .int v3), (4, .int v4), (5, .int v5), (7, .int v7)]) [0, 1, 2, 3, 4, 5, 7] rfl ?_
          exact w_X9_orders_107 C hrec hk20 hk68 v1 v2 v3 v4 v5 v7 (0 : Int32) v6 ws hf hW
        · have hf := q_iteT hf c11
          refine q_sub (lvq := [(0, .ref (ga 0)), (1, .int v1), (2, .int v2), (3, .int v3), (4, .int v4), (5, .int v5), (7, .int v7)]) [0, 1, 2, 3, 4, 5, 7] rfl ?_
          exact w_X9_orders_102 C hrec hk20 hk68 v1 v2 v3 v4 v5 v7 v6 ws hf hW
set_option maxRecDepth 100000 in
set_option maxHeartbeats 8000000 in
theorem w_X9_orders_63 {p : Program} {l : Launch} {e : Env} {s : State} {m : MethodId} {args : Array Value} {below : List Frame} {meth : Method} {c : Code} {D : va_G} {cc : Nat → ClassId} {N0 : Nat} {ga : Nat → Nat} {E : va_W} {ad : Nat → Nat → Nat} {S : MS} {rc : Int32 → Int32 → Int32 → Option Int32} {fu : Nat} {k20 : Int32 → Int32 → Int32 → Int32 → Int32 → Option Int32} {v : Int32} (C : q_C p s m args meth c cX9_orders 8 (some .int) wsX9_orders RX9 D cc N0) (hrec : ∀ (E : va_W) (a1 : Int32) (a2 : Int32) (a3 : Int32) (v : Int32), rc a1 a2 a3 = some v → ∀ ws, mW cc ga ad S E ws → q_Met l yX9_orders wsX9_orders (fu + 4) (fu * 27 + 60) D cc N0 ws [.ref (ga 0), .int a1, .int a2, .int a3] (fun rv w1 => rv = some (.int v) ∧ mW cc ga ad S E w1) 0 0) (hk20 : ∀ (v1 : Int32) (v2 : Int32) (v3 : Int32) (v4 : Int32) (v5 : Int32)  (ws : va_W), k20 v1 v2 v3 v4 v5 = some v → mW cc ga ad S E ws → q_WA p l e (q_rm ((fu + 1) + 4) ((fu + 1) * 27 + 60) 0 0) s m args below meth c D N0 8 (MQ below (q_Q D N0 (fun rv w1 => rv = some (.int v) ∧ mW cc ga ad S E w1)) args s 0 0 (q_A N0)) 0 0 ws 20 [(0, .ref (ga 0)), (1, .int v1), (2, .int v2), (3, .int v3), (4, .int v4), (5, .int v5)] []) (v1 : Int32) (v2 : Int32) (v3 : Int32) (v4 : Int32) (v5 : Int32) (vt0 : Int32)  (ws : va_W) : f_X9_orders_63 S rc k20 v1 v2 v3 v4 v5 vt0 = some v → mW cc ga ad S E ws → q_WA p l e (q_rm ((fu + 1) + 4) ((fu + 1) * 27 + 60) 0 0) s m args below meth c D N0 8 (MQ below (q_Q D N0 (fun rv w1 => rv = some (.int v) ∧ mW cc ga ad S E w1)) args s 0 0 (q_A N0)) 0 0 ws 63 [(0, .ref (ga 0)), (1, .int v1), (2, .int v2), (3, .int v3), (4, .int v4), (5, .int v5)] [.int vt0] := by
  intro hf hW
  refine q_istore (pc := 63) (lvq := [(6, .int vt0), (0, .ref (ga 0)), (1, .int v1), (2, .int v2), (3, .int v3), (4, .int v4), (5, .int v5)]) C dX9_orders_63 (by decide) rfl ?_
  refine q_iconst (pc := 65) C (0 : Int32) dX9_orders_65 q_ci_0 ?_
  refine q_istore (pc := 66) (lvq := [(7, .int (0 : Int32)), (6, .int vt0), (0, .ref (ga 0)), (1, .int v1), (2, .int v2), (3, .int v3), (4, .int v4), (5, .int v5)]) C dX9_orders_66 (by decide) rfl ?_
  refine q_sub (lvq := [(0, .ref (ga 0)), (1, .int v1), (2, .int v2), (3, .int v3), (4, .int v4), (5, .int v5), (6, .int vt0), (7, .int (0 : Int32))]) [2, 3, 4, 5, 6, 7, 1, 0] rfl ?_
  exact w_X9_orders_68 C hrec hk20 1000 v1 v2 v3 v4 v5 vt0 (0 : Int32) ws hf hW
set_option maxRecDepth 100000 in
set_option maxHeartbeats 8000000 in
theorem w_X9_orders_62 {p : Program} {l : Launch} {e : Env} {s : State} {m : MethodId} {args : Array Value} {below : List Frame} {meth : Method} {c : Code} {D : va_G} {cc : Nat → ClassId} {N0 : Nat} {ga : Nat → Nat} {E : va_W} {ad : Nat → Nat → Nat} {S : MS} {rc : Int32 → Int32 → Int32 → Option Int32} {fu : Nat} {k20 : Int32 → Int32 → Int32 → Int32 → Int32 → Option Int32} {v : Int32} (C : q_C p s m args meth c cX9_orders 8 (some .int) wsX9_orders RX9 D cc N0) (hrec : ∀ (E : va_W) (a1 : Int32) (a2 : Int32) (a3 : Int32) (v : Int32), rc a1 a2 a3 = some v → ∀ ws, mW cc ga ad S E ws → q_Met l yX9_orders wsX9_orders (fu + 4) (fu * 27 + 60) D cc N0 ws [.ref (ga 0), .int a1, .int a2, .int a3] (fun rv w1 => rv = some (.int v) ∧ mW cc ga ad S E w1) 0 0) (hk20 : ∀ (v1 : Int32) (v2 : Int32) (v3 : Int32) (v4 : Int32) (v5 : Int32)  (ws : va_W), k20 v1 v2 v3 v4 v5 = some v → mW cc ga ad S E ws → q_WA p l e (q_rm ((fu + 1) + 4) ((fu + 1) * 27 + 60) 0 0) s m args below meth c D N0 8 (MQ below (q_Q D N0 (fun rv w1 => rv = some (.int v) ∧ mW cc ga ad S E w1)) args s 0 0 (q_A N0)) 0 0 ws 20 [(0, .ref (ga 0)), (1, .int v1), (2, .int v2), (3, .int v3), (4, .int v4), (5, .int v5)] []) (v1 : Int32) (v2 : Int32) (v3 : Int32) (v4 : Int32) (v5 : Int32)  (ws : va_W) : f_X9_orders_62 S rc k20 v1 v2 v3 v4 v5 = some v → mW cc ga ad S E ws → q_WA p l e (q_rm ((fu + 1) + 4) ((fu + 1) * 27 + 60) 0 0) s m args below meth c D N0 8 (MQ below (q_Q D N0 (fun rv w1 => rv = some (.int v) ∧ mW cc ga ad S E w1)) args s 0 0 (q_A N0)) 0 0 ws 62 [(0, .ref (ga 0)), (1, .int v1), (2, .int v2), (3, .int v3), (4, .int v4), (5, .int v5)] [] := by
  intro hf hW
  refine q_iconst (pc := 62) C (0 : Int32) dX9_orders_62 q_ci_0 ?_
  refine q_sub (lvq := [(0, .ref (ga 0)), (1, .int v1), (2, .int v2), (3, .int v3), (4, .int v4), (5, .int v5)]) [0, 1, 2, 3, 4, 5] rfl ?_
  exact w_X9_orders_63 C hrec hk20 v1 v2 v3 v4 v5 (0 : Int32) ws hf hW
set_option maxRecDepth 100000 in
set_option maxHeartbeats 8000000 in
theorem w_X9_orders_58 {p : Program} {l : Launch} {e : Env} {s : State} {m : MethodId} {args : Array Value} {below : List Frame} {meth : Method} {c : Code} {D : va_G} {cc : Nat → ClassId} {N0 : Nat} {ga : Nat → Nat} {E : va_W} {ad : Nat → Nat → Nat} {S : MS} {rc : Int32 → Int32 → Int32 → Option Int32} {fu : Nat} {k20 : Int32 → Int32 → Int32 → Int32 → Int32 → Option Int32} {v : Int32} (C : q_C p s m args meth c cX9_orders 8 (some .int) wsX9_orders RX9 D cc N0) (hrec : ∀ (E : va_W) (a1 : Int32) (a2 : Int32) (a3 : Int32) (v : Int32), rc a1 a2 a3 = some v → ∀ ws, mW cc ga ad S E ws → q_Met l yX9_orders wsX9_orders (fu + 4) (fu * 27 + 60) D cc N0 ws [.ref (ga 0), .int a1, .int a2, .int a3] (fun rv w1 => rv = some (.int v) ∧ mW cc ga ad S E w1) 0 0) (hk20 : ∀ (v1 : Int32) (v2 : Int32) (v3 : Int32) (v4 : Int32) (v5 : Int32)  (ws : va_W), k20 v1 v2 v3 v4 v5 = some v → mW cc ga ad S E ws → q_WA p l e (q_rm ((fu + 1) + 4) ((fu + 1) * 27 + 60) 0 0) s m args below meth c D N0 8 (MQ below (q_Q D N0 (fun rv w1 => rv = some (.int v) ∧ mW cc ga ad S E w1)) args s 0 0 (q_A N0)) 0 0 ws 20 [(0, .ref (ga 0)), (1, .int v1), (2, .int v2), (3, .int v3), (4, .int v4), (5, .int v5)] []) (v1 : Int32) (v2 : Int32) (v3 : Int32) (v4 : Int32) (v5 : Int32)  (ws : va_W) : f_X9_orders_58 S rc k20 v1 v2 v3 v4 v5 = some v → mW cc ga ad S E ws → q_WA p l e (q_rm ((fu + 1) + 4) ((fu + 1) * 27 + 60) 0 0) s m args below meth c D N0 8 (MQ below (q_Q D N0 (fun rv w1 => rv = some (.int v) ∧ mW cc ga ad S E w1)) args s 0 0 (q_A N0)) 0 0 ws 58 [(0, .ref (ga 0)), (1, .int v1), (2, .int v2), (3, .int v3), (4, .int v4), (5, .int v5)] [] := by
  intro hf hW
  refine q_iconst (pc := 58) C (1 : Int32) dX9_orders_58 q_ci_1 ?_
  refine q_goto (pc := 59) (tgt := 63) C dX9_orders_59 (by decide) ?_
  refine q_sub (lvq := [(0, .ref (ga 0)), (1, .int v1), (2, .int v2), (3, .int v3), (4, .int v4), (5, .int v5)]) [0, 1, 2, 3, 4, 5] rfl ?_
  exact w_X9_orders_63 C hrec hk20 v1 v2 v3 v4 v5 (1 : Int32) ws hf hW
set_option maxRecDepth 100000 in
set_option maxHeartbeats 8000000 in
theorem w_X9_orders_20 {p : Program} {l : Launch} {e : Env} {s : State} {m : MethodId} {args : Array Value} {below : List Frame} {meth : Method} {c : Code} {D : va_G} {cc : Nat → ClassId} {N0 : Nat} {ga : Nat → Nat} {E : va_W} {ad : Nat → Nat → Nat} {S : MS} {rc : Int32 → Int32 → Int32 → Option Int32} {fu : Nat} {v : Int32} (C : q_C p s m args meth c cX9_orders 8 (some .int) wsX9_orders RX9 D cc N0) (hrec : ∀ (E : va_W) (a1 : Int32) (a2 : Int32) (a3 : Int32) (v : Int32), rc a1 a2 a3 = some v → ∀ ws, mW cc ga ad S E ws → q_Met l yX9_orders wsX9_orders (fu + 4) (fu * 27 + 60) D cc N0 ws [.ref (ga 0), .int a1, .int a2, .int a3] (fun rv w1 => rv = some (.int v) ∧ mW cc ga ad S E w1) 0 0)  : ∀ (n : Nat) (v1 : Int32) (v2 : Int32) (v3 : Int32) (v4 : Int32) (v5 : Int32)  (ws : va_W), f_X9_orders_20 S rc n v1 v2 v3 v4 v5 = some v → mW cc ga ad S E ws → q_WA p l e (q_rm ((fu + 1) + 4) ((fu + 1) * 27 + 60) 0 0) s m args below meth c D N0 8 (MQ below (q_Q D N0 (fun rv w1 => rv = some (.int v) ∧ mW cc ga ad S E w1)) args s 0 0 (q_A N0)) 0 0 ws 20 [(0, .ref (ga 0)), (1, .int v1), (2, .int v2), (3, .int v3), (4, .int v4), (5, .int v5)] [] := by
  intro n
  induction n with
  | zero => intro v1 v2 v3 v4 v5 ws hf; cases hf
  | succ n ih =>
    intro v1 v2 v3 v4 v5 ws hf hW
    have hk20 : ∀ (v1 : Int32) (v2 : Int32) (v3 : Int32) (v4 : Int32) (v5 : Int32)  (ws : va_W), f_X9_orders_20 S rc n v1 v2 v3 v4 v5 = some v → mW cc ga ad S E ws → q_WA p l e (q_rm ((fu + 1) + 4) ((fu + 1) * 27 + 60) 0 0) s m args below meth c D N0 8 (MQ below (q_Q D N0 (fun rv w1 => rv = some (.int v) ∧ mW cc ga ad S E w1)) args s 0 0 (q_A N0)) 0 0 ws 20 [(0, .ref (ga 0)), (1, .int v1), (2, .int v2), (3, .int v3), (4, .int v4), (5, .int v5)] [] := ih
    have hf : f_X9_orders_20b S rc (f_X9_orders_20 S rc n) v1 v2 v3 v4 v5 = some v := hf
    refine q_iload (pc := 20) C dX9_orders_20 5 rfl ?_
    refine q_aload_n (pc := 22) C dX9_orders_22 rfl 0 rfl ?_
    refine m_g_15 (pc := 23) C hW n_X9_orders_X9 (List.mem_of_getElem? (i := 1) rfl) dX9_orders_23 ?_
    refine q_icmp_ge (pc := 26) (tgt := 148) C dX9_orders_26 (by decide) (fun c2 => ?_) (fun c2 => ?_)
    · have hf := q_iteT hf c2
      refine q_iload (pc := 148) C dX9_orders_148 4 rfl ?_
      obtain rfl := q_some hf
      exact q_iret (pc := 150) C dX9_orders_150 ⟨rfl, hW⟩
    · have hf := q_iteF hf c2
      refine q_iload_n (pc := 29) C dX9_orders_29 rfl 1 rfl ?_
      refine q_iload (pc := 30) C dX9_orders_30 5 rfl ?_
      refine q_ishr (pc := 32) C dX9_orders_32 ?_
      refine q_iconst (pc := 33) C (1 : Int32) dX9_orders_33 q_ci_1 ?_
      refine q_iand (pc := 34) C dX9_orders_34 ?_
      refine q_if_ne (pc := 35) (tgt := 62) C dX9_orders_35 (by decide) (fun c3 => ?_) (fun c3 => ?_)
      · have hf := q_iteF hf c3
        refine q_sub (lvq := [(0, .ref (ga 0)), (1, .int v1), (2, .int v2), (3, .int v3), (4, .int v4), (5, .int v5)]) [0, 1, 2, 3, 4, 5] rfl ?_
        exact w_X9_orders_62 C hrec hk20 v1 v2 v3 v4 v5 ws hf hW
      · have hf := q_iteT hf c3
        refine q_iload (pc := 38) C dX9_orders_38 5 rfl ?_
        refine q_iload_n (pc := 40) C dX9_orders_40 rfl 3 rfl ?_
        refine q_icmp_ne (pc := 41) (tgt := 58) C dX9_orders_41 (by decide) (fun c12 => ?_) (fun c12 => ?_)
        · have hf := q_iteF hf c12
          refine q_sub (lvq := [(0, .ref (ga 0)), (1, .int v1), (2, .int v2), (3, .int v3), (4, .int v4), (5, .int v5)]) [0, 1, 2, 3, 4, 5] rfl ?_
          exact w_X9_orders_58 C hrec hk20 v1 v2 v3 v4 v5 ws hf hW
        · have hf := q_iteT hf c12
          refine q_iload_n (pc := 44) C dX9_orders_44 rfl 2 rfl ?_
          refine q_iconst (pc := 45) C (-1 : Int32) dX9_orders_45 q_ci_m1 ?_
          refine q_icmp_eq (pc := 46) (tgt := 58) C dX9_orders_46 (by decide) (fun c13 => ?_) (fun c13 => ?_)
          · have hf := q_iteT hf c13
            refine q_sub (lvq := [(0, .ref (ga 0)), (1, .int v1), (2, .int v2), (3, .int v3), (4, .int v4), (5, .int v5)]) [0, 1, 2, 3, 4, 5] rfl ?_
            exact w_X9_orders_58 C hrec hk20 v1 v2 v3 v4 v5 ws hf hW
          · have hf := q_iteF hf c13
            refine q_iload_n (pc := 49) C dX9_orders_49 rfl 1 rfl ?_
            refine q_iload_n (pc := 50) C dX9_orders_50 rfl 2 rfl ?_
            refine q_ishr (pc := 51) C dX9_orders_51 ?_
            refine q_iconst (pc := 52) C (1 : Int32) dX9_orders_52 q_ci_1 ?_
            refine q_iand (pc := 53) C dX9_orders_53 ?_
            refine q_iconst (pc := 54) C (1 : Int32) dX9_orders_54 q_ci_1 ?_
            refine q_icmp_ne (pc := 55) (tgt := 62) C dX9_orders_55 (by decide) (fun c14 => ?_) (fun c14 => ?_)
            · have hf := q_iteF hf c14
              refine q_sub (lvq := [(0, .ref (ga 0)), (1, .int v1), (2, .int v2), (3, .int v3), (4, .int v4), (5, .int v5)]) [0, 1, 2, 3, 4, 5] rfl ?_
              exact w_X9_orders_62 C hrec hk20 v1 v2 v3 v4 v5 ws hf hW
            · have hf := q_iteT hf c14
              refine q_sub (lvq := [(0, .ref (ga 0)), (1, .int v1), (2, .int v2), (3, .int v3), (4, .int v4), (5, .int v5)]) [0, 1, 2, 3, 4, 5] rfl ?_
              exact w_X9_orders_58 C hrec hk20 v1 v2 v3 v4 v5 ws hf hW
set_option maxRecDepth 100000 in
set_option maxHeartbeats 8000000 in
theorem c_X9_ordersb (l : Launch) (D : va_G) (cc : Nat → ClassId) (N0 : Nat) (ga : Nat → Nat) (ad : Nat → Nat → Nat) (E : va_W) (S : MS) (rc : Int32 → Int32 → Int32 → Option Int32) (fu : Nat) (hrec : ∀ (E : va_W) (a1 : Int32) (a2 : Int32) (a3 : Int32) (v : Int32), rc a1 a2 a3 = some v → ∀ ws, mW cc ga ad S E ws → q_Met l yX9_orders wsX9_orders (fu + 4) (fu * 27 + 60) D cc N0 ws [.ref (ga 0), .int a1, .int a2, .int a3] (fun rv w1 => rv = some (.int v) ∧ mW cc ga ad S E w1) 0 0) (a1 : Int32) (a2 : Int32) (a3 : Int32) (v : Int32) (hf : f_X9_ordersb S rc a1 a2 a3 = some v) (ws : va_W) (hW : mW cc ga ad S E ws) : q_Met l yX9_orders wsX9_orders ((fu + 1) + 4) ((fu + 1) * 27 + 60) D cc N0 ws [.ref (ga 0), .int a1, .int a2, .int a3] (fun rv w1 => rv = some (.int v) ∧ mW cc ga ad S E w1) 0 0 := by
  refine q_ofW (code := cX9_orders) (nL := 8) (ret := (some .int)) (by decide +kernel) rfl (Nat.le_of_ble_eq_true rfl) (fun p e s m below meth c C _ => ?_)
  refine q_lv (lv2 := [(0, .ref (ga 0)), (1, .int a1), (2, .int a2), (3, .int a3)]) rfl ?_
  refine q_iload_n (pc := 0) C dX9_orders_0 rfl 1 rfl ?_
  refine q_iconst (pc := 1) C (1 : Int32) dX9_orders_1 q_ci_1 ?_
  refine q_aload_n (pc := 2) C dX9_orders_2 rfl 0 rfl ?_
  refine m_g_15 (pc := 3) C hW n_X9_orders_X9 (List.mem_of_getElem? (i := 1) rfl) dX9_orders_3 ?_
  refine q_ishl (pc := 6) C dX9_orders_6 ?_
  refine q_iconst (pc := 7) C (1 : Int32) dX9_orders_7 q_ci_1 ?_
  refine q_isub (pc := 8) C dX9_orders_8 ?_
  refine q_icmp_ne (pc := 9) (tgt := 14) C dX9_orders_9 (by decide) (fun c1 => ?_) (fun c1 => ?_)
  · have hf := q_iteF hf c1
    refine q_iconst (pc := 14) C (0 : Int32) dX9_orders_14 q_ci_0 ?_
    refine q_istore (pc := 15) (lvq := [(4, .int (0 : Int32)), (0, .ref (ga 0)), (1, .int a1), (2, .int a2), (3, .int a3)]) C dX9_orders_15 (by decide) rfl ?_
    refine q_iconst (pc := 17) C (0 : Int32) dX9_orders_17 q_ci_0 ?_
    refine q_istore (pc := 18) (lvq := [(5, .int (0 : Int32)), (4, .int (0 : Int32)), (0, .ref (ga 0)), (1, .int a1), (2, .int a2), (3, .int a3)]) C dX9_orders_18 (by decide) rfl ?_
    refine q_sub (lvq := [(0, .ref (ga 0)), (1, .int a1), (2, .int a2), (3, .int a3), (4, .int (0 : Int32)), (5, .int (0 : Int32))]) [2, 3, 4, 5, 1, 0] rfl ?_
    exact w_X9_orders_20 C hrec 1000 a1 a2 a3 (0 : Int32) (0 : Int32) ws hf hW
  · have hf := q_iteT hf c1
    refine q_iconst (pc := 12) C (1 : Int32) dX9_orders_12 q_ci_1 ?_
    obtain rfl := q_some hf
    exact q_iret (pc := 13) C dX9_orders_13 ⟨rfl, hW⟩
theorem c_X9_orders (l : Launch) (D : va_G) (cc : Nat → ClassId) (N0 : Nat) (ga : Nat → Nat) (ad : Nat → Nat → Nat) : ∀ (fu : Nat) (E : va_W) (S : MS) (a1 : Int32) (a2 : Int32) (a3 : Int32) (v : Int32), f_X9_orders S fu a1 a2 a3 = some v → ∀ ws, mW cc ga ad S E ws → q_Met l yX9_orders wsX9_orders (fu + 4) (fu * 27 + 60) D cc N0 ws [.ref (ga 0), .int a1, .int a2, .int a3] (fun rv w1 => rv = some (.int v) ∧ mW cc ga ad S E w1) 0 0 := by
  intro fu
  induction fu with
  | zero => intro E S a1 a2 a3 v hf; cases hf
  | succ fu ih =>
    intro E S a1 a2 a3 v hf ws hW
    exact c_X9_ordersb l D cc N0 ga ad E S (f_X9_orders S fu) fu (fun E a1 a2 a3 v hf ws hW => ih E S a1 a2 a3 v hf ws hW) a1 a2 a3 v hf ws hW
theorem z_X9_isThing : q_dsc yX9_isThing 1 := ⟨by decide +kernel, by decide +kernel, by decide +kernel⟩
theorem n_X9_isThing_X9 : ∀ w ∈ wsX90, w ∈ wsX9_isThing := fun _ h => (List.mem_cons_of_mem _ (List.mem_append_right _ h))
def f_X9_isThing (S : MS) (a1 : Int32) : Option Bool := some (f_X9_isBetween a1.toInt64 (0 : Int64) (((S.1 15) - (1 : Int32)).toInt64))
set_option maxRecDepth 100000 in
set_option maxHeartbeats 8000000 in
theorem c_X9_isThing (l : Launch) (D : va_G) (cc : Nat → ClassId) (N0 : Nat) (ga : Nat → Nat) (ad : Nat → Nat → Nat) (E : va_W) (S : MS) (a1 : Int32) (v : Bool) (hf : f_X9_isThing S a1 = some v) (ws : va_W) (hW : mW cc ga ad S E ws) : q_Met l yX9_isThing wsX9_isThing 1 25 D cc N0 ws [.ref (ga 0), .int a1] (fun rv w1 => rv = some (.int (q_b v)) ∧ mW cc ga ad S E w1) 0 0 := by
  refine q_ofW (code := cX9_isThing) (nL := 2) (ret := (some .boolean)) (by decide +kernel) rfl (Nat.le_of_ble_eq_true rfl) (fun p e s m below meth c C _ => ?_)
  refine q_lv (lv2 := [(0, .ref (ga 0)), (1, .int a1)]) rfl ?_
  refine q_iload_n (pc := 0) C dX9_isThing_0 rfl 1 rfl ?_
  refine q_i2l (pc := 1) C dX9_isThing_1 rfl ?_
  refine q_lconst (pc := 2) C (0 : Int64) dX9_isThing_2 q_cl_0 ?_
  refine q_aload_n (pc := 3) C dX9_isThing_3 rfl 0 rfl ?_
  refine m_g_15 (pc := 4) C hW n_X9_isThing_X9 (List.mem_of_getElem? (i := 1) rfl) dX9_isThing_4 ?_
  refine q_iconst (pc := 7) C (1 : Int32) dX9_isThing_7 q_ci_1 ?_
  refine q_isub (pc := 8) C dX9_isThing_8 ?_
  refine q_i2l (pc := 9) C dX9_isThing_9 rfl ?_
  refine q_callS (pc := 10) (As := [.long a1.toInt64, .long (0 : Int64), .long (((S.1 15) - (1 : Int32)).toInt64)]) (rest := []) C (c_X9_isBetween l D cc N0 ws a1.toInt64 (0 : Int64) (((S.1 15) - (1 : Int32)).toInt64) _ rfl) gX9_isThing_X9_isBetween rfl z_X9_isBetween ⟨Nat.le_of_ble_eq_true rfl, Nat.le_of_ble_eq_true rfl⟩ rfl rfl (Nat.le_of_ble_eq_true rfl) dX9_isThing_10 ⟨Nat.le_of_ble_eq_true rfl, Nat.le_of_ble_eq_true rfl⟩ ?_
  refine q_after (rv := (some (.int (q_b (f_X9_isBetween a1.toInt64 (0 : Int64) (((S.1 15) - (1 : Int32)).toInt64)))))) (w0 := ws) (st2 := [.int (q_b (f_X9_isBetween a1.toInt64 (0 : Int64) (((S.1 15) - (1 : Int32)).toInt64)))]) rfl rfl rfl ?_
  obtain rfl := q_some hf
  exact q_zret (pc := 13) C (q_b_nar _) dX9_isThing_13 ⟨rfl, hW⟩
theorem z_X9_ahead : q_dsc yX9_ahead 2 := ⟨by decide +kernel, by decide +kernel, by decide +kernel⟩
theorem n_X9_ahead_X9 : ∀ w ∈ wsX90, w ∈ wsX9_ahead := fun _ h => (List.mem_cons_of_mem _ (List.mem_append_right _ h))
def f_X9_ahead_41 (v1 : Int32) (v2 : Int32) (vt0 : Int32) (S : MS) : Option (Int32 × MS) := ((f_X9_isWrong vt0 S).bind fun u4 => (if (q_b u4.1) = 0 then (if q_in v1 5 then (if v1.toNatClampNeg < 5 ∧ q_in v2 5 then ((f_X9_orders (mgrid u4.2 v1.toNatClampNeg (upd (u4.2.2.2.2 v1.toNatClampNeg) v2.toNatClampNeg (vp_nar .boolean (1 : Int32)))) 10 (0 : Int32) (-1 : Int32) (-1 : Int32)).bind fun u9 => some (u9, (mgrid u4.2 v1.toNatClampNeg (upd (u4.2.2.2.2 v1.toNatClampNeg) v2.toNatClampNeg (vp_nar .boolean (1 : Int32)))))) else none) else none) else some ((0 : Int32), u4.2)))
def f_X9_ahead_22 (v1 : Int32) (v2 : Int32) (S : MS) : Option (Int32 × MS) := f_X9_ahead_41 v1 v2 (1 : Int32) S
def f_X9_ahead (a1 : Int32) (a2 : Int32) (S : MS) : Option (Int32 × MS) := ((f_X9_isThing S a1).bind fun u1 => (if (q_b u1) = 0 then f_X9_ahead_22 a1 a2 S else ((f_X9_isThing S a2).bind fun u11 => (if (q_b u11) = 0 then f_X9_ahead_22 a1 a2 S else (if a1 = a2 then f_X9_ahead_22 a1 a2 S else ((f_X9_orders S 10 (0 : Int32) a1 a2).bind fun u15 => (if u15 = 0 then f_X9_ahead_41 a1 a2 (2 : Int32) S else f_X9_ahead_41 a1 a2 (0 : Int32) S)))))))
set_option maxRecDepth 100000 in
set_option maxHeartbeats 8000000 in
theorem w_X9_ahead_41 {p : Program} {l : Launch} {e : Env} {s : State} {m : MethodId} {args : Array Value} {below : List Frame} {meth : Method} {c : Code} {D : va_G} {cc : Nat → ClassId} {N0 : Nat} {ga : Nat → Nat} {E : va_W} {ad : Nat → Nat → Nat} {v : (Int32 × MS)} (C : q_C p s m args meth c cX9_ahead 3 (some .int) wsX9_ahead RX9 D cc N0)  (v1 : Int32) (v2 : Int32) (vt0 : Int32) (S : MS)  (ws : va_W) : f_X9_ahead_41  v1 v2 vt0 S = some v → mW cc ga ad S E ws → q_WA p l e (q_rm (15) (357) 0 0) s m args below meth c D N0 3 (MQ below (q_Q D N0 (fun rv w1 => rv = some (.int v.1) ∧ mW cc ga ad v.2 E w1)) args s 0 0 (q_A N0)) 0 0 ws 41 [(0, .ref (ga 0)), (1, .int v1), (2, .int v2)] [.int vt0, .ref (ga 0)] := by
  intro hf hW
  obtain ⟨u4, e5, hf⟩ := q_bind hf
  obtain ⟨_, he⟩ := hW.obj
  refine q_callV (pc := 41) (As := [.int vt0]) (rest := []) C (c_X9_isWrong l D cc N0 ga ad  E S vt0 u4 e5 ws hW) gX9_ahead_X9_isWrong rfl rfl z_X9_isWrong ⟨Nat.le_of_ble_eq_true rfl, Nat.le_of_ble_eq_true rfl⟩ he rfl rfl rfl (Nat.le_of_ble_eq_true rfl) dX9_ahead_41 ⟨Nat.le_of_ble_eq_true rfl, Nat.le_of_ble_eq_true rfl⟩ ?_
  rintro _ ws ⟨rfl, hW⟩
  refine q_nm (wz := ws) (ka := 0) (kb := 0) (sz := [.int (q_b u4.1)]) rfl rfl rfl rfl ?_
  refine q_if_eq (pc := 44) (tgt := 49) C dX9_ahead_44 (by decide) (fun c6 => ?_) (fun c6 => ?_)
  · have hf := q_iteT hf c6
    refine q_aload_n (pc := 49) C dX9_ahead_49 rfl 0 rfl ?_
    refine m_g_16 (pc := 50) C hW n_X9_ahead_X9 (List.mem_of_getElem? (i := 1) rfl) dX9_ahead_50 ?_
    refine q_iload_n (pc := 53) C dX9_ahead_53 rfl 1 rfl ?_
    obtain ⟨g7, hf⟩ := q_gd hf
    refine m_gald (pc := 54) C hW g7 dX9_ahead_54 ?_
    refine q_iload_n (pc := 55) C dX9_ahead_55 rfl 2 rfl ?_
    refine q_iconst (pc := 56) C (1 : Int32) dX9_ahead_56 q_ci_1 ?_
    obtain ⟨g8, hf⟩ := q_gd hf
    refine m_gzst (pc := 57) C hW g8.1 g8.2 dX9_ahead_57 (fun ws hW => ?_)
    refine q_aload_n (pc := 58) C dX9_ahead_58 rfl 0 rfl ?_
    refine q_iconst (pc := 59) C (0 : Int32) dX9_ahead_59 q_ci_0 ?_
    refine q_iconst (pc := 60) C (-1 : Int32) dX9_ahead_60 q_ci_m1 ?_
    refine q_iconst (pc := 61) C (-1 : Int32) dX9_ahead_61 q_ci_m1 ?_
    obtain ⟨u9, e10, hf⟩ := q_bind hf
    obtain ⟨_, he⟩ := hW.obj
    refine q_callV (pc := 62) (As := [.int (0 : Int32), .int (-1 : Int32), .int (-1 : Int32)]) (rest := []) C (c_X9_orders l D cc N0 ga ad 10 E (mgrid u4.2 v1.toNatClampNeg (upd (u4.2.2.2.2 v1.toNatClampNeg) v2.toNatClampNeg (vp_nar .boolean (1 : Int32)))) (0 : Int32) (-1 : Int32) (-1 : Int32) u9 e10 ws hW) gX9_ahead_X9_orders rfl rfl z_X9_orders ⟨Nat.le_of_ble_eq_true rfl, Nat.le_of_ble_eq_true rfl⟩ he rfl rfl rfl (Nat.le_of_ble_eq_true rfl) dX9_ahead_62 ⟨Nat.le_of_ble_eq_true rfl, Nat.le_of_ble_eq_true rfl⟩ ?_
    rintro _ ws ⟨rfl, hW⟩
    refine q_nm (wz := ws) (ka := 0) (kb := 0) (sz := [.int u9]) rfl rfl rfl rfl ?_
    obtain rfl := q_some hf
    exact q_iret (pc := 65) C dX9_ahead_65 ⟨rfl, hW⟩
  · have hf := q_iteF hf c6
    refine q_iconst (pc := 47) C (0 : Int32) dX9_ahead_47 q_ci_0 ?_
    obtain rfl := q_some hf
    exact q_iret (pc := 48) C dX9_ahead_48 ⟨rfl, hW⟩
set_option maxRecDepth 100000 in
set_option maxHeartbeats 8000000 in
theorem w_X9_ahead_22 {p : Program} {l : Launch} {e : Env} {s : State} {m : MethodId} {args : Array Value} {below : List Frame} {meth : Method} {c : Code} {D : va_G} {cc : Nat → ClassId} {N0 : Nat} {ga : Nat → Nat} {E : va_W} {ad : Nat → Nat → Nat} {v : (Int32 × MS)} (C : q_C p s m args meth c cX9_ahead 3 (some .int) wsX9_ahead RX9 D cc N0)  (v1 : Int32) (v2 : Int32) (S : MS)  (ws : va_W) : f_X9_ahead_22  v1 v2 S = some v → mW cc ga ad S E ws → q_WA p l e (q_rm (15) (357) 0 0) s m args below meth c D N0 3 (MQ below (q_Q D N0 (fun rv w1 => rv = some (.int v.1) ∧ mW cc ga ad v.2 E w1)) args s 0 0 (q_A N0)) 0 0 ws 22 [(0, .ref (ga 0)), (1, .int v1), (2, .int v2)] [.ref (ga 0)] := by
  intro hf hW
  refine q_iconst (pc := 22) C (1 : Int32) dX9_ahead_22 q_ci_1 ?_
  refine q_goto (pc := 23) (tgt := 41) C dX9_ahead_23 (by decide) ?_
  refine q_sub (lvq := [(0, .ref (ga 0)), (1, .int v1), (2, .int v2)]) [0, 1, 2] rfl ?_
  exact w_X9_ahead_41 C v1 v2 (1 : Int32) S ws hf hW
set_option maxRecDepth 100000 in
set_option maxHeartbeats 8000000 in
theorem c_X9_ahead (l : Launch) (D : va_G) (cc : Nat → ClassId) (N0 : Nat) (ga : Nat → Nat) (ad : Nat → Nat → Nat) (E : va_W) (S : MS) (a1 : Int32) (a2 : Int32) (v : (Int32 × MS)) (hf : f_X9_ahead a1 a2 S = some v) (ws : va_W) (hW : mW cc ga ad S E ws) : q_Met l yX9_ahead wsX9_ahead 15 357 D cc N0 ws [.ref (ga 0), .int a1, .int a2] (fun rv w1 => rv = some (.int v.1) ∧ mW cc ga ad v.2 E w1) 0 0 := by
  refine q_ofW (code := cX9_ahead) (nL := 3) (ret := (some .int)) (by decide +kernel) rfl (Nat.le_of_ble_eq_true rfl) (fun p e s m below meth c C _ => ?_)
  refine q_lv (lv2 := [(0, .ref (ga 0)), (1, .int a1), (2, .int a2)]) rfl ?_
  refine q_aload_n (pc := 0) C dX9_ahead_0 rfl 0 rfl ?_
  refine q_aload_n (pc := 1) C dX9_ahead_1 rfl 0 rfl ?_
  refine q_iload_n (pc := 2) C dX9_ahead_2 rfl 1 rfl ?_
  obtain ⟨u1, e2, hf⟩ := q_bind hf
  obtain ⟨_, he⟩ := hW.obj
  refine q_callV (pc := 3) (As := [.int a1]) (rest := [.ref (ga 0)]) C (c_X9_isThing l D cc N0 ga ad  E S a1 u1 e2 ws hW) gX9_ahead_X9_isThing rfl rfl z_X9_isThing ⟨Nat.le_of_ble_eq_true rfl, Nat.le_of_ble_eq_true rfl⟩ he rfl rfl rfl (Nat.le_of_ble_eq_true rfl) dX9_ahead_3 ⟨Nat.le_of_ble_eq_true rfl, Nat.le_of_ble_eq_true rfl⟩ ?_
  rintro _ ws ⟨rfl, hW⟩
  refine q_nm (wz := ws) (ka := 0) (kb := 0) (sz := [.int (q_b u1), .ref (ga 0)]) rfl rfl rfl rfl ?_
  refine q_if_eq (pc := 6) (tgt := 22) C dX9_ahead_6 (by decide) (fun c3 => ?_) (fun c3 => ?_)
  · have hf := q_iteT hf c3
    refine q_sub (lvq := [(0, .ref (ga 0)), (1, .int a1), (2, .int a2)]) [0, 1, 2] rfl ?_
    exact w_X9_ahead_22 C a1 a2 S ws hf hW
  · have hf := q_iteF hf c3
    refine q_aload_n (pc := 9) C dX9_ahead_9 rfl 0 rfl ?_
    refine q_iload_n (pc := 10) C dX9_ahead_10 rfl 2 rfl ?_
    obtain ⟨u11, e12, hf⟩ := q_bind hf
    obtain ⟨_, he⟩ := hW.obj
    refine q_callV (pc := 11) (As := [.int a2]) (rest := [.ref (ga 0)]) C (c_X9_isThing l D cc N0 ga ad  E S a2 u11 e12 ws hW) gX9_ahead_X9_isThing rfl rfl z_X9_isThing ⟨Nat.le_of_ble_eq_true rfl, Nat.le_of_ble_eq_true rfl⟩ he rfl rfl rfl (Nat.le_of_ble_eq_true rfl) dX9_ahead_11 ⟨Nat.le_of_ble_eq_true rfl, Nat.le_of_ble_eq_true rfl⟩ ?_
    rintro _ ws ⟨rfl, hW⟩
    refine q_nm (wz := ws) (ka := 0) (kb := 0) (sz := [.int (q_b u11), .ref (ga 0)]) rfl rfl rfl rfl ?_
    refine q_if_eq (pc := 14) (tgt := 22) C dX9_ahead_14 (by decide) (fun c13 => ?_) (fun c13 => ?_)
    · have hf := q_iteT hf c13
      refine q_sub (lvq := [(0, .ref (ga 0)), (1, .int a1), (2, .int a2)]) [0, 1, 2] rfl ?_
      exact w_X9_ahead_22 C a1 a2 S ws hf hW
    · have hf := q_iteF hf c13
      refine q_iload_n (pc := 17) C dX9_ahead_17 rfl 1 rfl ?_
      refine q_iload_n (pc := 18) C dX9_ahead_18 rfl 2 rfl ?_
      refine q_icmp_ne (pc := 19) (tgt := 26) C dX9_ahead_19 (by decide) (fun c14 => ?_) (fun c14 => ?_)
      · have hf := q_iteF hf c14
        refine q_aload_n (pc := 26) C dX9_ahead_26 rfl 0 rfl ?_
        refine q_iconst (pc := 27) C (0 : Int32) dX9_ahead_27 q_ci_0 ?_
        refine q_iload_n (pc := 28) C dX9_ahead_28 rfl 1 rfl ?_
        refine q_iload_n (pc := 29) C dX9_ahead_29 rfl 2 rfl ?_
        obtain ⟨u15, e16, hf⟩ := q_bind hf
        obtain ⟨_, he⟩ := hW.obj
        refine q_callV (pc := 30) (As := [.int (0 : Int32), .int a1, .int a2]) (rest := [.ref (ga 0)]) C (c_X9_orders l D cc N0 ga ad 10 E S (0 : Int32) a1 a2 u15 e16 ws hW) gX9_ahead_X9_orders rfl rfl z_X9_orders ⟨Nat.le_of_ble_eq_true rfl, Nat.le_of_ble_eq_true rfl⟩ he rfl rfl rfl (Nat.le_of_ble_eq_true rfl) dX9_ahead_30 ⟨Nat.le_of_ble_eq_true rfl, Nat.le_of_ble_eq_true rfl⟩ ?_
        rintro _ ws ⟨rfl, hW⟩
        refine q_nm (wz := ws) (ka := 0) (kb := 0) (sz := [.int u15, .ref (ga 0)]) rfl rfl rfl rfl ?_
        refine q_if_ne (pc := 33) (tgt := 40) C dX9_ahead_33 (by decide) (fun c17 => ?_) (fun c17 => ?_)
        · have hf := q_iteF hf c17
          refine q_iconst (pc := 40) C (0 : Int32) dX9_ahead_40 q_ci_0 ?_
          refine q_sub (lvq := [(0, .ref (ga 0)), (1, .int a1), (2, .int a2)]) [0, 1, 2] rfl ?_
          exact w_X9_ahead_41 C a1 a2 (0 : Int32) S ws hf hW
        · have hf := q_iteT hf c17
          refine q_iconst (pc := 36) C (2 : Int32) dX9_ahead_36 q_ci_2 ?_
          refine q_goto (pc := 37) (tgt := 41) C dX9_ahead_37 (by decide) ?_
          refine q_sub (lvq := [(0, .ref (ga 0)), (1, .int a1), (2, .int a2)]) [0, 1, 2] rfl ?_
          exact w_X9_ahead_41 C a1 a2 (2 : Int32) S ws hf hW
      · have hf := q_iteT hf c14
        refine q_sub (lvq := [(0, .ref (ga 0)), (1, .int a1), (2, .int a2)]) [0, 1, 2] rfl ?_
        exact w_X9_ahead_22 C a1 a2 S ws hf hW
theorem z_X9_orders_ : q_dsc yX9_orders_ 0 := ⟨by decide +kernel, by decide +kernel, by decide +kernel⟩
theorem n_X9_orders__X9 : ∀ w ∈ wsX90, w ∈ wsX9_orders_ := fun _ h => (List.mem_cons_of_mem _ (List.mem_append_right _ h))
def f_X9_orders_ (S : MS) : Option (Int32 × MS) := ((f_X9_orders (mset S 0 (0 : Int32)) 10 (0 : Int32) (-1 : Int32) (-1 : Int32)).bind fun u1 => some (u1, (mset S 0 (0 : Int32))))
set_option maxRecDepth 100000 in
set_option maxHeartbeats 8000000 in
theorem c_X9_orders_ (l : Launch) (D : va_G) (cc : Nat → ClassId) (N0 : Nat) (ga : Nat → Nat) (ad : Nat → Nat → Nat) (E : va_W) (S : MS) (v : (Int32 × MS)) (hf : f_X9_orders_ S = some v) (ws : va_W) (hW : mW cc ga ad S E ws) : q_Met l yX9_orders_ wsX9_orders_ 15 357 D cc N0 ws [.ref (ga 0)] (fun rv w1 => rv = some (.int v.1) ∧ mW cc ga ad v.2 E w1) 0 0 := by
  refine q_ofW (code := cX9_orders_) (nL := 1) (ret := (some .int)) (by decide +kernel) rfl (Nat.le_of_ble_eq_true rfl) (fun p e s m below meth c C _ => ?_)
  refine q_lv (lv2 := [(0, .ref (ga 0))]) rfl ?_
  refine q_aload_n (pc := 0) C dX9_orders__0 rfl 0 rfl ?_
  refine q_iconst (pc := 1) C (0 : Int32) dX9_orders__1 q_ci_0 ?_
  refine m_p_0 (pc := 2) C hW n_X9_orders__X9 (List.mem_of_getElem? (i := 1) rfl) dX9_orders__2 (fun ws hW => ?_)
  refine q_aload_n (pc := 5) C dX9_orders__5 rfl 0 rfl ?_
  refine q_iconst (pc := 6) C (0 : Int32) dX9_orders__6 q_ci_0 ?_
  refine q_iconst (pc := 7) C (-1 : Int32) dX9_orders__7 q_ci_m1 ?_
  refine q_iconst (pc := 8) C (-1 : Int32) dX9_orders__8 q_ci_m1 ?_
  obtain ⟨u1, e2, hf⟩ := q_bind hf
  obtain ⟨_, he⟩ := hW.obj
  refine q_callV (pc := 9) (As := [.int (0 : Int32), .int (-1 : Int32), .int (-1 : Int32)]) (rest := []) C (c_X9_orders l D cc N0 ga ad 10 E (mset S 0 (0 : Int32)) (0 : Int32) (-1 : Int32) (-1 : Int32) u1 e2 ws hW) gX9_orders__X9_orders rfl rfl z_X9_orders ⟨Nat.le_of_ble_eq_true rfl, Nat.le_of_ble_eq_true rfl⟩ he rfl rfl rfl (Nat.le_of_ble_eq_true rfl) dX9_orders__9 ⟨Nat.le_of_ble_eq_true rfl, Nat.le_of_ble_eq_true rfl⟩ ?_
  rintro _ ws ⟨rfl, hW⟩
  refine q_nm (wz := ws) (ka := 0) (kb := 0) (sz := [.int u1]) rfl rfl rfl rfl ?_
  obtain rfl := q_some hf
  exact q_iret (pc := 12) C dX9_orders__12 ⟨rfl, hW⟩
theorem z_X9_pair : q_dsc yX9_pair 0 := ⟨by decide +kernel, by decide +kernel, by decide +kernel⟩
theorem n_X9_pair_X9 : ∀ w ∈ wsX90, w ∈ wsX9_pair := fun _ h => (List.mem_cons_of_mem _ (List.mem_append_right _ h))
def f_X9_pair_98 (k34 : Int32 → Int32 → Int32 → Int32 → MS → Option (Int32 × MS)) (k49 : Int32 → Int32 → Int32 → Int32 → Int32 → MS → Option (Int32 × MS)) (v1 : Int32) (v3 : Int32) (v4 : Int32) (v5 : Int32) (v7 : Int32) (vt0 : Int32) (S : MS) : Option (Int32 × MS) := k49 v1 vt0 (q_max v3 v7) v4 (v5 + (1 : Int32)) S
def f_X9_pair_49b (k34 : Int32 → Int32 → Int32 → Int32 → MS → Option (Int32 × MS)) (k49 : Int32 → Int32 → Int32 → Int32 → Int32 → MS → Option (Int32 × MS)) (v1 : Int32) (v2 : Int32) (v3 : Int32) (v4 : Int32) (v5 : Int32) (S : MS) : Option (Int32 × MS) := (if (S.1 15) ≤ v5 then k34 v1 v2 v3 (v4 + (1 : Int32)) S else ((f_X9_orders S 10 (0 : Int32) v4 v5).bind fun u9 => (if (q_min u9 (v1 - u9)) ≤ v3 then f_X9_pair_98 k34 k49 v1 v3 v4 v5 (q_min u9 (v1 - u9)) v2 S else f_X9_pair_98 k34 k49 v1 v3 v4 v5 (q_min u9 (v1 - u9)) (((10 : Int32) * v4) + v5) S)))
def f_X9_pair_49 (k34 : Int32 → Int32 → Int32 → Int32 → MS → Option (Int32 × MS)) : Nat → Int32 → Int32 → Int32 → Int32 → Int32 → MS → Option (Int32 × MS)
  | 0, _, _, _, _, _, _ => none
  | n + 1, v1, v2, v3, v4, v5, S => f_X9_pair_49b k34 (f_X9_pair_49 k34 n) v1 v2 v3 v4 v5 S
def f_X9_pair_34b (k34 : Int32 → Int32 → Int32 → Int32 → MS → Option (Int32 × MS)) (v1 : Int32) (v2 : Int32) (v3 : Int32) (v4 : Int32) (S : MS) : Option (Int32 × MS) := (if (S.1 15) ≤ v4 then some (v2, S) else f_X9_pair_49 k34 1000 v1 v2 v3 v4 (v4 + (1 : Int32)) S)
def f_X9_pair_34 : Nat → Int32 → Int32 → Int32 → Int32 → MS → Option (Int32 × MS)
  | 0, _, _, _, _, _ => none
  | n + 1, v1, v2, v3, v4, S => f_X9_pair_34b  (f_X9_pair_34  n) v1 v2 v3 v4 S
def f_X9_pair_19 (v1 : Int32) (vt0 : Int32) (S : MS) : Option (Int32 × MS) := ((f_X9_isWrong vt0 S).bind fun u4 => (if (q_b u4.1) = 0 then f_X9_pair_34 1000 v1 (-1 : Int32) (-1 : Int32) (0 : Int32) u4.2 else some ((0 : Int32), u4.2)))
def f_X9_pair (S : MS) : Option (Int32 × MS) := ((f_X9_orders S 10 (0 : Int32) (-1 : Int32) (-1 : Int32)).bind fun u1 => (if u1 = (1 : Int32) then f_X9_pair_19 u1 (1 : Int32) S else f_X9_pair_19 u1 (0 : Int32) S))
set_option maxRecDepth 100000 in
set_option maxHeartbeats 8000000 in
theorem w_X9_pair_98 {p : Program} {l : Launch} {e : Env} {s : State} {m : MethodId} {args : Array Value} {below : List Frame} {meth : Method} {c : Code} {D : va_G} {cc : Nat → ClassId} {N0 : Nat} {ga : Nat → Nat} {E : va_W} {ad : Nat → Nat → Nat} {k34 : Int32 → Int32 → Int32 → Int32 → MS → Option (Int32 × MS)} {k49 : Int32 → Int32 → Int32 → Int32 → Int32 → MS → Option (Int32 × MS)} {v : (Int32 × MS)} (C : q_C p s m args meth c cX9_pair 8 (some .int) wsX9_pair RX9 D cc N0) (hk34 : ∀ (v1 : Int32) (v2 : Int32) (v3 : Int32) (v4 : Int32) (S : MS)  (ws : va_W), k34 v1 v2 v3 v4 S = some v → mW cc ga ad S E ws → q_WA p l e (q_rm (15) (357) 0 0) s m args below meth c D N0 8 (MQ below (q_Q D N0 (fun rv w1 => rv = some (.int v.1) ∧ mW cc ga ad v.2 E w1)) args s 0 0 (q_A N0)) 0 0 ws 34 [(0, .ref (ga 0)), (1, .int v1), (2, .int v2), (3, .int v3), (4, .int v4)] []) (hk49 : ∀ (v1 : Int32) (v2 : Int32) (v3 : Int32) (v4 : Int32) (v5 : Int32) (S : MS)  (ws : va_W), k49 v1 v2 v3 v4 v5 S = some v → mW cc ga ad S E ws → q_WA p l e (q_rm (15) (357) 0 0) s m args below meth c D N0 8 (MQ below (q_Q D N0 (fun rv w1 => rv = some (.int v.1) ∧ mW cc ga ad v.2 E w1)) args s 0 0 (q_A N0)) 0 0 ws 49 [(0, .ref (ga 0)), (1, .int v1), (2, .int v2), (3, .int v3), (4, .int v4), (5, .int v5)] []) (v1 : Int32) (v3 : Int32) (v4 : Int32) (v5 : Int32) (v7 : Int32) (vt0 : Int32) (S : MS)  (ws : va_W) : f_X9_pair_98 k34 k49 v1 v3 v4 v5 v7 vt0 S = some v → mW cc ga ad S E ws → q_WA p l e (q_rm (15) (357) 0 0) s m args below meth c D N0 8 (MQ below (q_Q D N0 (fun rv w1 => rv = some (.int v.1) ∧ mW cc ga ad v.2 E w1)) args s 0 0 (q_A N0)) 0 0 ws 98 [(0, .ref (ga 0)), (1, .int v1), (3, .int v3), (4, .int v4), (5, .int v5), (7, .int v7)] [.int vt0] := by
  intro hf hW
  refine q_istore_n (pc := 98) (lvq := [(2, .int vt0), (0, .ref (ga 0)), (1, .int v1), (3, .int v3), (4, .int v4), (5, .int v5), (7, .int v7)]) C dX9_pair_98 rfl (by decide) rfl ?_
  refine q_iload_n (pc := 99) C dX9_pair_99 rfl 3 rfl ?_
  refine q_iload (pc := 100) C dX9_pair_100 6 rfl ?_
  refine q_mmax (pc := 102) C (List.mem_of_getElem? (i := 6) rfl) (List.mem_of_getElem? (i := 7) rfl) (List.mem_of_getElem? (i := 4) rfl) (List.mem_of_getElem? (i := 8) rfl) (Nat.le_of_ble_eq_true rfl) (Nat.le_of_ble_eq_true rfl) ⟨Nat.le_of_ble_eq_true rfl, Nat.le_of_ble_eq_true rfl⟩ dX9_pair_102 ?_
  refine q_istore_n (pc := 105) (lvq := [(3, .int (q_max v3 v7)), (2, .int vt0), (0, .ref (ga 0)), (1, .int v1), (4, .int v4), (5, .int v5), (7, .int v7)]) C dX9_pair_105 rfl (by decide) rfl ?_
  refine q_iinc (pc := 106) (lvq := [(5, .int (v5 + (1 : Int32))), (3, .int (q_max v3 v7)), (2, .int vt0), (0, .ref (ga 0)), (1, .int v1), (4, .int v4), (7, .int v7)]) C (v5 + (1 : Int32)) dX9_pair_106 5 rfl q_ca_1 (by decide) rfl ?_
  refine q_goto (pc := 109) (tgt := 49) C dX9_pair_109 (by decide) ?_
  refine q_sub (lvq := [(0, .ref (ga 0)), (1, .int v1), (2, .int vt0), (3, .int (q_max v3 v7)), (4, .int v4), (5, .int (v5 + (1 : Int32)))]) [3, 4, 2, 1, 5, 0] rfl ?_
  exact hk49 v1 vt0 (q_max v3 v7) v4 (v5 + (1 : Int32)) S ws hf hW
set_option maxRecDepth 100000 in
set_option maxHeartbeats 8000000 in
theorem w_X9_pair_49 {p : Program} {l : Launch} {e : Env} {s : State} {m : MethodId} {args : Array Value} {below : List Frame} {meth : Method} {c : Code} {D : va_G} {cc : Nat → ClassId} {N0 : Nat} {ga : Nat → Nat} {E : va_W} {ad : Nat → Nat → Nat} {k34 : Int32 → Int32 → Int32 → Int32 → MS → Option (Int32 × MS)} {v : (Int32 × MS)} (C : q_C p s m args meth c cX9_pair 8 (some .int) wsX9_pair RX9 D cc N0) (hk34 : ∀ (v1 : Int32) (v2 : Int32) (v3 : Int32) (v4 : Int32) (S : MS)  (ws : va_W), k34 v1 v2 v3 v4 S = some v → mW cc ga ad S E ws → q_WA p l e (q_rm (15) (357) 0 0) s m args below meth c D N0 8 (MQ below (q_Q D N0 (fun rv w1 => rv = some (.int v.1) ∧ mW cc ga ad v.2 E w1)) args s 0 0 (q_A N0)) 0 0 ws 34 [(0, .ref (ga 0)), (1, .int v1), (2, .int v2), (3, .int v3), (4, .int v4)] []) : ∀ (n : Nat) (v1 : Int32) (v2 : Int32) (v3 : Int32) (v4 : Int32) (v5 : Int32) (S : MS)  (ws : va_W), f_X9_pair_49 k34 n v1 v2 v3 v4 v5 S = some v → mW cc ga ad S E ws → q_WA p l e (q_rm (15) (357) 0 0) s m args below meth c D N0 8 (MQ below (q_Q D N0 (fun rv w1 => rv = some (.int v.1) ∧ mW cc ga ad v.2 E w1)) args s 0 0 (q_A N0)) 0 0 ws 49 [(0, .ref (ga 0)), (1, .int v1), (2, .int v2), (3, .int v3), (4, .int v4), (5, .int v5)] [] := by
  intro n
  induction n with
  | zero => intro v1 v2 v3 v4 v5 S ws hf; cases hf
  | succ n ih =>
    intro v1 v2 v3 v4 v5 S ws hf hW
    have hk49 : ∀ (v1 : Int32) (v2 : Int32) (v3 : Int32) (v4 : Int32) (v5 : Int32) (S : MS)  (ws : va_W), f_X9_pair_49 k34 n v1 v2 v3 v4 v5 S = some v → mW cc ga ad S E ws → q_WA p l e (q_rm (15) (357) 0 0) s m args below meth c D N0 8 (MQ below (q_Q D N0 (fun rv w1 => rv = some (.int v.1) ∧ mW cc ga ad v.2 E w1)) args s 0 0 (q_A N0)) 0 0 ws 49 [(0, .ref (ga 0)), (1, .int v1), (2, .int v2), (3, .int v3), (4, .int v4), (5, .int v5)] [] := ih
    have hf : f_X9_pair_49b k34 (f_X9_pair_49 k34 n) v1 v2 v3 v4 v5 S = some v := hf
    refine q_iload (pc := 49) C dX9_pair_49 5 rfl ?_
    refine q_aload_n (pc := 51) C dX9_pair_51 rfl 0 rfl ?_
    refine m_g_15 (pc := 52) C hW n_X9_pair_X9 (List.mem_of_getElem? (i := 1) rfl) dX9_pair_52 ?_
    refine q_icmp_ge (pc := 55) (tgt := 112) C dX9_pair_55 (by decide) (fun c8 => ?_) (fun c8 => ?_)
    · have hf := q_iteT hf c8
      refine q_iinc (pc := 112) (lvq := [(4, .int (v4 + (1 : Int32))), (0, .ref (ga 0)), (1, .int v1), (2, .int v2), (3, .int v3), (5, .int v5)]) C (v4 + (1 : Int32)) dX9_pair_112 4 rfl q_ca_1 (by decide) rfl ?_
      refine q_goto (pc := 115) (tgt := 34) C dX9_pair_115 (by decide) ?_
      refine q_sub (lvq := [(0, .ref (ga 0)), (1, .int v1), (2, .int v2), (3, .int v3), (4, .int (v4 + (1 : Int32)))]) [1, 2, 3, 4, 0] rfl ?_
      exact hk34 v1 v2 v3 (v4 + (1 : Int32)) S ws hf hW
    · have hf := q_iteF hf c8
      refine q_aload_n (pc := 58) C dX9_pair_58 rfl 0 rfl ?_
      refine q_iconst (pc := 59) C (0 : Int32) dX9_pair_59 q_ci_0 ?_
      refine q_iload (pc := 60) C dX9_pair_60 4 rfl ?_
      refine q_iload (pc := 62) C dX9_pair_62 5 rfl ?_
      obtain ⟨u9, e10, hf⟩ := q_bind hf
      obtain ⟨_, he⟩ := hW.obj
      refine q_callV (pc := 64) (As := [.int (0 : Int32), .int v4, .int v5]) (rest := []) C (c_X9_orders l D cc N0 ga ad 10 E S (0 : Int32) v4 v5 u9 e10 ws hW) gX9_pair_X9_orders rfl rfl z_X9_orders ⟨Nat.le_of_ble_eq_true rfl, Nat.le_of_ble_eq_true rfl⟩ he rfl rfl rfl (Nat.le_of_ble_eq_true rfl) dX9_pair_64 ⟨Nat.le_of_ble_eq_true rfl, Nat.le_of_ble_eq_true rfl⟩ ?_
      rintro _ ws ⟨rfl, hW⟩
      refine q_nm (wz := ws) (ka := 0) (kb := 0) (sz := [.int u9]) rfl rfl rfl rfl ?_
      refine q_istore (pc := 67) (lvq := [(6, .int u9), (0, .ref (ga 0)), (1, .int v1), (2, .int v2), (3, .int v3), (4, .int v4), (5, .int v5)]) C dX9_pair_67 (by decide) rfl ?_
      refine q_iload (pc := 69) C dX9_pair_69 0 rfl ?_
      refine q_iload_n (pc := 71) C dX9_pair_71 rfl 2 rfl ?_
      refine q_iload (pc := 72) C dX9_pair_72 0 rfl ?_
      refine q_isub (pc := 74) C dX9_pair_74 ?_
      refine q_mmin (pc := 75) C (List.mem_of_getElem? (i := 2) rfl) (List.mem_of_getElem? (i := 3) rfl) (List.mem_of_getElem? (i := 4) rfl) (List.mem_of_getElem? (i := 5) rfl) (Nat.le_of_ble_eq_true rfl) (Nat.le_of_ble_eq_true rfl) ⟨Nat.le_of_ble_eq_true rfl, Nat.le_of_ble_eq_true rfl⟩ dX9_pair_75 ?_
      refine q_istore (pc := 78) (lvq := [(7, .int (q_min u9 (v1 - u9))), (6, .int u9), (0, .ref (ga 0)), (1, .int v1), (2, .int v2), (3, .int v3), (4, .int v4), (5, .int v5)]) C dX9_pair_78 (by decide) rfl ?_
      refine q_iload (pc := 80) C dX9_pair_80 0 rfl ?_
      refine q_iload_n (pc := 82) C dX9_pair_82 rfl 5 rfl ?_
      refine q_icmp_le (pc := 83) (tgt := 97) C dX9_pair_83 (by decide) (fun c11 => ?_) (fun c11 => ?_)
      · have hf := q_iteT hf c11
        refine q_iload_n (pc := 97) C dX9_pair_97 rfl 4 rfl ?_
        refine q_sub (lvq := [(0, .ref (ga 0)), (1, .int v1), (3, .int v3), (4, .int v4), (5, .int v5), (7, .int (q_min u9 (v1 - u9)))]) [2, 3, 5, 6, 7, 0] rfl ?_
        exact w_X9_pair_98 C hk34 hk49 v1 v3 v4 v5 (q_min u9 (v1 - u9)) v2 S ws hf hW
      · have hf := q_iteF hf c11
        refine q_bipush (pc := 86) C (10 : Int32) dX9_pair_86 q_cb_10 ?_
        refine q_iload (pc := 88) C dX9_pair_88 6 rfl ?_
        refine q_imul (pc := 90) C dX9_pair_90 ?_
        refine q_iload (pc := 91) C dX9_pair_91 7 rfl ?_
        refine q_iadd (pc := 93) C dX9_pair_93 ?_
        refine q_goto (pc := 94) (tgt := 98) C dX9_pair_94 (by decide) ?_
        refine q_sub (lvq := [(0, .ref (ga 0)), (1, .int v1), (3, .int v3), (4, .int v4), (5, .int v5), (7, .int (q_min u9 (v1 - u9)))]) [2, 3, 5, 6, 7, 0] rfl ?_
        exact w_X9_pair_98 C hk34 hk49 v1 v3 v4 v5 (q_min u9 (v1 - u9)) (((10 : Int32) * v4) + v5) S ws hf hW
set_option maxRecDepth 100000 in
set_option maxHeartbeats 8000000 in
theorem w_X9_pair_34 {p : Program} {l : Launch} {e : Env} {s : State} {m : MethodId} {args : Array Value} {below : List Frame} {meth : Method} {c : Code} {D : va_G} {cc : Nat → ClassId} {N0 : Nat} {ga : Nat → Nat} {E : va_W} {ad : Nat → Nat → Nat} {v : (Int32 × MS)} (C : q_C p s m args meth c cX9_pair 8 (some .int) wsX9_pair RX9 D cc N0)  : ∀ (n : Nat) (v1 : Int32) (v2 : Int32) (v3 : Int32) (v4 : Int32) (S : MS)  (ws : va_W), f_X9_pair_34  n v1 v2 v3 v4 S = some v → mW cc ga ad S E ws → q_WA p l e (q_rm (15) (357) 0 0) s m args below meth c D N0 8 (MQ below (q_Q D N0 (fun rv w1 => rv = some (.int v.1) ∧ mW cc ga ad v.2 E w1)) args s 0 0 (q_A N0)) 0 0 ws 34 [(0, .ref (ga 0)), (1, .int v1), (2, .int v2), (3, .int v3), (4, .int v4)] [] := by
  intro n
  induction n with
  | zero => intro v1 v2 v3 v4 S ws hf; cases hf
  | succ n ih =>
    intro v1 v2 v3 v4 S ws hf hW
    have hk34 : ∀ (v1 : Int32) (v2 : Int32) (v3 : Int32) (v4 : Int32) (S : MS)  (ws : va_W), f_X9_pair_34  n v1 v2 v3 v4 S = some v → mW cc ga ad S E ws → q_WA p l e (q_rm (15) (357) 0 0) s m args below meth c D N0 8 (MQ below (q_Q D N0 (fun rv w1 => rv = some (.int v.1) ∧ mW cc ga ad v.2 E w1)) args s 0 0 (q_A N0)) 0 0 ws 34 [(0, .ref (ga 0)), (1, .int v1), (2, .int v2), (3, .int v3), (4, .int v4)] [] := ih
    have hf : f_X9_pair_34b  (f_X9_pair_34  n) v1 v2 v3 v4 S = some v := hf
    refine q_iload (pc := 34) C dX9_pair_34 4 rfl ?_
    refine q_aload_n (pc := 36) C dX9_pair_36 rfl 0 rfl ?_
    refine m_g_15 (pc := 37) C hW n_X9_pair_X9 (List.mem_of_getElem? (i := 1) rfl) dX9_pair_37 ?_
    refine q_icmp_ge (pc := 40) (tgt := 118) C dX9_pair_40 (by decide) (fun c7 => ?_) (fun c7 => ?_)
    · have hf := q_iteT hf c7
      refine q_iload_n (pc := 118) C dX9_pair_118 rfl 2 rfl ?_
      obtain rfl := q_some hf
      exact q_iret (pc := 119) C dX9_pair_119 ⟨rfl, hW⟩
    · have hf := q_iteF hf c7
      refine q_iload (pc := 43) C dX9_pair_43 4 rfl ?_
      refine q_iconst (pc := 45) C (1 : Int32) dX9_pair_45 q_ci_1 ?_
      refine q_iadd (pc := 46) C dX9_pair_46 ?_
      refine q_istore (pc := 47) (lvq := [(5, .int (v4 + (1 : Int32))), (0, .ref (ga 0)), (1, .int v1), (2, .int v2), (3, .int v3), (4, .int v4)]) C dX9_pair_47 (by decide) rfl ?_
      refine q_sub (lvq := [(0, .ref (ga 0)), (1, .int v1), (2, .int v2), (3, .int v3), (4, .int v4), (5, .int (v4 + (1 : Int32)))]) [1, 2, 3, 4, 5, 0] rfl ?_
      exact w_X9_pair_49 C hk34 1000 v1 v2 v3 v4 (v4 + (1 : Int32)) S ws hf hW
set_option maxRecDepth 100000 in
set_option maxHeartbeats 8000000 in
theorem w_X9_pair_19 {p : Program} {l : Launch} {e : Env} {s : State} {m : MethodId} {args : Array Value} {below : List Frame} {meth : Method} {c : Code} {D : va_G} {cc : Nat → ClassId} {N0 : Nat} {ga : Nat → Nat} {E : va_W} {ad : Nat → Nat → Nat} {v : (Int32 × MS)} (C : q_C p s m args meth c cX9_pair 8 (some .int) wsX9_pair RX9 D cc N0)  (v1 : Int32) (vt0 : Int32) (S : MS)  (ws : va_W) : f_X9_pair_19  v1 vt0 S = some v → mW cc ga ad S E ws → q_WA p l e (q_rm (15) (357) 0 0) s m args below meth c D N0 8 (MQ below (q_Q D N0 (fun rv w1 => rv = some (.int v.1) ∧ mW cc ga ad v.2 E w1)) args s 0 0 (q_A N0)) 0 0 ws 19 [(0, .ref (ga 0)), (1, .int v1)] [.int vt0, .ref (ga 0)] := by
  intro hf hW
  obtain ⟨u4, e5, hf⟩ := q_bind hf
  obtain ⟨_, he⟩ := hW.obj
  refine q_callV (pc := 19) (As := [.int vt0]) (rest := []) C (c_X9_isWrong l D cc N0 ga ad  E S vt0 u4 e5 ws hW) gX9_pair_X9_isWrong rfl rfl z_X9_isWrong ⟨Nat.le_of_ble_eq_true rfl, Nat.le_of_ble_eq_true rfl⟩ he rfl rfl rfl (Nat.le_of_ble_eq_true rfl) dX9_pair_19 ⟨Nat.le_of_ble_eq_true rfl, Nat.le_of_ble_eq_true rfl⟩ ?_
  rintro _ ws ⟨rfl, hW⟩
  refine q_nm (wz := ws) (ka := 0) (kb := 0) (sz := [.int (q_b u4.1)]) rfl rfl rfl rfl ?_
  refine q_if_eq (pc := 22) (tgt := 27) C dX9_pair_22 (by decide) (fun c6 => ?_) (fun c6 => ?_)
  · have hf := q_iteT hf c6
    refine q_iconst (pc := 27) C (-1 : Int32) dX9_pair_27 q_ci_m1 ?_
    refine q_istore_n (pc := 28) (lvq := [(2, .int (-1 : Int32)), (0, .ref (ga 0)), (1, .int v1)]) C dX9_pair_28 rfl (by decide) rfl ?_
    refine q_iconst (pc := 29) C (-1 : Int32) dX9_pair_29 q_ci_m1 ?_
    refine q_istore_n (pc := 30) (lvq := [(3, .int (-1 : Int32)), (2, .int (-1 : Int32)), (0, .ref (ga 0)), (1, .int v1)]) C dX9_pair_30 rfl (by decide) rfl ?_
    refine q_iconst (pc := 31) C (0 : Int32) dX9_pair_31 q_ci_0 ?_
    refine q_istore (pc := 32) (lvq := [(4, .int (0 : Int32)), (3, .int (-1 : Int32)), (2, .int (-1 : Int32)), (0, .ref (ga 0)), (1, .int v1)]) C dX9_pair_32 (by decide) rfl ?_
    refine q_sub (lvq := [(0, .ref (ga 0)), (1, .int v1), (2, .int (-1 : Int32)), (3, .int (-1 : Int32)), (4, .int (0 : Int32))]) [3, 4, 2, 1, 0] rfl ?_
    exact w_X9_pair_34 C 1000 v1 (-1 : Int32) (-1 : Int32) (0 : Int32) u4.2 ws hf hW
  · have hf := q_iteF hf c6
    refine q_iconst (pc := 25) C (0 : Int32) dX9_pair_25 q_ci_0 ?_
    obtain rfl := q_some hf
    exact q_iret (pc := 26) C dX9_pair_26 ⟨rfl, hW⟩
set_option maxRecDepth 100000 in
set_option maxHeartbeats 8000000 in
theorem c_X9_pair (l : Launch) (D : va_G) (cc : Nat → ClassId) (N0 : Nat) (ga : Nat → Nat) (ad : Nat → Nat → Nat) (E : va_W) (S : MS) (v : (Int32 × MS)) (hf : f_X9_pair S = some v) (ws : va_W) (hW : mW cc ga ad S E ws) : q_Met l yX9_pair wsX9_pair 15 357 D cc N0 ws [.ref (ga 0)] (fun rv w1 => rv = some (.int v.1) ∧ mW cc ga ad v.2 E w1) 0 0 := by
  refine q_ofW (code := cX9_pair) (nL := 8) (ret := (some .int)) (by decide +kernel) rfl (Nat.le_of_ble_eq_true rfl) (fun p e s m below meth c C _ => ?_)
  refine q_lv (lv2 := [(0, .ref (ga 0))]) rfl ?_
  refine q_aload_n (pc := 0) C dX9_pair_0 rfl 0 rfl ?_
  refine q_iconst (pc := 1) C (0 : Int32) dX9_pair_1 q_ci_0 ?_
  refine q_iconst (pc := 2) C (-1 : Int32) dX9_pair_2 q_ci_m1 ?_
  refine q_iconst (pc := 3) C (-1 : Int32) dX9_pair_3 q_ci_m1 ?_
  obtain ⟨u1, e2, hf⟩ := q_bind hf
  obtain ⟨_, he⟩ := hW.obj
  refine q_callV (pc := 4) (As := [.int (0 : Int32), .int (-1 : Int32), .int (-1 : Int32)]) (rest := []) C (c_X9_orders l D cc N0 ga ad 10 E S (0 : Int32) (-1 : Int32) (-1 : Int32) u1 e2 ws hW) gX9_pair_X9_orders rfl rfl z_X9_orders ⟨Nat.le_of_ble_eq_true rfl, Nat.le_of_ble_eq_true rfl⟩ he rfl rfl rfl (Nat.le_of_ble_eq_true rfl) dX9_pair_4 ⟨Nat.le_of_ble_eq_true rfl, Nat.le_of_ble_eq_true rfl⟩ ?_
  rintro _ ws ⟨rfl, hW⟩
  refine q_nm (wz := ws) (ka := 0) (kb := 0) (sz := [.int u1]) rfl rfl rfl rfl ?_
  refine q_istore_n (pc := 7) (lvq := [(1, .int u1), (0, .ref (ga 0))]) C dX9_pair_7 rfl (by decide) rfl ?_
  refine q_aload_n (pc := 8) C dX9_pair_8 rfl 1 rfl ?_
  refine q_iload_n (pc := 9) C dX9_pair_9 rfl 0 rfl ?_
  refine q_iconst (pc := 10) C (1 : Int32) dX9_pair_10 q_ci_1 ?_
  refine q_icmp_ne (pc := 11) (tgt := 18) C dX9_pair_11 (by decide) (fun c3 => ?_) (fun c3 => ?_)
  · have hf := q_iteF hf c3
    refine q_iconst (pc := 18) C (0 : Int32) dX9_pair_18 q_ci_0 ?_
    refine q_sub (lvq := [(0, .ref (ga 0)), (1, .int u1)]) [1, 0] rfl ?_
    exact w_X9_pair_19 C u1 (0 : Int32) S ws hf hW
  · have hf := q_iteT hf c3
    refine q_iconst (pc := 14) C (1 : Int32) dX9_pair_14 q_ci_1 ?_
    refine q_goto (pc := 15) (tgt := 19) C dX9_pair_15 (by decide) ?_
    refine q_sub (lvq := [(0, .ref (ga 0)), (1, .int u1)]) [1, 0] rfl ?_
    exact w_X9_pair_19 C u1 (1 : Int32) S ws hf hW
theorem z_X9_checksum : q_dsc yX9_checksum 0 := ⟨by decide +kernel, by decide +kernel, by decide +kernel⟩
theorem n_X9_checksum_X9 : ∀ w ∈ wsX90, w ∈ wsX9_checksum := fun _ h => (List.mem_cons_of_mem _ (List.mem_append_left _ (List.mem_append_left _ (List.mem_append_right _ h))))
def f_X9_checksum_86b (k86 : Int64 → Int32 → Int32 → MS → Option (Int64 × MS)) (v1 : Int64) (u3 : Int32) (x3 : Int32) (S : MS) : Option (Int64 × MS) := (if (q_b (!decide (u3 = nI (S.2.1 1)))) = 0 then ((f_X9_possibleCodes S).bind fun u5 => ((f_X9_orders S 10 (0 : Int32) (-1 : Int32) (-1 : Int32)).bind fun u7 => some ((((31 : Int64) * (((31 : Int64) * v1) + u5.toInt64)) + u7.toInt64), S))) else (if q_in u3 (S.2.1 1) ∧ x3 = S.1 21 then (if u3.toNatClampNeg < S.2.1 1 then k86 (((31 : Int64) * v1) + (S.2.2.1 1 u3.toNatClampNeg 0).toInt64) (u3 + (1 : Int32)) x3 S else none) else none))
def f_X9_checksum_86 : Nat → Int64 → Int32 → Int32 → MS → Option (Int64 × MS)
  | 0, _, _, _, _ => none
  | n + 1, v1, u3, x3, S => f_X9_checksum_86b  (f_X9_checksum_86  n) v1 u3 x3 S
def f_X9_checksum_70 (k19 : Int64 → Int32 → Int32 → MS → Option (Int64 × MS)) (vt0 : Int32) (vt1 : Int64) (u3 : Int32) (x3 : Int32) (S : MS) : Option (Int64 × MS) := k19 (vt1 + vt0.toInt64) u3 x3 S
def f_X9_checksum_19b (k19 : Int64 → Int32 → Int32 → MS → Option (Int64 × MS)) (v1 : Int64) (u3 : Int32) (x3 : Int32) (S : MS) : Option (Int64 × MS) := (if (q_b (!decide (u3 = nI (S.2.1 0)))) = 0 then f_X9_checksum_86 1000 v1 (0 : Int32) (S.1 21) S else (if q_in u3 (S.2.1 0) ∧ x3 = S.1 20 then (if u3.toNatClampNeg < S.2.1 0 then (if u3.toNatClampNeg < S.2.1 0 then (if (S.2.2.1 0 u3.toNatClampNeg 2) = (1 : Int32) then f_X9_checksum_70 k19 (-1 : Int32) ((31 : Int64) * (((31 : Int64) * v1) + (S.2.2.1 0 u3.toNatClampNeg 0).toInt64)) (u3 + (1 : Int32)) x3 S else (if u3.toNatClampNeg < S.2.1 0 then f_X9_checksum_70 k19 (S.2.2.1 0 u3.toNatClampNeg 1) ((31 : Int64) * (((31 : Int64) * v1) + (S.2.2.1 0 u3.toNatClampNeg 0).toInt64)) (u3 + (1 : Int32)) x3 S else none)) else none) else none) else none))
def f_X9_checksum_19 : Nat → Int64 → Int32 → Int32 → MS → Option (Int64 × MS)
  | 0, _, _, _, _ => none
  | n + 1, v1, u3, x3, S => f_X9_checksum_19b  (f_X9_checksum_19  n) v1 u3 x3 S
def f_X9_checksum (S : MS) : Option (Int64 × MS) := f_X9_checksum_19 1000 (7 : Int64) (0 : Int32) ((mset S 0 (0 : Int32)).1 20) (mset S 0 (0 : Int32))
set_option maxRecDepth 100000 in
set_option maxHeartbeats 8000000 in
theorem w_X9_checksum_86 {p : Program} {l : Launch} {e : Env} {s : State} {m : MethodId} {args : Array Value} {below : List Frame} {meth : Method} {c : Code} {D : va_G} {cc : Nat → ClassId} {N0 : Nat} {ga : Nat → Nat} {E : va_W} {ad : Nat → Nat → Nat} {v : (Int64 × MS)} (C : q_C p s m args meth c cX9_checksum 5 (some .long) wsX9_checksum RX9 D cc N0)  : ∀ (n : Nat) (kc : Nat) (ks : Nat) (v1 : Int64) (u3 : Int32) (x3 : Int32) (S : MS) (q3 : Nat) (z3 : Int32)  (ws : va_W), f_X9_checksum_86  n v1 u3 x3 S = some v → mW cc ga ad S ((q3, q_it u3 z3 x3 (ga 2)) :: E) ws → kc + 340 + n * 0 ≤ 342 → ks + 1360 + n * 0 ≤ 1368 → q_WA p l e (q_rm (15) (357) 342 1368) s m args below meth c D N0 5 (MQ below (q_Q D N0 (fun rv w1 => rv = some (.long v.1) ∧ mW cc ga ad v.2 E w1)) args s 342 1368 (q_A N0)) kc ks ws 86 [(0, .ref (ga 0)), (1, .long v1), (3, .ref q3)] [] := by
  intro n
  induction n with
  | zero => intro kc ks v1 u3 x3 S q3 z3 ws hf; cases hf
  | succ n ih =>
    intro kc ks v1 u3 x3 S q3 z3 ws hf hW b1 b2
    have hk86 : ∀ (kc : Nat) (ks : Nat) (v1 : Int64) (u3 : Int32) (x3 : Int32) (S : MS) (q3 : Nat) (z3 : Int32)  (ws : va_W), f_X9_checksum_86  n v1 u3 x3 S = some v → mW cc ga ad S ((q3, q_it u3 z3 x3 (ga 2)) :: E) ws → kc + 340 + n * 0 ≤ 342 → ks + 1360 + n * 0 ≤ 1368 → q_WA p l e (q_rm (15) (357) 342 1368) s m args below meth c D N0 5 (MQ below (q_Q D N0 (fun rv w1 => rv = some (.long v.1) ∧ mW cc ga ad v.2 E w1)) args s 342 1368 (q_A N0)) kc ks ws 86 [(0, .ref (ga 0)), (1, .long v1), (3, .ref q3)] [] := ih
    have hf : f_X9_checksum_86b  (f_X9_checksum_86  n) v1 u3 x3 S = some v := hf
    simp only [Nat.succ_mul, Nat.add_mul] at b1 b2
    refine q_aload_n (pc := 86) C dX9_checksum_86 rfl 2 rfl ?_
    refine m_has_1 (pc := 87) C hW gX9_checksum_Jx35411_hasNext_aae02_f76Jx35411 ⟨Nat.le_of_ble_eq_true rfl, Nat.le_of_ble_eq_true rfl⟩ (Nat.le_of_ble_eq_true rfl) dX9_checksum_87 ⟨(show (kc) ≤ 342 by omega), (show (ks) ≤ 1368 by omega)⟩ ?_
    refine q_if_eq (pc := 92) (tgt := 121) C dX9_checksum_92 (by decide) (fun c4 => ?_) (fun c4 => ?_)
    · have hf := q_iteT hf c4
      refine q_ldc2 (pc := 121) (v := (31 : Int64)) C (List.mem_of_getElem? (i := 5) rfl) dX9_checksum_121 ?_
      refine q_ldc2 (pc := 124) (v := (31 : Int64)) C (List.mem_of_getElem? (i := 5) rfl) dX9_checksum_124 ?_
      refine q_lload_n (pc := 127) C dX9_checksum_127 rfl 1 rfl ?_
      refine q_lmul (pc := 128) C dX9_checksum_128 ?_
      refine q_aload_n (pc := 129) C dX9_checksum_129 rfl 0 rfl ?_
      obtain ⟨u5, e6, hf⟩ := q_bind hf
      obtain ⟨_, he⟩ := hW.obj
      refine q_callV (pc := 130) (As := []) (rest := [.long ((31 : Int64) * v1), .long (31 : Int64)]) C (c_X9_possibleCodes l D cc N0 ga ad  ((q3, q_it u3 z3 x3 (ga 2)) :: E) S  u5 e6 ws hW) gX9_checksum_X9_possibleCodes rfl rfl z_X9_possibleCodes ⟨Nat.le_of_ble_eq_true rfl, Nat.le_of_ble_eq_true rfl⟩ he rfl rfl rfl (Nat.le_of_ble_eq_true rfl) dX9_checksum_130 ⟨(show (kc) + 340 ≤ 342 by omega), (show (ks) + 1360 ≤ 1368 by omega)⟩ ?_
      rintro _ ws ⟨rfl, hW⟩
      refine q_nm (wz := ws) (ka := kc + 340) (kb := ks + 1360) (sz := [.int u5, .long ((31 : Int64) * v1), .long (31 : Int64)]) rfl rfl rfl rfl ?_
      refine q_i2l (pc := 133) C dX9_checksum_133 rfl ?_
      refine q_ladd (pc := 134) C dX9_checksum_134 ?_
      refine q_lmul (pc := 135) C dX9_checksum_135 ?_
      refine q_aload_n (pc := 136) C dX9_checksum_136 rfl 0 rfl ?_
      refine q_iconst (pc := 137) C (0 : Int32) dX9_checksum_137 q_ci_0 ?_
      refine q_iconst (pc := 138) C (-1 : Int32) dX9_checksum_138 q_ci_m1 ?_
      refine q_iconst (pc := 139) C (-1 : Int32) dX9_checksum_139 q_ci_m1 ?_
      obtain ⟨u7, e8, hf⟩ := q_bind hf
      obtain ⟨_, he⟩ := hW.obj
      refine q_callV (pc := 140) (As := [.int (0 : Int32), .int (-1 : Int32), .int (-1 : Int32)]) (rest := [.long ((31 : Int64) * (((31 : Int64) * v1) + u5.toInt64))]) C (c_X9_orders l D cc N0 ga ad 10 ((q3, q_it u3 z3 x3 (ga 2)) :: E) S (0 : Int32) (-1 : Int32) (-1 : Int32) u7 e8 ws hW) gX9_checksum_X9_orders rfl rfl z_X9_orders ⟨Nat.le_of_ble_eq_true rfl, Nat.le_of_ble_eq_true rfl⟩ he rfl rfl rfl (Nat.le_of_ble_eq_true rfl) dX9_checksum_140 ⟨(show (kc + 340) + 0 ≤ 342 by omega), (show (ks + 1360) + 0 ≤ 1368 by omega)⟩ ?_
      rintro _ ws ⟨rfl, hW⟩
      refine q_nm (wz := ws) (ka := kc + 340) (kb := ks + 1360) (sz := [.int u7, .long ((31 : Int64) * (((31 : Int64) * v1) + u5.toInt64))]) rfl rfl rfl rfl ?_
      refine q_i2l (pc := 143) C dX9_checksum_143 rfl ?_
      refine q_ladd (pc := 144) C dX9_checksum_144 ?_
      refine q_wid (show kc + 340 ≤ 342 by omega) (show ks + 1360 ≤ 1368 by omega) ?_
      refine t_drop hW (fun ws hW => ?_)
      obtain rfl := q_some hf
      exact q_lret (pc := 145) C dX9_checksum_145 ⟨rfl, hW⟩
    · have hf := q_iteF hf c4
      refine q_aload_n (pc := 95) C dX9_checksum_95 rfl 2 rfl ?_
      obtain ⟨g9, hf⟩ := q_gd hf
      refine m_next_1 (pc := 96) C hW g9 gX9_checksum_Jx35411_next_0502b_f82Jx35411 ⟨Nat.le_of_ble_eq_true rfl, Nat.le_of_ble_eq_true rfl⟩ (Nat.le_of_ble_eq_true rfl) dX9_checksum_96 ⟨(show (kc) ≤ 342 by omega), (show (ks) ≤ 1368 by omega)⟩ (fun ws hW => ?_)
      refine m_cast_1 (pc := 101) C hW g9.1.2 (List.mem_of_getElem? (i := 4) rfl) dX9_checksum_101 ?_
      refine q_astore (pc := 104) (lvq := [(4, .ref (ad 1 u3.toNatClampNeg)), (0, .ref (ga 0)), (1, .long v1), (3, .ref q3)]) C dX9_checksum_104 (by decide) rfl ?_
      refine q_ldc2 (pc := 106) (v := (31 : Int64)) C (List.mem_of_getElem? (i := 5) rfl) dX9_checksum_106 ?_
      refine q_lload_n (pc := 109) C dX9_checksum_109 rfl 2 rfl ?_
      refine q_lmul (pc := 110) C dX9_checksum_110 ?_
      refine q_aload (pc := 111) C dX9_checksum_111 0 rfl ?_
      refine q_iconst (pc := 113) C (0 : Int32) dX9_checksum_113 q_ci_0 ?_
      obtain ⟨g10, hf⟩ := q_gd hf
      refine m_rald_1 (pc := 114) C hW g10 ⟨by decide, by decide⟩ dX9_checksum_114 ?_
      refine q_nm (wz := ws) (ka := kc) (kb := ks) (sz := [.int (S.2.2.1 1 u3.toNatClampNeg 0), .long ((31 : Int64) * v1)]) rfl rfl rfl rfl ?_
      refine q_i2l (pc := 115) C dX9_checksum_115 rfl ?_
      refine q_ladd (pc := 116) C dX9_checksum_116 ?_
      refine q_lstore_n (pc := 117) (lvq := [(1, .long (((31 : Int64) * v1) + (S.2.2.1 1 u3.toNatClampNeg 0).toInt64)), (4, .ref (ad 1 u3.toNatClampNeg)), (0, .ref (ga 0)), (3, .ref q3)]) C dX9_checksum_117 rfl (by decide) rfl ?_
      refine q_goto (pc := 118) (tgt := 86) C dX9_checksum_118 (by decide) ?_
      refine q_sub (lvq := [(0, .ref (ga 0)), (1, .long (((31 : Int64) * v1) + (S.2.2.1 1 u3.toNatClampNeg 0).toInt64)), (3, .ref q3)]) [2, 0, 3] rfl ?_
      exact hk86 (kc) (ks) (((31 : Int64) * v1) + (S.2.2.1 1 u3.toNatClampNeg 0).toInt64) (u3 + (1 : Int32)) x3 S q3 u3 ws hf hW (by omega) (by omega)
set_option maxRecDepth 100000 in
set_option maxHeartbeats 8000000 in
theorem w_X9_checksum_70 {p : Program} {l : Launch} {e : Env} {s : State} {m : MethodId} {args : Array Value} {below : List Frame} {meth : Method} {c : Code} {D : va_G} {cc : Nat → ClassId} {N0 : Nat} {ga : Nat → Nat} {E : va_W} {ad : Nat → Nat → Nat} {k19 : Int64 → Int32 → Int32 → MS → Option (Int64 × MS)} {n19 : Nat} {v : (Int64 × MS)} (C : q_C p s m args meth c cX9_checksum 5 (some .long) wsX9_checksum RX9 D cc N0) (hk19 : ∀ (kc : Nat) (ks : Nat) (v1 : Int64) (u3 : Int32) (x3 : Int32) (S : MS) (q3 : Nat) (z3 : Int32)  (ws : va_W), k19 v1 u3 x3 S = some v → mW cc ga ad S ((q3, q_it u3 z3 x3 (ga 1)) :: E) ws → kc + 341 + n19 * 0 ≤ 342 → ks + 1364 + n19 * 0 ≤ 1368 → q_WA p l e (q_rm (15) (357) 342 1368) s m args below meth c D N0 5 (MQ below (q_Q D N0 (fun rv w1 => rv = some (.long v.1) ∧ mW cc ga ad v.2 E w1)) args s 342 1368 (q_A N0)) kc ks ws 19 [(0, .ref (ga 0)), (1, .long v1), (3, .ref q3)] []) (kc : Nat) (ks : Nat) (vt0 : Int32) (vt1 : Int64) (u3 : Int32) (x3 : Int32) (S : MS) (q3 : Nat) (z3 : Int32)  (ws : va_W) : f_X9_checksum_70 k19 vt0 vt1 u3 x3 S = some v → mW cc ga ad S ((q3, q_it u3 z3 x3 (ga 1)) :: E) ws → kc + 341 + n19 * 0 ≤ 342 → ks + 1364 + n19 * 0 ≤ 1368 → q_WA p l e (q_rm (15) (357) 342 1368) s m args below meth c D N0 5 (MQ below (q_Q D N0 (fun rv w1 => rv = some (.long v.1) ∧ mW cc ga ad v.2 E w1)) args s 342 1368 (q_A N0)) kc ks ws 70 [(0, .ref (ga 0)), (3, .ref q3)] [.int vt0, .long vt1] := by
  intro hf hW b1 b2
  refine q_i2l (pc := 70) C dX9_checksum_70 rfl ?_
  refine q_ladd (pc := 71) C dX9_checksum_71 ?_
  refine q_lstore_n (pc := 72) (lvq := [(1, .long (vt1 + vt0.toInt64)), (0, .ref (ga 0)), (3, .ref q3)]) C dX9_checksum_72 rfl (by decide) rfl ?_
  refine q_goto (pc := 73) (tgt := 19) C dX9_checksum_73 (by decide) ?_
  refine q_sub (lvq := [(0, .ref (ga 0)), (1, .long (vt1 + vt0.toInt64)), (3, .ref q3)]) [1, 0, 2] rfl ?_
  exact hk19 (kc) (ks) (vt1 + vt0.toInt64) u3 x3 S q3 z3 ws hf hW (by omega) (by omega)
set_option maxRecDepth 100000 in
set_option maxHeartbeats 8000000 in
theorem w_X9_checksum_19 {p : Program} {l : Launch} {e : Env} {s : State} {m : MethodId} {args : Array Value} {below : List Frame} {meth : Method} {c : Code} {D : va_G} {cc : Nat → ClassId} {N0 : Nat} {ga : Nat → Nat} {E : va_W} {ad : Nat → Nat → Nat} {v : (Int64 × MS)} (C : q_C p s m args meth c cX9_checksum 5 (some .long) wsX9_checksum RX9 D cc N0)  : ∀ (n : Nat) (kc : Nat) (ks : Nat) (v1 : Int64) (u3 : Int32) (x3 : Int32) (S : MS) (q3 : Nat) (z3 : Int32)  (ws : va_W), f_X9_checksum_19  n v1 u3 x3 S = some v → mW cc ga ad S ((q3, q_it u3 z3 x3 (ga 1)) :: E) ws → kc + 341 + n * 0 ≤ 342 → ks + 1364 + n * 0 ≤ 1368 → q_WA p l e (q_rm (15) (357) 342 1368) s m args below meth c D N0 5 (MQ below (q_Q D N0 (fun rv w1 => rv = some (.long v.1) ∧ mW cc ga ad v.2 E w1)) args s 342 1368 (q_A N0)) kc ks ws 19 [(0, .ref (ga 0)), (1, .long v1), (3, .ref q3)] [] := by
  intro n
  induction n with
  | zero => intro kc ks v1 u3 x3 S q3 z3 ws hf; cases hf
  | succ n ih =>
    intro kc ks v1 u3 x3 S q3 z3 ws hf hW b1 b2
    have hk19 : ∀ (kc : Nat) (ks : Nat) (v1 : Int64) (u3 : Int32) (x3 : Int32) (S : MS) (q3 : Nat) (z3 : Int32)  (ws : va_W), f_X9_checksum_19  n v1 u3 x3 S = some v → mW cc ga ad S ((q3, q_it u3 z3 x3 (ga 1)) :: E) ws → kc + 341 + n * 0 ≤ 342 → ks + 1364 + n * 0 ≤ 1368 → q_WA p l e (q_rm (15) (357) 342 1368) s m args below meth c D N0 5 (MQ below (q_Q D N0 (fun rv w1 => rv = some (.long v.1) ∧ mW cc ga ad v.2 E w1)) args s 342 1368 (q_A N0)) kc ks ws 19 [(0, .ref (ga 0)), (1, .long v1), (3, .ref q3)] [] := ih
    have hf : f_X9_checksum_19b  (f_X9_checksum_19  n) v1 u3 x3 S = some v := hf
    simp only [Nat.succ_mul, Nat.add_mul] at b1 b2
    refine q_aload_n (pc := 19) C dX9_checksum_19 rfl 2 rfl ?_
    refine m_has_0 (pc := 20) C hW gX9_checksum_Jx35411_hasNext_aae02_f76Jx35411 ⟨Nat.le_of_ble_eq_true rfl, Nat.le_of_ble_eq_true rfl⟩ (Nat.le_of_ble_eq_true rfl) dX9_checksum_20 ⟨(show (kc) ≤ 342 by omega), (show (ks) ≤ 1368 by omega)⟩ ?_
    refine q_if_eq (pc := 25) (tgt := 76) C dX9_checksum_25 (by decide) (fun c2 => ?_) (fun c2 => ?_)
    · have hf := q_iteT hf c2
      refine q_aload_n (pc := 76) C dX9_checksum_76 rfl 0 rfl ?_
      refine m_g_9 (pc := 77) C hW n_X9_checksum_X9 (List.mem_of_getElem? (i := 6) rfl) dX9_checksum_77 ?_
      refine m_iter_1 (pc := 80) C hW gX9_checksum_Jx4a65c_iterator_32c93_f72Jx4a65c ⟨Nat.le_of_ble_eq_true rfl, Nat.le_of_ble_eq_true rfl⟩ (Nat.le_of_ble_eq_true rfl) dX9_checksum_80 ⟨(show (kc) + 1 ≤ 342 by omega), (show (ks) + 4 ≤ 1368 by omega)⟩ (fun it3 ws hW => ?_)
      refine q_nm (wz := ws) (ka := kc + 1) (kb := ks + 4) (sz := [.ref it3]) rfl rfl rfl rfl ?_
      refine q_astore_n (pc := 85) (lvq := [(3, .ref it3), (0, .ref (ga 0)), (1, .long v1)]) C dX9_checksum_85 rfl (by decide) rfl ?_
      have hW := hW.out (List.Perm.swap _ _ _)
      refine t_drop hW (fun ws hW => ?_)
      refine q_sub (lvq := [(0, .ref (ga 0)), (1, .long v1), (3, .ref it3)]) [1, 2, 0] rfl ?_
      exact w_X9_checksum_86 C 1000 (kc + 1) (ks + 4) v1 (0 : Int32) (S.1 21) S it3 (-1 : Int32) ws hf hW (by omega) (by omega)
    · have hf := q_iteF hf c2
      refine q_aload_n (pc := 28) C dX9_checksum_28 rfl 2 rfl ?_
      obtain ⟨g11, hf⟩ := q_gd hf
      refine m_next_0 (pc := 29) C hW g11 gX9_checksum_Jx35411_next_0502b_f82Jx35411 ⟨Nat.le_of_ble_eq_true rfl, Nat.le_of_ble_eq_true rfl⟩ (Nat.le_of_ble_eq_true rfl) dX9_checksum_29 ⟨(show (kc) ≤ 342 by omega), (show (ks) ≤ 1368 by omega)⟩ (fun ws hW => ?_)
      refine m_cast_0 (pc := 34) C hW g11.1.2 (List.mem_of_getElem? (i := 4) rfl) dX9_checksum_34 ?_
      refine q_astore (pc := 37) (lvq := [(4, .ref (ad 0 u3.toNatClampNeg)), (0, .ref (ga 0)), (1, .long v1), (3, .ref q3)]) C dX9_checksum_37 (by decide) rfl ?_
      refine q_ldc2 (pc := 39) (v := (31 : Int64)) C (List.mem_of_getElem? (i := 5) rfl) dX9_checksum_39 ?_
      refine q_ldc2 (pc := 42) (v := (31 : Int64)) C (List.mem_of_getElem? (i := 5) rfl) dX9_checksum_42 ?_
      refine q_lload_n (pc := 45) C dX9_checksum_45 rfl 2 rfl ?_
      refine q_lmul (pc := 46) C dX9_checksum_46 ?_
      refine q_aload (pc := 47) C dX9_checksum_47 0 rfl ?_
      refine q_iconst (pc := 49) C (0 : Int32) dX9_checksum_49 q_ci_0 ?_
      obtain ⟨g12, hf⟩ := q_gd hf
      refine m_rald_0 (pc := 50) C hW g12 ⟨by decide, by decide⟩ dX9_checksum_50 ?_
      refine q_nm (wz := ws) (ka := kc) (kb := ks) (sz := [.int (S.2.2.1 0 u3.toNatClampNeg 0), .long ((31 : Int64) * v1), .long (31 : Int64)]) rfl rfl rfl rfl ?_
      refine q_i2l (pc := 51) C dX9_checksum_51 rfl ?_
      refine q_ladd (pc := 52) C dX9_checksum_52 ?_
      refine q_lmul (pc := 53) C dX9_checksum_53 ?_
      refine q_aload (pc := 54) C dX9_checksum_54 0 rfl ?_
      refine q_iconst (pc := 56) C (2 : Int32) dX9_checksum_56 q_ci_2 ?_
      obtain ⟨g13, hf⟩ := q_gd hf
      refine m_rald_0 (pc := 57) C hW g13 ⟨by decide, by decide⟩ dX9_checksum_57 ?_
      refine q_nm (wz := ws) (ka := kc) (kb := ks) (sz := [.int (S.2.2.1 0 u3.toNatClampNeg 2), .long ((31 : Int64) * (((31 : Int64) * v1) + (S.2.2.1 0 u3.toNatClampNeg 0).toInt64))]) rfl rfl rfl rfl ?_
      refine q_iconst (pc := 58) C (1 : Int32) dX9_checksum_58 q_ci_1 ?_
      refine q_icmp_ne (pc := 59) (tgt := 66) C dX9_checksum_59 (by decide) (fun c14 => ?_) (fun c14 => ?_)
      · have hf := q_iteF hf c14
        refine q_aload (pc := 66) C dX9_checksum_66 0 rfl ?_
        refine q_iconst (pc := 68) C (1 : Int32) dX9_checksum_68 q_ci_1 ?_
        obtain ⟨g15, hf⟩ := q_gd hf
        refine m_rald_0 (pc := 69) C hW g15 ⟨by decide, by decide⟩ dX9_checksum_69 ?_
        refine q_nm (wz := ws) (ka := kc) (kb := ks) (sz := [.int (S.2.2.1 0 u3.toNatClampNeg 1), .long ((31 : Int64) * (((31 : Int64) * v1) + (S.2.2.1 0 u3.toNatClampNeg 0).toInt64))]) rfl rfl rfl rfl ?_
        refine q_sub (lvq := [(0, .ref (ga 0)), (3, .ref q3)]) [1, 3] rfl ?_
        exact w_X9_checksum_70 C hk19 (kc) (ks) (S.2.2.1 0 u3.toNatClampNeg 1) ((31 : Int64) * (((31 : Int64) * v1) + (S.2.2.1 0 u3.toNatClampNeg 0).toInt64)) (u3 + (1 : Int32)) x3 S q3 u3 ws hf hW (by omega) (by omega)
      · have hf := q_iteT hf c14
        refine q_iconst (pc := 62) C (-1 : Int32) dX9_checksum_62 q_ci_m1 ?_
        refine q_goto (pc := 63) (tgt := 70) C dX9_checksum_63 (by decide) ?_
        refine q_sub (lvq := [(0, .ref (ga 0)), (3, .ref q3)]) [1, 3] rfl ?_
        exact w_X9_checksum_70 C hk19 (kc) (ks) (-1 : Int32) ((31 : Int64) * (((31 : Int64) * v1) + (S.2.2.1 0 u3.toNatClampNeg 0).toInt64)) (u3 + (1 : Int32)) x3 S q3 u3 ws hf hW (by omega) (by omega)
set_option maxRecDepth 100000 in
set_option maxHeartbeats 8000000 in
theorem c_X9_checksum (l : Launch) (D : va_G) (cc : Nat → ClassId) (N0 : Nat) (ga : Nat → Nat) (ad : Nat → Nat → Nat) (E : va_W) (S : MS) (v : (Int64 × MS)) (hf : f_X9_checksum S = some v) (ws : va_W) (hW : mW cc ga ad S E ws) : q_Met l yX9_checksum wsX9_checksum 15 357 D cc N0 ws [.ref (ga 0)] (fun rv w1 => rv = some (.long v.1) ∧ mW cc ga ad v.2 E w1) 342 1368 := by
  refine q_ofW (code := cX9_checksum) (nL := 5) (ret := (some .long)) (by decide +kernel) rfl (Nat.le_of_ble_eq_true rfl) (fun p e s m below meth c C _ => ?_)
  refine q_lv (lv2 := [(0, .ref (ga 0))]) rfl ?_
  obtain ⟨kc, hkc⟩ : ∃ z, z = 0 := ⟨_, rfl⟩
  obtain ⟨ks, hks⟩ : ∃ z, z = 0 := ⟨_, rfl⟩
  refine q_nm (wz := ws) (ka := kc) (kb := ks) (sz := []) rfl hkc.symm hks.symm rfl ?_
  refine q_aload_n (pc := 0) C dX9_checksum_0 rfl 0 rfl ?_
  refine q_iconst (pc := 1) C (0 : Int32) dX9_checksum_1 q_ci_0 ?_
  refine m_p_0 (pc := 2) C hW n_X9_checksum_X9 (List.mem_of_getElem? (i := 1) rfl) dX9_checksum_2 (fun ws hW => ?_)
  refine q_ldc2 (pc := 5) (v := (7 : Int64)) C (List.mem_of_getElem? (i := 2) rfl) dX9_checksum_5 ?_
  refine q_lstore_n (pc := 8) (lvq := [(1, .long (7 : Int64)), (0, .ref (ga 0))]) C dX9_checksum_8 rfl (by decide) rfl ?_
  refine q_aload_n (pc := 9) C dX9_checksum_9 rfl 1 rfl ?_
  refine m_g_1 (pc := 10) C hW n_X9_checksum_X9 (List.mem_of_getElem? (i := 3) rfl) dX9_checksum_10 ?_
  refine m_iter_0 (pc := 13) C hW gX9_checksum_Jx4a65c_iterator_32c93_f72Jx4a65c ⟨Nat.le_of_ble_eq_true rfl, Nat.le_of_ble_eq_true rfl⟩ (Nat.le_of_ble_eq_true rfl) dX9_checksum_13 ⟨(show (kc) + 1 ≤ 342 by omega), (show (ks) + 4 ≤ 1368 by omega)⟩ (fun it1 ws hW => ?_)
  refine q_nm (wz := ws) (ka := kc + 1) (kb := ks + 4) (sz := [.ref it1]) rfl rfl rfl rfl ?_
  refine q_astore_n (pc := 18) (lvq := [(3, .ref it1), (1, .long (7 : Int64)), (0, .ref (ga 0))]) C dX9_checksum_18 rfl (by decide) rfl ?_
  refine q_sub (lvq := [(0, .ref (ga 0)), (1, .long (7 : Int64)), (3, .ref it1)]) [2, 1, 0] rfl ?_
  exact w_X9_checksum_19 C 1000 (kc + 1) (ks + 4) (7 : Int64) (0 : Int32) ((mset S 0 (0 : Int32)).1 20) (mset S 0 (0 : Int32)) it1 (-1 : Int32) ws hf hW (by omega) (by omega)
theorem z_X9_aliveShare : q_dsc yX9_aliveShare 0 := ⟨by decide +kernel, by decide +kernel, by decide +kernel⟩
theorem n_X9_aliveShare_X9 : ∀ w ∈ wsX90, w ∈ wsX9_aliveShare := fun _ h => (List.mem_cons_of_mem _ (List.mem_append_left _ (List.mem_append_left _ (List.mem_append_right _ h))))
def f_X9_aliveShare_18 (vt0 : Int32) (S : MS) : Option (UInt32 × MS) := ((f_X9_isWrong vt0 S).bind fun u2 => (if (q_b u2.1) = 0 then ((f_X9_living u2.2).bind fun u5 => (if q_n32 (FP.fdiv (FP.i2f u5) (FP.i2f (nI (u2.2.2.1 0)))) then some ((FP.fdiv (FP.i2f u5) (FP.i2f (nI (u2.2.2.1 0)))), u2.2) else none)) else some (FP.fconst0, u2.2)))
def f_X9_aliveShare (S : MS) : Option (UInt32 × MS) := (if (q_b (decide (S.2.1 0 = 0))) = 0 then f_X9_aliveShare_18 (0 : Int32) S else f_X9_aliveShare_18 (1 : Int32) S)
set_option maxRecDepth 100000 in
set_option maxHeartbeats 8000000 in
theorem w_X9_aliveShare_18 {p : Program} {l : Launch} {e : Env} {s : State} {m : MethodId} {args : Array Value} {below : List Frame} {meth : Method} {c : Code} {D : va_G} {cc : Nat → ClassId} {N0 : Nat} {ga : Nat → Nat} {E : va_W} {ad : Nat → Nat → Nat} {v : (UInt32 × MS)} (C : q_C p s m args meth c cX9_aliveShare 1 (some .float) wsX9_aliveShare RX9 D cc N0)  (kc : Nat) (ks : Nat) (vt0 : Int32) (S : MS)  (ws : va_W) : f_X9_aliveShare_18  vt0 S = some v → mW cc ga ad S E ws → kc + 1 ≤ 1 → ks + 4 ≤ 4 → q_WA p l e (q_rm (4) (113) 1 4) s m args below meth c D N0 1 (MQ below (q_Q D N0 (fun rv w1 => rv = some (.float v.1) ∧ mW cc ga ad v.2 E w1)) args s 1 4 (q_A N0)) kc ks ws 18 [(0, .ref (ga 0))] [.int vt0, .ref (ga 0)] := by
  intro hf hW b1 b2
  obtain ⟨u2, e3, hf⟩ := q_bind hf
  obtain ⟨_, he⟩ := hW.obj
  refine q_callV (pc := 18) (As := [.int vt0]) (rest := []) C (c_X9_isWrong l D cc N0 ga ad  E S vt0 u2 e3 ws hW) gX9_aliveShare_X9_isWrong rfl rfl z_X9_isWrong ⟨Nat.le_of_ble_eq_true rfl, Nat.le_of_ble_eq_true rfl⟩ he rfl rfl rfl (Nat.le_of_ble_eq_true rfl) dX9_aliveShare_18 ⟨(show (kc) + 0 ≤ 1 by omega), (show (ks) + 0 ≤ 4 by omega)⟩ ?_
  rintro _ ws ⟨rfl, hW⟩
  refine q_nm (wz := ws) (ka := kc) (kb := ks) (sz := [.int (q_b u2.1)]) rfl rfl rfl rfl ?_
  refine q_if_eq (pc := 21) (tgt := 28) C dX9_aliveShare_21 (by decide) (fun c4 => ?_) (fun c4 => ?_)
  · have hf := q_iteT hf c4
    refine q_aload_n (pc := 28) C dX9_aliveShare_28 rfl 0 rfl ?_
    obtain ⟨u5, e6, hf⟩ := q_bind hf
    obtain ⟨_, he⟩ := hW.obj
    refine q_callV (pc := 29) (As := []) (rest := []) C (c_X9_living l D cc N0 ga ad  E u2.2  u5 e6 ws hW) gX9_aliveShare_X9_living rfl rfl z_X9_living ⟨Nat.le_of_ble_eq_true rfl, Nat.le_of_ble_eq_true rfl⟩ he rfl rfl rfl (Nat.le_of_ble_eq_true rfl) dX9_aliveShare_29 ⟨(show (kc) + 1 ≤ 1 by omega), (show (ks) + 4 ≤ 4 by omega)⟩ ?_
    rintro _ ws ⟨rfl, hW⟩
    refine q_nm (wz := ws) (ka := kc + 1) (kb := ks + 4) (sz := [.int u5]) rfl rfl rfl rfl ?_
    refine q_i2f (pc := 32) C dX9_aliveShare_32 ?_
    refine q_aload_n (pc := 33) C dX9_aliveShare_33 rfl 0 rfl ?_
    refine m_g_1 (pc := 34) C hW n_X9_aliveShare_X9 (List.mem_of_getElem? (i := 1) rfl) dX9_aliveShare_34 ?_
    refine m_size_0 (pc := 37) C hW gX9_aliveShare_Jx4a65c_size_8abf5_f50Jx4a65c ⟨Nat.le_of_ble_eq_true rfl, Nat.le_of_ble_eq_true rfl⟩ (Nat.le_of_ble_eq_true rfl) dX9_aliveShare_37 ⟨(show (kc + 1) ≤ 1 by omega), (show (ks + 4) ≤ 4 by omega)⟩ ?_
    refine q_i2f (pc := 42) C dX9_aliveShare_42 ?_
    obtain ⟨g7, hf⟩ := q_gd hf
    refine q_fdiv (pc := 43) C dX9_aliveShare_43 g7 ?_
    refine q_wid (show kc + 1 ≤ 1 by omega) (show ks + 4 ≤ 4 by omega) ?_
    obtain rfl := q_some hf
    exact q_fret (pc := 44) C dX9_aliveShare_44 ⟨rfl, hW⟩
  · have hf := q_iteF hf c4
    refine q_fconst0 (pc := 24) C dX9_aliveShare_24 ?_
    refine q_goto (pc := 25) (tgt := 44) C dX9_aliveShare_25 (by decide) ?_
    refine q_wid (show kc ≤ 1 by omega) (show ks ≤ 4 by omega) ?_
    obtain rfl := q_some hf
    exact q_fret (pc := 44) C dX9_aliveShare_44 ⟨rfl, hW⟩
set_option maxRecDepth 100000 in
set_option maxHeartbeats 8000000 in
theorem c_X9_aliveShare (l : Launch) (D : va_G) (cc : Nat → ClassId) (N0 : Nat) (ga : Nat → Nat) (ad : Nat → Nat → Nat) (E : va_W) (S : MS) (v : (UInt32 × MS)) (hf : f_X9_aliveShare S = some v) (ws : va_W) (hW : mW cc ga ad S E ws) : q_Met l yX9_aliveShare wsX9_aliveShare 4 113 D cc N0 ws [.ref (ga 0)] (fun rv w1 => rv = some (.float v.1) ∧ mW cc ga ad v.2 E w1) 1 4 := by
  refine q_ofW (code := cX9_aliveShare) (nL := 1) (ret := (some .float)) (by decide +kernel) rfl (Nat.le_of_ble_eq_true rfl) (fun p e s m below meth c C _ => ?_)
  refine q_lv (lv2 := [(0, .ref (ga 0))]) rfl ?_
  obtain ⟨kc, hkc⟩ : ∃ z, z = 0 := ⟨_, rfl⟩
  obtain ⟨ks, hks⟩ : ∃ z, z = 0 := ⟨_, rfl⟩
  refine q_nm (wz := ws) (ka := kc) (kb := ks) (sz := []) rfl hkc.symm hks.symm rfl ?_
  refine q_aload_n (pc := 0) C dX9_aliveShare_0 rfl 0 rfl ?_
  refine q_aload_n (pc := 1) C dX9_aliveShare_1 rfl 0 rfl ?_
  refine m_g_1 (pc := 2) C hW n_X9_aliveShare_X9 (List.mem_of_getElem? (i := 1) rfl) dX9_aliveShare_2 ?_
  refine m_isEmpty_0 (pc := 5) C hW gX9_aliveShare_Jx4a65c_isEmpty_aae02_f135Jx4a65c ⟨Nat.le_of_ble_eq_true rfl, Nat.le_of_ble_eq_true rfl⟩ (Nat.le_of_ble_eq_true rfl) dX9_aliveShare_5 ⟨(show (kc) ≤ 1 by omega), (show (ks) ≤ 4 by omega)⟩ ?_
  refine q_if_eq (pc := 10) (tgt := 17) C dX9_aliveShare_10 (by decide) (fun c1 => ?_) (fun c1 => ?_)
  · have hf := q_iteT hf c1
    refine q_iconst (pc := 17) C (0 : Int32) dX9_aliveShare_17 q_ci_0 ?_
    refine q_sub (lvq := [(0, .ref (ga 0))]) [0] rfl ?_
    exact w_X9_aliveShare_18 C (kc) (ks) (0 : Int32) S ws hf hW (by omega) (by omega)
  · have hf := q_iteF hf c1
    refine q_iconst (pc := 13) C (1 : Int32) dX9_aliveShare_13 q_ci_1 ?_
    refine q_goto (pc := 14) (tgt := 18) C dX9_aliveShare_14 (by decide) ?_
    refine q_sub (lvq := [(0, .ref (ga 0))]) [0] rfl ?_
    exact w_X9_aliveShare_18 C (kc) (ks) (1 : Int32) S ws hf hW (by omega) (by omega)
theorem z_X9_meanLesson : q_dsc yX9_meanLesson 0 := ⟨by decide +kernel, by decide +kernel, by decide +kernel⟩
theorem n_X9_meanLesson_X9 : ∀ w ∈ wsX90, w ∈ wsX9_meanLesson := fun _ h => (List.mem_cons_of_mem _ (List.mem_append_left _ (List.mem_append_right _ h)))
def f_X9_meanLesson_49 (v1 : Int32) (vt0 : Int32) (S : MS) : Option (UInt64 × MS) := ((f_X9_isWrong vt0 S).bind fun u3 => (if (q_b u3.1) = 0 then (if q_n64 (FP.ddiv (FP.i2d v1) (FP.i2d (nI (u3.2.2.1 0)))) then some ((FP.ddiv (FP.i2d v1) (FP.i2d (nI (u3.2.2.1 0)))), u3.2) else none) else some (FP.dconst0, u3.2)))
def f_X9_meanLesson_4b (k4 : Int32 → Int32 → MS → Option (UInt64 × MS)) (v1 : Int32) (v2 : Int32) (S : MS) : Option (UInt64 × MS) := (if (nI (S.2.1 0)) ≤ v2 then (if (q_b (decide (S.2.1 0 = 0))) = 0 then f_X9_meanLesson_49 v1 (0 : Int32) S else f_X9_meanLesson_49 v1 (1 : Int32) S) else ((f_X9_lessonOf S v2).bind fun u7 => k4 (v1 + u7) (v2 + (1 : Int32)) S))
def f_X9_meanLesson_4 : Nat → Int32 → Int32 → MS → Option (UInt64 × MS)
  | 0, _, _, _ => none
  | n + 1, v1, v2, S => f_X9_meanLesson_4b  (f_X9_meanLesson_4  n) v1 v2 S
def f_X9_meanLesson (S : MS) : Option (UInt64 × MS) := f_X9_meanLesson_4 1000 (0 : Int32) (0 : Int32) S
set_option maxRecDepth 100000 in
set_option maxHeartbeats 8000000 in
theorem w_X9_meanLesson_49 {p : Program} {l : Launch} {e : Env} {s : State} {m : MethodId} {args : Array Value} {below : List Frame} {meth : Method} {c : Code} {D : va_G} {cc : Nat → ClassId} {N0 : Nat} {ga : Nat → Nat} {E : va_W} {ad : Nat → Nat → Nat} {v : (UInt64 × MS)} (C : q_C p s m args meth c cX9_meanLesson 3 (some .double) wsX9_meanLesson RX9 D cc N0)  (v1 : Int32) (vt0 : Int32) (S : MS)  (ws : va_W) : f_X9_meanLesson_49  v1 vt0 S = some v → mW cc ga ad S E ws → q_WA p l e (q_rm (5) (125) 0 0) s m args below meth c D N0 3 (MQ below (q_Q D N0 (fun rv w1 => rv = some (.double v.1) ∧ mW cc ga ad v.2 E w1)) args s 0 0 (q_A N0)) 0 0 ws 49 [(0, .ref (ga 0)), (1, .int v1)] [.int vt0, .ref (ga 0)] := by
  intro hf hW
  obtain ⟨u3, e4, hf⟩ := q_bind hf
  obtain ⟨_, he⟩ := hW.obj
  refine q_callV (pc := 49) (As := [.int vt0]) (rest := []) C (c_X9_isWrong l D cc N0 ga ad  E S vt0 u3 e4 ws hW) gX9_meanLesson_X9_isWrong rfl rfl z_X9_isWrong ⟨Nat.le_of_ble_eq_true rfl, Nat.le_of_ble_eq_true rfl⟩ he rfl rfl rfl (Nat.le_of_ble_eq_true rfl) dX9_meanLesson_49 ⟨Nat.le_of_ble_eq_true rfl, Nat.le_of_ble_eq_true rfl⟩ ?_
  rintro _ ws ⟨rfl, hW⟩
  refine q_nm (wz := ws) (ka := 0) (kb := 0) (sz := [.int (q_b u3.1)]) rfl rfl rfl rfl ?_
  refine q_if_eq (pc := 52) (tgt := 59) C dX9_meanLesson_52 (by decide) (fun c5 => ?_) (fun c5 => ?_)
  · have hf := q_iteT hf c5
    refine q_iload_n (pc := 59) C dX9_meanLesson_59 rfl 1 rfl ?_
    refine q_i2d (pc := 60) C dX9_meanLesson_60 ?_
    refine q_aload_n (pc := 61) C dX9_meanLesson_61 rfl 0 rfl ?_
    refine m_g_1 (pc := 62) C hW n_X9_meanLesson_X9 (List.mem_of_getElem? (i := 1) rfl) dX9_meanLesson_62 ?_
    refine m_size_0 (pc := 65) C hW gX9_meanLesson_Jx4a65c_size_8abf5_f50Jx4a65c ⟨Nat.le_of_ble_eq_true rfl, Nat.le_of_ble_eq_true rfl⟩ (Nat.le_of_ble_eq_true rfl) dX9_meanLesson_65 ⟨Nat.le_of_ble_eq_true rfl, Nat.le_of_ble_eq_true rfl⟩ ?_
    refine q_i2d (pc := 70) C dX9_meanLesson_70 ?_
    obtain ⟨g6, hf⟩ := q_gd hf
    refine q_ddiv (pc := 71) C dX9_meanLesson_71 g6 ?_
    obtain rfl := q_some hf
    exact q_dret (pc := 72) C dX9_meanLesson_72 ⟨rfl, hW⟩
  · have hf := q_iteF hf c5
    refine q_dconst0 (pc := 55) C dX9_meanLesson_55 ?_
    refine q_goto (pc := 56) (tgt := 72) C dX9_meanLesson_56 (by decide) ?_
    obtain rfl := q_some hf
    exact q_dret (pc := 72) C dX9_meanLesson_72 ⟨rfl, hW⟩
set_option maxRecDepth 100000 in
set_option maxHeartbeats 8000000 in
theorem w_X9_meanLesson_4 {p : Program} {l : Launch} {e : Env} {s : State} {m : MethodId} {args : Array Value} {below : List Frame} {meth : Method} {c : Code} {D : va_G} {cc : Nat → ClassId} {N0 : Nat} {ga : Nat → Nat} {E : va_W} {ad : Nat → Nat → Nat} {v : (UInt64 × MS)} (C : q_C p s m args meth c cX9_meanLesson 3 (some .double) wsX9_meanLesson RX9 D cc N0)  : ∀ (n : Nat) (v1 : Int32) (v2 : Int32) (S : MS)  (ws : va_W), f_X9_meanLesson_4  n v1 v2 S = some v → mW cc ga ad S E ws → q_WA p l e (q_rm (5) (125) 0 0) s m args below meth c D N0 3 (MQ below (q_Q D N0 (fun rv w1 => rv = some (.double v.1) ∧ mW cc ga ad v.2 E w1)) args s 0 0 (q_A N0)) 0 0 ws 4 [(0, .ref (ga 0)), (1, .int v1), (2, .int v2)] [] := by
  intro n
  induction n with
  | zero => intro v1 v2 S ws hf; cases hf
  | succ n ih =>
    intro v1 v2 S ws hf hW
    have hk4 : ∀ (v1 : Int32) (v2 : Int32) (S : MS)  (ws : va_W), f_X9_meanLesson_4  n v1 v2 S = some v → mW cc ga ad S E ws → q_WA p l e (q_rm (5) (125) 0 0) s m args below meth c D N0 3 (MQ below (q_Q D N0 (fun rv w1 => rv = some (.double v.1) ∧ mW cc ga ad v.2 E w1)) args s 0 0 (q_A N0)) 0 0 ws 4 [(0, .ref (ga 0)), (1, .int v1), (2, .int v2)] [] := ih
    have hf : f_X9_meanLesson_4b  (f_X9_meanLesson_4  n) v1 v2 S = some v := hf
    refine q_iload_n (pc := 4) C dX9_meanLesson_4 rfl 2 rfl ?_
    refine q_aload_n (pc := 5) C dX9_meanLesson_5 rfl 0 rfl ?_
    refine m_g_1 (pc := 6) C hW n_X9_meanLesson_X9 (List.mem_of_getElem? (i := 1) rfl) dX9_meanLesson_6 ?_
    refine m_size_0 (pc := 9) C hW gX9_meanLesson_Jx4a65c_size_8abf5_f50Jx4a65c ⟨Nat.le_of_ble_eq_true rfl, Nat.le_of_ble_eq_true rfl⟩ (Nat.le_of_ble_eq_true rfl) dX9_meanLesson_9 ⟨Nat.le_of_ble_eq_true rfl, Nat.le_of_ble_eq_true rfl⟩ ?_
    refine q_icmp_ge (pc := 14) (tgt := 31) C dX9_meanLesson_14 (by decide) (fun c1 => ?_) (fun c1 => ?_)
    · have hf := q_iteT hf c1
      refine q_aload_n (pc := 31) C dX9_meanLesson_31 rfl 0 rfl ?_
      refine q_aload_n (pc := 32) C dX9_meanLesson_32 rfl 0 rfl ?_
      refine m_g_1 (pc := 33) C hW n_X9_meanLesson_X9 (List.mem_of_getElem? (i := 1) rfl) dX9_meanLesson_33 ?_
      refine m_isEmpty_0 (pc := 36) C hW gX9_meanLesson_Jx4a65c_isEmpty_aae02_f135Jx4a65c ⟨Nat.le_of_ble_eq_true rfl, Nat.le_of_ble_eq_true rfl⟩ (Nat.le_of_ble_eq_true rfl) dX9_meanLesson_36 ⟨Nat.le_of_ble_eq_true rfl, Nat.le_of_ble_eq_true rfl⟩ ?_
      refine q_if_eq (pc := 41) (tgt := 48) C dX9_meanLesson_41 (by decide) (fun c2 => ?_) (fun c2 => ?_)
      · have hf := q_iteT hf c2
        refine q_iconst (pc := 48) C (0 : Int32) dX9_meanLesson_48 q_ci_0 ?_
        refine q_sub (lvq := [(0, .ref (ga 0)), (1, .int v1)]) [0, 1] rfl ?_
        exact w_X9_meanLesson_49 C v1 (0 : Int32) S ws hf hW
      · have hf := q_iteF hf c2
        refine q_iconst (pc := 44) C (1 : Int32) dX9_meanLesson_44 q_ci_1 ?_
        refine q_goto (pc := 45) (tgt := 49) C dX9_meanLesson_45 (by decide) ?_
        refine q_sub (lvq := [(0, .ref (ga 0)), (1, .int v1)]) [0, 1] rfl ?_
        exact w_X9_meanLesson_49 C v1 (1 : Int32) S ws hf hW
    · have hf := q_iteF hf c1
      refine q_iload_n (pc := 17) C dX9_meanLesson_17 rfl 1 rfl ?_
      refine q_aload_n (pc := 18) C dX9_meanLesson_18 rfl 0 rfl ?_
      refine q_iload_n (pc := 19) C dX9_meanLesson_19 rfl 2 rfl ?_
      obtain ⟨u7, e8, hf⟩ := q_bind hf
      obtain ⟨_, he⟩ := hW.obj
      refine q_callV (pc := 20) (As := [.int v2]) (rest := [.int v1]) C (c_X9_lessonOf l D cc N0 ga ad  E S v2 u7 e8 ws hW) gX9_meanLesson_X9_lessonOf rfl rfl z_X9_lessonOf ⟨Nat.le_of_ble_eq_true rfl, Nat.le_of_ble_eq_true rfl⟩ he rfl rfl rfl (Nat.le_of_ble_eq_true rfl) dX9_meanLesson_20 ⟨Nat.le_of_ble_eq_true rfl, Nat.le_of_ble_eq_true rfl⟩ ?_
      rintro _ ws ⟨rfl, hW⟩
      refine q_nm (wz := ws) (ka := 0) (kb := 0) (sz := [.int u7, .int v1]) rfl rfl rfl rfl ?_
      refine q_iadd (pc := 23) C dX9_meanLesson_23 ?_
      refine q_istore_n (pc := 24) (lvq := [(1, .int (v1 + u7)), (0, .ref (ga 0)), (2, .int v2)]) C dX9_meanLesson_24 rfl (by decide) rfl ?_
      refine q_iinc (pc := 25) (lvq := [(2, .int (v2 + (1 : Int32))), (1, .int (v1 + u7)), (0, .ref (ga 0))]) C (v2 + (1 : Int32)) dX9_meanLesson_25 2 rfl q_ca_1 (by decide) rfl ?_
      refine q_goto (pc := 28) (tgt := 4) C dX9_meanLesson_28 (by decide) ?_
      refine q_sub (lvq := [(0, .ref (ga 0)), (1, .int (v1 + u7)), (2, .int (v2 + (1 : Int32)))]) [2, 1, 0] rfl ?_
      exact hk4 (v1 + u7) (v2 + (1 : Int32)) S ws hf hW
set_option maxRecDepth 100000 in
set_option maxHeartbeats 8000000 in
theorem c_X9_meanLesson (l : Launch) (D : va_G) (cc : Nat → ClassId) (N0 : Nat) (ga : Nat → Nat) (ad : Nat → Nat → Nat) (E : va_W) (S : MS) (v : (UInt64 × MS)) (hf : f_X9_meanLesson S = some v) (ws : va_W) (hW : mW cc ga ad S E ws) : q_Met l yX9_meanLesson wsX9_meanLesson 5 125 D cc N0 ws [.ref (ga 0)] (fun rv w1 => rv = some (.double v.1) ∧ mW cc ga ad v.2 E w1) 0 0 := by
  refine q_ofW (code := cX9_meanLesson) (nL := 3) (ret := (some .double)) (by decide +kernel) rfl (Nat.le_of_ble_eq_true rfl) (fun p e s m below meth c C _ => ?_)
  refine q_lv (lv2 := [(0, .ref (ga 0))]) rfl ?_
  refine q_iconst (pc := 0) C (0 : Int32) dX9_meanLesson_0 q_ci_0 ?_
  refine q_istore_n (pc := 1) (lvq := [(1, .int (0 : Int32)), (0, .ref (ga 0))]) C dX9_meanLesson_1 rfl (by decide) rfl ?_
  refine q_iconst (pc := 2) C (0 : Int32) dX9_meanLesson_2 q_ci_0 ?_
  refine q_istore_n (pc := 3) (lvq := [(2, .int (0 : Int32)), (1, .int (0 : Int32)), (0, .ref (ga 0))]) C dX9_meanLesson_3 rfl (by decide) rfl ?_
  refine q_sub (lvq := [(0, .ref (ga 0)), (1, .int (0 : Int32)), (2, .int (0 : Int32))]) [2, 1, 0] rfl ?_
  exact w_X9_meanLesson_4 C 1000 (0 : Int32) (0 : Int32) S ws hf hW
theorem z_X9_isSound : q_dsc yX9_isSound 0 := ⟨by decide +kernel, by decide +kernel, by decide +kernel⟩
theorem n_X9_isSound_X9 : ∀ w ∈ wsX90, w ∈ wsX9_isSound := fun _ h => (List.mem_cons_of_mem _ (List.mem_append_right _ h))
def f_X9_isSound (S : MS) : Option (Bool × MS) := some (true, (mset S 0 (0 : Int32)))
set_option maxRecDepth 100000 in
set_option maxHeartbeats 8000000 in
theorem c_X9_isSound (l : Launch) (D : va_G) (cc : Nat → ClassId) (N0 : Nat) (ga : Nat → Nat) (ad : Nat → Nat → Nat) (E : va_W) (S : MS) (v : (Bool × MS)) (hf : f_X9_isSound S = some v) (ws : va_W) (hW : mW cc ga ad S E ws) : q_Met l yX9_isSound wsX9_isSound 0 0 D cc N0 ws [.ref (ga 0)] (fun rv w1 => rv = some (.int (q_b v.1)) ∧ mW cc ga ad v.2 E w1) 0 0 := by
  refine q_ofW (code := cX9_isSound) (nL := 1) (ret := (some .boolean)) (by decide +kernel) rfl (Nat.le_of_ble_eq_true rfl) (fun p e s m below meth c C _ => ?_)
  refine q_lv (lv2 := [(0, .ref (ga 0))]) rfl ?_
  refine q_aload_n (pc := 0) C dX9_isSound_0 rfl 0 rfl ?_
  refine q_iconst (pc := 1) C (0 : Int32) dX9_isSound_1 q_ci_0 ?_
  refine m_p_0 (pc := 2) C hW n_X9_isSound_X9 (List.mem_of_getElem? (i := 1) rfl) dX9_isSound_2 (fun ws hW => ?_)
  refine q_iconst (pc := 5) C (1 : Int32) dX9_isSound_5 q_ci_1 ?_
  obtain rfl := q_some hf
  exact q_zret (pc := 6) C (by decide +kernel) dX9_isSound_6 ⟨rfl, hW⟩
