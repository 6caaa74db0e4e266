set_option maxRecDepth 100000 in
set_option maxHeartbeats 8000000 in
theorem w_L_law_2013 {p : Program} {l : Launch} {e : Env} {s : State} {m : MethodId} {args : Array Value} {below : List Frame} {meth : Method} {c : Code} {D : va_G} {cc : Nat → ClassId} {N0 : Nat} {Q : State → Prop} {g ga : Nat → Nat} {xo xd b L : Nat} {xs : Nat → Int32} {k28 : Nat → Nat → Int32 → LSt → Option Bool} (C : q_C p s m args meth c cL_law 9 (some .boolean) wsL_law RL D cc N0) (CS : l.stackTraces = false ∧ va_X b L xs s s.heap ∧ b < s.heap.size ∧ ¬ q_A N0 b) (hQ : ∀ (kc ks : Nat) (ws : va_W) (pc : Nat) (lv : List (Nat × Value)), kc ≤ room_1.cells → ks ≤ room_1.slots → decode cL_law pc = .ok (.ireturn, 1) → q_WA p l e room_1 s m args below meth c D N0 9 Q kc ks ws pc lv [.int 1]) (hk28 : ∀ (kc ks : Nat) (v5 : Int32) (S : LSt) (ad : Nat → Nat → Nat) (ws : va_W), k28 kc ks v5 S = some true → LW cc g ga xo xd ad S [] ws → q_WA p l e room_1 s m args below meth c D N0 9 Q kc ks ws 28 [(0, .ref b), (1, .ref (g 0)), (2, .ref (ga 0)), (3, .ref xo), (4, .ref xd), (5, .int v5)] []) (kc ks : Nat) (v5 : Int32) (S : LSt) (ad : Nat → Nat → Nat) (ws : va_W) : f_L_law_2013 L xs k28 kc ks v5 S = some true → LW cc g ga xo xd ad S [] ws → q_WA p l e room_1 s m args below meth c D N0 9 Q kc ks ws 2013 [(0, .ref b), (1, .ref (g 0)), (2, .ref (ga 0)), (3, .ref xo), (4, .ref xd), (5, .int v5)] [] := by
  intro hf hW
  refine q_goto (pc := 2013) (tgt := 2537) C dL_law_2013 (by decide) ?_
  refine q_sub (lvq := [(0, .ref b), (1, .ref (g 0)), (2, .ref (ga 0)), (3, .ref xo), (4, .ref xd), (5, .int v5)]) [0, 1, 2, 3, 4, 5] rfl ?_
  exact w_L_law_2537 C CS hQ hk28 (kc) (ks) v5 S ad ws hf hW
set_option maxRecDepth 100000 in
set_option maxHeartbeats 8000000 in
theorem w_L_law_2007 {p : Program} {l : Launch} {e : Env} {s : State} {m : MethodId} {args : Array Value} {below : List Frame} {meth : Method} {c : Code} {D : va_G} {cc : Nat → ClassId} {N0 : Nat} {Q : State → Prop} {g ga : Nat → Nat} {xo xd b L : Nat} {xs : Nat → Int32} {k28 : Nat → Nat → Int32 → LSt → Option Bool} (C : q_C p s m args meth c cL_law 9 (some .boolean) wsL_law RL D cc N0) (CS : l.stackTraces = false ∧ va_X b L xs s s.heap ∧ b < s.heap.size ∧ ¬ q_A N0 b) (hQ : ∀ (kc ks : Nat) (ws : va_W) (pc : Nat) (lv : List (Nat × Value)), kc ≤ room_1.cells → ks ≤ room_1.slots → decode cL_law pc = .ok (.ireturn, 1) → q_WA p l e room_1 s m args below meth c D N0 9 Q kc ks ws pc lv [.int 1]) (hk28 : ∀ (kc ks : Nat) (v5 : Int32) (S : LSt) (ad : Nat → Nat → Nat) (ws : va_W), k28 kc ks v5 S = some true → LW cc g ga xo xd ad S [] ws → q_WA p l e room_1 s m args below meth c D N0 9 Q kc ks ws 28 [(0, .ref b), (1, .ref (g 0)), (2, .ref (ga 0)), (3, .ref xo), (4, .ref xd), (5, .int v5)] []) (kc ks : Nat) (v5 : Int32) (vt0 : Int64) (vt1 : Int64) (S : LSt) (ad : Nat → Nat → Nat) (ws : va_W) : f_L_law_2007 L xs k28 kc ks v5 vt0 vt1 S = some true → LW cc g ga xo xd ad S [] ws → q_WA p l e room_1 s m args below meth c D N0 9 Q kc ks ws 2007 [(0, .ref b), (1, .ref (g 0)), (2, .ref (ga 0)), (3, .ref xo), (4, .ref xd), (5, .int v5)] [.long vt0, .long vt1] := by
  intro hf hW
  refine q_lcmp (pc := 2007) C dL_law_2007 ?_
  refine q_if_eq (pc := 2008) (tgt := 2013) C dL_law_2008 (by decide) (fun c354 => ?_) (fun c354 => ?_)
  · have hf := q_iteT hf c354
    refine q_sub (lvq := [(0, .ref b), (1, .ref (g 0)), (2, .ref (ga 0)), (3, .ref xo), (4, .ref xd), (5, .int v5)]) [0, 1, 2, 3, 4, 5] rfl ?_
    exact w_L_law_2013 C CS hQ hk28 (kc) (ks) v5 S ad ws hf hW
  · have hf := q_iteF hf c354
    refine q_iconst (pc := 2011) C (0 : Int32) dL_law_2011 q_ci_0 ?_
    cases hf
set_option maxRecDepth 100000 in
set_option maxHeartbeats 8000000 in
theorem w_L_law_1965 {p : Program} {l : Launch} {e : Env} {s : State} {m : MethodId} {args : Array Value} {below : List Frame} {meth : Method} {c : Code} {D : va_G} {cc : Nat → ClassId} {N0 : Nat} {Q : State → Prop} {g ga : Nat → Nat} {xo xd b L : Nat} {xs : Nat → Int32} {k28 : Nat → Nat → Int32 → LSt → Option Bool} (C : q_C p s m args meth c cL_law 9 (some .boolean) wsL_law RL D cc N0) (CS : l.stackTraces = false ∧ va_X b L xs s s.heap ∧ b < s.heap.size ∧ ¬ q_A N0 b) (hQ : ∀ (kc ks : Nat) (ws : va_W) (pc : Nat) (lv : List (Nat × Value)), kc ≤ room_1.cells → ks ≤ room_1.slots → decode cL_law pc = .ok (.ireturn, 1) → q_WA p l e room_1 s m args below meth c D N0 9 Q kc ks ws pc lv [.int 1]) (hk28 : ∀ (kc ks : Nat) (v5 : Int32) (S : LSt) (ad : Nat → Nat → Nat) (ws : va_W), k28 kc ks v5 S = some true → LW cc g ga xo xd ad S [] ws → q_WA p l e room_1 s m args below meth c D N0 9 Q kc ks ws 28 [(0, .ref b), (1, .ref (g 0)), (2, .ref (ga 0)), (3, .ref xo), (4, .ref xd), (5, .int v5)] []) (kc ks : Nat) (v5 : Int32) (S : LSt) (ad : Nat → Nat → Nat) (ws : va_W) : f_L_law_1965 L xs k28 kc ks v5 S = some true → LW cc g ga xo xd ad S [] ws → q_WA p l e room_1 s m args below meth c D N0 9 Q kc ks ws 1965 [(0, .ref b), (1, .ref (g 0)), (2, .ref (ga 0)), (3, .ref xo), (4, .ref xd), (5, .int v5)] [] := by
  intro hf hW
  obtain ⟨hr, hf⟩ := q_gd hf
  obtain ⟨hr1, hr2⟩ := hr
  refine q_aload_n (pc := 1965) C dL_law_1965 rfl 1 rfl ?_
  refine q_aload_n (pc := 1966) C dL_law_1966 rfl 3 rfl ?_
  obtain ⟨u345, e346, hf⟩ := q_bind hf
  obtain ⟨T, hp, hb⟩ := hW.cls
  refine q_perm hp ?_
  refine q_callSH (pc := 1967) (As := [.ref (g 0), .ref xo]) (rest := []) C (c_L_fits l CS.1 D cc N0 g xo (ld5 cc xd S.2.2.2 :: T) S.2.1 S.2.2.1 u345 e346) gL_law_L_fits rfl z_L_fits ⟨(Nat.le_of_ble_eq_true rfl), (Nat.le_of_ble_eq_true rfl)⟩ rfl rfl (Nat.le_of_ble_eq_true rfl) dL_law_1967 ⟨(by show (kc) + 1 ≤ room_1.cells; omega), (by show (ks) + 6 ≤ room_1.slots; omega)⟩ ?_
  rintro _ _ ⟨rfl, rfl⟩
  have hW := hb (S.1, u345.2.2, u345.2.1, S.2.2.2) rfl
  refine LW.ren hW (fun ws hW => ?_)
  refine q_nm (wz := ws) (ka := kc + 1) (kb := ks + 6) (sz := [.int u345.1]) rfl (by omega) (by omega) rfl ?_
  refine q_istore (pc := 1970) (lvq := [(6, .int u345.1), (0, .ref b), (1, .ref (g 0)), (2, .ref (ga 0)), (3, .ref xo), (4, .ref xd), (5, .int v5)]) C dL_law_1970 (by decide) rfl ?_
  refine q_aload_n (pc := 1972) C dL_law_1972 rfl 3 rfl ?_
  obtain ⟨u347, e348, hf⟩ := q_bind hf
  obtain ⟨_, he⟩ := hW.obj
  refine q_callV (pc := 1973) (As := []) (rest := []) C (c_X9_fits l D cc N0 ga ad  (LG cc g xo xd (S.1, u345.2.2, u345.2.1, S.2.2.2) ++ []) (S.1, u345.2.2, u345.2.1, S.2.2.2).1  u347 e348 ws hW) gL_law_X9_fits rfl rfl z_X9_fits ⟨(Nat.le_of_ble_eq_true rfl), (Nat.le_of_ble_eq_true rfl)⟩ he rfl rfl rfl (Nat.le_of_ble_eq_true rfl) dL_law_1973 ⟨(by show (kc + 1) + 1 ≤ room_1.cells; omega), (by show (ks + 6) + 4 ≤ room_1.slots; omega)⟩ ?_
  rintro _ ws ⟨rfl, hW⟩
  have hW : LW cc g ga xo xd ad (u347.2, (S.1, u345.2.2, u345.2.1, S.2.2.2).2) [] ws := hW
  refine q_nm (wz := ws) (ka := kc + 2) (kb := ks + 10) (sz := [.int (q_b u347.1)]) rfl (by omega) (by omega) rfl ?_
  refine q_istore (pc := 1976) (lvq := [(7, .int (q_b u347.1)), (6, .int u345.1), (0, .ref b), (1, .ref (g 0)), (2, .ref (ga 0)), (3, .ref xo), (4, .ref xd), (5, .int v5)]) C dL_law_1976 (by decide) rfl ?_
  refine q_aload_n (pc := 1978) C dL_law_1978 rfl 4 rfl ?_
  obtain ⟨u349, e350, hf⟩ := q_bind hf
  obtain ⟨_, he⟩ := hW.obj
  refine q_callV (pc := 1979) (As := []) (rest := []) C (c_X9_thrown l D cc N0 ga ad  (LG cc g xo xd (u347.2, (S.1, u345.2.2, u345.2.1, S.2.2.2).2) ++ []) (u347.2, (S.1, u345.2.2, u345.2.1, S.2.2.2).2).1  u349 e350 ws hW) gL_law_X9_thrown rfl rfl z_X9_thrown ⟨(Nat.le_of_ble_eq_true rfl), (Nat.le_of_ble_eq_true rfl)⟩ he rfl rfl rfl (Nat.le_of_ble_eq_true rfl) dL_law_1979 ⟨(by show (kc + 2) + 0 ≤ room_1.cells; omega), (by show (ks + 10) + 0 ≤ room_1.slots; omega)⟩ ?_
  rintro _ ws ⟨rfl, hW⟩
  have hW : LW cc g ga xo xd ad (u347.2, (S.1, u345.2.2, u345.2.1, S.2.2.2).2) [] ws := hW
  refine q_nm (wz := ws) (ka := kc + 2) (kb := ks + 10) (sz := [.int u349]) rfl (by omega) (by omega) rfl ?_
  refine q_iload (pc := 1982) C dL_law_1982 1 rfl ?_
  refine q_icmp_eq (pc := 1984) (tgt := 1989) C dL_law_1984 (by decide) (fun c351 => ?_) (fun c351 => ?_)
  · have hf := q_iteT hf c351
    refine q_iload (pc := 1989) C dL_law_1989 1 rfl ?_
    refine q_if_ne (pc := 1991) (tgt := 2013) C dL_law_1991 (by decide) (fun c352 => ?_) (fun c352 => ?_)
    · have hf := q_iteF hf c352
      refine q_sub (lvq := [(0, .ref b), (1, .ref (g 0)), (2, .ref (ga 0)), (3, .ref xo), (4, .ref xd), (5, .int v5)]) [2, 3, 4, 5, 6, 7] rfl ?_
      exact w_L_law_2013 C CS hQ hk28 (kc + 2) (ks + 10) v5 (u347.2, (S.1, u345.2.2, u345.2.1, S.2.2.2).2) ad ws hf hW
    · have hf := q_iteT hf c352
      refine q_aload_n (pc := 1994) C dL_law_1994 rfl 5 rfl ?_
      refine q_iconst (pc := 1995) C (0 : Int32) dL_law_1995 q_ci_0 ?_
      refine LW.lald (pc := 1996) hW C dL_law_1996 ?_
      refine q_iload (pc := 1997) C dL_law_1997 0 rfl ?_
      refine q_if_eq (pc := 1999) (tgt := 2006) C dL_law_1999 (by decide) (fun c353 => ?_) (fun c353 => ?_)
      · have hf := q_iteT hf c353
        refine q_lconst (pc := 2006) C (0 : Int64) dL_law_2006 q_cl_0 ?_
        refine q_sub (lvq := [(0, .ref b), (1, .ref (g 0)), (2, .ref (ga 0)), (3, .ref xo), (4, .ref xd), (5, .int v5)]) [2, 3, 4, 5, 6, 7] rfl ?_
        exact w_L_law_2007 C CS hQ hk28 (kc + 2) (ks + 10) v5 (0 : Int64) ((u347.2, (S.1, u345.2.2, u345.2.1, S.2.2.2).2).2.2.1 0) (u347.2, (S.1, u345.2.2, u345.2.1, S.2.2.2).2) ad ws hf hW
      · have hf := q_iteF hf c353
        refine q_lconst (pc := 2002) C (1 : Int64) dL_law_2002 q_cl_1 ?_
        refine q_goto (pc := 2003) (tgt := 2007) C dL_law_2003 (by decide) ?_
        refine q_sub (lvq := [(0, .ref b), (1, .ref (g 0)), (2, .ref (ga 0)), (3, .ref xo), (4, .ref xd), (5, .int v5)]) [2, 3, 4, 5, 6, 7] rfl ?_
        exact w_L_law_2007 C CS hQ hk28 (kc + 2) (ks + 10) v5 (1 : Int64) ((u347.2, (S.1, u345.2.2, u345.2.1, S.2.2.2).2).2.2.1 0) (u347.2, (S.1, u345.2.2, u345.2.1, S.2.2.2).2) ad ws hf hW
  · have hf := q_iteF hf c351
    refine q_iconst (pc := 1987) C (0 : Int32) dL_law_1987 q_ci_0 ?_
    cases hf
set_option maxRecDepth 100000 in
set_option maxHeartbeats 8000000 in
theorem w_L_law_2057 {p : Program} {l : Launch} {e : Env} {s : State} {m : MethodId} {args : Array Value} {below : List Frame} {meth : Method} {c : Code} {D : va_G} {cc : Nat → ClassId} {N0 : Nat} {Q : State → Prop} {g ga : Nat → Nat} {xo xd b L : Nat} {xs : Nat → Int32} {k28 : Nat → Nat → Int32 → LSt → Option Bool} (C : q_C p s m args meth c cL_law 9 (some .boolean) wsL_law RL D cc N0) (CS : l.stackTraces = false ∧ va_X b L xs s s.heap ∧ b < s.heap.size ∧ ¬ q_A N0 b) (hQ : ∀ (kc ks : Nat) (ws : va_W) (pc : Nat) (lv : List (Nat × Value)), kc ≤ room_1.cells → ks ≤ room_1.slots → decode cL_law pc = .ok (.ireturn, 1) → q_WA p l e room_1 s m args below meth c D N0 9 Q kc ks ws pc lv [.int 1]) (hk28 : ∀ (kc ks : Nat) (v5 : Int32) (S : LSt) (ad : Nat → Nat → Nat) (ws : va_W), k28 kc ks v5 S = some true → LW cc g ga xo xd ad S [] ws → q_WA p l e room_1 s m args below meth c D N0 9 Q kc ks ws 28 [(0, .ref b), (1, .ref (g 0)), (2, .ref (ga 0)), (3, .ref xo), (4, .ref xd), (5, .int v5)] []) (kc ks : Nat) (v5 : Int32) (S : LSt) (ad : Nat → Nat → Nat) (ws : va_W) : f_L_law_2057 L xs k28 kc ks v5 S = some true → LW cc g ga xo xd ad S [] ws → q_WA p l e room_1 s m args below meth c D N0 9 Q kc ks ws 2057 [(0, .ref b), (1, .ref (g 0)), (2, .ref (ga 0)), (3, .ref xo), (4, .ref xd), (5, .int v5)] [] := by
  intro hf hW
  refine q_goto (pc := 2057) (tgt := 2537) C dL_law_2057 (by decide) ?_
  refine q_sub (lvq := [(0, .ref b), (1, .ref (g 0)), (2, .ref (ga 0)), (3, .ref xo), (4, .ref xd), (5, .int v5)]) [0, 1, 2, 3, 4, 5] rfl ?_
  exact w_L_law_2537 C CS hQ hk28 (kc) (ks) v5 S ad ws hf hW
set_option maxRecDepth 100000 in
set_option maxHeartbeats 8000000 in
theorem w_L_law_2016 {p : Program} {l : Launch} {e : Env} {s : State} {m : MethodId} {args : Array Value} {below : List Frame} {meth : Method} {c : Code} {D : va_G} {cc : Nat → ClassId} {N0 : Nat} {Q : State → Prop} {g ga : Nat → Nat} {xo xd b L : Nat} {xs : Nat → Int32} {k28 : Nat → Nat → Int32 → LSt → Option Bool} (C : q_C p s m args meth c cL_law 9 (some .boolean) wsL_law RL D cc N0) (CS : l.stackTraces = false ∧ va_X b L xs s s.heap ∧ b < s.heap.size ∧ ¬ q_A N0 b) (hQ : ∀ (kc ks : Nat) (ws : va_W) (pc : Nat) (lv : List (Nat × Value)), kc ≤ room_1.cells → ks ≤ room_1.slots → decode cL_law pc = .ok (.ireturn, 1) → q_WA p l e room_1 s m args below meth c D N0 9 Q kc ks ws pc lv [.int 1]) (hk28 : ∀ (kc ks : Nat) (v5 : Int32) (S : LSt) (ad : Nat → Nat → Nat) (ws : va_W), k28 kc ks v5 S = some true → LW cc g ga xo xd ad S [] ws → q_WA p l e room_1 s m args below meth c D N0 9 Q kc ks ws 28 [(0, .ref b), (1, .ref (g 0)), (2, .ref (ga 0)), (3, .ref xo), (4, .ref xd), (5, .int v5)] []) (kc ks : Nat) (v5 : Int32) (S : LSt) (ad : Nat → Nat → Nat) (ws : va_W) : f_L_law_2016 L xs k28 kc ks v5 S = some true → LW cc g ga xo xd ad S [] ws → q_WA p l e room_1 s m args below meth c D N0 9 Q kc ks ws 2016 [(0, .ref b), (1, .ref (g 0)), (2, .ref (ga 0)), (3, .ref xo), (4, .ref xd), (5, .int v5)] [] := by
  intro hf hW
  obtain ⟨hr, hf⟩ := q_gd hf
  obtain ⟨hr1, hr2⟩ := hr
  refine q_aload_n (pc := 2016) C dL_law_2016 rfl 1 rfl ?_
  refine q_aload_n (pc := 2017) C dL_law_2017 rfl 3 rfl ?_
  obtain ⟨u355, e356, hf⟩ := q_bind hf
  obtain ⟨T, hp, hb⟩ := hW.cls
  refine q_perm hp ?_
  refine q_callSH (pc := 2018) (As := [.ref (g 0), .ref xo]) (rest := []) C (c_L_fewest l CS.1 D cc N0 g xo (ld5 cc xd S.2.2.2 :: T) S.2.1 S.2.2.1 u355 e356) gL_law_L_fewest rfl z_L_fewest ⟨(Nat.le_of_ble_eq_true rfl), (Nat.le_of_ble_eq_true rfl)⟩ rfl rfl (Nat.le_of_ble_eq_true rfl) dL_law_2018 ⟨(by show (kc) + 1 ≤ room_1.cells; omega), (by show (ks) + 6 ≤ room_1.slots; omega)⟩ ?_
  rintro _ _ ⟨rfl, rfl⟩
  have hW := hb (S.1, u355.2.2, u355.2.1, S.2.2.2) rfl
  refine LW.ren hW (fun ws hW => ?_)
  refine q_nm (wz := ws) (ka := kc + 1) (kb := ks + 6) (sz := [.int u355.1]) rfl (by omega) (by omega) rfl ?_
  refine q_istore (pc := 2021) (lvq := [(6, .int u355.1), (0, .ref b), (1, .ref (g 0)), (2, .ref (ga 0)), (3, .ref xo), (4, .ref xd), (5, .int v5)]) C dL_law_2021 (by decide) rfl ?_
  refine q_aload_n (pc := 2023) C dL_law_2023 rfl 3 rfl ?_
  obtain ⟨u357, e358, hf⟩ := q_bind hf
  obtain ⟨_, he⟩ := hW.obj
  refine q_callV (pc := 2024) (As := []) (rest := []) C (c_X9_fewest l D cc N0 ga ad  (LG cc g xo xd (S.1, u355.2.2, u355.2.1, S.2.2.2) ++ []) (S.1, u355.2.2, u355.2.1, S.2.2.2).1  u357 e358 ws hW) gL_law_X9_fewest rfl rfl z_X9_fewest ⟨(Nat.le_of_ble_eq_true rfl), (Nat.le_of_ble_eq_true rfl)⟩ he rfl rfl rfl (Nat.le_of_ble_eq_true rfl) dL_law_2024 ⟨(by show (kc + 1) + 746 ≤ room_1.cells; omega), (by show (ks + 6) + 2984 ≤ room_1.slots; omega)⟩ ?_
  rintro _ ws ⟨rfl, hW⟩
  have hW : LW cc g ga xo xd ad (u357.2, (S.1, u355.2.2, u355.2.1, S.2.2.2).2) [] ws := hW
  refine q_nm (wz := ws) (ka := kc + 747) (kb := ks + 2990) (sz := [.int u357.1]) rfl (by omega) (by omega) rfl ?_
  refine q_istore (pc := 2027) (lvq := [(7, .int u357.1), (6, .int u355.1), (0, .ref b), (1, .ref (g 0)), (2, .ref (ga 0)), (3, .ref xo), (4, .ref xd), (5, .int v5)]) C dL_law_2027 (by decide) rfl ?_
  refine q_aload_n (pc := 2029) C dL_law_2029 rfl 4 rfl ?_
  obtain ⟨u359, e360, hf⟩ := q_bind hf
  obtain ⟨_, he⟩ := hW.obj
  refine q_callV (pc := 2030) (As := []) (rest := []) C (c_X9_thrown l D cc N0 ga ad  (LG cc g xo xd (u357.2, (S.1, u355.2.2, u355.2.1, S.2.2.2).2) ++ []) (u357.2, (S.1, u355.2.2, u355.2.1, S.2.2.2).2).1  u359 e360 ws hW) gL_law_X9_thrown rfl rfl z_X9_thrown ⟨(Nat.le_of_ble_eq_true rfl), (Nat.le_of_ble_eq_true rfl)⟩ he rfl rfl rfl (Nat.le_of_ble_eq_true rfl) dL_law_2030 ⟨(by show (kc + 747) + 0 ≤ room_1.cells; omega), (by show (ks + 2990) + 0 ≤ room_1.slots; omega)⟩ ?_
  rintro _ ws ⟨rfl, hW⟩
  have hW : LW cc g ga xo xd ad (u357.2, (S.1, u355.2.2, u355.2.1, S.2.2.2).2) [] ws := hW
  refine q_nm (wz := ws) (ka := kc + 747) (kb := ks + 2990) (sz := [.int u359]) rfl (by omega) (by omega) rfl ?_
  refine q_iload (pc := 2033) C dL_law_2033 1 rfl ?_
  refine q_icmp_eq (pc := 2035) (tgt := 2040) C dL_law_2035 (by decide) (fun c361 => ?_) (fun c361 => ?_)
  · have hf := q_iteT hf c361
    refine q_iload (pc := 2040) C dL_law_2040 1 rfl ?_
    refine q_if_ne (pc := 2042) (tgt := 2057) C dL_law_2042 (by decide) (fun c362 => ?_) (fun c362 => ?_)
    · have hf := q_iteF hf c362
      refine q_sub (lvq := [(0, .ref b), (1, .ref (g 0)), (2, .ref (ga 0)), (3, .ref xo), (4, .ref xd), (5, .int v5)]) [2, 3, 4, 5, 6, 7] rfl ?_
      exact w_L_law_2057 C CS hQ hk28 (kc + 747) (ks + 2990) v5 (u357.2, (S.1, u355.2.2, u355.2.1, S.2.2.2).2) ad ws hf hW
    · have hf := q_iteT hf c362
      refine q_aload_n (pc := 2045) C dL_law_2045 rfl 5 rfl ?_
      refine q_iconst (pc := 2046) C (0 : Int32) dL_law_2046 q_ci_0 ?_
      refine LW.lald (pc := 2047) hW C dL_law_2047 ?_
      refine q_iload (pc := 2048) C dL_law_2048 0 rfl ?_
      refine q_i2l (pc := 2050) C dL_law_2050 rfl ?_
      refine q_lcmp (pc := 2051) C dL_law_2051 ?_
      refine q_if_eq (pc := 2052) (tgt := 2057) C dL_law_2052 (by decide) (fun c363 => ?_) (fun c363 => ?_)
      · have hf := q_iteT hf c363
        refine q_sub (lvq := [(0, .ref b), (1, .ref (g 0)), (2, .ref (ga 0)), (3, .ref xo), (4, .ref xd), (5, .int v5)]) [2, 3, 4, 5, 6, 7] rfl ?_
        exact w_L_law_2057 C CS hQ hk28 (kc + 747) (ks + 2990) v5 (u357.2, (S.1, u355.2.2, u355.2.1, S.2.2.2).2) ad ws hf hW
      · have hf := q_iteF hf c363
        refine q_iconst (pc := 2055) C (0 : Int32) dL_law_2055 q_ci_0 ?_
        cases hf
  · have hf := q_iteF hf c361
    refine q_iconst (pc := 2038) C (0 : Int32) dL_law_2038 q_ci_0 ?_
    cases hf
set_option maxRecDepth 100000 in
set_option maxHeartbeats 8000000 in
theorem w_L_law_2113 {p : Program} {l : Launch} {e : Env} {s : State} {m : MethodId} {args : Array Value} {below : List Frame} {meth : Method} {c : Code} {D : va_G} {cc : Nat → ClassId} {N0 : Nat} {Q : State → Prop} {g ga : Nat → Nat} {xo xd b L : Nat} {xs : Nat → Int32} {k28 : Nat → Nat → Int32 → LSt → Option Bool} (C : q_C p s m args meth c cL_law 9 (some .boolean) wsL_law RL D cc N0) (CS : l.stackTraces = false ∧ va_X b L xs s s.heap ∧ b < s.heap.size ∧ ¬ q_A N0 b) (hQ : ∀ (kc ks : Nat) (ws : va_W) (pc : Nat) (lv : List (Nat × Value)), kc ≤ room_1.cells → ks ≤ room_1.slots → decode cL_law pc = .ok (.ireturn, 1) → q_WA p l e room_1 s m args below meth c D N0 9 Q kc ks ws pc lv [.int 1]) (hk28 : ∀ (kc ks : Nat) (v5 : Int32) (S : LSt) (ad : Nat → Nat → Nat) (ws : va_W), k28 kc ks v5 S = some true → LW cc g ga xo xd ad S [] ws → q_WA p l e room_1 s m args below meth c D N0 9 Q kc ks ws 28 [(0, .ref b), (1, .ref (g 0)), (2, .ref (ga 0)), (3, .ref xo), (4, .ref xd), (5, .int v5)] []) (kc ks : Nat) (v5 : Int32) (S : LSt) (ad : Nat → Nat → Nat) (ws : va_W) : f_L_law_2113 L xs k28 kc ks v5 S = some true → LW cc g ga xo xd ad S [] ws → q_WA p l e room_1 s m args below meth c D N0 9 Q kc ks ws 2113 [(0, .ref b), (1, .ref (g 0)), (2, .ref (ga 0)), (3, .ref xo), (4, .ref xd), (5, .int v5)] [] := by
  intro hf hW
  refine q_goto (pc := 2113) (tgt := 2537) C dL_law_2113 (by decide) ?_
  refine q_sub (lvq := [(0, .ref b), (1, .ref (g 0)), (2, .ref (ga 0)), (3, .ref xo), (4, .ref xd), (5, .int v5)]) [0, 1, 2, 3, 4, 5] rfl ?_
  exact w_L_law_2537 C CS hQ hk28 (kc) (ks) v5 S ad ws hf hW
set_option maxRecDepth 100000 in
set_option maxHeartbeats 8000000 in
theorem w_L_law_2060 {p : Program} {l : Launch} {e : Env} {s : State} {m : MethodId} {args : Array Value} {below : List Frame} {meth : Method} {c : Code} {D : va_G} {cc : Nat → ClassId} {N0 : Nat} {Q : State → Prop} {g ga : Nat → Nat} {xo xd b L : Nat} {xs : Nat → Int32} {k28 : Nat → Nat → Int32 → LSt → Option Bool} (C : q_C p s m args meth c cL_law 9 (some .boolean) wsL_law RL D cc N0) (CS : l.stackTraces = false ∧ va_X b L xs s s.heap ∧ b < s.heap.size ∧ ¬ q_A N0 b) (hQ : ∀ (kc ks : Nat) (ws : va_W) (pc : Nat) (lv : List (Nat × Value)), kc ≤ room_1.cells → ks ≤ room_1.slots → decode cL_law pc = .ok (.ireturn, 1) → q_WA p l e room_1 s m args below meth c D N0 9 Q kc ks ws pc lv [.int 1]) (hk28 : ∀ (kc ks : Nat) (v5 : Int32) (S : LSt) (ad : Nat → Nat → Nat) (ws : va_W), k28 kc ks v5 S = some true → LW cc g ga xo xd ad S [] ws → q_WA p l e room_1 s m args below meth c D N0 9 Q kc ks ws 28 [(0, .ref b), (1, .ref (g 0)), (2, .ref (ga 0)), (3, .ref xo), (4, .ref xd), (5, .int v5)] []) (kc ks : Nat) (v5 : Int32) (S : LSt) (ad : Nat → Nat → Nat) (ws : va_W) : f_L_law_2060 L xs k28 kc ks v5 S = some true → LW cc g ga xo xd ad S [] ws → q_WA p l e room_1 s m args below meth c D N0 9 Q kc ks ws 2060 [(0, .ref b), (1, .ref (g 0)), (2, .ref (ga 0)), (3, .ref xo), (4, .ref xd), (5, .int v5)] [] := by
  intro hf hW
  obtain ⟨hr, hf⟩ := q_gd hf
  obtain ⟨hr1, hr2⟩ := hr
  refine q_aload_n (pc := 2060) C dL_law_2060 rfl 1 rfl ?_
  refine q_aload_n (pc := 2061) C dL_law_2061 rfl 0 rfl ?_
  refine q_iload (pc := 2062) C dL_law_2062 5 rfl ?_
  refine q_iconst (pc := 2064) C (1 : Int32) dL_law_2064 q_ci_1 ?_
  refine q_iadd (pc := 2065) C dL_law_2065 ?_
  obtain ⟨g364, hf⟩ := q_gd hf
  refine q_sld (pc := 2066) C CS.2.1 CS.2.2.1 CS.2.2.2 g364 dL_law_2066 ?_
  refine q_aload_n (pc := 2067) C dL_law_2067 rfl 3 rfl ?_
  obtain ⟨u365, e366, hf⟩ := q_bind hf
  obtain ⟨T, hp, hb⟩ := hW.cls
  refine q_perm hp ?_
  refine q_callSH (pc := 2068) (As := [.ref (g 0), .int (xs (v5 + (1 : Int32)).toNatClampNeg), .ref xo]) (rest := []) C (c_L_secret l CS.1 D cc N0 g xo (ld5 cc xd S.2.2.2 :: T) S.2.1 (xs (v5 + (1 : Int32)).toNatClampNeg) S.2.2.1 u365 e366) gL_law_L_secret rfl z_L_secret ⟨(Nat.le_of_ble_eq_true rfl), (Nat.le_of_ble_eq_true rfl)⟩ rfl rfl (Nat.le_of_ble_eq_true rfl) dL_law_2068 ⟨(by show (kc) + 1 ≤ room_1.cells; omega), (by show (ks) + 6 ≤ room_1.slots; omega)⟩ ?_
  rintro _ _ ⟨rfl, rfl⟩
  have hW := hb (S.1, u365.2.2, u365.2.1, S.2.2.2) rfl
  refine LW.ren hW (fun ws hW => ?_)
  refine q_nm (wz := ws) (ka := kc + 1) (kb := ks + 6) (sz := [.int u365.1]) rfl (by omega) (by omega) rfl ?_
  refine q_istore (pc := 2071) (lvq := [(6, .int u365.1), (0, .ref b), (1, .ref (g 0)), (2, .ref (ga 0)), (3, .ref xo), (4, .ref xd), (5, .int v5)]) C dL_law_2071 (by decide) rfl ?_
  refine q_aload_n (pc := 2073) C dL_law_2073 rfl 3 rfl ?_
  refine q_aload_n (pc := 2074) C dL_law_2074 rfl 1 rfl ?_
  refine q_iload (pc := 2075) C dL_law_2075 6 rfl ?_
  refine q_iconst (pc := 2077) C (1 : Int32) dL_law_2077 q_ci_1 ?_
  refine q_iadd (pc := 2078) C dL_law_2078 ?_
  obtain ⟨g367, hf⟩ := q_gd hf
  refine q_sld (pc := 2079) C CS.2.1 CS.2.2.1 CS.2.2.2 g367 dL_law_2079 ?_
  obtain ⟨u368, e369, hf⟩ := q_bind hf
  obtain ⟨_, he⟩ := hW.obj
  refine q_callV (pc := 2080) (As := [.int (xs (v5 + (1 : Int32)).toNatClampNeg)]) (rest := []) C (c_X9_secret l D cc N0 ga ad  (LG cc g xo xd (S.1, u365.2.2, u365.2.1, S.2.2.2) ++ []) (S.1, u365.2.2, u365.2.1, S.2.2.2).1 (xs (v5 + (1 : Int32)).toNatClampNeg) u368 e369 ws hW) gL_law_X9_secret rfl rfl z_X9_secret ⟨(Nat.le_of_ble_eq_true rfl), (Nat.le_of_ble_eq_true rfl)⟩ he rfl rfl rfl (Nat.le_of_ble_eq_true rfl) dL_law_2080 ⟨(by show (kc + 1) + 0 ≤ room_1.cells; omega), (by show (ks + 6) + 0 ≤ room_1.slots; omega)⟩ ?_
  rintro _ ws ⟨rfl, hW⟩
  have hW : LW cc g ga xo xd ad (u368.2, (S.1, u365.2.2, u365.2.1, S.2.2.2).2) [] ws := hW
  refine q_nm (wz := ws) (ka := kc + 1) (kb := ks + 6) (sz := [.int u368.1]) rfl (by omega) (by omega) rfl ?_
  refine q_istore (pc := 2083) (lvq := [(7, .int u368.1), (6, .int u365.1), (0, .ref b), (1, .ref (g 0)), (2, .ref (ga 0)), (3, .ref xo), (4, .ref xd), (5, .int v5)]) C dL_law_2083 (by decide) rfl ?_
  refine q_aload_n (pc := 2085) C dL_law_2085 rfl 4 rfl ?_
  obtain ⟨u370, e371, hf⟩ := q_bind hf
  obtain ⟨_, he⟩ := hW.obj
  refine q_callV (pc := 2086) (As := []) (rest := []) C (c_X9_thrown l D cc N0 ga ad  (LG cc g xo xd (u368.2, (S.1, u365.2.2, u365.2.1, S.2.2.2).2) ++ []) (u368.2, (S.1, u365.2.2, u365.2.1, S.2.2.2).2).1  u370 e371 ws hW) gL_law_X9_thrown rfl rfl z_X9_thrown ⟨(Nat.le_of_ble_eq_true rfl), (Nat.le_of_ble_eq_true rfl)⟩ he rfl rfl rfl (Nat.le_of_ble_eq_true rfl) dL_law_2086 ⟨(by show (kc + 1) + 0 ≤ room_1.cells; omega), (by show (ks + 6) + 0 ≤ room_1.slots; omega)⟩ ?_
  rintro _ ws ⟨rfl, hW⟩
  have hW : LW cc g ga xo xd ad (u368.2, (S.1, u365.2.2, u365.2.1, S.2.2.2).2) [] ws := hW
  refine q_nm (wz := ws) (ka := kc + 1) (kb := ks + 6) (sz := [.int u370]) rfl (by omega) (by omega) rfl ?_
  refine q_iload (pc := 2089) C dL_law_2089 1 rfl ?_
  refine q_icmp_eq (pc := 2091) (tgt := 2096) C dL_law_2091 (by decide) (fun c372 => ?_) (fun c372 => ?_)
  · have hf := q_iteT hf c372
    refine q_iload (pc := 2096) C dL_law_2096 1 rfl ?_
    refine q_if_ne (pc := 2098) (tgt := 2113) C dL_law_2098 (by decide) (fun c373 => ?_) (fun c373 => ?_)
    · have hf := q_iteF hf c373
      refine q_sub (lvq := [(0, .ref b), (1, .ref (g 0)), (2, .ref (ga 0)), (3, .ref xo), (4, .ref xd), (5, .int v5)]) [2, 3, 4, 5, 6, 7] rfl ?_
      exact w_L_law_2113 C CS hQ hk28 (kc + 1) (ks + 6) v5 (u368.2, (S.1, u365.2.2, u365.2.1, S.2.2.2).2) ad ws hf hW
    · have hf := q_iteT hf c373
      refine q_aload_n (pc := 2101) C dL_law_2101 rfl 5 rfl ?_
      refine q_iconst (pc := 2102) C (0 : Int32) dL_law_2102 q_ci_0 ?_
      refine LW.lald (pc := 2103) hW C dL_law_2103 ?_
      refine q_iload (pc := 2104) C dL_law_2104 0 rfl ?_
      refine q_i2l (pc := 2106) C dL_law_2106 rfl ?_
      refine q_lcmp (pc := 2107) C dL_law_2107 ?_
      refine q_if_eq (pc := 2108) (tgt := 2113) C dL_law_2108 (by decide) (fun c374 => ?_) (fun c374 => ?_)
      · have hf := q_iteT hf c374
        refine q_sub (lvq := [(0, .ref b), (1, .ref (g 0)), (2, .ref (ga 0)), (3, .ref xo), (4, .ref xd), (5, .int v5)]) [2, 3, 4, 5, 6, 7] rfl ?_
        exact w_L_law_2113 C CS hQ hk28 (kc + 1) (ks + 6) v5 (u368.2, (S.1, u365.2.2, u365.2.1, S.2.2.2).2) ad ws hf hW
      · have hf := q_iteF hf c374
        refine q_iconst (pc := 2111) C (0 : Int32) dL_law_2111 q_ci_0 ?_
        cases hf
  · have hf := q_iteF hf c372
    refine q_iconst (pc := 2094) C (0 : Int32) dL_law_2094 q_ci_0 ?_
    cases hf
set_option maxRecDepth 100000 in
set_option maxHeartbeats 8000000 in
theorem w_L_law_2169 {p : Program} {l : Launch} {e : Env} {s : State} {m : MethodId} {args : Array Value} {below : List Frame} {meth : Method} {c : Code} {D : va_G} {cc : Nat → ClassId} {N0 : Nat} {Q : State → Prop} {g ga : Nat → Nat} {xo xd b L : Nat} {xs : Nat → Int32} {k28 : Nat → Nat → Int32 → LSt → Option Bool} (C : q_C p s m args meth c cL_law 9 (some .boolean) wsL_law RL D cc N0) (CS : l.stackTraces = false ∧ va_X b L xs s s.heap ∧ b < s.heap.size ∧ ¬ q_A N0 b) (hQ : ∀ (kc ks : Nat) (ws : va_W) (pc : Nat) (lv : List (Nat × Value)), kc ≤ room_1.cells → ks ≤ room_1.slots → decode cL_law pc = .ok (.ireturn, 1) → q_WA p l e room_1 s m args below meth c D N0 9 Q kc ks ws pc lv [.int 1]) (hk28 : ∀ (kc ks : Nat) (v5 : Int32) (S : LSt) (ad : Nat → Nat → Nat) (ws : va_W), k28 kc ks v5 S = some true → LW cc g ga xo xd ad S [] ws → q_WA p l e room_1 s m args below meth c D N0 9 Q kc ks ws 28 [(0, .ref b), (1, .ref (g 0)), (2, .ref (ga 0)), (3, .ref xo), (4, .ref xd), (5, .int v5)] []) (kc ks : Nat) (v5 : Int32) (S : LSt) (ad : Nat → Nat → Nat) (ws : va_W) : f_L_law_2169 L xs k28 kc ks v5 S = some true → LW cc g ga xo xd ad S [] ws → q_WA p l e room_1 s m args below meth c D N0 9 Q kc ks ws 2169 [(0, .ref b), (1, .ref (g 0)), (2, .ref (ga 0)), (3, .ref xo), (4, .ref xd), (5, .int v5)] [] := by
  intro hf hW
  refine q_goto (pc := 2169) (tgt := 2537) C dL_law_2169 (by decide) ?_
  refine q_sub (lvq := [(0, .ref b), (1, .ref (g 0)), (2, .ref (ga 0)), (3, .ref xo), (4, .ref xd), (5, .int v5)]) [0, 1, 2, 3, 4, 5] rfl ?_
  exact w_L_law_2537 C CS hQ hk28 (kc) (ks) v5 S ad ws hf hW
set_option maxRecDepth 100000 in
set_option maxHeartbeats 8000000 in
theorem w_L_law_2116 {p : Program} {l : Launch} {e : Env} {s : State} {m : MethodId} {args : Array Value} {below : List Frame} {meth : Method} {c : Code} {D : va_G} {cc : Nat → ClassId} {N0 : Nat} {Q : State → Prop} {g ga : Nat → Nat} {xo xd b L : Nat} {xs : Nat → Int32} {k28 : Nat → Nat → Int32 → LSt → Option Bool} (C : q_C p s m args meth c cL_law 9 (some .boolean) wsL_law RL D cc N0) (CS : l.stackTraces = false ∧ va_X b L xs s s.heap ∧ b < s.heap.size ∧ ¬ q_A N0 b) (hQ : ∀ (kc ks : Nat) (ws : va_W) (pc : Nat) (lv : List (Nat × Value)), kc ≤ room_1.cells → ks ≤ room_1.slots → decode cL_law pc = .ok (.ireturn, 1) → q_WA p l e room_1 s m args below meth c D N0 9 Q kc ks ws pc lv [.int 1]) (hk28 : ∀ (kc ks : Nat) (v5 : Int32) (S : LSt) (ad : Nat → Nat → Nat) (ws : va_W), k28 kc ks v5 S = some true → LW cc g ga xo xd ad S [] ws → q_WA p l e room_1 s m args below meth c D N0 9 Q kc ks ws 28 [(0, .ref b), (1, .ref (g 0)), (2, .ref (ga 0)), (3, .ref xo), (4, .ref xd), (5, .int v5)] []) (kc ks : Nat) (v5 : Int32) (S : LSt) (ad : Nat → Nat → Nat) (ws : va_W) : f_L_law_2116 L xs k28 kc ks v5 S = some true → LW cc g ga xo xd ad S [] ws → q_WA p l e room_1 s m args below meth c D N0 9 Q kc ks ws 2116 [(0, .ref b), (1, .ref (g 0)), (2, .ref (ga 0)), (3, .ref xo), (4, .ref xd), (5, .int v5)] [] := by
  intro hf hW
  obtain ⟨hr, hf⟩ := q_gd hf
  obtain ⟨hr1, hr2⟩ := hr
  refine q_aload_n (pc := 2116) C dL_law_2116 rfl 1 rfl ?_
  refine q_aload_n (pc := 2117) C dL_law_2117 rfl 0 rfl ?_
  refine q_iload (pc := 2118) C dL_law_2118 5 rfl ?_
  refine q_iconst (pc := 2120) C (1 : Int32) dL_law_2120 q_ci_1 ?_
  refine q_iadd (pc := 2121) C dL_law_2121 ?_
  obtain ⟨g375, hf⟩ := q_gd hf
  refine q_sld (pc := 2122) C CS.2.1 CS.2.2.1 CS.2.2.2 g375 dL_law_2122 ?_
  refine q_aload_n (pc := 2123) C dL_law_2123 rfl 3 rfl ?_
  obtain ⟨u376, e377, hf⟩ := q_bind hf
  obtain ⟨T, hp, hb⟩ := hW.cls
  refine q_perm hp ?_
  refine q_callSH (pc := 2124) (As := [.ref (g 0), .int (xs (v5 + (1 : Int32)).toNatClampNeg), .ref xo]) (rest := []) C (c_L_guess l CS.1 D cc N0 g xo (ld5 cc xd S.2.2.2 :: T) S.2.1 (xs (v5 + (1 : Int32)).toNatClampNeg) S.2.2.1 u376 e377) gL_law_L_guess rfl z_L_guess ⟨(Nat.le_of_ble_eq_true rfl), (Nat.le_of_ble_eq_true rfl)⟩ rfl rfl (Nat.le_of_ble_eq_true rfl) dL_law_2124 ⟨(by show (kc) + 1 ≤ room_1.cells; omega), (by show (ks) + 6 ≤ room_1.slots; omega)⟩ ?_
  rintro _ _ ⟨rfl, rfl⟩
  have hW := hb (S.1, u376.2.2, u376.2.1, S.2.2.2) rfl
  refine LW.ren hW (fun ws hW => ?_)
  refine q_nm (wz := ws) (ka := kc + 1) (kb := ks + 6) (sz := [.int u376.1]) rfl (by omega) (by omega) rfl ?_
  refine q_istore (pc := 2127) (lvq := [(6, .int u376.1), (0, .ref b), (1, .ref (g 0)), (2, .ref (ga 0)), (3, .ref xo), (4, .ref xd), (5, .int v5)]) C dL_law_2127 (by decide) rfl ?_
  refine q_aload_n (pc := 2129) C dL_law_2129 rfl 3 rfl ?_
  refine q_aload_n (pc := 2130) C dL_law_2130 rfl 1 rfl ?_
  refine q_iload (pc := 2131) C dL_law_2131 6 rfl ?_
  refine q_iconst (pc := 2133) C (1 : Int32) dL_law_2133 q_ci_1 ?_
  refine q_iadd (pc := 2134) C dL_law_2134 ?_
  obtain ⟨g378, hf⟩ := q_gd hf
  refine q_sld (pc := 2135) C CS.2.1 CS.2.2.1 CS.2.2.2 g378 dL_law_2135 ?_
  obtain ⟨u379, e380, hf⟩ := q_bind hf
  obtain ⟨_, he⟩ := hW.obj
  refine q_callV (pc := 2136) (As := [.int (xs (v5 + (1 : Int32)).toNatClampNeg)]) (rest := []) C (c_X9_guess l D cc N0 ga ad  (LG cc g xo xd (S.1, u376.2.2, u376.2.1, S.2.2.2) ++ []) (S.1, u376.2.2, u376.2.1, S.2.2.2).1 (xs (v5 + (1 : Int32)).toNatClampNeg) u379 e380 ws hW) gL_law_X9_guess rfl rfl z_X9_guess ⟨(Nat.le_of_ble_eq_true rfl), (Nat.le_of_ble_eq_true rfl)⟩ he rfl rfl rfl (Nat.le_of_ble_eq_true rfl) dL_law_2136 ⟨(by show (kc + 1) + 2 ≤ room_1.cells; omega), (by show (ks + 6) + 102 ≤ room_1.slots; omega)⟩ ?_
  rintro _ ws ⟨rfl, ad, hW⟩
  have hW : LW cc g ga xo xd ad (u379.2, (S.1, u376.2.2, u376.2.1, S.2.2.2).2) [] ws := hW
  refine q_nm (wz := ws) (ka := kc + 3) (kb := ks + 108) (sz := [.int u379.1]) rfl (by omega) (by omega) rfl ?_
  refine q_istore (pc := 2139) (lvq := [(7, .int u379.1), (6, .int u376.1), (0, .ref b), (1, .ref (g 0)), (2, .ref (ga 0)), (3, .ref xo), (4, .ref xd), (5, .int v5)]) C dL_law_2139 (by decide) rfl ?_
  refine q_aload_n (pc := 2141) C dL_law_2141 rfl 4 rfl ?_
  obtain ⟨u381, e382, hf⟩ := q_bind hf
  obtain ⟨_, he⟩ := hW.obj
  refine q_callV (pc := 2142) (As := []) (rest := []) C (c_X9_thrown l D cc N0 ga ad  (LG cc g xo xd (u379.2, (S.1, u376.2.2, u376.2.1, S.2.2.2).2) ++ []) (u379.2, (S.1, u376.2.2, u376.2.1, S.2.2.2).2).1  u381 e382 ws hW) gL_law_X9_thrown rfl rfl z_X9_thrown ⟨(Nat.le_of_ble_eq_true rfl), (Nat.le_of_ble_eq_true rfl)⟩ he rfl rfl rfl (Nat.le_of_ble_eq_true rfl) dL_law_2142 ⟨(by show (kc + 3) + 0 ≤ room_1.cells; omega), (by show (ks + 108) + 0 ≤ room_1.slots; omega)⟩ ?_
  rintro _ ws ⟨rfl, hW⟩
  have hW : LW cc g ga xo xd ad (u379.2, (S.1, u376.2.2, u376.2.1, S.2.2.2).2) [] ws := hW
  refine q_nm (wz := ws) (ka := kc + 3) (kb := ks + 108) (sz := [.int u381]) rfl (by omega) (by omega) rfl ?_
  refine q_iload (pc := 2145) C dL_law_2145 1 rfl ?_
  refine q_icmp_eq (pc := 2147) (tgt := 2152) C dL_law_2147 (by decide) (fun c383 => ?_) (fun c383 => ?_)
  · have hf := q_iteT hf c383
    refine q_iload (pc := 2152) C dL_law_2152 1 rfl ?_
    refine q_if_ne (pc := 2154) (tgt := 2169) C dL_law_2154 (by decide) (fun c384 => ?_) (fun c384 => ?_)
    · have hf := q_iteF hf c384
      refine q_sub (lvq := [(0, .ref b), (1, .ref (g 0)), (2, .ref (ga 0)), (3, .ref xo), (4, .ref xd), (5, .int v5)]) [2, 3, 4, 5, 6, 7] rfl ?_
      exact w_L_law_2169 C CS hQ hk28 (kc + 3) (ks + 108) v5 (u379.2, (S.1, u376.2.2, u376.2.1, S.2.2.2).2) ad ws hf hW
    · have hf := q_iteT hf c384
      refine q_aload_n (pc := 2157) C dL_law_2157 rfl 5 rfl ?_
      refine q_iconst (pc := 2158) C (0 : Int32) dL_law_2158 q_ci_0 ?_
      refine LW.lald (pc := 2159) hW C dL_law_2159 ?_
      refine q_iload (pc := 2160) C dL_law_2160 0 rfl ?_
      refine q_i2l (pc := 2162) C dL_law_2162 rfl ?_
      refine q_lcmp (pc := 2163) C dL_law_2163 ?_
      refine q_if_eq (pc := 2164) (tgt := 2169) C dL_law_2164 (by decide) (fun c385 => ?_) (fun c385 => ?_)
      · have hf := q_iteT hf c385
        refine q_sub (lvq := [(0, .ref b), (1, .ref (g 0)), (2, .ref (ga 0)), (3, .ref xo), (4, .ref xd), (5, .int v5)]) [2, 3, 4, 5, 6, 7] rfl ?_
        exact w_L_law_2169 C CS hQ hk28 (kc + 3) (ks + 108) v5 (u379.2, (S.1, u376.2.2, u376.2.1, S.2.2.2).2) ad ws hf hW
      · have hf := q_iteF hf c385
        refine q_iconst (pc := 2167) C (0 : Int32) dL_law_2167 q_ci_0 ?_
        cases hf
  · have hf := q_iteF hf c383
    refine q_iconst (pc := 2150) C (0 : Int32) dL_law_2150 q_ci_0 ?_
    cases hf
set_option maxRecDepth 100000 in
set_option maxHeartbeats 8000000 in
theorem w_L_law_2172 {p : Program} {l : Launch} {e : Env} {s : State} {m : MethodId} {args : Array Value} {below : List Frame} {meth : Method} {c : Code} {D : va_G} {cc : Nat → ClassId} {N0 : Nat} {Q : State → Prop} {g ga : Nat → Nat} {xo xd b L : Nat} {xs : Nat → Int32} {k28 : Nat → Nat → Int32 → LSt → Option Bool} (C : q_C p s m args meth c cL_law 9 (some .boolean) wsL_law RL D cc N0) (CS : l.stackTraces = false ∧ va_X b L xs s s.heap ∧ b < s.heap.size ∧ ¬ q_A N0 b) (hQ : ∀ (kc ks : Nat) (ws : va_W) (pc : Nat) (lv : List (Nat × Value)), kc ≤ room_1.cells → ks ≤ room_1.slots → decode cL_law pc = .ok (.ireturn, 1) → q_WA p l e room_1 s m args below meth c D N0 9 Q kc ks ws pc lv [.int 1]) (hk28 : ∀ (kc ks : Nat) (v5 : Int32) (S : LSt) (ad : Nat → Nat → Nat) (ws : va_W), k28 kc ks v5 S = some true → LW cc g ga xo xd ad S [] ws → q_WA p l e room_1 s m args below meth c D N0 9 Q kc ks ws 28 [(0, .ref b), (1, .ref (g 0)), (2, .ref (ga 0)), (3, .ref xo), (4, .ref xd), (5, .int v5)] []) (kc ks : Nat) (v5 : Int32) (S : LSt) (ad : Nat → Nat → Nat) (ws : va_W) : f_L_law_2172 L xs k28 kc ks v5 S = some true → LW cc g ga xo xd ad S [] ws → q_WA p l e room_1 s m args below meth c D N0 9 Q kc ks ws 2172 [(0, .ref b), (1, .ref (g 0)), (2, .ref (ga 0)), (3, .ref xo), (4, .ref xd), (5, .int v5)] [] := by
  intro hf hW
  obtain ⟨hr, hf⟩ := q_gd hf
  obtain ⟨hr1, hr2⟩ := hr
  refine q_aload_n (pc := 2172) C dL_law_2172 rfl 1 rfl ?_
  obtain ⟨T, hp, hb⟩ := hW.cls
  refine q_perm hp ?_
  refine q_callV (pc := 2173) (As := []) (rest := []) C (c_X8_possible l D cc N0 g (lo4 cc xo S.2.2.1 :: ld5 cc xd S.2.2.2 :: T) S.2.1 _ rfl) gL_law_X8_possible rfl rfl z_X8_possible ⟨(Nat.le_of_ble_eq_true rfl), (Nat.le_of_ble_eq_true rfl)⟩ (cw_at_0 cc g _ _) rfl rfl rfl (Nat.le_of_ble_eq_true rfl) dL_law_2173 ⟨(by show (kc) + 0 ≤ room_1.cells; omega), (by show (ks) + 0 ≤ room_1.slots; omega)⟩ ?_
  rintro _ _ ⟨rfl, rfl⟩
  have hW := hb S rfl
  refine LW.ren hW (fun ws hW => ?_)
  refine q_nm (wz := ws) (ka := kc) (kb := ks) (sz := [.int (f_X8_possible S.2.1)]) rfl (by omega) (by omega) rfl ?_
  refine q_aload_n (pc := 2176) C dL_law_2176 rfl 2 rfl ?_
  obtain ⟨u388, e389, hf⟩ := q_bind hf
  obtain ⟨_, he⟩ := hW.obj
  refine q_callV (pc := 2177) (As := []) (rest := [.int (f_X8_possible S.2.1)]) C (c_X9_possible l D cc N0 ga ad  (LG cc g xo xd S ++ []) S.1  u388 e389 ws hW) gL_law_X9_possible rfl rfl z_X9_possible ⟨(Nat.le_of_ble_eq_true rfl), (Nat.le_of_ble_eq_true rfl)⟩ he rfl rfl rfl (Nat.le_of_ble_eq_true rfl) dL_law_2177 ⟨(by show (kc) + 340 ≤ room_1.cells; omega), (by show (ks) + 1360 ≤ room_1.slots; omega)⟩ ?_
  rintro _ ws ⟨rfl, hW⟩
  have hW : LW cc g ga xo xd ad (u388.2, S.2) [] ws := hW
  refine q_nm (wz := ws) (ka := kc + 340) (kb := ks + 1360) (sz := [.int u388.1, .int (f_X8_possible S.2.1)]) rfl (by omega) (by omega) rfl ?_
  refine q_icmp_eq (pc := 2180) (tgt := 2537) C dL_law_2180 (by decide) (fun c390 => ?_) (fun c390 => ?_)
  · have hf := q_iteT hf c390
    refine q_sub (lvq := [(0, .ref b), (1, .ref (g 0)), (2, .ref (ga 0)), (3, .ref xo), (4, .ref xd), (5, .int v5)]) [0, 1, 2, 3, 4, 5] rfl ?_
    exact w_L_law_2537 C CS hQ hk28 (kc + 340) (ks + 1360) v5 (u388.2, S.2) ad ws hf hW
  · have hf := q_iteF hf c390
    refine q_iconst (pc := 2183) C (0 : Int32) dL_law_2183 q_ci_0 ?_
    cases hf
set_option maxRecDepth 100000 in
set_option maxHeartbeats 8000000 in
theorem w_L_law_2185 {p : Program} {l : Launch} {e : Env} {s : State} {m : MethodId} {args : Array Value} {below : List Frame} {meth : Method} {c : Code} {D : va_G} {cc : Nat → ClassId} {N0 : Nat} {Q : State → Prop} {g ga : Nat → Nat} {xo xd b L : Nat} {xs : Nat → Int32} {k28 : Nat → Nat → Int32 → LSt → Option Bool} (C : q_C p s m args meth c cL_law 9 (some .boolean) wsL_law RL D cc N0) (CS : l.stackTraces = false ∧ va_X b L xs s s.heap ∧ b < s.heap.size ∧ ¬ q_A N0 b) (hQ : ∀ (kc ks : Nat) (ws : va_W) (pc : Nat) (lv : List (Nat × Value)), kc ≤ room_1.cells → ks ≤ room_1.slots → decode cL_law pc = .ok (.ireturn, 1) → q_WA p l e room_1 s m args below meth c D N0 9 Q kc ks ws pc lv [.int 1]) (hk28 : ∀ (kc ks : Nat) (v5 : Int32) (S : LSt) (ad : Nat → Nat → Nat) (ws : va_W), k28 kc ks v5 S = some true → LW cc g ga xo xd ad S [] ws → q_WA p l e room_1 s m args below meth c D N0 9 Q kc ks ws 28 [(0, .ref b), (1, .ref (g 0)), (2, .ref (ga 0)), (3, .ref xo), (4, .ref xd), (5, .int v5)] []) (kc ks : Nat) (v5 : Int32) (S : LSt) (ad : Nat → Nat → Nat) (ws : va_W) : f_L_law_2185 L xs k28 kc ks v5 S = some true → LW cc g ga xo xd ad S [] ws → q_WA p l e room_1 s m args below meth c D N0 9 Q kc ks ws 2185 [(0, .ref b), (1, .ref (g 0)), (2, .ref (ga 0)), (3, .ref xo), (4, .ref xd), (5, .int v5)] [] := by
  intro hf hW
  obtain ⟨hr, hf⟩ := q_gd hf
  obtain ⟨hr1, hr2⟩ := hr
  refine q_aload_n (pc := 2185) C dL_law_2185 rfl 1 rfl ?_
  obtain ⟨T, hp, hb⟩ := hW.cls
  obtain ⟨u391, e392, hf⟩ := q_bind hf
  refine q_perm hp ?_
  refine q_callV (pc := 2186) (As := []) (rest := []) C (c_X8_nextCode l D cc N0 g (lo4 cc xo S.2.2.1 :: ld5 cc xd S.2.2.2 :: T) S.2.1 u391 e392) gL_law_X8_nextCode rfl rfl z_X8_nextCode ⟨(Nat.le_of_ble_eq_true rfl), (Nat.le_of_ble_eq_true rfl)⟩ (cw_at_0 cc g _ _) rfl rfl rfl (Nat.le_of_ble_eq_true rfl) dL_law_2186 ⟨(by show (kc) + 0 ≤ room_1.cells; omega), (by show (ks) + 0 ≤ room_1.slots; omega)⟩ ?_
  rintro _ _ ⟨rfl, rfl⟩
  have hW := hb S rfl
  refine LW.ren hW (fun ws hW => ?_)
  refine q_nm (wz := ws) (ka := kc) (kb := ks) (sz := [.int u391]) rfl (by omega) (by omega) rfl ?_
  refine q_aload_n (pc := 2189) C dL_law_2189 rfl 2 rfl ?_
  obtain ⟨u393, e394, hf⟩ := q_bind hf
  obtain ⟨_, he⟩ := hW.obj
  refine q_callV (pc := 2190) (As := []) (rest := [.int u391]) C (c_X9_nextCode l D cc N0 ga ad  (LG cc g xo xd S ++ []) S.1  u393 e394 ws hW) gL_law_X9_nextCode rfl rfl z_X9_nextCode ⟨(Nat.le_of_ble_eq_true rfl), (Nat.le_of_ble_eq_true rfl)⟩ he rfl rfl rfl (Nat.le_of_ble_eq_true rfl) dL_law_2190 ⟨(by show (kc) + 345 ≤ room_1.cells; omega), (by show (ks) + 1380 ≤ room_1.slots; omega)⟩ ?_
  rintro _ ws ⟨rfl, hW⟩
  have hW : LW cc g ga xo xd ad (u393.2, S.2) [] ws := hW
  refine q_nm (wz := ws) (ka := kc + 345) (kb := ks + 1380) (sz := [.int u393.1, .int u391]) rfl (by omega) (by omega) rfl ?_
  refine q_icmp_eq (pc := 2193) (tgt := 2537) C dL_law_2193 (by decide) (fun c395 => ?_) (fun c395 => ?_)
  · have hf := q_iteT hf c395
    refine q_sub (lvq := [(0, .ref b), (1, .ref (g 0)), (2, .ref (ga 0)), (3, .ref xo), (4, .ref xd), (5, .int v5)]) [0, 1, 2, 3, 4, 5] rfl ?_
    exact w_L_law_2537 C CS hQ hk28 (kc + 345) (ks + 1380) v5 (u393.2, S.2) ad ws hf hW
  · have hf := q_iteF hf c395
    refine q_iconst (pc := 2196) C (0 : Int32) dL_law_2196 q_ci_0 ?_
    cases hf
set_option maxRecDepth 100000 in
set_option maxHeartbeats 8000000 in
theorem w_L_law_2251 {p : Program} {l : Launch} {e : Env} {s : State} {m : MethodId} {args : Array Value} {below : List Frame} {meth : Method} {c : Code} {D : va_G} {cc : Nat → ClassId} {N0 : Nat} {Q : State → Prop} {g ga : Nat → Nat} {xo xd b L : Nat} {xs : Nat → Int32} {k28 : Nat → Nat → Int32 → LSt → Option Bool} (C : q_C p s m args meth c cL_law 9 (some .boolean) wsL_law RL D cc N0) (CS : l.stackTraces = false ∧ va_X b L xs s s.heap ∧ b < s.heap.size ∧ ¬ q_A N0 b) (hQ : ∀ (kc ks : Nat) (ws : va_W) (pc : Nat) (lv : List (Nat × Value)), kc ≤ room_1.cells → ks ≤ room_1.slots → decode cL_law pc = .ok (.ireturn, 1) → q_WA p l e room_1 s m args below meth c D N0 9 Q kc ks ws pc lv [.int 1]) (hk28 : ∀ (kc ks : Nat) (v5 : Int32) (S : LSt) (ad : Nat → Nat → Nat) (ws : va_W), k28 kc ks v5 S = some true → LW cc g ga xo xd ad S [] ws → q_WA p l e room_1 s m args below meth c D N0 9 Q kc ks ws 28 [(0, .ref b), (1, .ref (g 0)), (2, .ref (ga 0)), (3, .ref xo), (4, .ref xd), (5, .int v5)] []) (kc ks : Nat) (v5 : Int32) (S : LSt) (ad : Nat → Nat → Nat) (ws : va_W) : f_L_law_2251 L xs k28 kc ks v5 S = some true → LW cc g ga xo xd ad S [] ws → q_WA p l e room_1 s m args below meth c D N0 9 Q kc ks ws 2251 [(0, .ref b), (1, .ref (g 0)), (2, .ref (ga 0)), (3, .ref xo), (4, .ref xd), (5, .int v5)] [] := by
  intro hf hW
  refine q_goto (pc := 2251) (tgt := 2537) C dL_law_2251 (by decide) ?_
  refine q_sub (lvq := [(0, .ref b), (1, .ref (g 0)), (2, .ref (ga 0)), (3, .ref xo), (4, .ref xd), (5, .int v5)]) [0, 1, 2, 3, 4, 5] rfl ?_
  exact w_L_law_2537 C CS hQ hk28 (kc) (ks) v5 S ad ws hf hW
set_option maxRecDepth 100000 in
set_option maxHeartbeats 8000000 in
theorem w_L_law_2198 {p : Program} {l : Launch} {e : Env} {s : State} {m : MethodId} {args : Array Value} {below : List Frame} {meth : Method} {c : Code} {D : va_G} {cc : Nat → ClassId} {N0 : Nat} {Q : State → Prop} {g ga : Nat → Nat} {xo xd b L : Nat} {xs : Nat → Int32} {k28 : Nat → Nat → Int32 → LSt → Option Bool} (C : q_C p s m args meth c cL_law 9 (some .boolean) wsL_law RL D cc N0) (CS : l.stackTraces = false ∧ va_X b L xs s s.heap ∧ b < s.heap.size ∧ ¬ q_A N0 b) (hQ : ∀ (kc ks : Nat) (ws : va_W) (pc : Nat) (lv : List (Nat × Value)), kc ≤ room_1.cells → ks ≤ room_1.slots → decode cL_law pc = .ok (.ireturn, 1) → q_WA p l e room_1 s m args below meth c D N0 9 Q kc ks ws pc lv [.int 1]) (hk28 : ∀ (kc ks : Nat) (v5 : Int32) (S : LSt) (ad : Nat → Nat → Nat) (ws : va_W), k28 kc ks v5 S = some true → LW cc g ga xo xd ad S [] ws → q_WA p l e room_1 s m args below meth c D N0 9 Q kc ks ws 28 [(0, .ref b), (1, .ref (g 0)), (2, .ref (ga 0)), (3, .ref xo), (4, .ref xd), (5, .int v5)] []) (kc ks : Nat) (v5 : Int32) (S : LSt) (ad : Nat → Nat → Nat) (ws : va_W) : f_L_law_2198 L xs k28 kc ks v5 S = some true → LW cc g ga xo xd ad S [] ws → q_WA p l e room_1 s m args below meth c D N0 9 Q kc ks ws 2198 [(0, .ref b), (1, .ref (g 0)), (2, .ref (ga 0)), (3, .ref xo), (4, .ref xd), (5, .int v5)] [] := by
  intro hf hW
  obtain ⟨hr, hf⟩ := q_gd hf
  obtain ⟨hr1, hr2⟩ := hr
  refine q_aload_n (pc := 2198) C dL_law_2198 rfl 1 rfl ?_
  refine q_aload_n (pc := 2199) C dL_law_2199 rfl 0 rfl ?_
  refine q_iload (pc := 2200) C dL_law_2200 5 rfl ?_
  refine q_iconst (pc := 2202) C (1 : Int32) dL_law_2202 q_ci_1 ?_
  refine q_iadd (pc := 2203) C dL_law_2203 ?_
  obtain ⟨g396, hf⟩ := q_gd hf
  refine q_sld (pc := 2204) C CS.2.1 CS.2.2.1 CS.2.2.2 g396 dL_law_2204 ?_
  refine q_aload_n (pc := 2205) C dL_law_2205 rfl 3 rfl ?_
  obtain ⟨u397, e398, hf⟩ := q_bind hf
  obtain ⟨T, hp, hb⟩ := hW.cls
  refine q_perm hp ?_
  refine q_callSH (pc := 2206) (As := [.ref (g 0), .int (xs (v5 + (1 : Int32)).toNatClampNeg), .ref xo]) (rest := []) C (c_L_things l CS.1 D cc N0 g xo (ld5 cc xd S.2.2.2 :: T) S.2.1 (xs (v5 + (1 : Int32)).toNatClampNeg) S.2.2.1 u397 e398) gL_law_L_things rfl z_L_things ⟨(Nat.le_of_ble_eq_true rfl), (Nat.le_of_ble_eq_true rfl)⟩ rfl rfl (Nat.le_of_ble_eq_true rfl) dL_law_2206 ⟨(by show (kc) + 1 ≤ room_1.cells; omega), (by show (ks) + 6 ≤ room_1.slots; omega)⟩ ?_
  rintro _ _ ⟨rfl, rfl⟩
  have hW := hb (S.1, u397.2.2, u397.2.1, S.2.2.2) rfl
  refine LW.ren hW (fun ws hW => ?_)
  refine q_nm (wz := ws) (ka := kc + 1) (kb := ks + 6) (sz := [.int u397.1]) rfl (by omega) (by omega) rfl ?_
  refine q_istore (pc := 2209) (lvq := [(6, .int u397.1), (0, .ref b), (1, .ref (g 0)), (2, .ref (ga 0)), (3, .ref xo), (4, .ref xd), (5, .int v5)]) C dL_law_2209 (by decide) rfl ?_
  refine q_aload_n (pc := 2211) C dL_law_2211 rfl 3 rfl ?_
  refine q_aload_n (pc := 2212) C dL_law_2212 rfl 1 rfl ?_
  refine q_iload (pc := 2213) C dL_law_2213 6 rfl ?_
  refine q_iconst (pc := 2215) C (1 : Int32) dL_law_2215 q_ci_1 ?_
  refine q_iadd (pc := 2216) C dL_law_2216 ?_
  obtain ⟨g399, hf⟩ := q_gd hf
  refine q_sld (pc := 2217) C CS.2.1 CS.2.2.1 CS.2.2.2 g399 dL_law_2217 ?_
  obtain ⟨u400, e401, hf⟩ := q_bind hf
  obtain ⟨_, he⟩ := hW.obj
  refine q_callV (pc := 2218) (As := [.int (xs (v5 + (1 : Int32)).toNatClampNeg)]) (rest := []) C (c_X9_things l D cc N0 ga ad  (LG cc g xo xd (S.1, u397.2.2, u397.2.1, S.2.2.2) ++ []) (S.1, u397.2.2, u397.2.1, S.2.2.2).1 (xs (v5 + (1 : Int32)).toNatClampNeg) u400 e401 ws hW) gL_law_X9_things rfl rfl z_X9_things ⟨(Nat.le_of_ble_eq_true rfl), (Nat.le_of_ble_eq_true rfl)⟩ he rfl rfl rfl (Nat.le_of_ble_eq_true rfl) dL_law_2218 ⟨(by show (kc + 1) + 0 ≤ room_1.cells; omega), (by show (ks + 6) + 0 ≤ room_1.slots; omega)⟩ ?_
  rintro _ ws ⟨rfl, hW⟩
  have hW : LW cc g ga xo xd ad (u400.2, (S.1, u397.2.2, u397.2.1, S.2.2.2).2) [] ws := hW
  refine q_nm (wz := ws) (ka := kc + 1) (kb := ks + 6) (sz := [.int u400.1]) rfl (by omega) (by omega) rfl ?_
  refine q_istore (pc := 2221) (lvq := [(7, .int u400.1), (6, .int u397.1), (0, .ref b), (1, .ref (g 0)), (2, .ref (ga 0)), (3, .ref xo), (4, .ref xd), (5, .int v5)]) C dL_law_2221 (by decide) rfl ?_
  refine q_aload_n (pc := 2223) C dL_law_2223 rfl 4 rfl ?_
  obtain ⟨u402, e403, hf⟩ := q_bind hf
  obtain ⟨_, he⟩ := hW.obj
  refine q_callV (pc := 2224) (As := []) (rest := []) C (c_X9_thrown l D cc N0 ga ad  (LG cc g xo xd (u400.2, (S.1, u397.2.2, u397.2.1, S.2.2.2).2) ++ []) (u400.2, (S.1, u397.2.2, u397.2.1, S.2.2.2).2).1  u402 e403 ws hW) gL_law_X9_thrown rfl rfl z_X9_thrown ⟨(Nat.le_of_ble_eq_true rfl), (Nat.le_of_ble_eq_true rfl)⟩ he rfl rfl rfl (Nat.le_of_ble_eq_true rfl) dL_law_2224 ⟨(by show (kc + 1) + 0 ≤ room_1.cells; omega), (by show (ks + 6) + 0 ≤ room_1.slots; omega)⟩ ?_
  rintro _ ws ⟨rfl, hW⟩
  have hW : LW cc g ga xo xd ad (u400.2, (S.1, u397.2.2, u397.2.1, S.2.2.2).2) [] ws := hW
  refine q_nm (wz := ws) (ka := kc + 1) (kb := ks + 6) (sz := [.int u402]) rfl (by omega) (by omega) rfl ?_
  refine q_iload (pc := 2227) C dL_law_2227 1 rfl ?_
  refine q_icmp_eq (pc := 2229) (tgt := 2234) C dL_law_2229 (by decide) (fun c404 => ?_) (fun c404 => ?_)
  · have hf := q_iteT hf c404
    refine q_iload (pc := 2234) C dL_law_2234 1 rfl ?_
    refine q_if_ne (pc := 2236) (tgt := 2251) C dL_law_2236 (by decide) (fun c405 => ?_) (fun c405 => ?_)
    · have hf := q_iteF hf c405
      refine q_sub (lvq := [(0, .ref b), (1, .ref (g 0)), (2, .ref (ga 0)), (3, .ref xo), (4, .ref xd), (5, .int v5)]) [2, 3, 4, 5, 6, 7] rfl ?_
      exact w_L_law_2251 C CS hQ hk28 (kc + 1) (ks + 6) v5 (u400.2, (S.1, u397.2.2, u397.2.1, S.2.2.2).2) ad ws hf hW
    · have hf := q_iteT hf c405
      refine q_aload_n (pc := 2239) C dL_law_2239 rfl 5 rfl ?_
      refine q_iconst (pc := 2240) C (0 : Int32) dL_law_2240 q_ci_0 ?_
      refine LW.lald (pc := 2241) hW C dL_law_2241 ?_
      refine q_iload (pc := 2242) C dL_law_2242 0 rfl ?_
      refine q_i2l (pc := 2244) C dL_law_2244 rfl ?_
      refine q_lcmp (pc := 2245) C dL_law_2245 ?_
      refine q_if_eq (pc := 2246) (tgt := 2251) C dL_law_2246 (by decide) (fun c406 => ?_) (fun c406 => ?_)
      · have hf := q_iteT hf c406
        refine q_sub (lvq := [(0, .ref b), (1, .ref (g 0)), (2, .ref (ga 0)), (3, .ref xo), (4, .ref xd), (5, .int v5)]) [2, 3, 4, 5, 6, 7] rfl ?_
        exact w_L_law_2251 C CS hQ hk28 (kc + 1) (ks + 6) v5 (u400.2, (S.1, u397.2.2, u397.2.1, S.2.2.2).2) ad ws hf hW
      · have hf := q_iteF hf c406
        refine q_iconst (pc := 2249) C (0 : Int32) dL_law_2249 q_ci_0 ?_
        cases hf
  · have hf := q_iteF hf c404
    refine q_iconst (pc := 2232) C (0 : Int32) dL_law_2232 q_ci_0 ?_
    cases hf
set_option maxRecDepth 100000 in
set_option maxHeartbeats 8000000 in
theorem w_L_law_2319 {p : Program} {l : Launch} {e : Env} {s : State} {m : MethodId} {args : Array Value} {below : List Frame} {meth : Method} {c : Code} {D : va_G} {cc : Nat → ClassId} {N0 : Nat} {Q : State → Prop} {g ga : Nat → Nat} {xo xd b L : Nat} {xs : Nat → Int32} {k28 : Nat → Nat → Int32 → LSt → Option Bool} (C : q_C p s m args meth c cL_law 9 (some .boolean) wsL_law RL D cc N0) (CS : l.stackTraces = false ∧ va_X b L xs s s.heap ∧ b < s.heap.size ∧ ¬ q_A N0 b) (hQ : ∀ (kc ks : Nat) (ws : va_W) (pc : Nat) (lv : List (Nat × Value)), kc ≤ room_1.cells → ks ≤ room_1.slots → decode cL_law pc = .ok (.ireturn, 1) → q_WA p l e room_1 s m args below meth c D N0 9 Q kc ks ws pc lv [.int 1]) (hk28 : ∀ (kc ks : Nat) (v5 : Int32) (S : LSt) (ad : Nat → Nat → Nat) (ws : va_W), k28 kc ks v5 S = some true → LW cc g ga xo xd ad S [] ws → q_WA p l e room_1 s m args below meth c D N0 9 Q kc ks ws 28 [(0, .ref b), (1, .ref (g 0)), (2, .ref (ga 0)), (3, .ref xo), (4, .ref xd), (5, .int v5)] []) (kc ks : Nat) (v5 : Int32) (S : LSt) (ad : Nat → Nat → Nat) (ws : va_W) : f_L_law_2319 L xs k28 kc ks v5 S = some true → LW cc g ga xo xd ad S [] ws → q_WA p l e room_1 s m args below meth c D N0 9 Q kc ks ws 2319 [(0, .ref b), (1, .ref (g 0)), (2, .ref (ga 0)), (3, .ref xo), (4, .ref xd), (5, .int v5)] [] := by
  intro hf hW
  refine q_goto (pc := 2319) (tgt := 2537) C dL_law_2319 (by decide) ?_
  refine q_sub (lvq := [(0, .ref b), (1, .ref (g 0)), (2, .ref (ga 0)), (3, .ref xo), (4, .ref xd), (5, .int v5)]) [0, 1, 2, 3, 4, 5] rfl ?_
  exact w_L_law_2537 C CS hQ hk28 (kc) (ks) v5 S ad ws hf hW
set_option maxRecDepth 100000 in
set_option maxHeartbeats 8000000 in
theorem w_L_law_2254 {p : Program} {l : Launch} {e : Env} {s : State} {m : MethodId} {args : Array Value} {below : List Frame} {meth : Method} {c : Code} {D : va_G} {cc : Nat → ClassId} {N0 : Nat} {Q : State → Prop} {g ga : Nat → Nat} {xo xd b L : Nat} {xs : Nat → Int32} {k28 : Nat → Nat → Int32 → LSt → Option Bool} (C : q_C p s m args meth c cL_law 9 (some .boolean) wsL_law RL D cc N0) (CS : l.stackTraces = false ∧ va_X b L xs s s.heap ∧ b < s.heap.size ∧ ¬ q_A N0 b) (hQ : ∀ (kc ks : Nat) (ws : va_W) (pc : Nat) (lv : List (Nat × Value)), kc ≤ room_1.cells → ks ≤ room_1.slots → decode cL_law pc = .ok (.ireturn, 1) → q_WA p l e room_1 s m args below meth c D N0 9 Q kc ks ws pc lv [.int 1]) (hk28 : ∀ (kc ks : Nat) (v5 : Int32) (S : LSt) (ad : Nat → Nat → Nat) (ws : va_W), k28 kc ks v5 S = some true → LW cc g ga xo xd ad S [] ws → q_WA p l e room_1 s m args below meth c D N0 9 Q kc ks ws 28 [(0, .ref b), (1, .ref (g 0)), (2, .ref (ga 0)), (3, .ref xo), (4, .ref xd), (5, .int v5)] []) (kc ks : Nat) (v5 : Int32) (S : LSt) (ad : Nat → Nat → Nat) (ws : va_W) : f_L_law_2254 L xs k28 kc ks v5 S = some true → LW cc g ga xo xd ad S [] ws → q_WA p l e room_1 s m args below meth c D N0 9 Q kc ks ws 2254 [(0, .ref b), (1, .ref (g 0)), (2, .ref (ga 0)), (3, .ref xo), (4, .ref xd), (5, .int v5)] [] := by
  intro hf hW
  obtain ⟨hr, hf⟩ := q_gd hf
  obtain ⟨hr1, hr2⟩ := hr
  refine q_aload_n (pc := 2254) C dL_law_2254 rfl 1 rfl ?_
  refine q_aload_n (pc := 2255) C dL_law_2255 rfl 0 rfl ?_
  refine q_iload (pc := 2256) C dL_law_2256 5 rfl ?_
  refine q_iconst (pc := 2258) C (1 : Int32) dL_law_2258 q_ci_1 ?_
  refine q_iadd (pc := 2259) C dL_law_2259 ?_
  obtain ⟨g407, hf⟩ := q_gd hf
  refine q_sld (pc := 2260) C CS.2.1 CS.2.2.1 CS.2.2.2 g407 dL_law_2260 ?_
  refine q_aload_n (pc := 2261) C dL_law_2261 rfl 0 rfl ?_
  refine q_iload (pc := 2262) C dL_law_2262 5 rfl ?_
  refine q_iconst (pc := 2264) C (2 : Int32) dL_law_2264 q_ci_2 ?_
  refine q_iadd (pc := 2265) C dL_law_2265 ?_
  obtain ⟨g408, hf⟩ := q_gd hf
  refine q_sld (pc := 2266) C CS.2.1 CS.2.2.1 CS.2.2.2 g408 dL_law_2266 ?_
  refine q_aload_n (pc := 2267) C dL_law_2267 rfl 3 rfl ?_
  obtain ⟨u409, e410, hf⟩ := q_bind hf
  obtain ⟨T, hp, hb⟩ := hW.cls
  refine q_perm hp ?_
  refine q_callSH (pc := 2268) (As := [.ref (g 0), .int (xs (v5 + (1 : Int32)).toNatClampNeg), .int (xs (v5 + (2 : Int32)).toNatClampNeg), .ref xo]) (rest := []) C (c_L_ahead l CS.1 D cc N0 g xo (ld5 cc xd S.2.2.2 :: T) S.2.1 (xs (v5 + (1 : Int32)).toNatClampNeg) (xs (v5 + (2 : Int32)).toNatClampNeg) S.2.2.1 u409 e410) gL_law_L_ahead rfl z_L_ahead ⟨(Nat.le_of_ble_eq_true rfl), (Nat.le_of_ble_eq_true rfl)⟩ rfl rfl (Nat.le_of_ble_eq_true rfl) dL_law_2268 ⟨(by show (kc) + 1 ≤ room_1.cells; omega), (by show (ks) + 6 ≤ room_1.slots; omega)⟩ ?_
  rintro _ _ ⟨rfl, rfl⟩
  have hW := hb (S.1, u409.2.2, u409.2.1, S.2.2.2) rfl
  refine LW.ren hW (fun ws hW => ?_)
  refine q_nm (wz := ws) (ka := kc + 1) (kb := ks + 6) (sz := [.int u409.1]) rfl (by omega) (by omega) rfl ?_
  refine q_istore (pc := 2271) (lvq := [(6, .int u409.1), (0, .ref b), (1, .ref (g 0)), (2, .ref (ga 0)), (3, .ref xo), (4, .ref xd), (5, .int v5)]) C dL_law_2271 (by decide) rfl ?_
  refine q_aload_n (pc := 2273) C dL_law_2273 rfl 3 rfl ?_
  refine q_aload_n (pc := 2274) C dL_law_2274 rfl 1 rfl ?_
  refine q_iload (pc := 2275) C dL_law_2275 6 rfl ?_
  refine q_iconst (pc := 2277) C (1 : Int32) dL_law_2277 q_ci_1 ?_
  refine q_iadd (pc := 2278) C dL_law_2278 ?_
  obtain ⟨g411, hf⟩ := q_gd hf
  refine q_sld (pc := 2279) C CS.2.1 CS.2.2.1 CS.2.2.2 g411 dL_law_2279 ?_
  refine q_aload_n (pc := 2280) C dL_law_2280 rfl 1 rfl ?_
  refine q_iload (pc := 2281) C dL_law_2281 6 rfl ?_
  refine q_iconst (pc := 2283) C (2 : Int32) dL_law_2283 q_ci_2 ?_
  refine q_iadd (pc := 2284) C dL_law_2284 ?_
  obtain ⟨g412, hf⟩ := q_gd hf
  refine q_sld (pc := 2285) C CS.2.1 CS.2.2.1 CS.2.2.2 g412 dL_law_2285 ?_
  obtain ⟨u413, e414, hf⟩ := q_bind hf
  obtain ⟨_, he⟩ := hW.obj
  refine q_callV (pc := 2286) (As := [.int (xs (v5 + (1 : Int32)).toNatClampNeg), .int (xs (v5 + (2 : Int32)).toNatClampNeg)]) (rest := []) C (c_X9_ahead l D cc N0 ga ad  (LG cc g xo xd (S.1, u409.2.2, u409.2.1, S.2.2.2) ++ []) (S.1, u409.2.2, u409.2.1, S.2.2.2).1 (xs (v5 + (1 : Int32)).toNatClampNeg) (xs (v5 + (2 : Int32)).toNatClampNeg) u413 e414 ws hW) gL_law_X9_ahead rfl rfl z_X9_ahead ⟨(Nat.le_of_ble_eq_true rfl), (Nat.le_of_ble_eq_true rfl)⟩ he rfl rfl rfl (Nat.le_of_ble_eq_true rfl) dL_law_2286 ⟨(by show (kc + 1) + 0 ≤ room_1.cells; omega), (by show (ks + 6) + 0 ≤ room_1.slots; omega)⟩ ?_
  rintro _ ws ⟨rfl, hW⟩
  have hW : LW cc g ga xo xd ad (u413.2, (S.1, u409.2.2, u409.2.1, S.2.2.2).2) [] ws := hW
  refine q_nm (wz := ws) (ka := kc + 1) (kb := ks + 6) (sz := [.int u413.1]) rfl (by omega) (by omega) rfl ?_
  refine q_istore (pc := 2289) (lvq := [(7, .int u413.1), (6, .int u409.1), (0, .ref b), (1, .ref (g 0)), (2, .ref (ga 0)), (3, .ref xo), (4, .ref xd), (5, .int v5)]) C dL_law_2289 (by decide) rfl ?_
  refine q_aload_n (pc := 2291) C dL_law_2291 rfl 4 rfl ?_
  obtain ⟨u415, e416, hf⟩ := q_bind hf
  obtain ⟨_, he⟩ := hW.obj
  refine q_callV (pc := 2292) (As := []) (rest := []) C (c_X9_thrown l D cc N0 ga ad  (LG cc g xo xd (u413.2, (S.1, u409.2.2, u409.2.1, S.2.2.2).2) ++ []) (u413.2, (S.1, u409.2.2, u409.2.1, S.2.2.2).2).1  u415 e416 ws hW) gL_law_X9_thrown rfl rfl z_X9_thrown ⟨(Nat.le_of_ble_eq_true rfl), (Nat.le_of_ble_eq_true rfl)⟩ he rfl rfl rfl (Nat.le_of_ble_eq_true rfl) dL_law_2292 ⟨(by show (kc + 1) + 0 ≤ room_1.cells; omega), (by show (ks + 6) + 0 ≤ room_1.slots; omega)⟩ ?_
  rintro _ ws ⟨rfl, hW⟩
  have hW : LW cc g ga xo xd ad (u413.2, (S.1, u409.2.2, u409.2.1, S.2.2.2).2) [] ws := hW
  refine q_nm (wz := ws) (ka := kc + 1) (kb := ks + 6) (sz := [.int u415]) rfl (by omega) (by omega) rfl ?_
  refine q_iload (pc := 2295) C dL_law_2295 1 rfl ?_
  refine q_icmp_eq (pc := 2297) (tgt := 2302) C dL_law_2297 (by decide) (fun c417 => ?_) (fun c417 => ?_)
  · have hf := q_iteT hf c417
    refine q_iload (pc := 2302) C dL_law_2302 1 rfl ?_
    refine q_if_ne (pc := 2304) (tgt := 2319) C dL_law_2304 (by decide) (fun c418 => ?_) (fun c418 => ?_)
    · have hf := q_iteF hf c418
      refine q_sub (lvq := [(0, .ref b), (1, .ref (g 0)), (2, .ref (ga 0)), (3, .ref xo), (4, .ref xd), (5, .int v5)]) [2, 3, 4, 5, 6, 7] rfl ?_
      exact w_L_law_2319 C CS hQ hk28 (kc + 1) (ks + 6) v5 (u413.2, (S.1, u409.2.2, u409.2.1, S.2.2.2).2) ad ws hf hW
    · have hf := q_iteT hf c418
      refine q_aload_n (pc := 2307) C dL_law_2307 rfl 5 rfl ?_
      refine q_iconst (pc := 2308) C (0 : Int32) dL_law_2308 q_ci_0 ?_
      refine LW.lald (pc := 2309) hW C dL_law_2309 ?_
      refine q_iload (pc := 2310) C dL_law_2310 0 rfl ?_
      refine q_i2l (pc := 2312) C dL_law_2312 rfl ?_
      refine q_lcmp (pc := 2313) C dL_law_2313 ?_
      refine q_if_eq (pc := 2314) (tgt := 2319) C dL_law_2314 (by decide) (fun c419 => ?_) (fun c419 => ?_)
      · have hf := q_iteT hf c419
        refine q_sub (lvq := [(0, .ref b), (1, .ref (g 0)), (2, .ref (ga 0)), (3, .ref xo), (4, .ref xd), (5, .int v5)]) [2, 3, 4, 5, 6, 7] rfl ?_
        exact w_L_law_2319 C CS hQ hk28 (kc + 1) (ks + 6) v5 (u413.2, (S.1, u409.2.2, u409.2.1, S.2.2.2).2) ad ws hf hW
      · have hf := q_iteF hf c419
        refine q_iconst (pc := 2317) C (0 : Int32) dL_law_2317 q_ci_0 ?_
        cases hf
  · have hf := q_iteF hf c417
    refine q_iconst (pc := 2300) C (0 : Int32) dL_law_2300 q_ci_0 ?_
    cases hf
set_option maxRecDepth 100000 in
set_option maxHeartbeats 8000000 in
theorem w_L_law_2322 {p : Program} {l : Launch} {e : Env} {s : State} {m : MethodId} {args : Array Value} {below : List Frame} {meth : Method} {c : Code} {D : va_G} {cc : Nat → ClassId} {N0 : Nat} {Q : State → Prop} {g ga : Nat → Nat} {xo xd b L : Nat} {xs : Nat → Int32} {k28 : Nat → Nat → Int32 → LSt → Option Bool} (C : q_C p s m args meth c cL_law 9 (some .boolean) wsL_law RL D cc N0) (CS : l.stackTraces = false ∧ va_X b L xs s s.heap ∧ b < s.heap.size ∧ ¬ q_A N0 b) (hQ : ∀ (kc ks : Nat) (ws : va_W) (pc : Nat) (lv : List (Nat × Value)), kc ≤ room_1.cells → ks ≤ room_1.slots → decode cL_law pc = .ok (.ireturn, 1) → q_WA p l e room_1 s m args below meth c D N0 9 Q kc ks ws pc lv [.int 1]) (hk28 : ∀ (kc ks : Nat) (v5 : Int32) (S : LSt) (ad : Nat → Nat → Nat) (ws : va_W), k28 kc ks v5 S = some true → LW cc g ga xo xd ad S [] ws → q_WA p l e room_1 s m args below meth c D N0 9 Q kc ks ws 28 [(0, .ref b), (1, .ref (g 0)), (2, .ref (ga 0)), (3, .ref xo), (4, .ref xd), (5, .int v5)] []) (kc ks : Nat) (v5 : Int32) (S : LSt) (ad : Nat → Nat → Nat) (ws : va_W) : f_L_law_2322 L xs k28 kc ks v5 S = some true → LW cc g ga xo xd ad S [] ws → q_WA p l e room_1 s m args below meth c D N0 9 Q kc ks ws 2322 [(0, .ref b), (1, .ref (g 0)), (2, .ref (ga 0)), (3, .ref xo), (4, .ref xd), (5, .int v5)] [] := by
  intro hf hW
  obtain ⟨hr, hf⟩ := q_gd hf
  obtain ⟨hr1, hr2⟩ := hr
  refine q_aload_n (pc := 2322) C dL_law_2322 rfl 1 rfl ?_
  obtain ⟨T, hp, hb⟩ := hW.cls
  obtain ⟨u420, e421, hf⟩ := q_bind hf
  refine q_perm hp ?_
  refine q_callV (pc := 2323) (As := []) (rest := []) C (c_X8_orders l D cc N0 g (lo4 cc xo S.2.2.1 :: ld5 cc xd S.2.2.2 :: T) S.2.1 u420 e421) gL_law_X8_orders rfl rfl z_X8_orders ⟨(Nat.le_of_ble_eq_true rfl), (Nat.le_of_ble_eq_true rfl)⟩ (cw_at_0 cc g _ _) rfl rfl rfl (Nat.le_of_ble_eq_true rfl) dL_law_2323 ⟨(by show (kc) + 0 ≤ room_1.cells; omega), (by show (ks) + 0 ≤ room_1.slots; omega)⟩ ?_
  rintro _ _ ⟨rfl, rfl⟩
  have hW := hb (S.1, u420.2, S.2.2) rfl
  refine LW.ren hW (fun ws hW => ?_)
  refine q_nm (wz := ws) (ka := kc) (kb := ks) (sz := [.int u420.1]) rfl (by omega) (by omega) rfl ?_
  refine q_aload_n (pc := 2326) C dL_law_2326 rfl 2 rfl ?_
  obtain ⟨u422, e423, hf⟩ := q_bind hf
  obtain ⟨_, he⟩ := hW.obj
  refine q_callV (pc := 2327) (As := []) (rest := [.int u420.1]) C (c_X9_orders_ l D cc N0 ga ad  (LG cc g xo xd (S.1, u420.2, S.2.2) ++ []) (S.1, u420.2, S.2.2).1  u422 e423 ws hW) gL_law_X9_orders_ rfl rfl z_X9_orders_ ⟨(Nat.le_of_ble_eq_true rfl), (Nat.le_of_ble_eq_true rfl)⟩ he rfl rfl rfl (Nat.le_of_ble_eq_true rfl) dL_law_2327 ⟨(by show (kc) + 0 ≤ room_1.cells; omega), (by show (ks) + 0 ≤ room_1.slots; omega)⟩ ?_
  rintro _ ws ⟨rfl, hW⟩
  have hW : LW cc g ga xo xd ad (u422.2, (S.1, u420.2, S.2.2).2) [] ws := hW
  refine q_nm (wz := ws) (ka := kc) (kb := ks) (sz := [.int u422.1, .int u420.1]) rfl (by omega) (by omega) rfl ?_
  refine q_icmp_eq (pc := 2330) (tgt := 2537) C dL_law_2330 (by decide) (fun c424 => ?_) (fun c424 => ?_)
  · have hf := q_iteT hf c424
    refine q_sub (lvq := [(0, .ref b), (1, .ref (g 0)), (2, .ref (ga 0)), (3, .ref xo), (4, .ref xd), (5, .int v5)]) [0, 1, 2, 3, 4, 5] rfl ?_
    exact w_L_law_2537 C CS hQ hk28 (kc) (ks) v5 (u422.2, (S.1, u420.2, S.2.2).2) ad ws hf hW
  · have hf := q_iteF hf c424
    refine q_iconst (pc := 2333) C (0 : Int32) dL_law_2333 q_ci_0 ?_
    cases hf
set_option maxRecDepth 100000 in
set_option maxHeartbeats 8000000 in
theorem w_L_law_2376 {p : Program} {l : Launch} {e : Env} {s : State} {m : MethodId} {args : Array Value} {below : List Frame} {meth : Method} {c : Code} {D : va_G} {cc : Nat → ClassId} {N0 : Nat} {Q : State → Prop} {g ga : Nat → Nat} {xo xd b L : Nat} {xs : Nat → Int32} {k28 : Nat → Nat → Int32 → LSt → Option Bool} (C : q_C p s m args meth c cL_law 9 (some .boolean) wsL_law RL D cc N0) (CS : l.stackTraces = false ∧ va_X b L xs s s.heap ∧ b < s.heap.size ∧ ¬ q_A N0 b) (hQ : ∀ (kc ks : Nat) (ws : va_W) (pc : Nat) (lv : List (Nat × Value)), kc ≤ room_1.cells → ks ≤ room_1.slots → decode cL_law pc = .ok (.ireturn, 1) → q_WA p l e room_1 s m args below meth c D N0 9 Q kc ks ws pc lv [.int 1]) (hk28 : ∀ (kc ks : Nat) (v5 : Int32) (S : LSt) (ad : Nat → Nat → Nat) (ws : va_W), k28 kc ks v5 S = some true → LW cc g ga xo xd ad S [] ws → q_WA p l e room_1 s m args below meth c D N0 9 Q kc ks ws 28 [(0, .ref b), (1, .ref (g 0)), (2, .ref (ga 0)), (3, .ref xo), (4, .ref xd), (5, .int v5)] []) (kc ks : Nat) (v5 : Int32) (S : LSt) (ad : Nat → Nat → Nat) (ws : va_W) : f_L_law_2376 L xs k28 kc ks v5 S = some true → LW cc g ga xo xd ad S [] ws → q_WA p l e room_1 s m args below meth c D N0 9 Q kc ks ws 2376 [(0, .ref b), (1, .ref (g 0)), (2, .ref (ga 0)), (3, .ref xo), (4, .ref xd), (5, .int v5)] [] := by
  intro hf hW
  refine q_goto (pc := 2376) (tgt := 2537) C dL_law_2376 (by decide) ?_
  refine q_sub (lvq := [(0, .ref b), (1, .ref (g 0)), (2, .ref (ga 0)), (3, .ref xo), (4, .ref xd), (5, .int v5)]) [0, 1, 2, 3, 4, 5] rfl ?_
  exact w_L_law_2537 C CS hQ hk28 (kc) (ks) v5 S ad ws hf hW
set_option maxRecDepth 100000 in
set_option maxHeartbeats 8000000 in
theorem w_L_law_2335 {p : Program} {l : Launch} {e : Env} {s : State} {m : MethodId} {args : Array Value} {below : List Frame} {meth : Method} {c : Code} {D : va_G} {cc : Nat → ClassId} {N0 : Nat} {Q : State → Prop} {g ga : Nat → Nat} {xo xd b L : Nat} {xs : Nat → Int32} {k28 : Nat → Nat → Int32 → LSt → Option Bool} (C : q_C p s m args meth c cL_law 9 (some .boolean) wsL_law RL D cc N0) (CS : l.stackTraces = false ∧ va_X b L xs s s.heap ∧ b < s.heap.size ∧ ¬ q_A N0 b) (hQ : ∀ (kc ks : Nat) (ws : va_W) (pc : Nat) (lv : List (Nat × Value)), kc ≤ room_1.cells → ks ≤ room_1.slots → decode cL_law pc = .ok (.ireturn, 1) → q_WA p l e room_1 s m args below meth c D N0 9 Q kc ks ws pc lv [.int 1]) (hk28 : ∀ (kc ks : Nat) (v5 : Int32) (S : LSt) (ad : Nat → Nat → Nat) (ws : va_W), k28 kc ks v5 S = some true → LW cc g ga xo xd ad S [] ws → q_WA p l e room_1 s m args below meth c D N0 9 Q kc ks ws 28 [(0, .ref b), (1, .ref (g 0)), (2, .ref (ga 0)), (3, .ref xo), (4, .ref xd), (5, .int v5)] []) (kc ks : Nat) (v5 : Int32) (S : LSt) (ad : Nat → Nat → Nat) (ws : va_W) : f_L_law_2335 L xs k28 kc ks v5 S = some true → LW cc g ga xo xd ad S [] ws → q_WA p l e room_1 s m args below meth c D N0 9 Q kc ks ws 2335 [(0, .ref b), (1, .ref (g 0)), (2, .ref (ga 0)), (3, .ref xo), (4, .ref xd), (5, .int v5)] [] := by
  intro hf hW
  obtain ⟨hr, hf⟩ := q_gd hf
  obtain ⟨hr1, hr2⟩ := hr
  refine q_aload_n (pc := 2335) C dL_law_2335 rfl 1 rfl ?_
  refine q_aload_n (pc := 2336) C dL_law_2336 rfl 3 rfl ?_
  obtain ⟨u425, e426, hf⟩ := q_bind hf
  obtain ⟨T, hp, hb⟩ := hW.cls
  refine q_perm hp ?_
  refine q_callSH (pc := 2337) (As := [.ref (g 0), .ref xo]) (rest := []) C (c_L_pair l CS.1 D cc N0 g xo (ld5 cc xd S.2.2.2 :: T) S.2.1 S.2.2.1 u425 e426) gL_law_L_pair rfl z_L_pair ⟨(Nat.le_of_ble_eq_true rfl), (Nat.le_of_ble_eq_true rfl)⟩ rfl rfl (Nat.le_of_ble_eq_true rfl) dL_law_2337 ⟨(by show (kc) + 1 ≤ room_1.cells; omega), (by show (ks) + 6 ≤ room_1.slots; omega)⟩ ?_
  rintro _ _ ⟨rfl, rfl⟩
  have hW := hb (S.1, u425.2.2, u425.2.1, S.2.2.2) rfl
  refine LW.ren hW (fun ws hW => ?_)
  refine q_nm (wz := ws) (ka := kc + 1) (kb := ks + 6) (sz := [.int u425.1]) rfl (by omega) (by omega) rfl ?_
  refine q_istore (pc := 2340) (lvq := [(6, .int u425.1), (0, .ref b), (1, .ref (g 0)), (2, .ref (ga 0)), (3, .ref xo), (4, .ref xd), (5, .int v5)]) C dL_law_2340 (by decide) rfl ?_
  refine q_aload_n (pc := 2342) C dL_law_2342 rfl 3 rfl ?_
  obtain ⟨u427, e428, hf⟩ := q_bind hf
  obtain ⟨_, he⟩ := hW.obj
  refine q_callV (pc := 2343) (As := []) (rest := []) C (c_X9_pair l D cc N0 ga ad  (LG cc g xo xd (S.1, u425.2.2, u425.2.1, S.2.2.2) ++ []) (S.1, u425.2.2, u425.2.1, S.2.2.2).1  u427 e428 ws hW) gL_law_X9_pair rfl rfl z_X9_pair ⟨(Nat.le_of_ble_eq_true rfl), (Nat.le_of_ble_eq_true rfl)⟩ he rfl rfl rfl (Nat.le_of_ble_eq_true rfl) dL_law_2343 ⟨(by show (kc + 1) + 0 ≤ room_1.cells; omega), (by show (ks + 6) + 0 ≤ room_1.slots; omega)⟩ ?_
  rintro _ ws ⟨rfl, hW⟩
  have hW : LW cc g ga xo xd ad (u427.2, (S.1, u425.2.2, u425.2.1, S.2.2.2).2) [] ws := hW
  refine q_nm (wz := ws) (ka := kc + 1) (kb := ks + 6) (sz := [.int u427.1]) rfl (by omega) (by omega) rfl ?_
  refine q_istore (pc := 2346) (lvq := [(7, .int u427.1), (6, .int u425.1), (0, .ref b), (1, .ref (g 0)), (2, .ref (ga 0)), (3, .ref xo), (4, .ref xd), (5, .int v5)]) C dL_law_2346 (by decide) rfl ?_
  refine q_aload_n (pc := 2348) C dL_law_2348 rfl 4 rfl ?_
  obtain ⟨u429, e430, hf⟩ := q_bind hf
  obtain ⟨_, he⟩ := hW.obj
  refine q_callV (pc := 2349) (As := []) (rest := []) C (c_X9_thrown l D cc N0 ga ad  (LG cc g xo xd (u427.2, (S.1, u425.2.2, u425.2.1, S.2.2.2).2) ++ []) (u427.2, (S.1, u425.2.2, u425.2.1, S.2.2.2).2).1  u429 e430 ws hW) gL_law_X9_thrown rfl rfl z_X9_thrown ⟨(Nat.le_of_ble_eq_true rfl), (Nat.le_of_ble_eq_true rfl)⟩ he rfl rfl rfl (Nat.le_of_ble_eq_true rfl) dL_law_2349 ⟨(by show (kc + 1) + 0 ≤ room_1.cells; omega), (by show (ks + 6) + 0 ≤ room_1.slots; omega)⟩ ?_
  rintro _ ws ⟨rfl, hW⟩
  have hW : LW cc g ga xo xd ad (u427.2, (S.1, u425.2.2, u425.2.1, S.2.2.2).2) [] ws := hW
  refine q_nm (wz := ws) (ka := kc + 1) (kb := ks + 6) (sz := [.int u429]) rfl (by omega) (by omega) rfl ?_
  refine q_iload (pc := 2352) C dL_law_2352 1 rfl ?_
  refine q_icmp_eq (pc := 2354) (tgt := 2359) C dL_law_2354 (by decide) (fun c431 => ?_) (fun c431 => ?_)
  · have hf := q_iteT hf c431
    refine q_iload (pc := 2359) C dL_law_2359 1 rfl ?_
    refine q_if_ne (pc := 2361) (tgt := 2376) C dL_law_2361 (by decide) (fun c432 => ?_) (fun c432 => ?_)
    · have hf := q_iteF hf c432
      refine q_sub (lvq := [(0, .ref b), (1, .ref (g 0)), (2, .ref (ga 0)), (3, .ref xo), (4, .ref xd), (5, .int v5)]) [2, 3, 4, 5, 6, 7] rfl ?_
      exact w_L_law_2376 C CS hQ hk28 (kc + 1) (ks + 6) v5 (u427.2, (S.1, u425.2.2, u425.2.1, S.2.2.2).2) ad ws hf hW
    · have hf := q_iteT hf c432
      refine q_aload_n (pc := 2364) C dL_law_2364 rfl 5 rfl ?_
      refine q_iconst (pc := 2365) C (0 : Int32) dL_law_2365 q_ci_0 ?_
      refine LW.lald (pc := 2366) hW C dL_law_2366 ?_
      refine q_iload (pc := 2367) C dL_law_2367 0 rfl ?_
      refine q_i2l (pc := 2369) C dL_law_2369 rfl ?_
      refine q_lcmp (pc := 2370) C dL_law_2370 ?_
      refine q_if_eq (pc := 2371) (tgt := 2376) C dL_law_2371 (by decide) (fun c433 => ?_) (fun c433 => ?_)
      · have hf := q_iteT hf c433
        refine q_sub (lvq := [(0, .ref b), (1, .ref (g 0)), (2, .ref (ga 0)), (3, .ref xo), (4, .ref xd), (5, .int v5)]) [2, 3, 4, 5, 6, 7] rfl ?_
        exact w_L_law_2376 C CS hQ hk28 (kc + 1) (ks + 6) v5 (u427.2, (S.1, u425.2.2, u425.2.1, S.2.2.2).2) ad ws hf hW
      · have hf := q_iteF hf c433
        refine q_iconst (pc := 2374) C (0 : Int32) dL_law_2374 q_ci_0 ?_
        cases hf
  · have hf := q_iteF hf c431
    refine q_iconst (pc := 2357) C (0 : Int32) dL_law_2357 q_ci_0 ?_
    cases hf
set_option maxRecDepth 100000 in
set_option maxHeartbeats 8000000 in
theorem w_L_law_2379 {p : Program} {l : Launch} {e : Env} {s : State} {m : MethodId} {args : Array Value} {below : List Frame} {meth : Method} {c : Code} {D : va_G} {cc : Nat → ClassId} {N0 : Nat} {Q : State → Prop} {g ga : Nat → Nat} {xo xd b L : Nat} {xs : Nat → Int32} {k28 : Nat → Nat → Int32 → LSt → Option Bool} (C : q_C p s m args meth c cL_law 9 (some .boolean) wsL_law RL D cc N0) (CS : l.stackTraces = false ∧ va_X b L xs s s.heap ∧ b < s.heap.size ∧ ¬ q_A N0 b) (hQ : ∀ (kc ks : Nat) (ws : va_W) (pc : Nat) (lv : List (Nat × Value)), kc ≤ room_1.cells → ks ≤ room_1.slots → decode cL_law pc = .ok (.ireturn, 1) → q_WA p l e room_1 s m args below meth c D N0 9 Q kc ks ws pc lv [.int 1]) (hk28 : ∀ (kc ks : Nat) (v5 : Int32) (S : LSt) (ad : Nat → Nat → Nat) (ws : va_W), k28 kc ks v5 S = some true → LW cc g ga xo xd ad S [] ws → q_WA p l e room_1 s m args below meth c D N0 9 Q kc ks ws 28 [(0, .ref b), (1, .ref (g 0)), (2, .ref (ga 0)), (3, .ref xo), (4, .ref xd), (5, .int v5)] []) (kc ks : Nat) (v5 : Int32) (S : LSt) (ad : Nat → Nat → Nat) (ws : va_W) : f_L_law_2379 L xs k28 kc ks v5 S = some true → LW cc g ga xo xd ad S [] ws → q_WA p l e room_1 s m args below meth c D N0 9 Q kc ks ws 2379 [(0, .ref b), (1, .ref (g 0)), (2, .ref (ga 0)), (3, .ref xo), (4, .ref xd), (5, .int v5)] [] := by
  intro hf hW
  obtain ⟨hr, hf⟩ := q_gd hf
  obtain ⟨hr1, hr2⟩ := hr
  refine q_aload_n (pc := 2379) C dL_law_2379 rfl 1 rfl ?_
  obtain ⟨T, hp, hb⟩ := hW.cls
  obtain ⟨u434, e435, hf⟩ := q_bind hf
  refine q_perm hp ?_
  refine q_callV (pc := 2380) (As := []) (rest := []) C (c_X8_checksum l D cc N0 g (lo4 cc xo S.2.2.1 :: ld5 cc xd S.2.2.2 :: T) S.2.1 u434 e435) gL_law_X8_checksum rfl rfl z_X8_checksum ⟨(Nat.le_of_ble_eq_true rfl), (Nat.le_of_ble_eq_true rfl)⟩ (cw_at_0 cc g _ _) rfl rfl rfl (Nat.le_of_ble_eq_true rfl) dL_law_2380 ⟨(by show (kc) + 0 ≤ room_1.cells; omega), (by show (ks) + 0 ≤ room_1.slots; omega)⟩ ?_
  rintro _ _ ⟨rfl, rfl⟩
  have hW := hb (S.1, u434.2, S.2.2) rfl
  refine LW.ren hW (fun ws hW => ?_)
  refine q_nm (wz := ws) (ka := kc) (kb := ks) (sz := [.long u434.1]) rfl (by omega) (by omega) rfl ?_
  refine q_aload_n (pc := 2383) C dL_law_2383 rfl 2 rfl ?_
  obtain ⟨u436, e437, hf⟩ := q_bind hf
  obtain ⟨_, he⟩ := hW.obj
  refine q_callV (pc := 2384) (As := []) (rest := [.long u434.1]) C (c_X9_checksum l D cc N0 ga ad  (LG cc g xo xd (S.1, u434.2, S.2.2) ++ []) (S.1, u434.2, S.2.2).1  u436 e437 ws hW) gL_law_X9_checksum rfl rfl z_X9_checksum ⟨(Nat.le_of_ble_eq_true rfl), (Nat.le_of_ble_eq_true rfl)⟩ he rfl rfl rfl (Nat.le_of_ble_eq_true rfl) dL_law_2384 ⟨(by show (kc) + 342 ≤ room_1.cells; omega), (by show (ks) + 1368 ≤ room_1.slots; omega)⟩ ?_
  rintro _ ws ⟨rfl, hW⟩
  have hW : LW cc g ga xo xd ad (u436.2, (S.1, u434.2, S.2.2).2) [] ws := hW
  refine q_nm (wz := ws) (ka := kc + 342) (kb := ks + 1368) (sz := [.long u436.1, .long u434.1]) rfl (by omega) (by omega) rfl ?_
  refine q_lcmp (pc := 2387) C dL_law_2387 ?_
  refine q_if_eq (pc := 2388) (tgt := 2537) C dL_law_2388 (by decide) (fun c438 => ?_) (fun c438 => ?_)
  · have hf := q_iteT hf c438
    refine q_sub (lvq := [(0, .ref b), (1, .ref (g 0)), (2, .ref (ga 0)), (3, .ref xo), (4, .ref xd), (5, .int v5)]) [0, 1, 2, 3, 4, 5] rfl ?_
    exact w_L_law_2537 C CS hQ hk28 (kc + 342) (ks + 1368) v5 (u436.2, (S.1, u434.2, S.2.2).2) ad ws hf hW
  · have hf := q_iteF hf c438
    refine q_iconst (pc := 2391) C (0 : Int32) dL_law_2391 q_ci_0 ?_
    cases hf
set_option maxRecDepth 100000 in
set_option maxHeartbeats 8000000 in
theorem w_L_law_2456 {p : Program} {l : Launch} {e : Env} {s : State} {m : MethodId} {args : Array Value} {below : List Frame} {meth : Method} {c : Code} {D : va_G} {cc : Nat → ClassId} {N0 : Nat} {Q : State → Prop} {g ga : Nat → Nat} {xo xd b L : Nat} {xs : Nat → Int32} {k28 : Nat → Nat → Int32 → LSt → Option Bool} (C : q_C p s m args meth c cL_law 9 (some .boolean) wsL_law RL D cc N0) (CS : l.stackTraces = false ∧ va_X b L xs s s.heap ∧ b < s.heap.size ∧ ¬ q_A N0 b) (hQ : ∀ (kc ks : Nat) (ws : va_W) (pc : Nat) (lv : List (Nat × Value)), kc ≤ room_1.cells → ks ≤ room_1.slots → decode cL_law pc = .ok (.ireturn, 1) → q_WA p l e room_1 s m args below meth c D N0 9 Q kc ks ws pc lv [.int 1]) (hk28 : ∀ (kc ks : Nat) (v5 : Int32) (S : LSt) (ad : Nat → Nat → Nat) (ws : va_W), k28 kc ks v5 S = some true → LW cc g ga xo xd ad S [] ws → q_WA p l e room_1 s m args below meth c D N0 9 Q kc ks ws 28 [(0, .ref b), (1, .ref (g 0)), (2, .ref (ga 0)), (3, .ref xo), (4, .ref xd), (5, .int v5)] []) (kc ks : Nat) (v5 : Int32) (S : LSt) (ad : Nat → Nat → Nat) (ws : va_W) : f_L_law_2456 L xs k28 kc ks v5 S = some true → LW cc g ga xo xd ad S [] ws → q_WA p l e room_1 s m args below meth c D N0 9 Q kc ks ws 2456 [(0, .ref b), (1, .ref (g 0)), (2, .ref (ga 0)), (3, .ref xo), (4, .ref xd), (5, .int v5)] [] := by
  intro hf hW
  refine q_goto (pc := 2456) (tgt := 2537) C dL_law_2456 (by decide) ?_
  refine q_sub (lvq := [(0, .ref b), (1, .ref (g 0)), (2, .ref (ga 0)), (3, .ref xo), (4, .ref xd), (5, .int v5)]) [0, 1, 2, 3, 4, 5] rfl ?_
  exact w_L_law_2537 C CS hQ hk28 (kc) (ks) v5 S ad ws hf hW
set_option maxRecDepth 100000 in
set_option maxHeartbeats 8000000 in
theorem w_L_law_2393 {p : Program} {l : Launch} {e : Env} {s : State} {m : MethodId} {args : Array Value} {below : List Frame} {meth : Method} {c : Code} {D : va_G} {cc : Nat → ClassId} {N0 : Nat} {Q : State → Prop} {g ga : Nat → Nat} {xo xd b L : Nat} {xs : Nat → Int32} {k28 : Nat → Nat → Int32 → LSt → Option Bool} (C : q_C p s m args meth c cL_law 9 (some .boolean) wsL_law RL D cc N0) (CS : l.stackTraces = false ∧ va_X b L xs s s.heap ∧ b < s.heap.size ∧ ¬ q_A N0 b) (hQ : ∀ (kc ks : Nat) (ws : va_W) (pc : Nat) (lv : List (Nat × Value)), kc ≤ room_1.cells → ks ≤ room_1.slots → decode cL_law pc = .ok (.ireturn, 1) → q_WA p l e room_1 s m args below meth c D N0 9 Q kc ks ws pc lv [.int 1]) (hk28 : ∀ (kc ks : Nat) (v5 : Int32) (S : LSt) (ad : Nat → Nat → Nat) (ws : va_W), k28 kc ks v5 S = some true → LW cc g ga xo xd ad S [] ws → q_WA p l e room_1 s m args below meth c D N0 9 Q kc ks ws 28 [(0, .ref b), (1, .ref (g 0)), (2, .ref (ga 0)), (3, .ref xo), (4, .ref xd), (5, .int v5)] []) (kc ks : Nat) (v5 : Int32) (S : LSt) (ad : Nat → Nat → Nat) (ws : va_W) : f_L_law_2393 L xs k28 kc ks v5 S = some true → LW cc g ga xo xd ad S [] ws → q_WA p l e room_1 s m args below meth c D N0 9 Q kc ks ws 2393 [(0, .ref b), (1, .ref (g 0)), (2, .ref (ga 0)), (3, .ref xo), (4, .ref xd), (5, .int v5)] [] := by
  intro hf hW
  obtain ⟨hr, hf⟩ := q_gd hf
  obtain ⟨hr1, hr2⟩ := hr
  refine q_aload_n (pc := 2393) C dL_law_2393 rfl 1 rfl ?_
  refine q_aload (pc := 2394) C dL_law_2394 4 rfl ?_
  obtain ⟨u439, e440, hf⟩ := q_bind hf
  obtain ⟨T, hp, hb⟩ := hW.clsd
  refine q_perm hp ?_
  refine q_callSH (pc := 2396) (As := [.ref (g 0), .ref xd]) (rest := []) C (c_L_aliveShare l CS.1 D cc N0 g xd T S.2.1 S.2.2.2 u439 e440) gL_law_L_aliveShare rfl z_L_aliveShare ⟨(Nat.le_of_ble_eq_true rfl), (Nat.le_of_ble_eq_true rfl)⟩ rfl rfl (Nat.le_of_ble_eq_true rfl) dL_law_2396 ⟨(by show (kc) + 1 ≤ room_1.cells; omega), (by show (ks) + 6 ≤ room_1.slots; omega)⟩ ?_
  rintro _ _ ⟨rfl, rfl⟩
  have hW := hb (S.1, u439.2.2, S.2.2.1, u439.2.1) rfl rfl
  refine LW.ren hW (fun ws hW => ?_)
  refine q_nm (wz := ws) (ka := kc + 1) (kb := ks + 6) (sz := [.int u439.1]) rfl (by omega) (by omega) rfl ?_
  refine q_istore (pc := 2399) (lvq := [(6, .int u439.1), (0, .ref b), (1, .ref (g 0)), (2, .ref (ga 0)), (3, .ref xo), (4, .ref xd), (5, .int v5)]) C dL_law_2399 (by decide) rfl ?_
  refine q_aload_n (pc := 2401) C dL_law_2401 rfl 3 rfl ?_
  obtain ⟨u441, e442, hf⟩ := q_bind hf
  obtain ⟨_, he⟩ := hW.obj
  refine q_callV (pc := 2402) (As := []) (rest := []) C (c_X9_aliveShare l D cc N0 ga ad  (LG cc g xo xd (S.1, u439.2.2, S.2.2.1, u439.2.1) ++ []) (S.1, u439.2.2, S.2.2.1, u439.2.1).1  u441 e442 ws hW) gL_law_X9_aliveShare rfl rfl z_X9_aliveShare ⟨(Nat.le_of_ble_eq_true rfl), (Nat.le_of_ble_eq_true rfl)⟩ he rfl rfl rfl (Nat.le_of_ble_eq_true rfl) dL_law_2402 ⟨(by show (kc + 1) + 1 ≤ room_1.cells; omega), (by show (ks + 6) + 4 ≤ room_1.slots; omega)⟩ ?_
  rintro _ ws ⟨rfl, hW⟩
  have hW : LW cc g ga xo xd ad (u441.2, (S.1, u439.2.2, S.2.2.1, u439.2.1).2) [] ws := hW
  refine q_nm (wz := ws) (ka := kc + 2) (kb := ks + 10) (sz := [.float u441.1]) rfl (by omega) (by omega) rfl ?_
  refine q_fstore (pc := 2405) (lvq := [(7, .float u441.1), (6, .int u439.1), (0, .ref b), (1, .ref (g 0)), (2, .ref (ga 0)), (3, .ref xo), (4, .ref xd), (5, .int v5)]) C dL_law_2405 (by decide) rfl ?_
  refine q_aload_n (pc := 2407) C dL_law_2407 rfl 4 rfl ?_
  obtain ⟨u443, e444, hf⟩ := q_bind hf
  obtain ⟨_, he⟩ := hW.obj
  refine q_callV (pc := 2408) (As := []) (rest := []) C (c_X9_thrown l D cc N0 ga ad  (LG cc g xo xd (u441.2, (S.1, u439.2.2, S.2.2.1, u439.2.1).2) ++ []) (u441.2, (S.1, u439.2.2, S.2.2.1, u439.2.1).2).1  u443 e444 ws hW) gL_law_X9_thrown rfl rfl z_X9_thrown ⟨(Nat.le_of_ble_eq_true rfl), (Nat.le_of_ble_eq_true rfl)⟩ he rfl rfl rfl (Nat.le_of_ble_eq_true rfl) dL_law_2408 ⟨(by show (kc + 2) + 0 ≤ room_1.cells; omega), (by show (ks + 10) + 0 ≤ room_1.slots; omega)⟩ ?_
  rintro _ ws ⟨rfl, hW⟩
  have hW : LW cc g ga xo xd ad (u441.2, (S.1, u439.2.2, S.2.2.1, u439.2.1).2) [] ws := hW
  refine q_nm (wz := ws) (ka := kc + 2) (kb := ks + 10) (sz := [.int u443]) rfl (by omega) (by omega) rfl ?_
  refine q_iload (pc := 2411) C dL_law_2411 1 rfl ?_
  refine q_icmp_eq (pc := 2413) (tgt := 2418) C dL_law_2413 (by decide) (fun c445 => ?_) (fun c445 => ?_)
  · have hf := q_iteT hf c445
    refine q_iload (pc := 2418) C dL_law_2418 1 rfl ?_
    refine q_if_ne (pc := 2420) (tgt := 2456) C dL_law_2420 (by decide) (fun c446 => ?_) (fun c446 => ?_)
    · have hf := q_iteF hf c446
      refine q_sub (lvq := [(0, .ref b), (1, .ref (g 0)), (2, .ref (ga 0)), (3, .ref xo), (4, .ref xd), (5, .int v5)]) [2, 3, 4, 5, 6, 7] rfl ?_
      exact w_L_law_2456 C CS hQ hk28 (kc + 2) (ks + 10) v5 (u441.2, (S.1, u439.2.2, S.2.2.1, u439.2.1).2) ad ws hf hW
    · have hf := q_iteT hf c446
      refine q_aload (pc := 2423) C dL_law_2423 6 rfl ?_
      refine q_iconst (pc := 2425) C (0 : Int32) dL_law_2425 q_ci_0 ?_
      refine LW.dald (pc := 2426) hW C dL_law_2426 ?_
      refine q_fload (pc := 2427) C dL_law_2427 0 rfl ?_
      obtain ⟨g447, hf⟩ := q_gd hf
      refine q_f2d (pc := 2429) C dL_law_2429 g447 ?_
      refine q_dcmp (pc := 2430) C dL_law_2430 ?_
      refine q_if_eq (pc := 2431) (tgt := 2456) C dL_law_2431 (by decide) (fun c448 => ?_) (fun c448 => ?_)
      · have hf := q_iteT hf c448
        refine q_sub (lvq := [(0, .ref b), (1, .ref (g 0)), (2, .ref (ga 0)), (3, .ref xo), (4, .ref xd), (5, .int v5)]) [2, 3, 4, 5, 6, 7] rfl ?_
        exact w_L_law_2456 C CS hQ hk28 (kc + 2) (ks + 10) v5 (u441.2, (S.1, u439.2.2, S.2.2.1, u439.2.1).2) ad ws hf hW
      · have hf := q_iteF hf c448
        refine q_aload (pc := 2434) C dL_law_2434 6 rfl ?_
        refine q_iconst (pc := 2436) C (0 : Int32) dL_law_2436 q_ci_0 ?_
        refine LW.dald (pc := 2437) hW C dL_law_2437 ?_
        refine q_aload (pc := 2438) C dL_law_2438 6 rfl ?_
        refine q_iconst (pc := 2440) C (0 : Int32) dL_law_2440 q_ci_0 ?_
        refine LW.dald (pc := 2441) hW C dL_law_2441 ?_
        refine q_dcmp (pc := 2442) C dL_law_2442 ?_
        refine q_if_eq (pc := 2443) (tgt := 2454) C dL_law_2443 (by decide) (fun c449 => ?_) (fun c449 => ?_)
        · have hf := q_iteT hf c449
          refine q_iconst (pc := 2454) C (0 : Int32) dL_law_2454 q_ci_0 ?_
          cases hf
        · have hf := q_iteF hf c449
          refine q_fload (pc := 2446) C dL_law_2446 0 rfl ?_
          refine q_fload (pc := 2448) C dL_law_2448 0 rfl ?_
          refine q_fcmp (pc := 2450) C dL_law_2450 ?_
          refine q_if_ne (pc := 2451) (tgt := 2456) C dL_law_2451 (by decide) (fun c450 => ?_) (fun c450 => ?_)
          · have hf := q_iteF hf c450
            refine q_sub (lvq := [(0, .ref b), (1, .ref (g 0)), (2, .ref (ga 0)), (3, .ref xo), (4, .ref xd), (5, .int v5)]) [2, 3, 4, 5, 6, 7] rfl ?_
            exact w_L_law_2456 C CS hQ hk28 (kc + 2) (ks + 10) v5 (u441.2, (S.1, u439.2.2, S.2.2.1, u439.2.1).2) ad ws hf hW
          · have hf := q_iteT hf c450
            refine q_iconst (pc := 2454) C (0 : Int32) dL_law_2454 q_ci_0 ?_
            cases hf
  · have hf := q_iteF hf c445
    refine q_iconst (pc := 2416) C (0 : Int32) dL_law_2416 q_ci_0 ?_
    cases hf
set_option maxRecDepth 100000 in
set_option maxHeartbeats 8000000 in
theorem w_L_law_2521 {p : Program} {l : Launch} {e : Env} {s : State} {m : MethodId} {args : Array Value} {below : List Frame} {meth : Method} {c : Code} {D : va_G} {cc : Nat → ClassId} {N0 : Nat} {Q : State → Prop} {g ga : Nat → Nat} {xo xd b L : Nat} {xs : Nat → Int32} {k28 : Nat → Nat → Int32 → LSt → Option Bool} (C : q_C p s m args meth c cL_law 9 (some .boolean) wsL_law RL D cc N0) (CS : l.stackTraces = false ∧ va_X b L xs s s.heap ∧ b < s.heap.size ∧ ¬ q_A N0 b) (hQ : ∀ (kc ks : Nat) (ws : va_W) (pc : Nat) (lv : List (Nat × Value)), kc ≤ room_1.cells → ks ≤ room_1.slots → decode cL_law pc = .ok (.ireturn, 1) → q_WA p l e room_1 s m args below meth c D N0 9 Q kc ks ws pc lv [.int 1]) (hk28 : ∀ (kc ks : Nat) (v5 : Int32) (S : LSt) (ad : Nat → Nat → Nat) (ws : va_W), k28 kc ks v5 S = some true → LW cc g ga xo xd ad S [] ws → q_WA p l e room_1 s m args below meth c D N0 9 Q kc ks ws 28 [(0, .ref b), (1, .ref (g 0)), (2, .ref (ga 0)), (3, .ref xo), (4, .ref xd), (5, .int v5)] []) (kc ks : Nat) (v5 : Int32) (S : LSt) (ad : Nat → Nat → Nat) (ws : va_W) : f_L_law_2521 L xs k28 kc ks v5 S = some true → LW cc g ga xo xd ad S [] ws → q_WA p l e room_1 s m args below meth c D N0 9 Q kc ks ws 2521 [(0, .ref b), (1, .ref (g 0)), (2, .ref (ga 0)), (3, .ref xo), (4, .ref xd), (5, .int v5)] [] := by
  intro hf hW
  refine q_goto (pc := 2521) (tgt := 2537) C dL_law_2521 (by decide) ?_
  refine q_sub (lvq := [(0, .ref b), (1, .ref (g 0)), (2, .ref (ga 0)), (3, .ref xo), (4, .ref xd), (5, .int v5)]) [0, 1, 2, 3, 4, 5] rfl ?_
  exact w_L_law_2537 C CS hQ hk28 (kc) (ks) v5 S ad ws hf hW
set_option maxRecDepth 100000 in
set_option maxHeartbeats 8000000 in
theorem w_L_law_2459 {p : Program} {l : Launch} {e : Env} {s : State} {m : MethodId} {args : Array Value} {below : List Frame} {meth : Method} {c : Code} {D : va_G} {cc : Nat → ClassId} {N0 : Nat} {Q : State → Prop} {g ga : Nat → Nat} {xo xd b L : Nat} {xs : Nat → Int32} {k28 : Nat → Nat → Int32 → LSt → Option Bool} (C : q_C p s m args meth c cL_law 9 (some .boolean) wsL_law RL D cc N0) (CS : l.stackTraces = false ∧ va_X b L xs s s.heap ∧ b < s.heap.size ∧ ¬ q_A N0 b) (hQ : ∀ (kc ks : Nat) (ws : va_W) (pc : Nat) (lv : List (Nat × Value)), kc ≤ room_1.cells → ks ≤ room_1.slots → decode cL_law pc = .ok (.ireturn, 1) → q_WA p l e room_1 s m args below meth c D N0 9 Q kc ks ws pc lv [.int 1]) (hk28 : ∀ (kc ks : Nat) (v5 : Int32) (S : LSt) (ad : Nat → Nat → Nat) (ws : va_W), k28 kc ks v5 S = some true → LW cc g ga xo xd ad S [] ws → q_WA p l e room_1 s m args below meth c D N0 9 Q kc ks ws 28 [(0, .ref b), (1, .ref (g 0)), (2, .ref (ga 0)), (3, .ref xo), (4, .ref xd), (5, .int v5)] []) (kc ks : Nat) (v5 : Int32) (S : LSt) (ad : Nat → Nat → Nat) (ws : va_W) : f_L_law_2459 L xs k28 kc ks v5 S = some true → LW cc g ga xo xd ad S [] ws → q_WA p l e room_1 s m args below meth c D N0 9 Q kc ks ws 2459 [(0, .ref b), (1, .ref (g 0)), (2, .ref (ga 0)), (3, .ref xo), (4, .ref xd), (5, .int v5)] [] := by
  intro hf hW
  obtain ⟨hr, hf⟩ := q_gd hf
  obtain ⟨hr1, hr2⟩ := hr
  refine q_aload_n (pc := 2459) C dL_law_2459 rfl 1 rfl ?_
  refine q_aload (pc := 2460) C dL_law_2460 4 rfl ?_
  obtain ⟨u451, e452, hf⟩ := q_bind hf
  obtain ⟨T, hp, hb⟩ := hW.clsd
  refine q_perm hp ?_
  refine q_callSH (pc := 2462) (As := [.ref (g 0), .ref xd]) (rest := []) C (c_L_meanLesson l CS.1 D cc N0 g xd T S.2.1 S.2.2.2 u451 e452) gL_law_L_meanLesson rfl z_L_meanLesson ⟨(Nat.le_of_ble_eq_true rfl), (Nat.le_of_ble_eq_true rfl)⟩ rfl rfl (Nat.le_of_ble_eq_true rfl) dL_law_2462 ⟨(by show (kc) + 1 ≤ room_1.cells; omega), (by show (ks) + 6 ≤ room_1.slots; omega)⟩ ?_
  rintro _ _ ⟨rfl, rfl⟩
  have hW := hb (S.1, u451.2.2, S.2.2.1, u451.2.1) rfl rfl
  refine LW.ren hW (fun ws hW => ?_)
  refine q_nm (wz := ws) (ka := kc + 1) (kb := ks + 6) (sz := [.int u451.1]) rfl (by omega) (by omega) rfl ?_
  refine q_istore (pc := 2465) (lvq := [(6, .int u451.1), (0, .ref b), (1, .ref (g 0)), (2, .ref (ga 0)), (3, .ref xo), (4, .ref xd), (5, .int v5)]) C dL_law_2465 (by decide) rfl ?_
  refine q_aload_n (pc := 2467) C dL_law_2467 rfl 3 rfl ?_
  obtain ⟨u453, e454, hf⟩ := q_bind hf
  obtain ⟨_, he⟩ := hW.obj
  refine q_callV (pc := 2468) (As := []) (rest := []) C (c_X9_meanLesson l D cc N0 ga ad  (LG cc g xo xd (S.1, u451.2.2, S.2.2.1, u451.2.1) ++ []) (S.1, u451.2.2, S.2.2.1, u451.2.1).1  u453 e454 ws hW) gL_law_X9_meanLesson rfl rfl z_X9_meanLesson ⟨(Nat.le_of_ble_eq_true rfl), (Nat.le_of_ble_eq_true rfl)⟩ he rfl rfl rfl (Nat.le_of_ble_eq_true rfl) dL_law_2468 ⟨(by show (kc + 1) + 0 ≤ room_1.cells; omega), (by show (ks + 6) + 0 ≤ room_1.slots; omega)⟩ ?_
  rintro _ ws ⟨rfl, hW⟩
  have hW : LW cc g ga xo xd ad (u453.2, (S.1, u451.2.2, S.2.2.1, u451.2.1).2) [] ws := hW
  refine q_nm (wz := ws) (ka := kc + 1) (kb := ks + 6) (sz := [.double u453.1]) rfl (by omega) (by omega) rfl ?_
  refine q_dstore (pc := 2471) (lvq := [(7, .double u453.1), (6, .int u451.1), (0, .ref b), (1, .ref (g 0)), (2, .ref (ga 0)), (3, .ref xo), (4, .ref xd), (5, .int v5)]) C dL_law_2471 (by decide) rfl ?_
  refine q_aload_n (pc := 2473) C dL_law_2473 rfl 4 rfl ?_
  obtain ⟨u455, e456, hf⟩ := q_bind hf
  obtain ⟨_, he⟩ := hW.obj
  refine q_callV (pc := 2474) (As := []) (rest := []) C (c_X9_thrown l D cc N0 ga ad  (LG cc g xo xd (u453.2, (S.1, u451.2.2, S.2.2.1, u451.2.1).2) ++ []) (u453.2, (S.1, u451.2.2, S.2.2.1, u451.2.1).2).1  u455 e456 ws hW) gL_law_X9_thrown rfl rfl z_X9_thrown ⟨(Nat.le_of_ble_eq_true rfl), (Nat.le_of_ble_eq_true rfl)⟩ he rfl rfl rfl (Nat.le_of_ble_eq_true rfl) dL_law_2474 ⟨(by show (kc + 1) + 0 ≤ room_1.cells; omega), (by show (ks + 6) + 0 ≤ room_1.slots; omega)⟩ ?_
  rintro _ ws ⟨rfl, hW⟩
  have hW : LW cc g ga xo xd ad (u453.2, (S.1, u451.2.2, S.2.2.1, u451.2.1).2) [] ws := hW
  refine q_nm (wz := ws) (ka := kc + 1) (kb := ks + 6) (sz := [.int u455]) rfl (by omega) (by omega) rfl ?_
  refine q_iload (pc := 2477) C dL_law_2477 1 rfl ?_
  refine q_icmp_eq (pc := 2479) (tgt := 2484) C dL_law_2479 (by decide) (fun c457 => ?_) (fun c457 => ?_)
  · have hf := q_iteT hf c457
    refine q_iload (pc := 2484) C dL_law_2484 1 rfl ?_
    refine q_if_ne (pc := 2486) (tgt := 2521) C dL_law_2486 (by decide) (fun c458 => ?_) (fun c458 => ?_)
    · have hf := q_iteF hf c458
      refine q_sub (lvq := [(0, .ref b), (1, .ref (g 0)), (2, .ref (ga 0)), (3, .ref xo), (4, .ref xd), (5, .int v5)]) [2, 3, 4, 5, 6, 7] rfl ?_
      exact w_L_law_2521 C CS hQ hk28 (kc + 1) (ks + 6) v5 (u453.2, (S.1, u451.2.2, S.2.2.1, u451.2.1).2) ad ws hf hW
    · have hf := q_iteT hf c458
      refine q_aload (pc := 2489) C dL_law_2489 6 rfl ?_
      refine q_iconst (pc := 2491) C (0 : Int32) dL_law_2491 q_ci_0 ?_
      refine LW.dald (pc := 2492) hW C dL_law_2492 ?_
      refine q_dload (pc := 2493) C dL_law_2493 0 rfl ?_
      refine q_dcmp (pc := 2495) C dL_law_2495 ?_
      refine q_if_eq (pc := 2496) (tgt := 2521) C dL_law_2496 (by decide) (fun c459 => ?_) (fun c459 => ?_)
      · have hf := q_iteT hf c459
        refine q_sub (lvq := [(0, .ref b), (1, .ref (g 0)), (2, .ref (ga 0)), (3, .ref xo), (4, .ref xd), (5, .int v5)]) [2, 3, 4, 5, 6, 7] rfl ?_
        exact w_L_law_2521 C CS hQ hk28 (kc + 1) (ks + 6) v5 (u453.2, (S.1, u451.2.2, S.2.2.1, u451.2.1).2) ad ws hf hW
      · have hf := q_iteF hf c459
        refine q_aload (pc := 2499) C dL_law_2499 6 rfl ?_
        refine q_iconst (pc := 2501) C (0 : Int32) dL_law_2501 q_ci_0 ?_
        refine LW.dald (pc := 2502) hW C dL_law_2502 ?_
        refine q_aload (pc := 2503) C dL_law_2503 6 rfl ?_
        refine q_iconst (pc := 2505) C (0 : Int32) dL_law_2505 q_ci_0 ?_
        refine LW.dald (pc := 2506) hW C dL_law_2506 ?_
        refine q_dcmp (pc := 2507) C dL_law_2507 ?_
        refine q_if_eq (pc := 2508) (tgt := 2519) C dL_law_2508 (by decide) (fun c460 => ?_) (fun c460 => ?_)
        · have hf := q_iteT hf c460
          refine q_iconst (pc := 2519) C (0 : Int32) dL_law_2519 q_ci_0 ?_
          cases hf
        · have hf := q_iteF hf c460
          refine q_dload (pc := 2511) C dL_law_2511 0 rfl ?_
          refine q_dload (pc := 2513) C dL_law_2513 0 rfl ?_
          refine q_dcmp (pc := 2515) C dL_law_2515 ?_
          refine q_if_ne (pc := 2516) (tgt := 2521) C dL_law_2516 (by decide) (fun c461 => ?_) (fun c461 => ?_)
          · have hf := q_iteF hf c461
            refine q_sub (lvq := [(0, .ref b), (1, .ref (g 0)), (2, .ref (ga 0)), (3, .ref xo), (4, .ref xd), (5, .int v5)]) [2, 3, 4, 5, 6, 7] rfl ?_
            exact w_L_law_2521 C CS hQ hk28 (kc + 1) (ks + 6) v5 (u453.2, (S.1, u451.2.2, S.2.2.1, u451.2.1).2) ad ws hf hW
          · have hf := q_iteT hf c461
            refine q_iconst (pc := 2519) C (0 : Int32) dL_law_2519 q_ci_0 ?_
            cases hf
  · have hf := q_iteF hf c457
    refine q_iconst (pc := 2482) C (0 : Int32) dL_law_2482 q_ci_0 ?_
    cases hf
set_option maxRecDepth 100000 in
set_option maxHeartbeats 8000000 in
theorem w_L_law_2524 {p : Program} {l : Launch} {e : Env} {s : State} {m : MethodId} {args : Array Value} {below : List Frame} {meth : Method} {c : Code} {D : va_G} {cc : Nat → ClassId} {N0 : Nat} {Q : State → Prop} {g ga : Nat → Nat} {xo xd b L : Nat} {xs : Nat → Int32} {k28 : Nat → Nat → Int32 → LSt → Option Bool} (C : q_C p s m args meth c cL_law 9 (some .boolean) wsL_law RL D cc N0) (CS : l.stackTraces = false ∧ va_X b L xs s s.heap ∧ b < s.heap.size ∧ ¬ q_A N0 b) (hQ : ∀ (kc ks : Nat) (ws : va_W) (pc : Nat) (lv : List (Nat × Value)), kc ≤ room_1.cells → ks ≤ room_1.slots → decode cL_law pc = .ok (.ireturn, 1) → q_WA p l e room_1 s m args below meth c D N0 9 Q kc ks ws pc lv [.int 1]) (hk28 : ∀ (kc ks : Nat) (v5 : Int32) (S : LSt) (ad : Nat → Nat → Nat) (ws : va_W), k28 kc ks v5 S = some true → LW cc g ga xo xd ad S [] ws → q_WA p l e room_1 s m args below meth c D N0 9 Q kc ks ws 28 [(0, .ref b), (1, .ref (g 0)), (2, .ref (ga 0)), (3, .ref xo), (4, .ref xd), (5, .int v5)] []) (kc ks : Nat) (v5 : Int32) (S : LSt) (ad : Nat → Nat → Nat) (ws : va_W) : f_L_law_2524 L xs k28 kc ks v5 S = some true → LW cc g ga xo xd ad S [] ws → q_WA p l e room_1 s m args below meth c D N0 9 Q kc ks ws 2524 [(0, .ref b), (1, .ref (g 0)), (2, .ref (ga 0)), (3, .ref xo), (4, .ref xd), (5, .int v5)] [] := by
  intro hf hW
  obtain ⟨hr, hf⟩ := q_gd hf
  obtain ⟨hr1, hr2⟩ := hr
  refine q_aload_n (pc := 2524) C dL_law_2524 rfl 1 rfl ?_
  obtain ⟨T, hp, hb⟩ := hW.cls
  obtain ⟨u462, e463, hf⟩ := q_bind hf
  refine q_perm hp ?_
  refine q_callV (pc := 2525) (As := []) (rest := []) C (c_X8_isSound l D cc N0 g (lo4 cc xo S.2.2.1 :: ld5 cc xd S.2.2.2 :: T) S.2.1 u462 e463) gL_law_X8_isSound rfl rfl z_X8_isSound ⟨(Nat.le_of_ble_eq_true rfl), (Nat.le_of_ble_eq_true rfl)⟩ (cw_at_0 cc g _ _) rfl rfl rfl (Nat.le_of_ble_eq_true rfl) dL_law_2525 ⟨(by show (kc) + 0 ≤ room_1.cells; omega), (by show (ks) + 0 ≤ room_1.slots; omega)⟩ ?_
  rintro _ _ ⟨rfl, rfl⟩
  have hW := hb (S.1, u462.2, S.2.2) rfl
  refine LW.ren hW (fun ws hW => ?_)
  refine q_nm (wz := ws) (ka := kc) (kb := ks) (sz := [.int (q_b u462.1)]) rfl (by omega) (by omega) rfl ?_
  refine q_aload_n (pc := 2528) C dL_law_2528 rfl 2 rfl ?_
  obtain ⟨u464, e465, hf⟩ := q_bind hf
  obtain ⟨_, he⟩ := hW.obj
  refine q_callV (pc := 2529) (As := []) (rest := [.int (q_b u462.1)]) C (c_X9_isSound l D cc N0 ga ad  (LG cc g xo xd (S.1, u462.2, S.2.2) ++ []) (S.1, u462.2, S.2.2).1  u464 e465 ws hW) gL_law_X9_isSound rfl rfl z_X9_isSound ⟨(Nat.le_of_ble_eq_true rfl), (Nat.le_of_ble_eq_true rfl)⟩ he rfl rfl rfl (Nat.le_of_ble_eq_true rfl) dL_law_2529 ⟨(by show (kc) + 0 ≤ room_1.cells; omega), (by show (ks) + 0 ≤ room_1.slots; omega)⟩ ?_
  rintro _ ws ⟨rfl, hW⟩
  have hW : LW cc g ga xo xd ad (u464.2, (S.1, u462.2, S.2.2).2) [] ws := hW
  refine q_nm (wz := ws) (ka := kc) (kb := ks) (sz := [.int (q_b u464.1), .int (q_b u462.1)]) rfl (by omega) (by omega) rfl ?_
  refine q_icmp_eq (pc := 2532) (tgt := 2537) C dL_law_2532 (by decide) (fun c466 => ?_) (fun c466 => ?_)
  · have hf := q_iteT hf c466
    refine q_sub (lvq := [(0, .ref b), (1, .ref (g 0)), (2, .ref (ga 0)), (3, .ref xo), (4, .ref xd), (5, .int v5)]) [0, 1, 2, 3, 4, 5] rfl ?_
    exact w_L_law_2537 C CS hQ hk28 (kc) (ks) v5 (u464.2, (S.1, u462.2, S.2.2).2) ad ws hf hW
  · have hf := q_iteF hf c466
    refine q_iconst (pc := 2535) C (0 : Int32) dL_law_2535 q_ci_0 ?_
    cases hf
