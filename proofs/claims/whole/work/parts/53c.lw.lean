set_option maxRecDepth 100000 in
set_option maxHeartbeats 8000000 in
theorem w_L_law_1385 {p : Program} {l : Launch} {e : Env} {s : State} {m : MethodId} {args : Array Value} {below : List Frame} {meth : Method} {c : Code} {D : va_G} {cc : Nat → ClassId} {N0 : Nat} {Q : State → Prop} {g ga : Nat → Nat} {xo xd b L : Nat} {xs : Nat → Int32} {k28 : Nat → Nat → Int32 → LSt → Option Bool} (C : q_C p s m args meth c cL_law 9 (some .boolean) wsL_law RL D cc N0) (CS : l.stackTraces = false ∧ va_X b L xs s s.heap ∧ b < s.heap.size ∧ ¬ q_A N0 b) (hQ : ∀ (kc ks : Nat) (ws : va_W) (pc : Nat) (lv : List (Nat × Value)), kc ≤ room_1.cells → ks ≤ room_1.slots → decode cL_law pc = .ok (.ireturn, 1) → q_WA p l e room_1 s m args below meth c D N0 9 Q kc ks ws pc lv [.int 1]) (hk28 : ∀ (kc ks : Nat) (v5 : Int32) (S : LSt) (ad : Nat → Nat → Nat) (ws : va_W), k28 kc ks v5 S = some true → LW cc g ga xo xd ad S [] ws → q_WA p l e room_1 s m args below meth c D N0 9 Q kc ks ws 28 [(0, .ref b), (1, .ref (g 0)), (2, .ref (ga 0)), (3, .ref xo), (4, .ref xd), (5, .int v5)] []) (kc ks : Nat) (v5 : Int32) (v6 : Int32) (vt0 : Int32) (vt1 : Int32) (S : LSt) (ad : Nat → Nat → Nat) (ws : va_W) : f_L_law_1385 L xs k28 kc ks v5 v6 vt0 vt1 S = some true → LW cc g ga xo xd ad S [] ws → q_WA p l e room_1 s m args below meth c D N0 9 Q kc ks ws 1385 [(0, .ref b), (1, .ref (g 0)), (2, .ref (ga 0)), (3, .ref xo), (4, .ref xd), (5, .int v5), (6, .int v6)] [.int vt0, .int vt1, .ref (ga 0)] := by
  intro hf hW
  obtain ⟨hr, hf⟩ := q_gd hf
  obtain ⟨hr1, hr2⟩ := hr
  obtain ⟨u236, e237, hf⟩ := q_bind hf
  obtain ⟨_, he⟩ := hW.obj
  refine q_callV (pc := 1385) (As := [.int vt1, .int vt0]) (rest := []) C (c_X9_round l D cc N0 ga ad  (LG cc g xo xd S ++ []) S.1 vt1 vt0 u236 e237 ws hW) gL_law_X9_round rfl rfl z_X9_round ⟨(Nat.le_of_ble_eq_true rfl), (Nat.le_of_ble_eq_true rfl)⟩ he rfl rfl rfl (Nat.le_of_ble_eq_true rfl) dL_law_1385 ⟨(by show (kc) + 0 ≤ room_1.cells; omega), (by show (ks) + 0 ≤ room_1.slots; omega)⟩ ?_
  rintro _ ws ⟨rfl, hW⟩
  have hW : LW cc g ga xo xd ad (u236.2, S.2) [] ws := hW
  refine q_nm (wz := ws) (ka := kc) (kb := ks) (sz := [.int (q_b u236.1)]) rfl (by omega) (by omega) rfl ?_
  refine q_istore (pc := 1388) (lvq := [(7, .int (q_b u236.1)), (0, .ref b), (1, .ref (g 0)), (2, .ref (ga 0)), (3, .ref xo), (4, .ref xd), (5, .int v5), (6, .int v6)]) C dL_law_1388 (by decide) rfl ?_
  refine q_aload_n (pc := 1390) C dL_law_1390 rfl 3 rfl ?_
  obtain ⟨u238, e239, hf⟩ := q_bind hf
  obtain ⟨_, he⟩ := hW.obj
  refine q_callV (pc := 1391) (As := []) (rest := []) C (c_X9_thrown l D cc N0 ga ad  (LG cc g xo xd (u236.2, S.2) ++ []) (u236.2, S.2).1  u238 e239 ws hW) gL_law_X9_thrown rfl rfl z_X9_thrown ⟨(Nat.le_of_ble_eq_true rfl), (Nat.le_of_ble_eq_true rfl)⟩ he rfl rfl rfl (Nat.le_of_ble_eq_true rfl) dL_law_1391 ⟨(by show (kc) + 0 ≤ room_1.cells; omega), (by show (ks) + 0 ≤ room_1.slots; omega)⟩ ?_
  rintro _ ws ⟨rfl, hW⟩
  have hW : LW cc g ga xo xd ad (u236.2, S.2) [] ws := hW
  refine q_nm (wz := ws) (ka := kc) (kb := ks) (sz := [.int u238]) rfl (by omega) (by omega) rfl ?_
  refine q_iload (pc := 1394) C dL_law_1394 7 rfl ?_
  refine q_icmp_eq (pc := 1396) (tgt := 1401) C dL_law_1396 (by decide) (fun c240 => ?_) (fun c240 => ?_)
  · have hf := q_iteT hf c240
    refine q_iload (pc := 1401) C dL_law_1401 7 rfl ?_
    refine q_if_ne (pc := 1403) (tgt := 1425) C dL_law_1403 (by decide) (fun c241 => ?_) (fun c241 => ?_)
    · have hf := q_iteF hf c241
      refine q_sub (lvq := [(0, .ref b), (1, .ref (g 0)), (2, .ref (ga 0)), (3, .ref xo), (4, .ref xd), (5, .int v5)]) [1, 2, 3, 4, 5, 6] rfl ?_
      exact w_L_law_1425 C CS hQ hk28 (kc) (ks) v5 (u236.2, S.2) ad ws hf hW
    · have hf := q_iteT hf c241
      refine q_aload_n (pc := 1406) C dL_law_1406 rfl 4 rfl ?_
      refine q_iconst (pc := 1407) C (0 : Int32) dL_law_1407 q_ci_0 ?_
      refine LW.lald (pc := 1408) hW C dL_law_1408 ?_
      refine q_iload (pc := 1409) C dL_law_1409 0 rfl ?_
      refine q_if_eq (pc := 1411) (tgt := 1418) C dL_law_1411 (by decide) (fun c242 => ?_) (fun c242 => ?_)
      · have hf := q_iteT hf c242
        refine q_lconst (pc := 1418) C (0 : Int64) dL_law_1418 q_cl_0 ?_
        refine q_sub (lvq := [(0, .ref b), (1, .ref (g 0)), (2, .ref (ga 0)), (3, .ref xo), (4, .ref xd), (5, .int v5)]) [1, 2, 3, 4, 5, 6] rfl ?_
        exact w_L_law_1419 C CS hQ hk28 (kc) (ks) v5 (0 : Int64) ((u236.2, S.2).2.2.1 0) (u236.2, S.2) ad ws hf hW
      · have hf := q_iteF hf c242
        refine q_lconst (pc := 1414) C (1 : Int64) dL_law_1414 q_cl_1 ?_
        refine q_goto (pc := 1415) (tgt := 1419) C dL_law_1415 (by decide) ?_
        refine q_sub (lvq := [(0, .ref b), (1, .ref (g 0)), (2, .ref (ga 0)), (3, .ref xo), (4, .ref xd), (5, .int v5)]) [1, 2, 3, 4, 5, 6] rfl ?_
        exact w_L_law_1419 C CS hQ hk28 (kc) (ks) v5 (1 : Int64) ((u236.2, S.2).2.2.1 0) (u236.2, S.2) ad ws hf hW
  · have hf := q_iteF hf c240
    refine q_iconst (pc := 1399) C (0 : Int32) dL_law_1399 q_ci_0 ?_
    cases hf
set_option maxRecDepth 100000 in
set_option maxHeartbeats 8000000 in
theorem w_L_law_1358 {p : Program} {l : Launch} {e : Env} {s : State} {m : MethodId} {args : Array Value} {below : List Frame} {meth : Method} {c : Code} {D : va_G} {cc : Nat → ClassId} {N0 : Nat} {Q : State → Prop} {g ga : Nat → Nat} {xo xd b L : Nat} {xs : Nat → Int32} {k28 : Nat → Nat → Int32 → LSt → Option Bool} (C : q_C p s m args meth c cL_law 9 (some .boolean) wsL_law RL D cc N0) (CS : l.stackTraces = false ∧ va_X b L xs s s.heap ∧ b < s.heap.size ∧ ¬ q_A N0 b) (hQ : ∀ (kc ks : Nat) (ws : va_W) (pc : Nat) (lv : List (Nat × Value)), kc ≤ room_1.cells → ks ≤ room_1.slots → decode cL_law pc = .ok (.ireturn, 1) → q_WA p l e room_1 s m args below meth c D N0 9 Q kc ks ws pc lv [.int 1]) (hk28 : ∀ (kc ks : Nat) (v5 : Int32) (S : LSt) (ad : Nat → Nat → Nat) (ws : va_W), k28 kc ks v5 S = some true → LW cc g ga xo xd ad S [] ws → q_WA p l e room_1 s m args below meth c D N0 9 Q kc ks ws 28 [(0, .ref b), (1, .ref (g 0)), (2, .ref (ga 0)), (3, .ref xo), (4, .ref xd), (5, .int v5)] []) (kc ks : Nat) (v5 : Int32) (vt0 : Int32) (vt1 : Int32) (S : LSt) (ad : Nat → Nat → Nat) (ws : va_W) : f_L_law_1358 L xs k28 kc ks v5 vt0 vt1 S = some true → LW cc g ga xo xd ad S [] ws → q_WA p l e room_1 s m args below meth c D N0 9 Q kc ks ws 1358 [(0, .ref b), (1, .ref (g 0)), (2, .ref (ga 0)), (3, .ref xo), (4, .ref xd), (5, .int v5)] [.int vt0, .int vt1, .ref (g 0)] := by
  intro hf hW
  obtain ⟨hr, hf⟩ := q_gd hf
  obtain ⟨hr1, hr2⟩ := hr
  refine q_aload_n (pc := 1358) C dL_law_1358 rfl 3 rfl ?_
  obtain ⟨u231, e232, hf⟩ := q_bind hf
  obtain ⟨T, hp, hb⟩ := hW.cls
  refine q_perm hp ?_
  refine q_callSH (pc := 1359) (As := [.ref (g 0), .int vt1, .int vt0, .ref xo]) (rest := []) C (c_L_round l CS.1 D cc N0 g xo (ld5 cc xd S.2.2.2 :: T) S.2.1 vt1 vt0 S.2.2.1 u231 e232) gL_law_L_round rfl z_L_round ⟨(Nat.le_of_ble_eq_true rfl), (Nat.le_of_ble_eq_true rfl)⟩ rfl rfl (Nat.le_of_ble_eq_true rfl) dL_law_1359 ⟨(by show (kc) + 1 ≤ room_1.cells; omega), (by show (ks) + 6 ≤ room_1.slots; omega)⟩ ?_
  rintro _ _ ⟨rfl, rfl⟩
  have hW := hb (S.1, u231.2.2, u231.2.1, S.2.2.2) rfl
  refine LW.ren hW (fun ws hW => ?_)
  refine q_nm (wz := ws) (ka := kc + 1) (kb := ks + 6) (sz := [.int u231.1]) rfl (by omega) (by omega) rfl ?_
  refine q_istore (pc := 1362) (lvq := [(6, .int u231.1), (0, .ref b), (1, .ref (g 0)), (2, .ref (ga 0)), (3, .ref xo), (4, .ref xd), (5, .int v5)]) C dL_law_1362 (by decide) rfl ?_
  refine q_aload_n (pc := 1364) C dL_law_1364 rfl 3 rfl ?_
  refine q_aload_n (pc := 1365) C dL_law_1365 rfl 1 rfl ?_
  refine q_iload (pc := 1366) C dL_law_1366 6 rfl ?_
  refine q_iconst (pc := 1368) C (1 : Int32) dL_law_1368 q_ci_1 ?_
  refine q_iadd (pc := 1369) C dL_law_1369 ?_
  obtain ⟨g233, hf⟩ := q_gd hf
  refine q_sld (pc := 1370) C CS.2.1 CS.2.2.1 CS.2.2.2 g233 dL_law_1370 ?_
  refine q_aload_n (pc := 1371) C dL_law_1371 rfl 1 rfl ?_
  refine q_iload (pc := 1372) C dL_law_1372 6 rfl ?_
  refine q_iconst (pc := 1374) C (2 : Int32) dL_law_1374 q_ci_2 ?_
  refine q_iadd (pc := 1375) C dL_law_1375 ?_
  obtain ⟨g234, hf⟩ := q_gd hf
  refine q_sld (pc := 1376) C CS.2.1 CS.2.2.1 CS.2.2.2 g234 dL_law_1376 ?_
  refine q_if_eq (pc := 1377) (tgt := 1384) C dL_law_1377 (by decide) (fun c235 => ?_) (fun c235 => ?_)
  · have hf := q_iteT hf c235
    refine q_iconst (pc := 1384) C (0 : Int32) dL_law_1384 q_ci_0 ?_
    refine q_sub (lvq := [(0, .ref b), (1, .ref (g 0)), (2, .ref (ga 0)), (3, .ref xo), (4, .ref xd), (5, .int v5), (6, .int u231.1)]) [1, 2, 3, 4, 5, 6, 0] rfl ?_
    exact w_L_law_1385 C CS hQ hk28 (kc + 1) (ks + 6) v5 u231.1 (0 : Int32) (xs (v5 + (1 : Int32)).toNatClampNeg) (S.1, u231.2.2, u231.2.1, S.2.2.2) ad ws hf hW
  · have hf := q_iteF hf c235
    refine q_iconst (pc := 1380) C (1 : Int32) dL_law_1380 q_ci_1 ?_
    refine q_goto (pc := 1381) (tgt := 1385) C dL_law_1381 (by decide) ?_
    refine q_sub (lvq := [(0, .ref b), (1, .ref (g 0)), (2, .ref (ga 0)), (3, .ref xo), (4, .ref xd), (5, .int v5), (6, .int u231.1)]) [1, 2, 3, 4, 5, 6, 0] rfl ?_
    exact w_L_law_1385 C CS hQ hk28 (kc + 1) (ks + 6) v5 u231.1 (1 : Int32) (xs (v5 + (1 : Int32)).toNatClampNeg) (S.1, u231.2.2, u231.2.1, S.2.2.2) ad ws hf hW
set_option maxRecDepth 100000 in
set_option maxHeartbeats 8000000 in
theorem w_L_law_1337 {p : Program} {l : Launch} {e : Env} {s : State} {m : MethodId} {args : Array Value} {below : List Frame} {meth : Method} {c : Code} {D : va_G} {cc : Nat → ClassId} {N0 : Nat} {Q : State → Prop} {g ga : Nat → Nat} {xo xd b L : Nat} {xs : Nat → Int32} {k28 : Nat → Nat → Int32 → LSt → Option Bool} (C : q_C p s m args meth c cL_law 9 (some .boolean) wsL_law RL D cc N0) (CS : l.stackTraces = false ∧ va_X b L xs s s.heap ∧ b < s.heap.size ∧ ¬ q_A N0 b) (hQ : ∀ (kc ks : Nat) (ws : va_W) (pc : Nat) (lv : List (Nat × Value)), kc ≤ room_1.cells → ks ≤ room_1.slots → decode cL_law pc = .ok (.ireturn, 1) → q_WA p l e room_1 s m args below meth c D N0 9 Q kc ks ws pc lv [.int 1]) (hk28 : ∀ (kc ks : Nat) (v5 : Int32) (S : LSt) (ad : Nat → Nat → Nat) (ws : va_W), k28 kc ks v5 S = some true → LW cc g ga xo xd ad S [] ws → q_WA p l e room_1 s m args below meth c D N0 9 Q kc ks ws 28 [(0, .ref b), (1, .ref (g 0)), (2, .ref (ga 0)), (3, .ref xo), (4, .ref xd), (5, .int v5)] []) (kc ks : Nat) (v5 : Int32) (S : LSt) (ad : Nat → Nat → Nat) (ws : va_W) : f_L_law_1337 L xs k28 kc ks v5 S = some true → LW cc g ga xo xd ad S [] ws → q_WA p l e room_1 s m args below meth c D N0 9 Q kc ks ws 1337 [(0, .ref b), (1, .ref (g 0)), (2, .ref (ga 0)), (3, .ref xo), (4, .ref xd), (5, .int v5)] [] := by
  intro hf hW
  obtain ⟨hr, hf⟩ := q_gd hf
  obtain ⟨hr1, hr2⟩ := hr
  refine q_aload_n (pc := 1337) C dL_law_1337 rfl 1 rfl ?_
  refine q_aload_n (pc := 1338) C dL_law_1338 rfl 0 rfl ?_
  refine q_iload (pc := 1339) C dL_law_1339 5 rfl ?_
  refine q_iconst (pc := 1341) C (1 : Int32) dL_law_1341 q_ci_1 ?_
  refine q_iadd (pc := 1342) C dL_law_1342 ?_
  obtain ⟨g228, hf⟩ := q_gd hf
  refine q_sld (pc := 1343) C CS.2.1 CS.2.2.1 CS.2.2.2 g228 dL_law_1343 ?_
  refine q_aload_n (pc := 1344) C dL_law_1344 rfl 0 rfl ?_
  refine q_iload (pc := 1345) C dL_law_1345 5 rfl ?_
  refine q_iconst (pc := 1347) C (2 : Int32) dL_law_1347 q_ci_2 ?_
  refine q_iadd (pc := 1348) C dL_law_1348 ?_
  obtain ⟨g229, hf⟩ := q_gd hf
  refine q_sld (pc := 1349) C CS.2.1 CS.2.2.1 CS.2.2.2 g229 dL_law_1349 ?_
  refine q_if_eq (pc := 1350) (tgt := 1357) C dL_law_1350 (by decide) (fun c230 => ?_) (fun c230 => ?_)
  · have hf := q_iteT hf c230
    refine q_iconst (pc := 1357) C (0 : Int32) dL_law_1357 q_ci_0 ?_
    refine q_sub (lvq := [(0, .ref b), (1, .ref (g 0)), (2, .ref (ga 0)), (3, .ref xo), (4, .ref xd), (5, .int v5)]) [0, 1, 2, 3, 4, 5] rfl ?_
    exact w_L_law_1358 C CS hQ hk28 (kc) (ks) v5 (0 : Int32) (xs (v5 + (1 : Int32)).toNatClampNeg) S ad ws hf hW
  · have hf := q_iteF hf c230
    refine q_iconst (pc := 1353) C (1 : Int32) dL_law_1353 q_ci_1 ?_
    refine q_goto (pc := 1354) (tgt := 1358) C dL_law_1354 (by decide) ?_
    refine q_sub (lvq := [(0, .ref b), (1, .ref (g 0)), (2, .ref (ga 0)), (3, .ref xo), (4, .ref xd), (5, .int v5)]) [0, 1, 2, 3, 4, 5] rfl ?_
    exact w_L_law_1358 C CS hQ hk28 (kc) (ks) v5 (1 : Int32) (xs (v5 + (1 : Int32)).toNatClampNeg) S ad ws hf hW
set_option maxRecDepth 100000 in
set_option maxHeartbeats 8000000 in
theorem w_L_law_1481 {p : Program} {l : Launch} {e : Env} {s : State} {m : MethodId} {args : Array Value} {below : List Frame} {meth : Method} {c : Code} {D : va_G} {cc : Nat → ClassId} {N0 : Nat} {Q : State → Prop} {g ga : Nat → Nat} {xo xd b L : Nat} {xs : Nat → Int32} {k28 : Nat → Nat → Int32 → LSt → Option Bool} (C : q_C p s m args meth c cL_law 9 (some .boolean) wsL_law RL D cc N0) (CS : l.stackTraces = false ∧ va_X b L xs s s.heap ∧ b < s.heap.size ∧ ¬ q_A N0 b) (hQ : ∀ (kc ks : Nat) (ws : va_W) (pc : Nat) (lv : List (Nat × Value)), kc ≤ room_1.cells → ks ≤ room_1.slots → decode cL_law pc = .ok (.ireturn, 1) → q_WA p l e room_1 s m args below meth c D N0 9 Q kc ks ws pc lv [.int 1]) (hk28 : ∀ (kc ks : Nat) (v5 : Int32) (S : LSt) (ad : Nat → Nat → Nat) (ws : va_W), k28 kc ks v5 S = some true → LW cc g ga xo xd ad S [] ws → q_WA p l e room_1 s m args below meth c D N0 9 Q kc ks ws 28 [(0, .ref b), (1, .ref (g 0)), (2, .ref (ga 0)), (3, .ref xo), (4, .ref xd), (5, .int v5)] []) (kc ks : Nat) (v5 : Int32) (S : LSt) (ad : Nat → Nat → Nat) (ws : va_W) : f_L_law_1481 L xs k28 kc ks v5 S = some true → LW cc g ga xo xd ad S [] ws → q_WA p l e room_1 s m args below meth c D N0 9 Q kc ks ws 1481 [(0, .ref b), (1, .ref (g 0)), (2, .ref (ga 0)), (3, .ref xo), (4, .ref xd), (5, .int v5)] [] := by
  intro hf hW
  refine q_goto (pc := 1481) (tgt := 2537) C dL_law_1481 (by decide) ?_
  refine q_sub (lvq := [(0, .ref b), (1, .ref (g 0)), (2, .ref (ga 0)), (3, .ref xo), (4, .ref xd), (5, .int v5)]) [0, 1, 2, 3, 4, 5] rfl ?_
  exact w_L_law_2537 C CS hQ hk28 (kc) (ks) v5 S ad ws hf hW
set_option maxRecDepth 100000 in
set_option maxHeartbeats 8000000 in
theorem w_L_law_1428 {p : Program} {l : Launch} {e : Env} {s : State} {m : MethodId} {args : Array Value} {below : List Frame} {meth : Method} {c : Code} {D : va_G} {cc : Nat → ClassId} {N0 : Nat} {Q : State → Prop} {g ga : Nat → Nat} {xo xd b L : Nat} {xs : Nat → Int32} {k28 : Nat → Nat → Int32 → LSt → Option Bool} (C : q_C p s m args meth c cL_law 9 (some .boolean) wsL_law RL D cc N0) (CS : l.stackTraces = false ∧ va_X b L xs s s.heap ∧ b < s.heap.size ∧ ¬ q_A N0 b) (hQ : ∀ (kc ks : Nat) (ws : va_W) (pc : Nat) (lv : List (Nat × Value)), kc ≤ room_1.cells → ks ≤ room_1.slots → decode cL_law pc = .ok (.ireturn, 1) → q_WA p l e room_1 s m args below meth c D N0 9 Q kc ks ws pc lv [.int 1]) (hk28 : ∀ (kc ks : Nat) (v5 : Int32) (S : LSt) (ad : Nat → Nat → Nat) (ws : va_W), k28 kc ks v5 S = some true → LW cc g ga xo xd ad S [] ws → q_WA p l e room_1 s m args below meth c D N0 9 Q kc ks ws 28 [(0, .ref b), (1, .ref (g 0)), (2, .ref (ga 0)), (3, .ref xo), (4, .ref xd), (5, .int v5)] []) (kc ks : Nat) (v5 : Int32) (S : LSt) (ad : Nat → Nat → Nat) (ws : va_W) : f_L_law_1428 L xs k28 kc ks v5 S = some true → LW cc g ga xo xd ad S [] ws → q_WA p l e room_1 s m args below meth c D N0 9 Q kc ks ws 1428 [(0, .ref b), (1, .ref (g 0)), (2, .ref (ga 0)), (3, .ref xo), (4, .ref xd), (5, .int v5)] [] := by
  intro hf hW
  obtain ⟨hr, hf⟩ := q_gd hf
  obtain ⟨hr1, hr2⟩ := hr
  refine q_aload_n (pc := 1428) C dL_law_1428 rfl 1 rfl ?_
  refine q_aload_n (pc := 1429) C dL_law_1429 rfl 0 rfl ?_
  refine q_iload (pc := 1430) C dL_law_1430 5 rfl ?_
  refine q_iconst (pc := 1432) C (1 : Int32) dL_law_1432 q_ci_1 ?_
  refine q_iadd (pc := 1433) C dL_law_1433 ?_
  obtain ⟨g244, hf⟩ := q_gd hf
  refine q_sld (pc := 1434) C CS.2.1 CS.2.2.1 CS.2.2.2 g244 dL_law_1434 ?_
  refine q_aload_n (pc := 1435) C dL_law_1435 rfl 3 rfl ?_
  obtain ⟨u245, e246, hf⟩ := q_bind hf
  obtain ⟨T, hp, hb⟩ := hW.cls
  refine q_perm hp ?_
  refine q_callSH (pc := 1436) (As := [.ref (g 0), .int (xs (v5 + (1 : Int32)).toNatClampNeg), .ref xo]) (rest := []) C (c_L_weight l CS.1 D cc N0 g xo (ld5 cc xd S.2.2.2 :: T) S.2.1 (xs (v5 + (1 : Int32)).toNatClampNeg) S.2.2.1 u245 e246) gL_law_L_weight rfl z_L_weight ⟨(Nat.le_of_ble_eq_true rfl), (Nat.le_of_ble_eq_true rfl)⟩ rfl rfl (Nat.le_of_ble_eq_true rfl) dL_law_1436 ⟨(by show (kc) + 1 ≤ room_1.cells; omega), (by show (ks) + 6 ≤ room_1.slots; omega)⟩ ?_
  rintro _ _ ⟨rfl, rfl⟩
  have hW := hb (S.1, u245.2.2, u245.2.1, S.2.2.2) rfl
  refine LW.ren hW (fun ws hW => ?_)
  refine q_nm (wz := ws) (ka := kc + 1) (kb := ks + 6) (sz := [.int u245.1]) rfl (by omega) (by omega) rfl ?_
  refine q_istore (pc := 1439) (lvq := [(6, .int u245.1), (0, .ref b), (1, .ref (g 0)), (2, .ref (ga 0)), (3, .ref xo), (4, .ref xd), (5, .int v5)]) C dL_law_1439 (by decide) rfl ?_
  refine q_aload_n (pc := 1441) C dL_law_1441 rfl 3 rfl ?_
  refine q_aload_n (pc := 1442) C dL_law_1442 rfl 1 rfl ?_
  refine q_iload (pc := 1443) C dL_law_1443 6 rfl ?_
  refine q_iconst (pc := 1445) C (1 : Int32) dL_law_1445 q_ci_1 ?_
  refine q_iadd (pc := 1446) C dL_law_1446 ?_
  obtain ⟨g247, hf⟩ := q_gd hf
  refine q_sld (pc := 1447) C CS.2.1 CS.2.2.1 CS.2.2.2 g247 dL_law_1447 ?_
  obtain ⟨u248, e249, hf⟩ := q_bind hf
  obtain ⟨_, he⟩ := hW.obj
  refine q_callV (pc := 1448) (As := [.int (xs (v5 + (1 : Int32)).toNatClampNeg)]) (rest := []) C (c_X9_weight l D cc N0 ga ad  (LG cc g xo xd (S.1, u245.2.2, u245.2.1, S.2.2.2) ++ []) (S.1, u245.2.2, u245.2.1, S.2.2.2).1 (xs (v5 + (1 : Int32)).toNatClampNeg) u248 e249 ws hW) gL_law_X9_weight rfl rfl z_X9_weight ⟨(Nat.le_of_ble_eq_true rfl), (Nat.le_of_ble_eq_true rfl)⟩ he rfl rfl rfl (Nat.le_of_ble_eq_true rfl) dL_law_1448 ⟨(by show (kc + 1) + 0 ≤ room_1.cells; omega), (by show (ks + 6) + 0 ≤ room_1.slots; omega)⟩ ?_
  rintro _ ws ⟨rfl, hW⟩
  have hW : LW cc g ga xo xd ad (u248.2, (S.1, u245.2.2, u245.2.1, S.2.2.2).2) [] ws := hW
  refine q_nm (wz := ws) (ka := kc + 1) (kb := ks + 6) (sz := [.int u248.1]) rfl (by omega) (by omega) rfl ?_
  refine q_istore (pc := 1451) (lvq := [(7, .int u248.1), (6, .int u245.1), (0, .ref b), (1, .ref (g 0)), (2, .ref (ga 0)), (3, .ref xo), (4, .ref xd), (5, .int v5)]) C dL_law_1451 (by decide) rfl ?_
  refine q_aload_n (pc := 1453) C dL_law_1453 rfl 4 rfl ?_
  obtain ⟨u250, e251, hf⟩ := q_bind hf
  obtain ⟨_, he⟩ := hW.obj
  refine q_callV (pc := 1454) (As := []) (rest := []) C (c_X9_thrown l D cc N0 ga ad  (LG cc g xo xd (u248.2, (S.1, u245.2.2, u245.2.1, S.2.2.2).2) ++ []) (u248.2, (S.1, u245.2.2, u245.2.1, S.2.2.2).2).1  u250 e251 ws hW) gL_law_X9_thrown rfl rfl z_X9_thrown ⟨(Nat.le_of_ble_eq_true rfl), (Nat.le_of_ble_eq_true rfl)⟩ he rfl rfl rfl (Nat.le_of_ble_eq_true rfl) dL_law_1454 ⟨(by show (kc + 1) + 0 ≤ room_1.cells; omega), (by show (ks + 6) + 0 ≤ room_1.slots; omega)⟩ ?_
  rintro _ ws ⟨rfl, hW⟩
  have hW : LW cc g ga xo xd ad (u248.2, (S.1, u245.2.2, u245.2.1, S.2.2.2).2) [] ws := hW
  refine q_nm (wz := ws) (ka := kc + 1) (kb := ks + 6) (sz := [.int u250]) rfl (by omega) (by omega) rfl ?_
  refine q_iload (pc := 1457) C dL_law_1457 1 rfl ?_
  refine q_icmp_eq (pc := 1459) (tgt := 1464) C dL_law_1459 (by decide) (fun c252 => ?_) (fun c252 => ?_)
  · have hf := q_iteT hf c252
    refine q_iload (pc := 1464) C dL_law_1464 1 rfl ?_
    refine q_if_ne (pc := 1466) (tgt := 1481) C dL_law_1466 (by decide) (fun c253 => ?_) (fun c253 => ?_)
    · have hf := q_iteF hf c253
      refine q_sub (lvq := [(0, .ref b), (1, .ref (g 0)), (2, .ref (ga 0)), (3, .ref xo), (4, .ref xd), (5, .int v5)]) [2, 3, 4, 5, 6, 7] rfl ?_
      exact w_L_law_1481 C CS hQ hk28 (kc + 1) (ks + 6) v5 (u248.2, (S.1, u245.2.2, u245.2.1, S.2.2.2).2) ad ws hf hW
    · have hf := q_iteT hf c253
      refine q_aload_n (pc := 1469) C dL_law_1469 rfl 5 rfl ?_
      refine q_iconst (pc := 1470) C (0 : Int32) dL_law_1470 q_ci_0 ?_
      refine LW.lald (pc := 1471) hW C dL_law_1471 ?_
      refine q_iload (pc := 1472) C dL_law_1472 0 rfl ?_
      refine q_i2l (pc := 1474) C dL_law_1474 rfl ?_
      refine q_lcmp (pc := 1475) C dL_law_1475 ?_
      refine q_if_eq (pc := 1476) (tgt := 1481) C dL_law_1476 (by decide) (fun c254 => ?_) (fun c254 => ?_)
      · have hf := q_iteT hf c254
        refine q_sub (lvq := [(0, .ref b), (1, .ref (g 0)), (2, .ref (ga 0)), (3, .ref xo), (4, .ref xd), (5, .int v5)]) [2, 3, 4, 5, 6, 7] rfl ?_
        exact w_L_law_1481 C CS hQ hk28 (kc + 1) (ks + 6) v5 (u248.2, (S.1, u245.2.2, u245.2.1, S.2.2.2).2) ad ws hf hW
      · have hf := q_iteF hf c254
        refine q_iconst (pc := 1479) C (0 : Int32) dL_law_1479 q_ci_0 ?_
        cases hf
  · have hf := q_iteF hf c252
    refine q_iconst (pc := 1462) C (0 : Int32) dL_law_1462 q_ci_0 ?_
    cases hf
set_option maxRecDepth 100000 in
set_option maxHeartbeats 8000000 in
theorem w_L_law_1525 {p : Program} {l : Launch} {e : Env} {s : State} {m : MethodId} {args : Array Value} {below : List Frame} {meth : Method} {c : Code} {D : va_G} {cc : Nat → ClassId} {N0 : Nat} {Q : State → Prop} {g ga : Nat → Nat} {xo xd b L : Nat} {xs : Nat → Int32} {k28 : Nat → Nat → Int32 → LSt → Option Bool} (C : q_C p s m args meth c cL_law 9 (some .boolean) wsL_law RL D cc N0) (CS : l.stackTraces = false ∧ va_X b L xs s s.heap ∧ b < s.heap.size ∧ ¬ q_A N0 b) (hQ : ∀ (kc ks : Nat) (ws : va_W) (pc : Nat) (lv : List (Nat × Value)), kc ≤ room_1.cells → ks ≤ room_1.slots → decode cL_law pc = .ok (.ireturn, 1) → q_WA p l e room_1 s m args below meth c D N0 9 Q kc ks ws pc lv [.int 1]) (hk28 : ∀ (kc ks : Nat) (v5 : Int32) (S : LSt) (ad : Nat → Nat → Nat) (ws : va_W), k28 kc ks v5 S = some true → LW cc g ga xo xd ad S [] ws → q_WA p l e room_1 s m args below meth c D N0 9 Q kc ks ws 28 [(0, .ref b), (1, .ref (g 0)), (2, .ref (ga 0)), (3, .ref xo), (4, .ref xd), (5, .int v5)] []) (kc ks : Nat) (v5 : Int32) (S : LSt) (ad : Nat → Nat → Nat) (ws : va_W) : f_L_law_1525 L xs k28 kc ks v5 S = some true → LW cc g ga xo xd ad S [] ws → q_WA p l e room_1 s m args below meth c D N0 9 Q kc ks ws 1525 [(0, .ref b), (1, .ref (g 0)), (2, .ref (ga 0)), (3, .ref xo), (4, .ref xd), (5, .int v5)] [] := by
  intro hf hW
  refine q_goto (pc := 1525) (tgt := 2537) C dL_law_1525 (by decide) ?_
  refine q_sub (lvq := [(0, .ref b), (1, .ref (g 0)), (2, .ref (ga 0)), (3, .ref xo), (4, .ref xd), (5, .int v5)]) [0, 1, 2, 3, 4, 5] rfl ?_
  exact w_L_law_2537 C CS hQ hk28 (kc) (ks) v5 S ad ws hf hW
set_option maxRecDepth 100000 in
set_option maxHeartbeats 8000000 in
theorem w_L_law_1484 {p : Program} {l : Launch} {e : Env} {s : State} {m : MethodId} {args : Array Value} {below : List Frame} {meth : Method} {c : Code} {D : va_G} {cc : Nat → ClassId} {N0 : Nat} {Q : State → Prop} {g ga : Nat → Nat} {xo xd b L : Nat} {xs : Nat → Int32} {k28 : Nat → Nat → Int32 → LSt → Option Bool} (C : q_C p s m args meth c cL_law 9 (some .boolean) wsL_law RL D cc N0) (CS : l.stackTraces = false ∧ va_X b L xs s s.heap ∧ b < s.heap.size ∧ ¬ q_A N0 b) (hQ : ∀ (kc ks : Nat) (ws : va_W) (pc : Nat) (lv : List (Nat × Value)), kc ≤ room_1.cells → ks ≤ room_1.slots → decode cL_law pc = .ok (.ireturn, 1) → q_WA p l e room_1 s m args below meth c D N0 9 Q kc ks ws pc lv [.int 1]) (hk28 : ∀ (kc ks : Nat) (v5 : Int32) (S : LSt) (ad : Nat → Nat → Nat) (ws : va_W), k28 kc ks v5 S = some true → LW cc g ga xo xd ad S [] ws → q_WA p l e room_1 s m args below meth c D N0 9 Q kc ks ws 28 [(0, .ref b), (1, .ref (g 0)), (2, .ref (ga 0)), (3, .ref xo), (4, .ref xd), (5, .int v5)] []) (kc ks : Nat) (v5 : Int32) (S : LSt) (ad : Nat → Nat → Nat) (ws : va_W) : f_L_law_1484 L xs k28 kc ks v5 S = some true → LW cc g ga xo xd ad S [] ws → q_WA p l e room_1 s m args below meth c D N0 9 Q kc ks ws 1484 [(0, .ref b), (1, .ref (g 0)), (2, .ref (ga 0)), (3, .ref xo), (4, .ref xd), (5, .int v5)] [] := by
  intro hf hW
  obtain ⟨hr, hf⟩ := q_gd hf
  obtain ⟨hr1, hr2⟩ := hr
  refine q_aload_n (pc := 1484) C dL_law_1484 rfl 1 rfl ?_
  refine q_aload_n (pc := 1485) C dL_law_1485 rfl 3 rfl ?_
  obtain ⟨u255, e256, hf⟩ := q_bind hf
  obtain ⟨T, hp, hb⟩ := hW.cls
  refine q_perm hp ?_
  refine q_callSH (pc := 1486) (As := [.ref (g 0), .ref xo]) (rest := []) C (c_L_regret l CS.1 D cc N0 g xo (ld5 cc xd S.2.2.2 :: T) S.2.1 S.2.2.1 u255 e256) gL_law_L_regret rfl z_L_regret ⟨(Nat.le_of_ble_eq_true rfl), (Nat.le_of_ble_eq_true rfl)⟩ rfl rfl (Nat.le_of_ble_eq_true rfl) dL_law_1486 ⟨(by show (kc) + 1 ≤ room_1.cells; omega), (by show (ks) + 6 ≤ room_1.slots; omega)⟩ ?_
  rintro _ _ ⟨rfl, rfl⟩
  have hW := hb (S.1, u255.2.2, u255.2.1, S.2.2.2) rfl
  refine LW.ren hW (fun ws hW => ?_)
  refine q_nm (wz := ws) (ka := kc + 1) (kb := ks + 6) (sz := [.int u255.1]) rfl (by omega) (by omega) rfl ?_
  refine q_istore (pc := 1489) (lvq := [(6, .int u255.1), (0, .ref b), (1, .ref (g 0)), (2, .ref (ga 0)), (3, .ref xo), (4, .ref xd), (5, .int v5)]) C dL_law_1489 (by decide) rfl ?_
  refine q_aload_n (pc := 1491) C dL_law_1491 rfl 3 rfl ?_
  obtain ⟨u257, e258, hf⟩ := q_bind hf
  obtain ⟨_, he⟩ := hW.obj
  refine q_callV (pc := 1492) (As := []) (rest := []) C (c_X9_regret l D cc N0 ga ad  (LG cc g xo xd (S.1, u255.2.2, u255.2.1, S.2.2.2) ++ []) (S.1, u255.2.2, u255.2.1, S.2.2.2).1  u257 e258 ws hW) gL_law_X9_regret rfl rfl z_X9_regret ⟨(Nat.le_of_ble_eq_true rfl), (Nat.le_of_ble_eq_true rfl)⟩ he rfl rfl rfl (Nat.le_of_ble_eq_true rfl) dL_law_1492 ⟨(by show (kc + 1) + 1 ≤ room_1.cells; omega), (by show (ks + 6) + 4 ≤ room_1.slots; omega)⟩ ?_
  rintro _ ws ⟨rfl, hW⟩
  have hW : LW cc g ga xo xd ad (u257.2, (S.1, u255.2.2, u255.2.1, S.2.2.2).2) [] ws := hW
  refine q_nm (wz := ws) (ka := kc + 2) (kb := ks + 10) (sz := [.int u257.1]) rfl (by omega) (by omega) rfl ?_
  refine q_istore (pc := 1495) (lvq := [(7, .int u257.1), (6, .int u255.1), (0, .ref b), (1, .ref (g 0)), (2, .ref (ga 0)), (3, .ref xo), (4, .ref xd), (5, .int v5)]) C dL_law_1495 (by decide) rfl ?_
  refine q_aload_n (pc := 1497) C dL_law_1497 rfl 4 rfl ?_
  obtain ⟨u259, e260, hf⟩ := q_bind hf
  obtain ⟨_, he⟩ := hW.obj
  refine q_callV (pc := 1498) (As := []) (rest := []) C (c_X9_thrown l D cc N0 ga ad  (LG cc g xo xd (u257.2, (S.1, u255.2.2, u255.2.1, S.2.2.2).2) ++ []) (u257.2, (S.1, u255.2.2, u255.2.1, S.2.2.2).2).1  u259 e260 ws hW) gL_law_X9_thrown rfl rfl z_X9_thrown ⟨(Nat.le_of_ble_eq_true rfl), (Nat.le_of_ble_eq_true rfl)⟩ he rfl rfl rfl (Nat.le_of_ble_eq_true rfl) dL_law_1498 ⟨(by show (kc + 2) + 0 ≤ room_1.cells; omega), (by show (ks + 10) + 0 ≤ room_1.slots; omega)⟩ ?_
  rintro _ ws ⟨rfl, hW⟩
  have hW : LW cc g ga xo xd ad (u257.2, (S.1, u255.2.2, u255.2.1, S.2.2.2).2) [] ws := hW
  refine q_nm (wz := ws) (ka := kc + 2) (kb := ks + 10) (sz := [.int u259]) rfl (by omega) (by omega) rfl ?_
  refine q_iload (pc := 1501) C dL_law_1501 1 rfl ?_
  refine q_icmp_eq (pc := 1503) (tgt := 1508) C dL_law_1503 (by decide) (fun c261 => ?_) (fun c261 => ?_)
  · have hf := q_iteT hf c261
    refine q_iload (pc := 1508) C dL_law_1508 1 rfl ?_
    refine q_if_ne (pc := 1510) (tgt := 1525) C dL_law_1510 (by decide) (fun c262 => ?_) (fun c262 => ?_)
    · have hf := q_iteF hf c262
      refine q_sub (lvq := [(0, .ref b), (1, .ref (g 0)), (2, .ref (ga 0)), (3, .ref xo), (4, .ref xd), (5, .int v5)]) [2, 3, 4, 5, 6, 7] rfl ?_
      exact w_L_law_1525 C CS hQ hk28 (kc + 2) (ks + 10) v5 (u257.2, (S.1, u255.2.2, u255.2.1, S.2.2.2).2) ad ws hf hW
    · have hf := q_iteT hf c262
      refine q_aload_n (pc := 1513) C dL_law_1513 rfl 5 rfl ?_
      refine q_iconst (pc := 1514) C (0 : Int32) dL_law_1514 q_ci_0 ?_
      refine LW.lald (pc := 1515) hW C dL_law_1515 ?_
      refine q_iload (pc := 1516) C dL_law_1516 0 rfl ?_
      refine q_i2l (pc := 1518) C dL_law_1518 rfl ?_
      refine q_lcmp (pc := 1519) C dL_law_1519 ?_
      refine q_if_eq (pc := 1520) (tgt := 1525) C dL_law_1520 (by decide) (fun c263 => ?_) (fun c263 => ?_)
      · have hf := q_iteT hf c263
        refine q_sub (lvq := [(0, .ref b), (1, .ref (g 0)), (2, .ref (ga 0)), (3, .ref xo), (4, .ref xd), (5, .int v5)]) [2, 3, 4, 5, 6, 7] rfl ?_
        exact w_L_law_1525 C CS hQ hk28 (kc + 2) (ks + 10) v5 (u257.2, (S.1, u255.2.2, u255.2.1, S.2.2.2).2) ad ws hf hW
      · have hf := q_iteF hf c263
        refine q_iconst (pc := 1523) C (0 : Int32) dL_law_1523 q_ci_0 ?_
        cases hf
  · have hf := q_iteF hf c261
    refine q_iconst (pc := 1506) C (0 : Int32) dL_law_1506 q_ci_0 ?_
    cases hf
set_option maxRecDepth 100000 in
set_option maxHeartbeats 8000000 in
theorem w_L_law_1597 {p : Program} {l : Launch} {e : Env} {s : State} {m : MethodId} {args : Array Value} {below : List Frame} {meth : Method} {c : Code} {D : va_G} {cc : Nat → ClassId} {N0 : Nat} {Q : State → Prop} {g ga : Nat → Nat} {xo xd b L : Nat} {xs : Nat → Int32} {k28 : Nat → Nat → Int32 → LSt → Option Bool} (C : q_C p s m args meth c cL_law 9 (some .boolean) wsL_law RL D cc N0) (CS : l.stackTraces = false ∧ va_X b L xs s s.heap ∧ b < s.heap.size ∧ ¬ q_A N0 b) (hQ : ∀ (kc ks : Nat) (ws : va_W) (pc : Nat) (lv : List (Nat × Value)), kc ≤ room_1.cells → ks ≤ room_1.slots → decode cL_law pc = .ok (.ireturn, 1) → q_WA p l e room_1 s m args below meth c D N0 9 Q kc ks ws pc lv [.int 1]) (hk28 : ∀ (kc ks : Nat) (v5 : Int32) (S : LSt) (ad : Nat → Nat → Nat) (ws : va_W), k28 kc ks v5 S = some true → LW cc g ga xo xd ad S [] ws → q_WA p l e room_1 s m args below meth c D N0 9 Q kc ks ws 28 [(0, .ref b), (1, .ref (g 0)), (2, .ref (ga 0)), (3, .ref xo), (4, .ref xd), (5, .int v5)] []) (kc ks : Nat) (v5 : Int32) (S : LSt) (ad : Nat → Nat → Nat) (ws : va_W) : f_L_law_1597 L xs k28 kc ks v5 S = some true → LW cc g ga xo xd ad S [] ws → q_WA p l e room_1 s m args below meth c D N0 9 Q kc ks ws 1597 [(0, .ref b), (1, .ref (g 0)), (2, .ref (ga 0)), (3, .ref xo), (4, .ref xd), (5, .int v5)] [] := by
  intro hf hW
  refine q_goto (pc := 1597) (tgt := 2537) C dL_law_1597 (by decide) ?_
  refine q_sub (lvq := [(0, .ref b), (1, .ref (g 0)), (2, .ref (ga 0)), (3, .ref xo), (4, .ref xd), (5, .int v5)]) [0, 1, 2, 3, 4, 5] rfl ?_
  exact w_L_law_2537 C CS hQ hk28 (kc) (ks) v5 S ad ws hf hW
set_option maxRecDepth 100000 in
set_option maxHeartbeats 8000000 in
theorem w_L_law_1564 {p : Program} {l : Launch} {e : Env} {s : State} {m : MethodId} {args : Array Value} {below : List Frame} {meth : Method} {c : Code} {D : va_G} {cc : Nat → ClassId} {N0 : Nat} {Q : State → Prop} {g ga : Nat → Nat} {xo xd b L : Nat} {xs : Nat → Int32} {k28 : Nat → Nat → Int32 → LSt → Option Bool} (C : q_C p s m args meth c cL_law 9 (some .boolean) wsL_law RL D cc N0) (CS : l.stackTraces = false ∧ va_X b L xs s s.heap ∧ b < s.heap.size ∧ ¬ q_A N0 b) (hQ : ∀ (kc ks : Nat) (ws : va_W) (pc : Nat) (lv : List (Nat × Value)), kc ≤ room_1.cells → ks ≤ room_1.slots → decode cL_law pc = .ok (.ireturn, 1) → q_WA p l e room_1 s m args below meth c D N0 9 Q kc ks ws pc lv [.int 1]) (hk28 : ∀ (kc ks : Nat) (v5 : Int32) (S : LSt) (ad : Nat → Nat → Nat) (ws : va_W), k28 kc ks v5 S = some true → LW cc g ga xo xd ad S [] ws → q_WA p l e room_1 s m args below meth c D N0 9 Q kc ks ws 28 [(0, .ref b), (1, .ref (g 0)), (2, .ref (ga 0)), (3, .ref xo), (4, .ref xd), (5, .int v5)] []) (kc ks : Nat) (v5 : Int32) (v6 : Int32) (vt0 : Int32) (S : LSt) (ad : Nat → Nat → Nat) (ws : va_W) : f_L_law_1564 L xs k28 kc ks v5 v6 vt0 S = some true → LW cc g ga xo xd ad S [] ws → q_WA p l e room_1 s m args below meth c D N0 9 Q kc ks ws 1564 [(0, .ref b), (1, .ref (g 0)), (2, .ref (ga 0)), (3, .ref xo), (4, .ref xd), (5, .int v5), (6, .int v6)] [.int vt0, .ref (ga 0)] := by
  intro hf hW
  obtain ⟨hr, hf⟩ := q_gd hf
  obtain ⟨hr1, hr2⟩ := hr
  obtain ⟨u270, e271, hf⟩ := q_bind hf
  obtain ⟨_, he⟩ := hW.obj
  refine q_callV (pc := 1564) (As := [.int vt0]) (rest := []) C (c_X9_state l D cc N0 ga ad  (LG cc g xo xd S ++ []) S.1 vt0 u270 e271 ws hW) gL_law_X9_state rfl rfl z_X9_state ⟨(Nat.le_of_ble_eq_true rfl), (Nat.le_of_ble_eq_true rfl)⟩ he rfl rfl rfl (Nat.le_of_ble_eq_true rfl) dL_law_1564 ⟨(by show (kc) + 2 ≤ room_1.cells; omega), (by show (ks) + 103 ≤ room_1.slots; omega)⟩ ?_
  rintro _ ws ⟨rfl, ad, hW⟩
  have hW : LW cc g ga xo xd ad (u270.2, S.2) [] ws := hW
  refine q_nm (wz := ws) (ka := kc + 2) (kb := ks + 103) (sz := [.int u270.1]) rfl (by omega) (by omega) rfl ?_
  refine q_istore (pc := 1567) (lvq := [(7, .int u270.1), (0, .ref b), (1, .ref (g 0)), (2, .ref (ga 0)), (3, .ref xo), (4, .ref xd), (5, .int v5), (6, .int v6)]) C dL_law_1567 (by decide) rfl ?_
  refine q_aload_n (pc := 1569) C dL_law_1569 rfl 3 rfl ?_
  obtain ⟨u272, e273, hf⟩ := q_bind hf
  obtain ⟨_, he⟩ := hW.obj
  refine q_callV (pc := 1570) (As := []) (rest := []) C (c_X9_thrown l D cc N0 ga ad  (LG cc g xo xd (u270.2, S.2) ++ []) (u270.2, S.2).1  u272 e273 ws hW) gL_law_X9_thrown rfl rfl z_X9_thrown ⟨(Nat.le_of_ble_eq_true rfl), (Nat.le_of_ble_eq_true rfl)⟩ he rfl rfl rfl (Nat.le_of_ble_eq_true rfl) dL_law_1570 ⟨(by show (kc + 2) + 0 ≤ room_1.cells; omega), (by show (ks + 103) + 0 ≤ room_1.slots; omega)⟩ ?_
  rintro _ ws ⟨rfl, hW⟩
  have hW : LW cc g ga xo xd ad (u270.2, S.2) [] ws := hW
  refine q_nm (wz := ws) (ka := kc + 2) (kb := ks + 103) (sz := [.int u272]) rfl (by omega) (by omega) rfl ?_
  refine q_iload (pc := 1573) C dL_law_1573 7 rfl ?_
  refine q_icmp_eq (pc := 1575) (tgt := 1580) C dL_law_1575 (by decide) (fun c274 => ?_) (fun c274 => ?_)
  · have hf := q_iteT hf c274
    refine q_iload (pc := 1580) C dL_law_1580 7 rfl ?_
    refine q_if_ne (pc := 1582) (tgt := 1597) C dL_law_1582 (by decide) (fun c275 => ?_) (fun c275 => ?_)
    · have hf := q_iteF hf c275
      refine q_sub (lvq := [(0, .ref b), (1, .ref (g 0)), (2, .ref (ga 0)), (3, .ref xo), (4, .ref xd), (5, .int v5)]) [1, 2, 3, 4, 5, 6] rfl ?_
      exact w_L_law_1597 C CS hQ hk28 (kc + 2) (ks + 103) v5 (u270.2, S.2) ad ws hf hW
    · have hf := q_iteT hf c275
      refine q_aload_n (pc := 1585) C dL_law_1585 rfl 4 rfl ?_
      refine q_iconst (pc := 1586) C (0 : Int32) dL_law_1586 q_ci_0 ?_
      refine LW.lald (pc := 1587) hW C dL_law_1587 ?_
      refine q_iload (pc := 1588) C dL_law_1588 0 rfl ?_
      refine q_i2l (pc := 1590) C dL_law_1590 rfl ?_
      refine q_lcmp (pc := 1591) C dL_law_1591 ?_
      refine q_if_eq (pc := 1592) (tgt := 1597) C dL_law_1592 (by decide) (fun c276 => ?_) (fun c276 => ?_)
      · have hf := q_iteT hf c276
        refine q_sub (lvq := [(0, .ref b), (1, .ref (g 0)), (2, .ref (ga 0)), (3, .ref xo), (4, .ref xd), (5, .int v5)]) [1, 2, 3, 4, 5, 6] rfl ?_
        exact w_L_law_1597 C CS hQ hk28 (kc + 2) (ks + 103) v5 (u270.2, S.2) ad ws hf hW
      · have hf := q_iteF hf c276
        refine q_iconst (pc := 1595) C (0 : Int32) dL_law_1595 q_ci_0 ?_
        cases hf
  · have hf := q_iteF hf c274
    refine q_iconst (pc := 1578) C (0 : Int32) dL_law_1578 q_ci_0 ?_
    cases hf
set_option maxRecDepth 100000 in
set_option maxHeartbeats 8000000 in
theorem w_L_law_1543 {p : Program} {l : Launch} {e : Env} {s : State} {m : MethodId} {args : Array Value} {below : List Frame} {meth : Method} {c : Code} {D : va_G} {cc : Nat → ClassId} {N0 : Nat} {Q : State → Prop} {g ga : Nat → Nat} {xo xd b L : Nat} {xs : Nat → Int32} {k28 : Nat → Nat → Int32 → LSt → Option Bool} (C : q_C p s m args meth c cL_law 9 (some .boolean) wsL_law RL D cc N0) (CS : l.stackTraces = false ∧ va_X b L xs s s.heap ∧ b < s.heap.size ∧ ¬ q_A N0 b) (hQ : ∀ (kc ks : Nat) (ws : va_W) (pc : Nat) (lv : List (Nat × Value)), kc ≤ room_1.cells → ks ≤ room_1.slots → decode cL_law pc = .ok (.ireturn, 1) → q_WA p l e room_1 s m args below meth c D N0 9 Q kc ks ws pc lv [.int 1]) (hk28 : ∀ (kc ks : Nat) (v5 : Int32) (S : LSt) (ad : Nat → Nat → Nat) (ws : va_W), k28 kc ks v5 S = some true → LW cc g ga xo xd ad S [] ws → q_WA p l e room_1 s m args below meth c D N0 9 Q kc ks ws 28 [(0, .ref b), (1, .ref (g 0)), (2, .ref (ga 0)), (3, .ref xo), (4, .ref xd), (5, .int v5)] []) (kc ks : Nat) (v5 : Int32) (vt0 : Int32) (S : LSt) (ad : Nat → Nat → Nat) (ws : va_W) : f_L_law_1543 L xs k28 kc ks v5 vt0 S = some true → LW cc g ga xo xd ad S [] ws → q_WA p l e room_1 s m args below meth c D N0 9 Q kc ks ws 1543 [(0, .ref b), (1, .ref (g 0)), (2, .ref (ga 0)), (3, .ref xo), (4, .ref xd), (5, .int v5)] [.int vt0, .ref (g 0)] := by
  intro hf hW
  obtain ⟨hr, hf⟩ := q_gd hf
  obtain ⟨hr1, hr2⟩ := hr
  refine q_aload_n (pc := 1543) C dL_law_1543 rfl 3 rfl ?_
  obtain ⟨u266, e267, hf⟩ := q_bind hf
  obtain ⟨T, hp, hb⟩ := hW.cls
  refine q_perm hp ?_
  refine q_callSH (pc := 1544) (As := [.ref (g 0), .int vt0, .ref xo]) (rest := []) C (c_L_state l CS.1 D cc N0 g xo (ld5 cc xd S.2.2.2 :: T) S.2.1 vt0 S.2.2.1 u266 e267) gL_law_L_state rfl z_L_state ⟨(Nat.le_of_ble_eq_true rfl), (Nat.le_of_ble_eq_true rfl)⟩ rfl rfl (Nat.le_of_ble_eq_true rfl) dL_law_1544 ⟨(by show (kc) + 1 ≤ room_1.cells; omega), (by show (ks) + 6 ≤ room_1.slots; omega)⟩ ?_
  rintro _ _ ⟨rfl, rfl⟩
  have hW := hb (S.1, u266.2.2, u266.2.1, S.2.2.2) rfl
  refine LW.ren hW (fun ws hW => ?_)
  refine q_nm (wz := ws) (ka := kc + 1) (kb := ks + 6) (sz := [.int u266.1]) rfl (by omega) (by omega) rfl ?_
  refine q_istore (pc := 1547) (lvq := [(6, .int u266.1), (0, .ref b), (1, .ref (g 0)), (2, .ref (ga 0)), (3, .ref xo), (4, .ref xd), (5, .int v5)]) C dL_law_1547 (by decide) rfl ?_
  refine q_aload_n (pc := 1549) C dL_law_1549 rfl 3 rfl ?_
  refine q_aload_n (pc := 1550) C dL_law_1550 rfl 1 rfl ?_
  refine q_iload (pc := 1551) C dL_law_1551 6 rfl ?_
  refine q_iconst (pc := 1553) C (1 : Int32) dL_law_1553 q_ci_1 ?_
  refine q_iadd (pc := 1554) C dL_law_1554 ?_
  obtain ⟨g268, hf⟩ := q_gd hf
  refine q_sld (pc := 1555) C CS.2.1 CS.2.2.1 CS.2.2.2 g268 dL_law_1555 ?_
  refine q_if_eq (pc := 1556) (tgt := 1563) C dL_law_1556 (by decide) (fun c269 => ?_) (fun c269 => ?_)
  · have hf := q_iteT hf c269
    refine q_iconst (pc := 1563) C (0 : Int32) dL_law_1563 q_ci_0 ?_
    refine q_sub (lvq := [(0, .ref b), (1, .ref (g 0)), (2, .ref (ga 0)), (3, .ref xo), (4, .ref xd), (5, .int v5), (6, .int u266.1)]) [1, 2, 3, 4, 5, 6, 0] rfl ?_
    exact w_L_law_1564 C CS hQ hk28 (kc + 1) (ks + 6) v5 u266.1 (0 : Int32) (S.1, u266.2.2, u266.2.1, S.2.2.2) ad ws hf hW
  · have hf := q_iteF hf c269
    refine q_iconst (pc := 1559) C (1 : Int32) dL_law_1559 q_ci_1 ?_
    refine q_goto (pc := 1560) (tgt := 1564) C dL_law_1560 (by decide) ?_
    refine q_sub (lvq := [(0, .ref b), (1, .ref (g 0)), (2, .ref (ga 0)), (3, .ref xo), (4, .ref xd), (5, .int v5), (6, .int u266.1)]) [1, 2, 3, 4, 5, 6, 0] rfl ?_
    exact w_L_law_1564 C CS hQ hk28 (kc + 1) (ks + 6) v5 u266.1 (1 : Int32) (S.1, u266.2.2, u266.2.1, S.2.2.2) ad ws hf hW
set_option maxRecDepth 100000 in
set_option maxHeartbeats 8000000 in
theorem w_L_law_1528 {p : Program} {l : Launch} {e : Env} {s : State} {m : MethodId} {args : Array Value} {below : List Frame} {meth : Method} {c : Code} {D : va_G} {cc : Nat → ClassId} {N0 : Nat} {Q : State → Prop} {g ga : Nat → Nat} {xo xd b L : Nat} {xs : Nat → Int32} {k28 : Nat → Nat → Int32 → LSt → Option Bool} (C : q_C p s m args meth c cL_law 9 (some .boolean) wsL_law RL D cc N0) (CS : l.stackTraces = false ∧ va_X b L xs s s.heap ∧ b < s.heap.size ∧ ¬ q_A N0 b) (hQ : ∀ (kc ks : Nat) (ws : va_W) (pc : Nat) (lv : List (Nat × Value)), kc ≤ room_1.cells → ks ≤ room_1.slots → decode cL_law pc = .ok (.ireturn, 1) → q_WA p l e room_1 s m args below meth c D N0 9 Q kc ks ws pc lv [.int 1]) (hk28 : ∀ (kc ks : Nat) (v5 : Int32) (S : LSt) (ad : Nat → Nat → Nat) (ws : va_W), k28 kc ks v5 S = some true → LW cc g ga xo xd ad S [] ws → q_WA p l e room_1 s m args below meth c D N0 9 Q kc ks ws 28 [(0, .ref b), (1, .ref (g 0)), (2, .ref (ga 0)), (3, .ref xo), (4, .ref xd), (5, .int v5)] []) (kc ks : Nat) (v5 : Int32) (S : LSt) (ad : Nat → Nat → Nat) (ws : va_W) : f_L_law_1528 L xs k28 kc ks v5 S = some true → LW cc g ga xo xd ad S [] ws → q_WA p l e room_1 s m args below meth c D N0 9 Q kc ks ws 1528 [(0, .ref b), (1, .ref (g 0)), (2, .ref (ga 0)), (3, .ref xo), (4, .ref xd), (5, .int v5)] [] := by
  intro hf hW
  obtain ⟨hr, hf⟩ := q_gd hf
  obtain ⟨hr1, hr2⟩ := hr
  refine q_aload_n (pc := 1528) C dL_law_1528 rfl 1 rfl ?_
  refine q_aload_n (pc := 1529) C dL_law_1529 rfl 0 rfl ?_
  refine q_iload (pc := 1530) C dL_law_1530 5 rfl ?_
  refine q_iconst (pc := 1532) C (1 : Int32) dL_law_1532 q_ci_1 ?_
  refine q_iadd (pc := 1533) C dL_law_1533 ?_
  obtain ⟨g264, hf⟩ := q_gd hf
  refine q_sld (pc := 1534) C CS.2.1 CS.2.2.1 CS.2.2.2 g264 dL_law_1534 ?_
  refine q_if_eq (pc := 1535) (tgt := 1542) C dL_law_1535 (by decide) (fun c265 => ?_) (fun c265 => ?_)
  · have hf := q_iteT hf c265
    refine q_iconst (pc := 1542) C (0 : Int32) dL_law_1542 q_ci_0 ?_
    refine q_sub (lvq := [(0, .ref b), (1, .ref (g 0)), (2, .ref (ga 0)), (3, .ref xo), (4, .ref xd), (5, .int v5)]) [0, 1, 2, 3, 4, 5] rfl ?_
    exact w_L_law_1543 C CS hQ hk28 (kc) (ks) v5 (0 : Int32) S ad ws hf hW
  · have hf := q_iteF hf c265
    refine q_iconst (pc := 1538) C (1 : Int32) dL_law_1538 q_ci_1 ?_
    refine q_goto (pc := 1539) (tgt := 1543) C dL_law_1539 (by decide) ?_
    refine q_sub (lvq := [(0, .ref b), (1, .ref (g 0)), (2, .ref (ga 0)), (3, .ref xo), (4, .ref xd), (5, .int v5)]) [0, 1, 2, 3, 4, 5] rfl ?_
    exact w_L_law_1543 C CS hQ hk28 (kc) (ks) v5 (1 : Int32) S ad ws hf hW
set_option maxRecDepth 100000 in
set_option maxHeartbeats 8000000 in
theorem w_L_law_1679 {p : Program} {l : Launch} {e : Env} {s : State} {m : MethodId} {args : Array Value} {below : List Frame} {meth : Method} {c : Code} {D : va_G} {cc : Nat → ClassId} {N0 : Nat} {Q : State → Prop} {g ga : Nat → Nat} {xo xd b L : Nat} {xs : Nat → Int32} {k28 : Nat → Nat → Int32 → LSt → Option Bool} (C : q_C p s m args meth c cL_law 9 (some .boolean) wsL_law RL D cc N0) (CS : l.stackTraces = false ∧ va_X b L xs s s.heap ∧ b < s.heap.size ∧ ¬ q_A N0 b) (hQ : ∀ (kc ks : Nat) (ws : va_W) (pc : Nat) (lv : List (Nat × Value)), kc ≤ room_1.cells → ks ≤ room_1.slots → decode cL_law pc = .ok (.ireturn, 1) → q_WA p l e room_1 s m args below meth c D N0 9 Q kc ks ws pc lv [.int 1]) (hk28 : ∀ (kc ks : Nat) (v5 : Int32) (S : LSt) (ad : Nat → Nat → Nat) (ws : va_W), k28 kc ks v5 S = some true → LW cc g ga xo xd ad S [] ws → q_WA p l e room_1 s m args below meth c D N0 9 Q kc ks ws 28 [(0, .ref b), (1, .ref (g 0)), (2, .ref (ga 0)), (3, .ref xo), (4, .ref xd), (5, .int v5)] []) (kc ks : Nat) (v5 : Int32) (S : LSt) (ad : Nat → Nat → Nat) (ws : va_W) : f_L_law_1679 L xs k28 kc ks v5 S = some true → LW cc g ga xo xd ad S [] ws → q_WA p l e room_1 s m args below meth c D N0 9 Q kc ks ws 1679 [(0, .ref b), (1, .ref (g 0)), (2, .ref (ga 0)), (3, .ref xo), (4, .ref xd), (5, .int v5)] [] := by
  intro hf hW
  refine q_goto (pc := 1679) (tgt := 2537) C dL_law_1679 (by decide) ?_
  refine q_sub (lvq := [(0, .ref b), (1, .ref (g 0)), (2, .ref (ga 0)), (3, .ref xo), (4, .ref xd), (5, .int v5)]) [0, 1, 2, 3, 4, 5] rfl ?_
  exact w_L_law_2537 C CS hQ hk28 (kc) (ks) v5 S ad ws hf hW
set_option maxRecDepth 100000 in
set_option maxHeartbeats 8000000 in
theorem w_L_law_1600 {p : Program} {l : Launch} {e : Env} {s : State} {m : MethodId} {args : Array Value} {below : List Frame} {meth : Method} {c : Code} {D : va_G} {cc : Nat → ClassId} {N0 : Nat} {Q : State → Prop} {g ga : Nat → Nat} {xo xd b L : Nat} {xs : Nat → Int32} {k28 : Nat → Nat → Int32 → LSt → Option Bool} (C : q_C p s m args meth c cL_law 9 (some .boolean) wsL_law RL D cc N0) (CS : l.stackTraces = false ∧ va_X b L xs s s.heap ∧ b < s.heap.size ∧ ¬ q_A N0 b) (hQ : ∀ (kc ks : Nat) (ws : va_W) (pc : Nat) (lv : List (Nat × Value)), kc ≤ room_1.cells → ks ≤ room_1.slots → decode cL_law pc = .ok (.ireturn, 1) → q_WA p l e room_1 s m args below meth c D N0 9 Q kc ks ws pc lv [.int 1]) (hk28 : ∀ (kc ks : Nat) (v5 : Int32) (S : LSt) (ad : Nat → Nat → Nat) (ws : va_W), k28 kc ks v5 S = some true → LW cc g ga xo xd ad S [] ws → q_WA p l e room_1 s m args below meth c D N0 9 Q kc ks ws 28 [(0, .ref b), (1, .ref (g 0)), (2, .ref (ga 0)), (3, .ref xo), (4, .ref xd), (5, .int v5)] []) (kc ks : Nat) (v5 : Int32) (S : LSt) (ad : Nat → Nat → Nat) (ws : va_W) : f_L_law_1600 L xs k28 kc ks v5 S = some true → LW cc g ga xo xd ad S [] ws → q_WA p l e room_1 s m args below meth c D N0 9 Q kc ks ws 1600 [(0, .ref b), (1, .ref (g 0)), (2, .ref (ga 0)), (3, .ref xo), (4, .ref xd), (5, .int v5)] [] := by
  intro hf hW
  obtain ⟨hr, hf⟩ := q_gd hf
  obtain ⟨hr1, hr2⟩ := hr
  refine q_aload_n (pc := 1600) C dL_law_1600 rfl 1 rfl ?_
  refine q_aload_n (pc := 1601) C dL_law_1601 rfl 0 rfl ?_
  refine q_iload (pc := 1602) C dL_law_1602 5 rfl ?_
  refine q_iconst (pc := 1604) C (1 : Int32) dL_law_1604 q_ci_1 ?_
  refine q_iadd (pc := 1605) C dL_law_1605 ?_
  obtain ⟨g277, hf⟩ := q_gd hf
  refine q_sld (pc := 1606) C CS.2.1 CS.2.2.1 CS.2.2.2 g277 dL_law_1606 ?_
  refine q_aload_n (pc := 1607) C dL_law_1607 rfl 0 rfl ?_
  refine q_iload (pc := 1608) C dL_law_1608 5 rfl ?_
  refine q_iconst (pc := 1610) C (2 : Int32) dL_law_1610 q_ci_2 ?_
  refine q_iadd (pc := 1611) C dL_law_1611 ?_
  obtain ⟨g278, hf⟩ := q_gd hf
  refine q_sld (pc := 1612) C CS.2.1 CS.2.2.1 CS.2.2.2 g278 dL_law_1612 ?_
  refine q_i2c (pc := 1613) C dL_law_1613 rfl ?_
  refine q_aload_n (pc := 1614) C dL_law_1614 rfl 0 rfl ?_
  refine q_iload (pc := 1615) C dL_law_1615 5 rfl ?_
  refine q_iconst (pc := 1617) C (3 : Int32) dL_law_1617 q_ci_3 ?_
  refine q_iadd (pc := 1618) C dL_law_1618 ?_
  obtain ⟨g279, hf⟩ := q_gd hf
  refine q_sld (pc := 1619) C CS.2.1 CS.2.2.1 CS.2.2.2 g279 dL_law_1619 ?_
  refine q_aload_n (pc := 1620) C dL_law_1620 rfl 3 rfl ?_
  obtain ⟨u280, e281, hf⟩ := q_bind hf
  obtain ⟨T, hp, hb⟩ := hW.cls
  refine q_perm hp ?_
  refine q_callSH (pc := 1621) (As := [.ref (g 0), .int (xs (v5 + (1 : Int32)).toNatClampNeg), .int (((xs (v5 + (2 : Int32)).toNatClampNeg).toUInt32 % 65536).toInt32), .int (xs (v5 + (3 : Int32)).toNatClampNeg), .ref xo]) (rest := []) C (c_L_go l CS.1 D cc N0 g xo (ld5 cc xd S.2.2.2 :: T) S.2.1 (xs (v5 + (1 : Int32)).toNatClampNeg) (((xs (v5 + (2 : Int32)).toNatClampNeg).toUInt32 % 65536).toInt32) (xs (v5 + (3 : Int32)).toNatClampNeg) S.2.2.1 u280 e281) gL_law_L_go rfl z_L_go ⟨(Nat.le_of_ble_eq_true rfl), (Nat.le_of_ble_eq_true rfl)⟩ rfl rfl (Nat.le_of_ble_eq_true rfl) dL_law_1621 ⟨(by show (kc) + 1 ≤ room_1.cells; omega), (by show (ks) + 6 ≤ room_1.slots; omega)⟩ ?_
  rintro _ _ ⟨rfl, rfl⟩
  have hW := hb (S.1, u280.2.2, u280.2.1, S.2.2.2) rfl
  refine LW.ren hW (fun ws hW => ?_)
  refine q_nm (wz := ws) (ka := kc + 1) (kb := ks + 6) (sz := [.int u280.1]) rfl (by omega) (by omega) rfl ?_
  refine q_istore (pc := 1624) (lvq := [(6, .int u280.1), (0, .ref b), (1, .ref (g 0)), (2, .ref (ga 0)), (3, .ref xo), (4, .ref xd), (5, .int v5)]) C dL_law_1624 (by decide) rfl ?_
  refine q_aload_n (pc := 1626) C dL_law_1626 rfl 3 rfl ?_
  refine q_aload_n (pc := 1627) C dL_law_1627 rfl 1 rfl ?_
  refine q_iload (pc := 1628) C dL_law_1628 6 rfl ?_
  refine q_iconst (pc := 1630) C (1 : Int32) dL_law_1630 q_ci_1 ?_
  refine q_iadd (pc := 1631) C dL_law_1631 ?_
  obtain ⟨g282, hf⟩ := q_gd hf
  refine q_sld (pc := 1632) C CS.2.1 CS.2.2.1 CS.2.2.2 g282 dL_law_1632 ?_
  refine q_aload_n (pc := 1633) C dL_law_1633 rfl 1 rfl ?_
  refine q_iload (pc := 1634) C dL_law_1634 6 rfl ?_
  refine q_iconst (pc := 1636) C (2 : Int32) dL_law_1636 q_ci_2 ?_
  refine q_iadd (pc := 1637) C dL_law_1637 ?_
  obtain ⟨g283, hf⟩ := q_gd hf
  refine q_sld (pc := 1638) C CS.2.1 CS.2.2.1 CS.2.2.2 g283 dL_law_1638 ?_
  refine q_i2c (pc := 1639) C dL_law_1639 rfl ?_
  refine q_aload_n (pc := 1640) C dL_law_1640 rfl 1 rfl ?_
  refine q_iload (pc := 1641) C dL_law_1641 6 rfl ?_
  refine q_iconst (pc := 1643) C (3 : Int32) dL_law_1643 q_ci_3 ?_
  refine q_iadd (pc := 1644) C dL_law_1644 ?_
  obtain ⟨g284, hf⟩ := q_gd hf
  refine q_sld (pc := 1645) C CS.2.1 CS.2.2.1 CS.2.2.2 g284 dL_law_1645 ?_
  obtain ⟨u285, e286, hf⟩ := q_bind hf
  obtain ⟨_, he⟩ := hW.obj
  refine q_callV (pc := 1646) (As := [.int (xs (v5 + (1 : Int32)).toNatClampNeg), .int (((xs (v5 + (2 : Int32)).toNatClampNeg).toUInt32 % 65536).toInt32), .int (xs (v5 + (3 : Int32)).toNatClampNeg)]) (rest := []) C (c_X9_go l D cc N0 ga ad  (LG cc g xo xd (S.1, u280.2.2, u280.2.1, S.2.2.2) ++ []) (S.1, u280.2.2, u280.2.1, S.2.2.2).1 (xs (v5 + (1 : Int32)).toNatClampNeg) (((xs (v5 + (2 : Int32)).toNatClampNeg).toUInt32 % 65536).toInt32) (xs (v5 + (3 : Int32)).toNatClampNeg) u285 e286 ws hW) gL_law_X9_go rfl rfl z_X9_go ⟨(Nat.le_of_ble_eq_true rfl), (Nat.le_of_ble_eq_true rfl)⟩ he rfl rfl rfl (Nat.le_of_ble_eq_true rfl) dL_law_1646 ⟨(by show (kc + 1) + 0 ≤ room_1.cells; omega), (by show (ks + 6) + 0 ≤ room_1.slots; omega)⟩ ?_
  rintro _ ws ⟨rfl, hW⟩
  have hW : LW cc g ga xo xd ad (u285.2, (S.1, u280.2.2, u280.2.1, S.2.2.2).2) [] ws := hW
  refine q_nm (wz := ws) (ka := kc + 1) (kb := ks + 6) (sz := [.int u285.1]) rfl (by omega) (by omega) rfl ?_
  refine q_istore (pc := 1649) (lvq := [(7, .int u285.1), (6, .int u280.1), (0, .ref b), (1, .ref (g 0)), (2, .ref (ga 0)), (3, .ref xo), (4, .ref xd), (5, .int v5)]) C dL_law_1649 (by decide) rfl ?_
  refine q_aload_n (pc := 1651) C dL_law_1651 rfl 4 rfl ?_
  obtain ⟨u287, e288, hf⟩ := q_bind hf
  obtain ⟨_, he⟩ := hW.obj
  refine q_callV (pc := 1652) (As := []) (rest := []) C (c_X9_thrown l D cc N0 ga ad  (LG cc g xo xd (u285.2, (S.1, u280.2.2, u280.2.1, S.2.2.2).2) ++ []) (u285.2, (S.1, u280.2.2, u280.2.1, S.2.2.2).2).1  u287 e288 ws hW) gL_law_X9_thrown rfl rfl z_X9_thrown ⟨(Nat.le_of_ble_eq_true rfl), (Nat.le_of_ble_eq_true rfl)⟩ he rfl rfl rfl (Nat.le_of_ble_eq_true rfl) dL_law_1652 ⟨(by show (kc + 1) + 0 ≤ room_1.cells; omega), (by show (ks + 6) + 0 ≤ room_1.slots; omega)⟩ ?_
  rintro _ ws ⟨rfl, hW⟩
  have hW : LW cc g ga xo xd ad (u285.2, (S.1, u280.2.2, u280.2.1, S.2.2.2).2) [] ws := hW
  refine q_nm (wz := ws) (ka := kc + 1) (kb := ks + 6) (sz := [.int u287]) rfl (by omega) (by omega) rfl ?_
  refine q_iload (pc := 1655) C dL_law_1655 1 rfl ?_
  refine q_icmp_eq (pc := 1657) (tgt := 1662) C dL_law_1657 (by decide) (fun c289 => ?_) (fun c289 => ?_)
  · have hf := q_iteT hf c289
    refine q_iload (pc := 1662) C dL_law_1662 1 rfl ?_
    refine q_if_ne (pc := 1664) (tgt := 1679) C dL_law_1664 (by decide) (fun c290 => ?_) (fun c290 => ?_)
    · have hf := q_iteF hf c290
      refine q_sub (lvq := [(0, .ref b), (1, .ref (g 0)), (2, .ref (ga 0)), (3, .ref xo), (4, .ref xd), (5, .int v5)]) [2, 3, 4, 5, 6, 7] rfl ?_
      exact w_L_law_1679 C CS hQ hk28 (kc + 1) (ks + 6) v5 (u285.2, (S.1, u280.2.2, u280.2.1, S.2.2.2).2) ad ws hf hW
    · have hf := q_iteT hf c290
      refine q_aload_n (pc := 1667) C dL_law_1667 rfl 5 rfl ?_
      refine q_iconst (pc := 1668) C (0 : Int32) dL_law_1668 q_ci_0 ?_
      refine LW.lald (pc := 1669) hW C dL_law_1669 ?_
      refine q_iload (pc := 1670) C dL_law_1670 0 rfl ?_
      refine q_i2l (pc := 1672) C dL_law_1672 rfl ?_
      refine q_lcmp (pc := 1673) C dL_law_1673 ?_
      refine q_if_eq (pc := 1674) (tgt := 1679) C dL_law_1674 (by decide) (fun c291 => ?_) (fun c291 => ?_)
      · have hf := q_iteT hf c291
        refine q_sub (lvq := [(0, .ref b), (1, .ref (g 0)), (2, .ref (ga 0)), (3, .ref xo), (4, .ref xd), (5, .int v5)]) [2, 3, 4, 5, 6, 7] rfl ?_
        exact w_L_law_1679 C CS hQ hk28 (kc + 1) (ks + 6) v5 (u285.2, (S.1, u280.2.2, u280.2.1, S.2.2.2).2) ad ws hf hW
      · have hf := q_iteF hf c291
        refine q_iconst (pc := 1677) C (0 : Int32) dL_law_1677 q_ci_0 ?_
        cases hf
  · have hf := q_iteF hf c289
    refine q_iconst (pc := 1660) C (0 : Int32) dL_law_1660 q_ci_0 ?_
    cases hf
set_option maxRecDepth 100000 in
set_option maxHeartbeats 8000000 in
theorem w_L_law_1754 {p : Program} {l : Launch} {e : Env} {s : State} {m : MethodId} {args : Array Value} {below : List Frame} {meth : Method} {c : Code} {D : va_G} {cc : Nat → ClassId} {N0 : Nat} {Q : State → Prop} {g ga : Nat → Nat} {xo xd b L : Nat} {xs : Nat → Int32} {k28 : Nat → Nat → Int32 → LSt → Option Bool} (C : q_C p s m args meth c cL_law 9 (some .boolean) wsL_law RL D cc N0) (CS : l.stackTraces = false ∧ va_X b L xs s s.heap ∧ b < s.heap.size ∧ ¬ q_A N0 b) (hQ : ∀ (kc ks : Nat) (ws : va_W) (pc : Nat) (lv : List (Nat × Value)), kc ≤ room_1.cells → ks ≤ room_1.slots → decode cL_law pc = .ok (.ireturn, 1) → q_WA p l e room_1 s m args below meth c D N0 9 Q kc ks ws pc lv [.int 1]) (hk28 : ∀ (kc ks : Nat) (v5 : Int32) (S : LSt) (ad : Nat → Nat → Nat) (ws : va_W), k28 kc ks v5 S = some true → LW cc g ga xo xd ad S [] ws → q_WA p l e room_1 s m args below meth c D N0 9 Q kc ks ws 28 [(0, .ref b), (1, .ref (g 0)), (2, .ref (ga 0)), (3, .ref xo), (4, .ref xd), (5, .int v5)] []) (kc ks : Nat) (v5 : Int32) (S : LSt) (ad : Nat → Nat → Nat) (ws : va_W) : f_L_law_1754 L xs k28 kc ks v5 S = some true → LW cc g ga xo xd ad S [] ws → q_WA p l e room_1 s m args below meth c D N0 9 Q kc ks ws 1754 [(0, .ref b), (1, .ref (g 0)), (2, .ref (ga 0)), (3, .ref xo), (4, .ref xd), (5, .int v5)] [] := by
  intro hf hW
  refine q_goto (pc := 1754) (tgt := 2537) C dL_law_1754 (by decide) ?_
  refine q_sub (lvq := [(0, .ref b), (1, .ref (g 0)), (2, .ref (ga 0)), (3, .ref xo), (4, .ref xd), (5, .int v5)]) [0, 1, 2, 3, 4, 5] rfl ?_
  exact w_L_law_2537 C CS hQ hk28 (kc) (ks) v5 S ad ws hf hW
set_option maxRecDepth 100000 in
set_option maxHeartbeats 8000000 in
theorem w_L_law_1748 {p : Program} {l : Launch} {e : Env} {s : State} {m : MethodId} {args : Array Value} {below : List Frame} {meth : Method} {c : Code} {D : va_G} {cc : Nat → ClassId} {N0 : Nat} {Q : State → Prop} {g ga : Nat → Nat} {xo xd b L : Nat} {xs : Nat → Int32} {k28 : Nat → Nat → Int32 → LSt → Option Bool} (C : q_C p s m args meth c cL_law 9 (some .boolean) wsL_law RL D cc N0) (CS : l.stackTraces = false ∧ va_X b L xs s s.heap ∧ b < s.heap.size ∧ ¬ q_A N0 b) (hQ : ∀ (kc ks : Nat) (ws : va_W) (pc : Nat) (lv : List (Nat × Value)), kc ≤ room_1.cells → ks ≤ room_1.slots → decode cL_law pc = .ok (.ireturn, 1) → q_WA p l e room_1 s m args below meth c D N0 9 Q kc ks ws pc lv [.int 1]) (hk28 : ∀ (kc ks : Nat) (v5 : Int32) (S : LSt) (ad : Nat → Nat → Nat) (ws : va_W), k28 kc ks v5 S = some true → LW cc g ga xo xd ad S [] ws → q_WA p l e room_1 s m args below meth c D N0 9 Q kc ks ws 28 [(0, .ref b), (1, .ref (g 0)), (2, .ref (ga 0)), (3, .ref xo), (4, .ref xd), (5, .int v5)] []) (kc ks : Nat) (v5 : Int32) (vt0 : Int64) (vt1 : Int64) (S : LSt) (ad : Nat → Nat → Nat) (ws : va_W) : f_L_law_1748 L xs k28 kc ks v5 vt0 vt1 S = some true → LW cc g ga xo xd ad S [] ws → q_WA p l e room_1 s m args below meth c D N0 9 Q kc ks ws 1748 [(0, .ref b), (1, .ref (g 0)), (2, .ref (ga 0)), (3, .ref xo), (4, .ref xd), (5, .int v5)] [.long vt0, .long vt1] := by
  intro hf hW
  refine q_lcmp (pc := 1748) C dL_law_1748 ?_
  refine q_if_eq (pc := 1749) (tgt := 1754) C dL_law_1749 (by decide) (fun c305 => ?_) (fun c305 => ?_)
  · have hf := q_iteT hf c305
    refine q_sub (lvq := [(0, .ref b), (1, .ref (g 0)), (2, .ref (ga 0)), (3, .ref xo), (4, .ref xd), (5, .int v5)]) [0, 1, 2, 3, 4, 5] rfl ?_
    exact w_L_law_1754 C CS hQ hk28 (kc) (ks) v5 S ad ws hf hW
  · have hf := q_iteF hf c305
    refine q_iconst (pc := 1752) C (0 : Int32) dL_law_1752 q_ci_0 ?_
    cases hf
set_option maxRecDepth 100000 in
set_option maxHeartbeats 8000000 in
theorem w_L_law_1682 {p : Program} {l : Launch} {e : Env} {s : State} {m : MethodId} {args : Array Value} {below : List Frame} {meth : Method} {c : Code} {D : va_G} {cc : Nat → ClassId} {N0 : Nat} {Q : State → Prop} {g ga : Nat → Nat} {xo xd b L : Nat} {xs : Nat → Int32} {k28 : Nat → Nat → Int32 → LSt → Option Bool} (C : q_C p s m args meth c cL_law 9 (some .boolean) wsL_law RL D cc N0) (CS : l.stackTraces = false ∧ va_X b L xs s s.heap ∧ b < s.heap.size ∧ ¬ q_A N0 b) (hQ : ∀ (kc ks : Nat) (ws : va_W) (pc : Nat) (lv : List (Nat × Value)), kc ≤ room_1.cells → ks ≤ room_1.slots → decode cL_law pc = .ok (.ireturn, 1) → q_WA p l e room_1 s m args below meth c D N0 9 Q kc ks ws pc lv [.int 1]) (hk28 : ∀ (kc ks : Nat) (v5 : Int32) (S : LSt) (ad : Nat → Nat → Nat) (ws : va_W), k28 kc ks v5 S = some true → LW cc g ga xo xd ad S [] ws → q_WA p l e room_1 s m args below meth c D N0 9 Q kc ks ws 28 [(0, .ref b), (1, .ref (g 0)), (2, .ref (ga 0)), (3, .ref xo), (4, .ref xd), (5, .int v5)] []) (kc ks : Nat) (v5 : Int32) (S : LSt) (ad : Nat → Nat → Nat) (ws : va_W) : f_L_law_1682 L xs k28 kc ks v5 S = some true → LW cc g ga xo xd ad S [] ws → q_WA p l e room_1 s m args below meth c D N0 9 Q kc ks ws 1682 [(0, .ref b), (1, .ref (g 0)), (2, .ref (ga 0)), (3, .ref xo), (4, .ref xd), (5, .int v5)] [] := by
  intro hf hW
  obtain ⟨hr, hf⟩ := q_gd hf
  obtain ⟨hr1, hr2⟩ := hr
  refine q_aload_n (pc := 1682) C dL_law_1682 rfl 1 rfl ?_
  refine q_aload_n (pc := 1683) C dL_law_1683 rfl 0 rfl ?_
  refine q_iload (pc := 1684) C dL_law_1684 5 rfl ?_
  refine q_iconst (pc := 1686) C (1 : Int32) dL_law_1686 q_ci_1 ?_
  refine q_iadd (pc := 1687) C dL_law_1687 ?_
  obtain ⟨g292, hf⟩ := q_gd hf
  refine q_sld (pc := 1688) C CS.2.1 CS.2.2.1 CS.2.2.2 g292 dL_law_1688 ?_
  refine q_aload_n (pc := 1689) C dL_law_1689 rfl 0 rfl ?_
  refine q_iload (pc := 1690) C dL_law_1690 5 rfl ?_
  refine q_iconst (pc := 1692) C (2 : Int32) dL_law_1692 q_ci_2 ?_
  refine q_iadd (pc := 1693) C dL_law_1693 ?_
  obtain ⟨g293, hf⟩ := q_gd hf
  refine q_sld (pc := 1694) C CS.2.1 CS.2.2.1 CS.2.2.2 g293 dL_law_1694 ?_
  refine q_aload_n (pc := 1695) C dL_law_1695 rfl 3 rfl ?_
  obtain ⟨u294, e295, hf⟩ := q_bind hf
  obtain ⟨T, hp, hb⟩ := hW.cls
  refine q_perm hp ?_
  refine q_callSH (pc := 1696) (As := [.ref (g 0), .int (xs (v5 + (1 : Int32)).toNatClampNeg), .int (xs (v5 + (2 : Int32)).toNatClampNeg), .ref xo]) (rest := []) C (c_L_accepts l CS.1 D cc N0 g xo (ld5 cc xd S.2.2.2 :: T) S.2.1 (xs (v5 + (1 : Int32)).toNatClampNeg) (xs (v5 + (2 : Int32)).toNatClampNeg) S.2.2.1 u294 e295) gL_law_L_accepts rfl z_L_accepts ⟨(Nat.le_of_ble_eq_true rfl), (Nat.le_of_ble_eq_true rfl)⟩ rfl rfl (Nat.le_of_ble_eq_true rfl) dL_law_1696 ⟨(by show (kc) + 1 ≤ room_1.cells; omega), (by show (ks) + 6 ≤ room_1.slots; omega)⟩ ?_
  rintro _ _ ⟨rfl, rfl⟩
  have hW := hb (S.1, u294.2.2, u294.2.1, S.2.2.2) rfl
  refine LW.ren hW (fun ws hW => ?_)
  refine q_nm (wz := ws) (ka := kc + 1) (kb := ks + 6) (sz := [.int u294.1]) rfl (by omega) (by omega) rfl ?_
  refine q_istore (pc := 1699) (lvq := [(6, .int u294.1), (0, .ref b), (1, .ref (g 0)), (2, .ref (ga 0)), (3, .ref xo), (4, .ref xd), (5, .int v5)]) C dL_law_1699 (by decide) rfl ?_
  refine q_aload_n (pc := 1701) C dL_law_1701 rfl 3 rfl ?_
  refine q_aload_n (pc := 1702) C dL_law_1702 rfl 1 rfl ?_
  refine q_iload (pc := 1703) C dL_law_1703 6 rfl ?_
  refine q_iconst (pc := 1705) C (1 : Int32) dL_law_1705 q_ci_1 ?_
  refine q_iadd (pc := 1706) C dL_law_1706 ?_
  obtain ⟨g296, hf⟩ := q_gd hf
  refine q_sld (pc := 1707) C CS.2.1 CS.2.2.1 CS.2.2.2 g296 dL_law_1707 ?_
  refine q_aload_n (pc := 1708) C dL_law_1708 rfl 1 rfl ?_
  refine q_iload (pc := 1709) C dL_law_1709 6 rfl ?_
  refine q_iconst (pc := 1711) C (2 : Int32) dL_law_1711 q_ci_2 ?_
  refine q_iadd (pc := 1712) C dL_law_1712 ?_
  obtain ⟨g297, hf⟩ := q_gd hf
  refine q_sld (pc := 1713) C CS.2.1 CS.2.2.1 CS.2.2.2 g297 dL_law_1713 ?_
  obtain ⟨u298, e299, hf⟩ := q_bind hf
  obtain ⟨_, he⟩ := hW.obj
  refine q_callV (pc := 1714) (As := [.int (xs (v5 + (1 : Int32)).toNatClampNeg), .int (xs (v5 + (2 : Int32)).toNatClampNeg)]) (rest := []) C (c_X9_accepts l D cc N0 ga ad  (LG cc g xo xd (S.1, u294.2.2, u294.2.1, S.2.2.2) ++ []) (S.1, u294.2.2, u294.2.1, S.2.2.2).1 (xs (v5 + (1 : Int32)).toNatClampNeg) (xs (v5 + (2 : Int32)).toNatClampNeg) u298 e299 ws hW) gL_law_X9_accepts rfl rfl z_X9_accepts ⟨(Nat.le_of_ble_eq_true rfl), (Nat.le_of_ble_eq_true rfl)⟩ he rfl rfl rfl (Nat.le_of_ble_eq_true rfl) dL_law_1714 ⟨(by show (kc + 1) + 0 ≤ room_1.cells; omega), (by show (ks + 6) + 0 ≤ room_1.slots; omega)⟩ ?_
  rintro _ ws ⟨rfl, hW⟩
  have hW : LW cc g ga xo xd ad (u298.2, (S.1, u294.2.2, u294.2.1, S.2.2.2).2) [] ws := hW
  refine q_nm (wz := ws) (ka := kc + 1) (kb := ks + 6) (sz := [.int (q_b u298.1)]) rfl (by omega) (by omega) rfl ?_
  refine q_istore (pc := 1717) (lvq := [(7, .int (q_b u298.1)), (6, .int u294.1), (0, .ref b), (1, .ref (g 0)), (2, .ref (ga 0)), (3, .ref xo), (4, .ref xd), (5, .int v5)]) C dL_law_1717 (by decide) rfl ?_
  refine q_aload_n (pc := 1719) C dL_law_1719 rfl 4 rfl ?_
  obtain ⟨u300, e301, hf⟩ := q_bind hf
  obtain ⟨_, he⟩ := hW.obj
  refine q_callV (pc := 1720) (As := []) (rest := []) C (c_X9_thrown l D cc N0 ga ad  (LG cc g xo xd (u298.2, (S.1, u294.2.2, u294.2.1, S.2.2.2).2) ++ []) (u298.2, (S.1, u294.2.2, u294.2.1, S.2.2.2).2).1  u300 e301 ws hW) gL_law_X9_thrown rfl rfl z_X9_thrown ⟨(Nat.le_of_ble_eq_true rfl), (Nat.le_of_ble_eq_true rfl)⟩ he rfl rfl rfl (Nat.le_of_ble_eq_true rfl) dL_law_1720 ⟨(by show (kc + 1) + 0 ≤ room_1.cells; omega), (by show (ks + 6) + 0 ≤ room_1.slots; omega)⟩ ?_
  rintro _ ws ⟨rfl, hW⟩
  have hW : LW cc g ga xo xd ad (u298.2, (S.1, u294.2.2, u294.2.1, S.2.2.2).2) [] ws := hW
  refine q_nm (wz := ws) (ka := kc + 1) (kb := ks + 6) (sz := [.int u300]) rfl (by omega) (by omega) rfl ?_
  refine q_iload (pc := 1723) C dL_law_1723 1 rfl ?_
  refine q_icmp_eq (pc := 1725) (tgt := 1730) C dL_law_1725 (by decide) (fun c302 => ?_) (fun c302 => ?_)
  · have hf := q_iteT hf c302
    refine q_iload (pc := 1730) C dL_law_1730 1 rfl ?_
    refine q_if_ne (pc := 1732) (tgt := 1754) C dL_law_1732 (by decide) (fun c303 => ?_) (fun c303 => ?_)
    · have hf := q_iteF hf c303
      refine q_sub (lvq := [(0, .ref b), (1, .ref (g 0)), (2, .ref (ga 0)), (3, .ref xo), (4, .ref xd), (5, .int v5)]) [2, 3, 4, 5, 6, 7] rfl ?_
      exact w_L_law_1754 C CS hQ hk28 (kc + 1) (ks + 6) v5 (u298.2, (S.1, u294.2.2, u294.2.1, S.2.2.2).2) ad ws hf hW
    · have hf := q_iteT hf c303
      refine q_aload_n (pc := 1735) C dL_law_1735 rfl 5 rfl ?_
      refine q_iconst (pc := 1736) C (0 : Int32) dL_law_1736 q_ci_0 ?_
      refine LW.lald (pc := 1737) hW C dL_law_1737 ?_
      refine q_iload (pc := 1738) C dL_law_1738 0 rfl ?_
      refine q_if_eq (pc := 1740) (tgt := 1747) C dL_law_1740 (by decide) (fun c304 => ?_) (fun c304 => ?_)
      · have hf := q_iteT hf c304
        refine q_lconst (pc := 1747) C (0 : Int64) dL_law_1747 q_cl_0 ?_
        refine q_sub (lvq := [(0, .ref b), (1, .ref (g 0)), (2, .ref (ga 0)), (3, .ref xo), (4, .ref xd), (5, .int v5)]) [2, 3, 4, 5, 6, 7] rfl ?_
        exact w_L_law_1748 C CS hQ hk28 (kc + 1) (ks + 6) v5 (0 : Int64) ((u298.2, (S.1, u294.2.2, u294.2.1, S.2.2.2).2).2.2.1 0) (u298.2, (S.1, u294.2.2, u294.2.1, S.2.2.2).2) ad ws hf hW
      · have hf := q_iteF hf c304
        refine q_lconst (pc := 1743) C (1 : Int64) dL_law_1743 q_cl_1 ?_
        refine q_goto (pc := 1744) (tgt := 1748) C dL_law_1744 (by decide) ?_
        refine q_sub (lvq := [(0, .ref b), (1, .ref (g 0)), (2, .ref (ga 0)), (3, .ref xo), (4, .ref xd), (5, .int v5)]) [2, 3, 4, 5, 6, 7] rfl ?_
        exact w_L_law_1748 C CS hQ hk28 (kc + 1) (ks + 6) v5 (1 : Int64) ((u298.2, (S.1, u294.2.2, u294.2.1, S.2.2.2).2).2.2.1 0) (u298.2, (S.1, u294.2.2, u294.2.1, S.2.2.2).2) ad ws hf hW
  · have hf := q_iteF hf c302
    refine q_iconst (pc := 1728) C (0 : Int32) dL_law_1728 q_ci_0 ?_
    cases hf
set_option maxRecDepth 100000 in
set_option maxHeartbeats 8000000 in
theorem w_L_law_1822 {p : Program} {l : Launch} {e : Env} {s : State} {m : MethodId} {args : Array Value} {below : List Frame} {meth : Method} {c : Code} {D : va_G} {cc : Nat → ClassId} {N0 : Nat} {Q : State → Prop} {g ga : Nat → Nat} {xo xd b L : Nat} {xs : Nat → Int32} {k28 : Nat → Nat → Int32 → LSt → Option Bool} (C : q_C p s m args meth c cL_law 9 (some .boolean) wsL_law RL D cc N0) (CS : l.stackTraces = false ∧ va_X b L xs s s.heap ∧ b < s.heap.size ∧ ¬ q_A N0 b) (hQ : ∀ (kc ks : Nat) (ws : va_W) (pc : Nat) (lv : List (Nat × Value)), kc ≤ room_1.cells → ks ≤ room_1.slots → decode cL_law pc = .ok (.ireturn, 1) → q_WA p l e room_1 s m args below meth c D N0 9 Q kc ks ws pc lv [.int 1]) (hk28 : ∀ (kc ks : Nat) (v5 : Int32) (S : LSt) (ad : Nat → Nat → Nat) (ws : va_W), k28 kc ks v5 S = some true → LW cc g ga xo xd ad S [] ws → q_WA p l e room_1 s m args below meth c D N0 9 Q kc ks ws 28 [(0, .ref b), (1, .ref (g 0)), (2, .ref (ga 0)), (3, .ref xo), (4, .ref xd), (5, .int v5)] []) (kc ks : Nat) (v5 : Int32) (S : LSt) (ad : Nat → Nat → Nat) (ws : va_W) : f_L_law_1822 L xs k28 kc ks v5 S = some true → LW cc g ga xo xd ad S [] ws → q_WA p l e room_1 s m args below meth c D N0 9 Q kc ks ws 1822 [(0, .ref b), (1, .ref (g 0)), (2, .ref (ga 0)), (3, .ref xo), (4, .ref xd), (5, .int v5)] [] := by
  intro hf hW
  refine q_goto (pc := 1822) (tgt := 2537) C dL_law_1822 (by decide) ?_
  refine q_sub (lvq := [(0, .ref b), (1, .ref (g 0)), (2, .ref (ga 0)), (3, .ref xo), (4, .ref xd), (5, .int v5)]) [0, 1, 2, 3, 4, 5] rfl ?_
  exact w_L_law_2537 C CS hQ hk28 (kc) (ks) v5 S ad ws hf hW
set_option maxRecDepth 100000 in
set_option maxHeartbeats 8000000 in
theorem w_L_law_1757 {p : Program} {l : Launch} {e : Env} {s : State} {m : MethodId} {args : Array Value} {below : List Frame} {meth : Method} {c : Code} {D : va_G} {cc : Nat → ClassId} {N0 : Nat} {Q : State → Prop} {g ga : Nat → Nat} {xo xd b L : Nat} {xs : Nat → Int32} {k28 : Nat → Nat → Int32 → LSt → Option Bool} (C : q_C p s m args meth c cL_law 9 (some .boolean) wsL_law RL D cc N0) (CS : l.stackTraces = false ∧ va_X b L xs s s.heap ∧ b < s.heap.size ∧ ¬ q_A N0 b) (hQ : ∀ (kc ks : Nat) (ws : va_W) (pc : Nat) (lv : List (Nat × Value)), kc ≤ room_1.cells → ks ≤ room_1.slots → decode cL_law pc = .ok (.ireturn, 1) → q_WA p l e room_1 s m args below meth c D N0 9 Q kc ks ws pc lv [.int 1]) (hk28 : ∀ (kc ks : Nat) (v5 : Int32) (S : LSt) (ad : Nat → Nat → Nat) (ws : va_W), k28 kc ks v5 S = some true → LW cc g ga xo xd ad S [] ws → q_WA p l e room_1 s m args below meth c D N0 9 Q kc ks ws 28 [(0, .ref b), (1, .ref (g 0)), (2, .ref (ga 0)), (3, .ref xo), (4, .ref xd), (5, .int v5)] []) (kc ks : Nat) (v5 : Int32) (S : LSt) (ad : Nat → Nat → Nat) (ws : va_W) : f_L_law_1757 L xs k28 kc ks v5 S = some true → LW cc g ga xo xd ad S [] ws → q_WA p l e room_1 s m args below meth c D N0 9 Q kc ks ws 1757 [(0, .ref b), (1, .ref (g 0)), (2, .ref (ga 0)), (3, .ref xo), (4, .ref xd), (5, .int v5)] [] := by
  intro hf hW
  obtain ⟨hr, hf⟩ := q_gd hf
  obtain ⟨hr1, hr2⟩ := hr
  refine q_aload_n (pc := 1757) C dL_law_1757 rfl 1 rfl ?_
  refine q_aload_n (pc := 1758) C dL_law_1758 rfl 0 rfl ?_
  refine q_iload (pc := 1759) C dL_law_1759 5 rfl ?_
  refine q_iconst (pc := 1761) C (1 : Int32) dL_law_1761 q_ci_1 ?_
  refine q_iadd (pc := 1762) C dL_law_1762 ?_
  obtain ⟨g306, hf⟩ := q_gd hf
  refine q_sld (pc := 1763) C CS.2.1 CS.2.2.1 CS.2.2.2 g306 dL_law_1763 ?_
  refine q_aload_n (pc := 1764) C dL_law_1764 rfl 0 rfl ?_
  refine q_iload (pc := 1765) C dL_law_1765 5 rfl ?_
  refine q_iconst (pc := 1767) C (2 : Int32) dL_law_1767 q_ci_2 ?_
  refine q_iadd (pc := 1768) C dL_law_1768 ?_
  obtain ⟨g307, hf⟩ := q_gd hf
  refine q_sld (pc := 1769) C CS.2.1 CS.2.2.1 CS.2.2.2 g307 dL_law_1769 ?_
  refine q_aload_n (pc := 1770) C dL_law_1770 rfl 3 rfl ?_
  obtain ⟨u308, e309, hf⟩ := q_bind hf
  obtain ⟨T, hp, hb⟩ := hW.cls
  refine q_perm hp ?_
  refine q_callSH (pc := 1771) (As := [.ref (g 0), .int (xs (v5 + (1 : Int32)).toNatClampNeg), .int (xs (v5 + (2 : Int32)).toNatClampNeg), .ref xo]) (rest := []) C (c_L_apart l CS.1 D cc N0 g xo (ld5 cc xd S.2.2.2 :: T) S.2.1 (xs (v5 + (1 : Int32)).toNatClampNeg) (xs (v5 + (2 : Int32)).toNatClampNeg) S.2.2.1 u308 e309) gL_law_L_apart rfl z_L_apart ⟨(Nat.le_of_ble_eq_true rfl), (Nat.le_of_ble_eq_true rfl)⟩ rfl rfl (Nat.le_of_ble_eq_true rfl) dL_law_1771 ⟨(by show (kc) + 1 ≤ room_1.cells; omega), (by show (ks) + 6 ≤ room_1.slots; omega)⟩ ?_
  rintro _ _ ⟨rfl, rfl⟩
  have hW := hb (S.1, u308.2.2, u308.2.1, S.2.2.2) rfl
  refine LW.ren hW (fun ws hW => ?_)
  refine q_nm (wz := ws) (ka := kc + 1) (kb := ks + 6) (sz := [.int u308.1]) rfl (by omega) (by omega) rfl ?_
  refine q_istore (pc := 1774) (lvq := [(6, .int u308.1), (0, .ref b), (1, .ref (g 0)), (2, .ref (ga 0)), (3, .ref xo), (4, .ref xd), (5, .int v5)]) C dL_law_1774 (by decide) rfl ?_
  refine q_aload_n (pc := 1776) C dL_law_1776 rfl 3 rfl ?_
  refine q_aload_n (pc := 1777) C dL_law_1777 rfl 1 rfl ?_
  refine q_iload (pc := 1778) C dL_law_1778 6 rfl ?_
  refine q_iconst (pc := 1780) C (1 : Int32) dL_law_1780 q_ci_1 ?_
  refine q_iadd (pc := 1781) C dL_law_1781 ?_
  obtain ⟨g310, hf⟩ := q_gd hf
  refine q_sld (pc := 1782) C CS.2.1 CS.2.2.1 CS.2.2.2 g310 dL_law_1782 ?_
  refine q_aload_n (pc := 1783) C dL_law_1783 rfl 1 rfl ?_
  refine q_iload (pc := 1784) C dL_law_1784 6 rfl ?_
  refine q_iconst (pc := 1786) C (2 : Int32) dL_law_1786 q_ci_2 ?_
  refine q_iadd (pc := 1787) C dL_law_1787 ?_
  obtain ⟨g311, hf⟩ := q_gd hf
  refine q_sld (pc := 1788) C CS.2.1 CS.2.2.1 CS.2.2.2 g311 dL_law_1788 ?_
  obtain ⟨u312, e313, hf⟩ := q_bind hf
  obtain ⟨_, he⟩ := hW.obj
  refine q_callV (pc := 1789) (As := [.int (xs (v5 + (1 : Int32)).toNatClampNeg), .int (xs (v5 + (2 : Int32)).toNatClampNeg)]) (rest := []) C (c_X9_apart l D cc N0 ga ad  (LG cc g xo xd (S.1, u308.2.2, u308.2.1, S.2.2.2) ++ []) (S.1, u308.2.2, u308.2.1, S.2.2.2).1 (xs (v5 + (1 : Int32)).toNatClampNeg) (xs (v5 + (2 : Int32)).toNatClampNeg) u312 e313 ws hW) gL_law_X9_apart rfl rfl z_X9_apart ⟨(Nat.le_of_ble_eq_true rfl), (Nat.le_of_ble_eq_true rfl)⟩ he rfl rfl rfl (Nat.le_of_ble_eq_true rfl) dL_law_1789 ⟨(by show (kc + 1) + 324 ≤ room_1.cells; omega), (by show (ks + 6) + 1620 ≤ room_1.slots; omega)⟩ ?_
  rintro _ ws ⟨rfl, hW⟩
  have hW : LW cc g ga xo xd ad (u312.2, (S.1, u308.2.2, u308.2.1, S.2.2.2).2) [] ws := hW
  refine q_nm (wz := ws) (ka := kc + 325) (kb := ks + 1626) (sz := [.int u312.1]) rfl (by omega) (by omega) rfl ?_
  refine q_istore (pc := 1792) (lvq := [(7, .int u312.1), (6, .int u308.1), (0, .ref b), (1, .ref (g 0)), (2, .ref (ga 0)), (3, .ref xo), (4, .ref xd), (5, .int v5)]) C dL_law_1792 (by decide) rfl ?_
  refine q_aload_n (pc := 1794) C dL_law_1794 rfl 4 rfl ?_
  obtain ⟨u314, e315, hf⟩ := q_bind hf
  obtain ⟨_, he⟩ := hW.obj
  refine q_callV (pc := 1795) (As := []) (rest := []) C (c_X9_thrown l D cc N0 ga ad  (LG cc g xo xd (u312.2, (S.1, u308.2.2, u308.2.1, S.2.2.2).2) ++ []) (u312.2, (S.1, u308.2.2, u308.2.1, S.2.2.2).2).1  u314 e315 ws hW) gL_law_X9_thrown rfl rfl z_X9_thrown ⟨(Nat.le_of_ble_eq_true rfl), (Nat.le_of_ble_eq_true rfl)⟩ he rfl rfl rfl (Nat.le_of_ble_eq_true rfl) dL_law_1795 ⟨(by show (kc + 325) + 0 ≤ room_1.cells; omega), (by show (ks + 1626) + 0 ≤ room_1.slots; omega)⟩ ?_
  rintro _ ws ⟨rfl, hW⟩
  have hW : LW cc g ga xo xd ad (u312.2, (S.1, u308.2.2, u308.2.1, S.2.2.2).2) [] ws := hW
  refine q_nm (wz := ws) (ka := kc + 325) (kb := ks + 1626) (sz := [.int u314]) rfl (by omega) (by omega) rfl ?_
  refine q_iload (pc := 1798) C dL_law_1798 1 rfl ?_
  refine q_icmp_eq (pc := 1800) (tgt := 1805) C dL_law_1800 (by decide) (fun c316 => ?_) (fun c316 => ?_)
  · have hf := q_iteT hf c316
    refine q_iload (pc := 1805) C dL_law_1805 1 rfl ?_
    refine q_if_ne (pc := 1807) (tgt := 1822) C dL_law_1807 (by decide) (fun c317 => ?_) (fun c317 => ?_)
    · have hf := q_iteF hf c317
      refine q_sub (lvq := [(0, .ref b), (1, .ref (g 0)), (2, .ref (ga 0)), (3, .ref xo), (4, .ref xd), (5, .int v5)]) [2, 3, 4, 5, 6, 7] rfl ?_
      exact w_L_law_1822 C CS hQ hk28 (kc + 325) (ks + 1626) v5 (u312.2, (S.1, u308.2.2, u308.2.1, S.2.2.2).2) ad ws hf hW
    · have hf := q_iteT hf c317
      refine q_aload_n (pc := 1810) C dL_law_1810 rfl 5 rfl ?_
      refine q_iconst (pc := 1811) C (0 : Int32) dL_law_1811 q_ci_0 ?_
      refine LW.lald (pc := 1812) hW C dL_law_1812 ?_
      refine q_iload (pc := 1813) C dL_law_1813 0 rfl ?_
      refine q_i2l (pc := 1815) C dL_law_1815 rfl ?_
      refine q_lcmp (pc := 1816) C dL_law_1816 ?_
      refine q_if_eq (pc := 1817) (tgt := 1822) C dL_law_1817 (by decide) (fun c318 => ?_) (fun c318 => ?_)
      · have hf := q_iteT hf c318
        refine q_sub (lvq := [(0, .ref b), (1, .ref (g 0)), (2, .ref (ga 0)), (3, .ref xo), (4, .ref xd), (5, .int v5)]) [2, 3, 4, 5, 6, 7] rfl ?_
        exact w_L_law_1822 C CS hQ hk28 (kc + 325) (ks + 1626) v5 (u312.2, (S.1, u308.2.2, u308.2.1, S.2.2.2).2) ad ws hf hW
      · have hf := q_iteF hf c318
        refine q_iconst (pc := 1820) C (0 : Int32) dL_law_1820 q_ci_0 ?_
        cases hf
  · have hf := q_iteF hf c316
    refine q_iconst (pc := 1803) C (0 : Int32) dL_law_1803 q_ci_0 ?_
    cases hf
set_option maxRecDepth 100000 in
set_option maxHeartbeats 8000000 in
theorem w_L_law_1866 {p : Program} {l : Launch} {e : Env} {s : State} {m : MethodId} {args : Array Value} {below : List Frame} {meth : Method} {c : Code} {D : va_G} {cc : Nat → ClassId} {N0 : Nat} {Q : State → Prop} {g ga : Nat → Nat} {xo xd b L : Nat} {xs : Nat → Int32} {k28 : Nat → Nat → Int32 → LSt → Option Bool} (C : q_C p s m args meth c cL_law 9 (some .boolean) wsL_law RL D cc N0) (CS : l.stackTraces = false ∧ va_X b L xs s s.heap ∧ b < s.heap.size ∧ ¬ q_A N0 b) (hQ : ∀ (kc ks : Nat) (ws : va_W) (pc : Nat) (lv : List (Nat × Value)), kc ≤ room_1.cells → ks ≤ room_1.slots → decode cL_law pc = .ok (.ireturn, 1) → q_WA p l e room_1 s m args below meth c D N0 9 Q kc ks ws pc lv [.int 1]) (hk28 : ∀ (kc ks : Nat) (v5 : Int32) (S : LSt) (ad : Nat → Nat → Nat) (ws : va_W), k28 kc ks v5 S = some true → LW cc g ga xo xd ad S [] ws → q_WA p l e room_1 s m args below meth c D N0 9 Q kc ks ws 28 [(0, .ref b), (1, .ref (g 0)), (2, .ref (ga 0)), (3, .ref xo), (4, .ref xd), (5, .int v5)] []) (kc ks : Nat) (v5 : Int32) (S : LSt) (ad : Nat → Nat → Nat) (ws : va_W) : f_L_law_1866 L xs k28 kc ks v5 S = some true → LW cc g ga xo xd ad S [] ws → q_WA p l e room_1 s m args below meth c D N0 9 Q kc ks ws 1866 [(0, .ref b), (1, .ref (g 0)), (2, .ref (ga 0)), (3, .ref xo), (4, .ref xd), (5, .int v5)] [] := by
  intro hf hW
  refine q_goto (pc := 1866) (tgt := 2537) C dL_law_1866 (by decide) ?_
  refine q_sub (lvq := [(0, .ref b), (1, .ref (g 0)), (2, .ref (ga 0)), (3, .ref xo), (4, .ref xd), (5, .int v5)]) [0, 1, 2, 3, 4, 5] rfl ?_
  exact w_L_law_2537 C CS hQ hk28 (kc) (ks) v5 S ad ws hf hW
set_option maxRecDepth 100000 in
set_option maxHeartbeats 8000000 in
theorem w_L_law_1825 {p : Program} {l : Launch} {e : Env} {s : State} {m : MethodId} {args : Array Value} {below : List Frame} {meth : Method} {c : Code} {D : va_G} {cc : Nat → ClassId} {N0 : Nat} {Q : State → Prop} {g ga : Nat → Nat} {xo xd b L : Nat} {xs : Nat → Int32} {k28 : Nat → Nat → Int32 → LSt → Option Bool} (C : q_C p s m args meth c cL_law 9 (some .boolean) wsL_law RL D cc N0) (CS : l.stackTraces = false ∧ va_X b L xs s s.heap ∧ b < s.heap.size ∧ ¬ q_A N0 b) (hQ : ∀ (kc ks : Nat) (ws : va_W) (pc : Nat) (lv : List (Nat × Value)), kc ≤ room_1.cells → ks ≤ room_1.slots → decode cL_law pc = .ok (.ireturn, 1) → q_WA p l e room_1 s m args below meth c D N0 9 Q kc ks ws pc lv [.int 1]) (hk28 : ∀ (kc ks : Nat) (v5 : Int32) (S : LSt) (ad : Nat → Nat → Nat) (ws : va_W), k28 kc ks v5 S = some true → LW cc g ga xo xd ad S [] ws → q_WA p l e room_1 s m args below meth c D N0 9 Q kc ks ws 28 [(0, .ref b), (1, .ref (g 0)), (2, .ref (ga 0)), (3, .ref xo), (4, .ref xd), (5, .int v5)] []) (kc ks : Nat) (v5 : Int32) (S : LSt) (ad : Nat → Nat → Nat) (ws : va_W) : f_L_law_1825 L xs k28 kc ks v5 S = some true → LW cc g ga xo xd ad S [] ws → q_WA p l e room_1 s m args below meth c D N0 9 Q kc ks ws 1825 [(0, .ref b), (1, .ref (g 0)), (2, .ref (ga 0)), (3, .ref xo), (4, .ref xd), (5, .int v5)] [] := by
  intro hf hW
  obtain ⟨hr, hf⟩ := q_gd hf
  obtain ⟨hr1, hr2⟩ := hr
  refine q_aload_n (pc := 1825) C dL_law_1825 rfl 1 rfl ?_
  refine q_aload_n (pc := 1826) C dL_law_1826 rfl 3 rfl ?_
  obtain ⟨u319, e320, hf⟩ := q_bind hf
  obtain ⟨T, hp, hb⟩ := hW.cls
  refine q_perm hp ?_
  refine q_callSH (pc := 1827) (As := [.ref (g 0), .ref xo]) (rest := []) C (c_L_leastStates l CS.1 D cc N0 g xo (ld5 cc xd S.2.2.2 :: T) S.2.1 S.2.2.1 u319 e320) gL_law_L_leastStates rfl z_L_leastStates ⟨(Nat.le_of_ble_eq_true rfl), (Nat.le_of_ble_eq_true rfl)⟩ rfl rfl (Nat.le_of_ble_eq_true rfl) dL_law_1827 ⟨(by show (kc) + 1 ≤ room_1.cells; omega), (by show (ks) + 6 ≤ room_1.slots; omega)⟩ ?_
  rintro _ _ ⟨rfl, rfl⟩
  have hW := hb (S.1, u319.2.2, u319.2.1, S.2.2.2) rfl
  refine LW.ren hW (fun ws hW => ?_)
  refine q_nm (wz := ws) (ka := kc + 1) (kb := ks + 6) (sz := [.int u319.1]) rfl (by omega) (by omega) rfl ?_
  refine q_istore (pc := 1830) (lvq := [(6, .int u319.1), (0, .ref b), (1, .ref (g 0)), (2, .ref (ga 0)), (3, .ref xo), (4, .ref xd), (5, .int v5)]) C dL_law_1830 (by decide) rfl ?_
  refine q_aload_n (pc := 1832) C dL_law_1832 rfl 3 rfl ?_
  obtain ⟨u321, e322, hf⟩ := q_bind hf
  obtain ⟨_, he⟩ := hW.obj
  refine q_callV (pc := 1833) (As := []) (rest := []) C (c_X9_leastStates l D cc N0 ga ad (lstK S.1) (LG cc g xo xd (S.1, u319.2.2, u319.2.1, S.2.2.2) ++ []) (S.1, u319.2.2, u319.2.1, S.2.2.2).1  u321 e322 ws hW) gL_law_X9_leastStates rfl rfl z_X9_leastStates ⟨(Nat.le_of_ble_eq_true rfl), (Nat.le_of_ble_eq_true rfl)⟩ he rfl rfl rfl (Nat.le_of_ble_eq_true rfl) dL_law_1833 ⟨(by show (kc + 1) + lstK S.1 ≤ room_1.cells; omega), (by show (ks + 6) + 5 * lstK S.1 ≤ room_1.slots; omega)⟩ ?_
  rintro _ ws ⟨rfl, hW⟩
  have hW : LW cc g ga xo xd ad (u321.2, (S.1, u319.2.2, u319.2.1, S.2.2.2).2) [] ws := hW
  refine q_nm (wz := ws) (ka := kc + (1 + lstK S.1)) (kb := ks + (6 + 5 * lstK S.1)) (sz := [.int u321.1]) rfl (by omega) (by omega) rfl ?_
  refine q_istore (pc := 1836) (lvq := [(7, .int u321.1), (6, .int u319.1), (0, .ref b), (1, .ref (g 0)), (2, .ref (ga 0)), (3, .ref xo), (4, .ref xd), (5, .int v5)]) C dL_law_1836 (by decide) rfl ?_
  refine q_aload_n (pc := 1838) C dL_law_1838 rfl 4 rfl ?_
  obtain ⟨u323, e324, hf⟩ := q_bind hf
  obtain ⟨_, he⟩ := hW.obj
  refine q_callV (pc := 1839) (As := []) (rest := []) C (c_X9_thrown l D cc N0 ga ad  (LG cc g xo xd (u321.2, (S.1, u319.2.2, u319.2.1, S.2.2.2).2) ++ []) (u321.2, (S.1, u319.2.2, u319.2.1, S.2.2.2).2).1  u323 e324 ws hW) gL_law_X9_thrown rfl rfl z_X9_thrown ⟨(Nat.le_of_ble_eq_true rfl), (Nat.le_of_ble_eq_true rfl)⟩ he rfl rfl rfl (Nat.le_of_ble_eq_true rfl) dL_law_1839 ⟨(by show (kc + (1 + lstK S.1)) + 0 ≤ room_1.cells; omega), (by show (ks + (6 + 5 * lstK S.1)) + 0 ≤ room_1.slots; omega)⟩ ?_
  rintro _ ws ⟨rfl, hW⟩
  have hW : LW cc g ga xo xd ad (u321.2, (S.1, u319.2.2, u319.2.1, S.2.2.2).2) [] ws := hW
  refine q_nm (wz := ws) (ka := kc + ((1 + lstK S.1) + 0)) (kb := ks + ((6 + 5 * lstK S.1) + 0)) (sz := [.int u323]) rfl (by omega) (by omega) rfl ?_
  refine q_iload (pc := 1842) C dL_law_1842 1 rfl ?_
  refine q_icmp_eq (pc := 1844) (tgt := 1849) C dL_law_1844 (by decide) (fun c325 => ?_) (fun c325 => ?_)
  · have hf := q_iteT hf c325
    refine q_iload (pc := 1849) C dL_law_1849 1 rfl ?_
    refine q_if_ne (pc := 1851) (tgt := 1866) C dL_law_1851 (by decide) (fun c326 => ?_) (fun c326 => ?_)
    · have hf := q_iteF hf c326
      refine q_sub (lvq := [(0, .ref b), (1, .ref (g 0)), (2, .ref (ga 0)), (3, .ref xo), (4, .ref xd), (5, .int v5)]) [2, 3, 4, 5, 6, 7] rfl ?_
      exact w_L_law_1866 C CS hQ hk28 (kc + ((1 + lstK S.1) + 0)) (ks + ((6 + 5 * lstK S.1) + 0)) v5 (u321.2, (S.1, u319.2.2, u319.2.1, S.2.2.2).2) ad ws hf hW
    · have hf := q_iteT hf c326
      refine q_aload_n (pc := 1854) C dL_law_1854 rfl 5 rfl ?_
      refine q_iconst (pc := 1855) C (0 : Int32) dL_law_1855 q_ci_0 ?_
      refine LW.lald (pc := 1856) hW C dL_law_1856 ?_
      refine q_iload (pc := 1857) C dL_law_1857 0 rfl ?_
      refine q_i2l (pc := 1859) C dL_law_1859 rfl ?_
      refine q_lcmp (pc := 1860) C dL_law_1860 ?_
      refine q_if_eq (pc := 1861) (tgt := 1866) C dL_law_1861 (by decide) (fun c327 => ?_) (fun c327 => ?_)
      · have hf := q_iteT hf c327
        refine q_sub (lvq := [(0, .ref b), (1, .ref (g 0)), (2, .ref (ga 0)), (3, .ref xo), (4, .ref xd), (5, .int v5)]) [2, 3, 4, 5, 6, 7] rfl ?_
        exact w_L_law_1866 C CS hQ hk28 (kc + ((1 + lstK S.1) + 0)) (ks + ((6 + 5 * lstK S.1) + 0)) v5 (u321.2, (S.1, u319.2.2, u319.2.1, S.2.2.2).2) ad ws hf hW
      · have hf := q_iteF hf c327
        refine q_iconst (pc := 1864) C (0 : Int32) dL_law_1864 q_ci_0 ?_
        cases hf
  · have hf := q_iteF hf c325
    refine q_iconst (pc := 1847) C (0 : Int32) dL_law_1847 q_ci_0 ?_
    cases hf
set_option maxRecDepth 100000 in
set_option maxHeartbeats 8000000 in
theorem w_L_law_1962 {p : Program} {l : Launch} {e : Env} {s : State} {m : MethodId} {args : Array Value} {below : List Frame} {meth : Method} {c : Code} {D : va_G} {cc : Nat → ClassId} {N0 : Nat} {Q : State → Prop} {g ga : Nat → Nat} {xo xd b L : Nat} {xs : Nat → Int32} {k28 : Nat → Nat → Int32 → LSt → Option Bool} (C : q_C p s m args meth c cL_law 9 (some .boolean) wsL_law RL D cc N0) (CS : l.stackTraces = false ∧ va_X b L xs s s.heap ∧ b < s.heap.size ∧ ¬ q_A N0 b) (hQ : ∀ (kc ks : Nat) (ws : va_W) (pc : Nat) (lv : List (Nat × Value)), kc ≤ room_1.cells → ks ≤ room_1.slots → decode cL_law pc = .ok (.ireturn, 1) → q_WA p l e room_1 s m args below meth c D N0 9 Q kc ks ws pc lv [.int 1]) (hk28 : ∀ (kc ks : Nat) (v5 : Int32) (S : LSt) (ad : Nat → Nat → Nat) (ws : va_W), k28 kc ks v5 S = some true → LW cc g ga xo xd ad S [] ws → q_WA p l e room_1 s m args below meth c D N0 9 Q kc ks ws 28 [(0, .ref b), (1, .ref (g 0)), (2, .ref (ga 0)), (3, .ref xo), (4, .ref xd), (5, .int v5)] []) (kc ks : Nat) (v5 : Int32) (S : LSt) (ad : Nat → Nat → Nat) (ws : va_W) : f_L_law_1962 L xs k28 kc ks v5 S = some true → LW cc g ga xo xd ad S [] ws → q_WA p l e room_1 s m args below meth c D N0 9 Q kc ks ws 1962 [(0, .ref b), (1, .ref (g 0)), (2, .ref (ga 0)), (3, .ref xo), (4, .ref xd), (5, .int v5)] [] := by
  intro hf hW
  refine q_goto (pc := 1962) (tgt := 2537) C dL_law_1962 (by decide) ?_
  refine q_sub (lvq := [(0, .ref b), (1, .ref (g 0)), (2, .ref (ga 0)), (3, .ref xo), (4, .ref xd), (5, .int v5)]) [0, 1, 2, 3, 4, 5] rfl ?_
  exact w_L_law_2537 C CS hQ hk28 (kc) (ks) v5 S ad ws hf hW
set_option maxRecDepth 100000 in
set_option maxHeartbeats 8000000 in
theorem w_L_law_1929 {p : Program} {l : Launch} {e : Env} {s : State} {m : MethodId} {args : Array Value} {below : List Frame} {meth : Method} {c : Code} {D : va_G} {cc : Nat → ClassId} {N0 : Nat} {Q : State → Prop} {g ga : Nat → Nat} {xo xd b L : Nat} {xs : Nat → Int32} {k28 : Nat → Nat → Int32 → LSt → Option Bool} (C : q_C p s m args meth c cL_law 9 (some .boolean) wsL_law RL D cc N0) (CS : l.stackTraces = false ∧ va_X b L xs s s.heap ∧ b < s.heap.size ∧ ¬ q_A N0 b) (hQ : ∀ (kc ks : Nat) (ws : va_W) (pc : Nat) (lv : List (Nat × Value)), kc ≤ room_1.cells → ks ≤ room_1.slots → decode cL_law pc = .ok (.ireturn, 1) → q_WA p l e room_1 s m args below meth c D N0 9 Q kc ks ws pc lv [.int 1]) (hk28 : ∀ (kc ks : Nat) (v5 : Int32) (S : LSt) (ad : Nat → Nat → Nat) (ws : va_W), k28 kc ks v5 S = some true → LW cc g ga xo xd ad S [] ws → q_WA p l e room_1 s m args below meth c D N0 9 Q kc ks ws 28 [(0, .ref b), (1, .ref (g 0)), (2, .ref (ga 0)), (3, .ref xo), (4, .ref xd), (5, .int v5)] []) (kc ks : Nat) (v5 : Int32) (v6 : Int32) (vt0 : Int32) (vt1 : Int32) (vt2 : Int32) (S : LSt) (ad : Nat → Nat → Nat) (ws : va_W) : f_L_law_1929 L xs k28 kc ks v5 v6 vt0 vt1 vt2 S = some true → LW cc g ga xo xd ad S [] ws → q_WA p l e room_1 s m args below meth c D N0 9 Q kc ks ws 1929 [(0, .ref b), (1, .ref (g 0)), (2, .ref (ga 0)), (3, .ref xo), (4, .ref xd), (5, .int v5), (6, .int v6)] [.int vt0, .int vt1, .int vt2, .ref (ga 0)] := by
  intro hf hW
  obtain ⟨hr, hf⟩ := q_gd hf
  obtain ⟨hr1, hr2⟩ := hr
  obtain ⟨u338, e339, hf⟩ := q_bind hf
  obtain ⟨_, he⟩ := hW.obj
  refine q_callV (pc := 1929) (As := [.int vt2, .int vt1, .int vt0]) (rest := []) C (c_X9_sample l D cc N0 ga ad  (LG cc g xo xd S ++ []) S.1 vt2 vt1 vt0 u338 e339 ws hW) gL_law_X9_sample rfl rfl z_X9_sample ⟨(Nat.le_of_ble_eq_true rfl), (Nat.le_of_ble_eq_true rfl)⟩ he rfl rfl rfl (Nat.le_of_ble_eq_true rfl) dL_law_1929 ⟨(by show (kc) + 3 ≤ room_1.cells; omega), (by show (ks) + 107 ≤ room_1.slots; omega)⟩ ?_
  rintro _ ws ⟨rfl, ad, hW⟩
  have hW : LW cc g ga xo xd ad (u338.2, S.2) [] ws := hW
  refine q_nm (wz := ws) (ka := kc + 3) (kb := ks + 107) (sz := [.int u338.1]) rfl (by omega) (by omega) rfl ?_
  refine q_istore (pc := 1932) (lvq := [(7, .int u338.1), (0, .ref b), (1, .ref (g 0)), (2, .ref (ga 0)), (3, .ref xo), (4, .ref xd), (5, .int v5), (6, .int v6)]) C dL_law_1932 (by decide) rfl ?_
  refine q_aload_n (pc := 1934) C dL_law_1934 rfl 3 rfl ?_
  obtain ⟨u340, e341, hf⟩ := q_bind hf
  obtain ⟨_, he⟩ := hW.obj
  refine q_callV (pc := 1935) (As := []) (rest := []) C (c_X9_thrown l D cc N0 ga ad  (LG cc g xo xd (u338.2, S.2) ++ []) (u338.2, S.2).1  u340 e341 ws hW) gL_law_X9_thrown rfl rfl z_X9_thrown ⟨(Nat.le_of_ble_eq_true rfl), (Nat.le_of_ble_eq_true rfl)⟩ he rfl rfl rfl (Nat.le_of_ble_eq_true rfl) dL_law_1935 ⟨(by show (kc + 3) + 0 ≤ room_1.cells; omega), (by show (ks + 107) + 0 ≤ room_1.slots; omega)⟩ ?_
  rintro _ ws ⟨rfl, hW⟩
  have hW : LW cc g ga xo xd ad (u338.2, S.2) [] ws := hW
  refine q_nm (wz := ws) (ka := kc + 3) (kb := ks + 107) (sz := [.int u340]) rfl (by omega) (by omega) rfl ?_
  refine q_iload (pc := 1938) C dL_law_1938 7 rfl ?_
  refine q_icmp_eq (pc := 1940) (tgt := 1945) C dL_law_1940 (by decide) (fun c342 => ?_) (fun c342 => ?_)
  · have hf := q_iteT hf c342
    refine q_iload (pc := 1945) C dL_law_1945 7 rfl ?_
    refine q_if_ne (pc := 1947) (tgt := 1962) C dL_law_1947 (by decide) (fun c343 => ?_) (fun c343 => ?_)
    · have hf := q_iteF hf c343
      refine q_sub (lvq := [(0, .ref b), (1, .ref (g 0)), (2, .ref (ga 0)), (3, .ref xo), (4, .ref xd), (5, .int v5)]) [1, 2, 3, 4, 5, 6] rfl ?_
      exact w_L_law_1962 C CS hQ hk28 (kc + 3) (ks + 107) v5 (u338.2, S.2) ad ws hf hW
    · have hf := q_iteT hf c343
      refine q_aload_n (pc := 1950) C dL_law_1950 rfl 4 rfl ?_
      refine q_iconst (pc := 1951) C (0 : Int32) dL_law_1951 q_ci_0 ?_
      refine LW.lald (pc := 1952) hW C dL_law_1952 ?_
      refine q_iload (pc := 1953) C dL_law_1953 0 rfl ?_
      refine q_i2l (pc := 1955) C dL_law_1955 rfl ?_
      refine q_lcmp (pc := 1956) C dL_law_1956 ?_
      refine q_if_eq (pc := 1957) (tgt := 1962) C dL_law_1957 (by decide) (fun c344 => ?_) (fun c344 => ?_)
      · have hf := q_iteT hf c344
        refine q_sub (lvq := [(0, .ref b), (1, .ref (g 0)), (2, .ref (ga 0)), (3, .ref xo), (4, .ref xd), (5, .int v5)]) [1, 2, 3, 4, 5, 6] rfl ?_
        exact w_L_law_1962 C CS hQ hk28 (kc + 3) (ks + 107) v5 (u338.2, S.2) ad ws hf hW
      · have hf := q_iteF hf c344
        refine q_iconst (pc := 1960) C (0 : Int32) dL_law_1960 q_ci_0 ?_
        cases hf
  · have hf := q_iteF hf c342
    refine q_iconst (pc := 1943) C (0 : Int32) dL_law_1943 q_ci_0 ?_
    cases hf
set_option maxRecDepth 100000 in
set_option maxHeartbeats 8000000 in
theorem w_L_law_1896 {p : Program} {l : Launch} {e : Env} {s : State} {m : MethodId} {args : Array Value} {below : List Frame} {meth : Method} {c : Code} {D : va_G} {cc : Nat → ClassId} {N0 : Nat} {Q : State → Prop} {g ga : Nat → Nat} {xo xd b L : Nat} {xs : Nat → Int32} {k28 : Nat → Nat → Int32 → LSt → Option Bool} (C : q_C p s m args meth c cL_law 9 (some .boolean) wsL_law RL D cc N0) (CS : l.stackTraces = false ∧ va_X b L xs s s.heap ∧ b < s.heap.size ∧ ¬ q_A N0 b) (hQ : ∀ (kc ks : Nat) (ws : va_W) (pc : Nat) (lv : List (Nat × Value)), kc ≤ room_1.cells → ks ≤ room_1.slots → decode cL_law pc = .ok (.ireturn, 1) → q_WA p l e room_1 s m args below meth c D N0 9 Q kc ks ws pc lv [.int 1]) (hk28 : ∀ (kc ks : Nat) (v5 : Int32) (S : LSt) (ad : Nat → Nat → Nat) (ws : va_W), k28 kc ks v5 S = some true → LW cc g ga xo xd ad S [] ws → q_WA p l e room_1 s m args below meth c D N0 9 Q kc ks ws 28 [(0, .ref b), (1, .ref (g 0)), (2, .ref (ga 0)), (3, .ref xo), (4, .ref xd), (5, .int v5)] []) (kc ks : Nat) (v5 : Int32) (vt0 : Int32) (vt1 : Int32) (vt2 : Int32) (S : LSt) (ad : Nat → Nat → Nat) (ws : va_W) : f_L_law_1896 L xs k28 kc ks v5 vt0 vt1 vt2 S = some true → LW cc g ga xo xd ad S [] ws → q_WA p l e room_1 s m args below meth c D N0 9 Q kc ks ws 1896 [(0, .ref b), (1, .ref (g 0)), (2, .ref (ga 0)), (3, .ref xo), (4, .ref xd), (5, .int v5)] [.int vt0, .int vt1, .int vt2, .ref (g 0)] := by
  intro hf hW
  obtain ⟨hr, hf⟩ := q_gd hf
  obtain ⟨hr1, hr2⟩ := hr
  refine q_aload_n (pc := 1896) C dL_law_1896 rfl 3 rfl ?_
  obtain ⟨u332, e333, hf⟩ := q_bind hf
  obtain ⟨T, hp, hb⟩ := hW.cls
  refine q_perm hp ?_
  refine q_callSH (pc := 1897) (As := [.ref (g 0), .int vt2, .int vt1, .int vt0, .ref xo]) (rest := []) C (c_L_sample l CS.1 D cc N0 g xo (ld5 cc xd S.2.2.2 :: T) S.2.1 vt2 vt1 vt0 S.2.2.1 u332 e333) gL_law_L_sample rfl z_L_sample ⟨(Nat.le_of_ble_eq_true rfl), (Nat.le_of_ble_eq_true rfl)⟩ rfl rfl (Nat.le_of_ble_eq_true rfl) dL_law_1897 ⟨(by show (kc) + 1 ≤ room_1.cells; omega), (by show (ks) + 6 ≤ room_1.slots; omega)⟩ ?_
  rintro _ _ ⟨rfl, rfl⟩
  have hW := hb (S.1, u332.2.2, u332.2.1, S.2.2.2) rfl
  refine LW.ren hW (fun ws hW => ?_)
  refine q_nm (wz := ws) (ka := kc + 1) (kb := ks + 6) (sz := [.int u332.1]) rfl (by omega) (by omega) rfl ?_
  refine q_istore (pc := 1900) (lvq := [(6, .int u332.1), (0, .ref b), (1, .ref (g 0)), (2, .ref (ga 0)), (3, .ref xo), (4, .ref xd), (5, .int v5)]) C dL_law_1900 (by decide) rfl ?_
  refine q_aload_n (pc := 1902) C dL_law_1902 rfl 3 rfl ?_
  refine q_aload_n (pc := 1903) C dL_law_1903 rfl 1 rfl ?_
  refine q_iload (pc := 1904) C dL_law_1904 6 rfl ?_
  refine q_iconst (pc := 1906) C (1 : Int32) dL_law_1906 q_ci_1 ?_
  refine q_iadd (pc := 1907) C dL_law_1907 ?_
  obtain ⟨g334, hf⟩ := q_gd hf
  refine q_sld (pc := 1908) C CS.2.1 CS.2.2.1 CS.2.2.2 g334 dL_law_1908 ?_
  refine q_aload_n (pc := 1909) C dL_law_1909 rfl 1 rfl ?_
  refine q_iload (pc := 1910) C dL_law_1910 6 rfl ?_
  refine q_iconst (pc := 1912) C (2 : Int32) dL_law_1912 q_ci_2 ?_
  refine q_iadd (pc := 1913) C dL_law_1913 ?_
  obtain ⟨g335, hf⟩ := q_gd hf
  refine q_sld (pc := 1914) C CS.2.1 CS.2.2.1 CS.2.2.2 g335 dL_law_1914 ?_
  refine q_aload_n (pc := 1915) C dL_law_1915 rfl 1 rfl ?_
  refine q_iload (pc := 1916) C dL_law_1916 6 rfl ?_
  refine q_iconst (pc := 1918) C (3 : Int32) dL_law_1918 q_ci_3 ?_
  refine q_iadd (pc := 1919) C dL_law_1919 ?_
  obtain ⟨g336, hf⟩ := q_gd hf
  refine q_sld (pc := 1920) C CS.2.1 CS.2.2.1 CS.2.2.2 g336 dL_law_1920 ?_
  refine q_if_eq (pc := 1921) (tgt := 1928) C dL_law_1921 (by decide) (fun c337 => ?_) (fun c337 => ?_)
  · have hf := q_iteT hf c337
    refine q_iconst (pc := 1928) C (0 : Int32) dL_law_1928 q_ci_0 ?_
    refine q_sub (lvq := [(0, .ref b), (1, .ref (g 0)), (2, .ref (ga 0)), (3, .ref xo), (4, .ref xd), (5, .int v5), (6, .int u332.1)]) [1, 2, 3, 4, 5, 6, 0] rfl ?_
    exact w_L_law_1929 C CS hQ hk28 (kc + 1) (ks + 6) v5 u332.1 (0 : Int32) (xs (v5 + (2 : Int32)).toNatClampNeg) (xs (v5 + (1 : Int32)).toNatClampNeg) (S.1, u332.2.2, u332.2.1, S.2.2.2) ad ws hf hW
  · have hf := q_iteF hf c337
    refine q_iconst (pc := 1924) C (1 : Int32) dL_law_1924 q_ci_1 ?_
    refine q_goto (pc := 1925) (tgt := 1929) C dL_law_1925 (by decide) ?_
    refine q_sub (lvq := [(0, .ref b), (1, .ref (g 0)), (2, .ref (ga 0)), (3, .ref xo), (4, .ref xd), (5, .int v5), (6, .int u332.1)]) [1, 2, 3, 4, 5, 6, 0] rfl ?_
    exact w_L_law_1929 C CS hQ hk28 (kc + 1) (ks + 6) v5 u332.1 (1 : Int32) (xs (v5 + (2 : Int32)).toNatClampNeg) (xs (v5 + (1 : Int32)).toNatClampNeg) (S.1, u332.2.2, u332.2.1, S.2.2.2) ad ws hf hW
set_option maxRecDepth 100000 in
set_option maxHeartbeats 8000000 in
theorem w_L_law_1869 {p : Program} {l : Launch} {e : Env} {s : State} {m : MethodId} {args : Array Value} {below : List Frame} {meth : Method} {c : Code} {D : va_G} {cc : Nat → ClassId} {N0 : Nat} {Q : State → Prop} {g ga : Nat → Nat} {xo xd b L : Nat} {xs : Nat → Int32} {k28 : Nat → Nat → Int32 → LSt → Option Bool} (C : q_C p s m args meth c cL_law 9 (some .boolean) wsL_law RL D cc N0) (CS : l.stackTraces = false ∧ va_X b L xs s s.heap ∧ b < s.heap.size ∧ ¬ q_A N0 b) (hQ : ∀ (kc ks : Nat) (ws : va_W) (pc : Nat) (lv : List (Nat × Value)), kc ≤ room_1.cells → ks ≤ room_1.slots → decode cL_law pc = .ok (.ireturn, 1) → q_WA p l e room_1 s m args below meth c D N0 9 Q kc ks ws pc lv [.int 1]) (hk28 : ∀ (kc ks : Nat) (v5 : Int32) (S : LSt) (ad : Nat → Nat → Nat) (ws : va_W), k28 kc ks v5 S = some true → LW cc g ga xo xd ad S [] ws → q_WA p l e room_1 s m args below meth c D N0 9 Q kc ks ws 28 [(0, .ref b), (1, .ref (g 0)), (2, .ref (ga 0)), (3, .ref xo), (4, .ref xd), (5, .int v5)] []) (kc ks : Nat) (v5 : Int32) (S : LSt) (ad : Nat → Nat → Nat) (ws : va_W) : f_L_law_1869 L xs k28 kc ks v5 S = some true → LW cc g ga xo xd ad S [] ws → q_WA p l e room_1 s m args below meth c D N0 9 Q kc ks ws 1869 [(0, .ref b), (1, .ref (g 0)), (2, .ref (ga 0)), (3, .ref xo), (4, .ref xd), (5, .int v5)] [] := by
  intro hf hW
  obtain ⟨hr, hf⟩ := q_gd hf
  obtain ⟨hr1, hr2⟩ := hr
  refine q_aload_n (pc := 1869) C dL_law_1869 rfl 1 rfl ?_
  refine q_aload_n (pc := 1870) C dL_law_1870 rfl 0 rfl ?_
  refine q_iload (pc := 1871) C dL_law_1871 5 rfl ?_
  refine q_iconst (pc := 1873) C (1 : Int32) dL_law_1873 q_ci_1 ?_
  refine q_iadd (pc := 1874) C dL_law_1874 ?_
  obtain ⟨g328, hf⟩ := q_gd hf
  refine q_sld (pc := 1875) C CS.2.1 CS.2.2.1 CS.2.2.2 g328 dL_law_1875 ?_
  refine q_aload_n (pc := 1876) C dL_law_1876 rfl 0 rfl ?_
  refine q_iload (pc := 1877) C dL_law_1877 5 rfl ?_
  refine q_iconst (pc := 1879) C (2 : Int32) dL_law_1879 q_ci_2 ?_
  refine q_iadd (pc := 1880) C dL_law_1880 ?_
  obtain ⟨g329, hf⟩ := q_gd hf
  refine q_sld (pc := 1881) C CS.2.1 CS.2.2.1 CS.2.2.2 g329 dL_law_1881 ?_
  refine q_aload_n (pc := 1882) C dL_law_1882 rfl 0 rfl ?_
  refine q_iload (pc := 1883) C dL_law_1883 5 rfl ?_
  refine q_iconst (pc := 1885) C (3 : Int32) dL_law_1885 q_ci_3 ?_
  refine q_iadd (pc := 1886) C dL_law_1886 ?_
  obtain ⟨g330, hf⟩ := q_gd hf
  refine q_sld (pc := 1887) C CS.2.1 CS.2.2.1 CS.2.2.2 g330 dL_law_1887 ?_
  refine q_if_eq (pc := 1888) (tgt := 1895) C dL_law_1888 (by decide) (fun c331 => ?_) (fun c331 => ?_)
  · have hf := q_iteT hf c331
    refine q_iconst (pc := 1895) C (0 : Int32) dL_law_1895 q_ci_0 ?_
    refine q_sub (lvq := [(0, .ref b), (1, .ref (g 0)), (2, .ref (ga 0)), (3, .ref xo), (4, .ref xd), (5, .int v5)]) [0, 1, 2, 3, 4, 5] rfl ?_
    exact w_L_law_1896 C CS hQ hk28 (kc) (ks) v5 (0 : Int32) (xs (v5 + (2 : Int32)).toNatClampNeg) (xs (v5 + (1 : Int32)).toNatClampNeg) S ad ws hf hW
  · have hf := q_iteF hf c331
    refine q_iconst (pc := 1891) C (1 : Int32) dL_law_1891 q_ci_1 ?_
    refine q_goto (pc := 1892) (tgt := 1896) C dL_law_1892 (by decide) ?_
    refine q_sub (lvq := [(0, .ref b), (1, .ref (g 0)), (2, .ref (ga 0)), (3, .ref xo), (4, .ref xd), (5, .int v5)]) [0, 1, 2, 3, 4, 5] rfl ?_
    exact w_L_law_1896 C CS hQ hk28 (kc) (ks) v5 (1 : Int32) (xs (v5 + (2 : Int32)).toNatClampNeg) (xs (v5 + (1 : Int32)).toNatClampNeg) S ad ws hf hW
