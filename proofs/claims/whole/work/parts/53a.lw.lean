set_option maxRecDepth 100000 in
set_option maxHeartbeats 8000000 in
theorem w_L_law_2537 {p : Program} {l : Launch} {e : Env} {s : State} {m : MethodId} {args : Array Value} {below : List Frame} {meth : Method} {c : Code} {D : va_G} {cc : Nat → ClassId} {N0 : Nat} {Q : State → Prop} {g ga : Nat → Nat} {xo xd b L : Nat} {xs : Nat → Int32} {k28 : Nat → Nat → Int32 → LSt → Option Bool} (C : q_C p s m args meth c cL_law 9 (some .boolean) wsL_law RL D cc N0) (CS : l.stackTraces = false ∧ va_X b L xs s s.heap ∧ b < s.heap.size ∧ ¬ q_A N0 b) (hQ : ∀ (kc ks : Nat) (ws : va_W) (pc : Nat) (lv : List (Nat × Value)), kc ≤ room_1.cells → ks ≤ room_1.slots → decode cL_law pc = .ok (.ireturn, 1) → q_WA p l e room_1 s m args below meth c D N0 9 Q kc ks ws pc lv [.int 1]) (hk28 : ∀ (kc ks : Nat) (v5 : Int32) (S : LSt) (ad : Nat → Nat → Nat) (ws : va_W), k28 kc ks v5 S = some true → LW cc g ga xo xd ad S [] ws → q_WA p l e room_1 s m args below meth c D N0 9 Q kc ks ws 28 [(0, .ref b), (1, .ref (g 0)), (2, .ref (ga 0)), (3, .ref xo), (4, .ref xd), (5, .int v5)] []) (kc ks : Nat) (v5 : Int32) (S : LSt) (ad : Nat → Nat → Nat) (ws : va_W) : f_L_law_2537 L xs k28 kc ks v5 S = some true → LW cc g ga xo xd ad S [] ws → q_WA p l e room_1 s m args below meth c D N0 9 Q kc ks ws 2537 [(0, .ref b), (1, .ref (g 0)), (2, .ref (ga 0)), (3, .ref xo), (4, .ref xd), (5, .int v5)] [] := by
  intro hf hW
  refine q_iinc (pc := 2537) (lvq := [(5, .int (v5 + (4 : Int32))), (0, .ref b), (1, .ref (g 0)), (2, .ref (ga 0)), (3, .ref xo), (4, .ref xd)]) C (v5 + (4 : Int32)) dL_law_2537 5 rfl q_ca_4 (by decide) rfl ?_
  refine q_goto (pc := 2540) (tgt := 28) C dL_law_2540 (by decide) ?_
  refine q_sub (lvq := [(0, .ref b), (1, .ref (g 0)), (2, .ref (ga 0)), (3, .ref xo), (4, .ref xd), (5, .int (v5 + (4 : Int32)))]) [1, 2, 3, 4, 5, 0] rfl ?_
  exact hk28 (kc) (ks) (v5 + (4 : Int32)) S ad ws hf hW
set_option maxRecDepth 100000 in
set_option maxHeartbeats 8000000 in
theorem w_L_law_297 {p : Program} {l : Launch} {e : Env} {s : State} {m : MethodId} {args : Array Value} {below : List Frame} {meth : Method} {c : Code} {D : va_G} {cc : Nat → ClassId} {N0 : Nat} {Q : State → Prop} {g ga : Nat → Nat} {xo xd b L : Nat} {xs : Nat → Int32} {k28 : Nat → Nat → Int32 → LSt → Option Bool} (C : q_C p s m args meth c cL_law 9 (some .boolean) wsL_law RL D cc N0) (CS : l.stackTraces = false ∧ va_X b L xs s s.heap ∧ b < s.heap.size ∧ ¬ q_A N0 b) (hQ : ∀ (kc ks : Nat) (ws : va_W) (pc : Nat) (lv : List (Nat × Value)), kc ≤ room_1.cells → ks ≤ room_1.slots → decode cL_law pc = .ok (.ireturn, 1) → q_WA p l e room_1 s m args below meth c D N0 9 Q kc ks ws pc lv [.int 1]) (hk28 : ∀ (kc ks : Nat) (v5 : Int32) (S : LSt) (ad : Nat → Nat → Nat) (ws : va_W), k28 kc ks v5 S = some true → LW cc g ga xo xd ad S [] ws → q_WA p l e room_1 s m args below meth c D N0 9 Q kc ks ws 28 [(0, .ref b), (1, .ref (g 0)), (2, .ref (ga 0)), (3, .ref xo), (4, .ref xd), (5, .int v5)] []) (kc ks : Nat) (v5 : Int32) (S : LSt) (ad : Nat → Nat → Nat) (ws : va_W) : f_L_law_297 L xs k28 kc ks v5 S = some true → LW cc g ga xo xd ad S [] ws → q_WA p l e room_1 s m args below meth c D N0 9 Q kc ks ws 297 [(0, .ref b), (1, .ref (g 0)), (2, .ref (ga 0)), (3, .ref xo), (4, .ref xd), (5, .int v5)] [] := by
  intro hf hW
  refine q_goto (pc := 297) (tgt := 2537) C dL_law_297 (by decide) ?_
  refine q_sub (lvq := [(0, .ref b), (1, .ref (g 0)), (2, .ref (ga 0)), (3, .ref xo), (4, .ref xd), (5, .int v5)]) [0, 1, 2, 3, 4, 5] rfl ?_
  exact w_L_law_2537 C CS hQ hk28 (kc) (ks) v5 S ad ws hf hW
set_option maxRecDepth 100000 in
set_option maxHeartbeats 8000000 in
theorem w_L_law_244 {p : Program} {l : Launch} {e : Env} {s : State} {m : MethodId} {args : Array Value} {below : List Frame} {meth : Method} {c : Code} {D : va_G} {cc : Nat → ClassId} {N0 : Nat} {Q : State → Prop} {g ga : Nat → Nat} {xo xd b L : Nat} {xs : Nat → Int32} {k28 : Nat → Nat → Int32 → LSt → Option Bool} (C : q_C p s m args meth c cL_law 9 (some .boolean) wsL_law RL D cc N0) (CS : l.stackTraces = false ∧ va_X b L xs s s.heap ∧ b < s.heap.size ∧ ¬ q_A N0 b) (hQ : ∀ (kc ks : Nat) (ws : va_W) (pc : Nat) (lv : List (Nat × Value)), kc ≤ room_1.cells → ks ≤ room_1.slots → decode cL_law pc = .ok (.ireturn, 1) → q_WA p l e room_1 s m args below meth c D N0 9 Q kc ks ws pc lv [.int 1]) (hk28 : ∀ (kc ks : Nat) (v5 : Int32) (S : LSt) (ad : Nat → Nat → Nat) (ws : va_W), k28 kc ks v5 S = some true → LW cc g ga xo xd ad S [] ws → q_WA p l e room_1 s m args below meth c D N0 9 Q kc ks ws 28 [(0, .ref b), (1, .ref (g 0)), (2, .ref (ga 0)), (3, .ref xo), (4, .ref xd), (5, .int v5)] []) (kc ks : Nat) (v5 : Int32) (S : LSt) (ad : Nat → Nat → Nat) (ws : va_W) : f_L_law_244 L xs k28 kc ks v5 S = some true → LW cc g ga xo xd ad S [] ws → q_WA p l e room_1 s m args below meth c D N0 9 Q kc ks ws 244 [(0, .ref b), (1, .ref (g 0)), (2, .ref (ga 0)), (3, .ref xo), (4, .ref xd), (5, .int v5)] [] := by
  intro hf hW
  obtain ⟨hr, hf⟩ := q_gd hf
  obtain ⟨hr1, hr2⟩ := hr
  refine q_aload_n (pc := 244) C dL_law_244 rfl 1 rfl ?_
  refine q_aload_n (pc := 245) C dL_law_245 rfl 0 rfl ?_
  refine q_iload (pc := 246) C dL_law_246 5 rfl ?_
  refine q_iconst (pc := 248) C (1 : Int32) dL_law_248 q_ci_1 ?_
  refine q_iadd (pc := 249) C dL_law_249 ?_
  obtain ⟨g3, hf⟩ := q_gd hf
  refine q_sld (pc := 250) C CS.2.1 CS.2.2.1 CS.2.2.2 g3 dL_law_250 ?_
  refine q_aload_n (pc := 251) C dL_law_251 rfl 3 rfl ?_
  obtain ⟨u4, e5, hf⟩ := q_bind hf
  obtain ⟨T, hp, hb⟩ := hW.cls
  refine q_perm hp ?_
  refine q_callSH (pc := 252) (As := [.ref (g 0), .int (xs (v5 + (1 : Int32)).toNatClampNeg), .ref xo]) (rest := []) C (c_L_points l CS.1 D cc N0 g xo (ld5 cc xd S.2.2.2 :: T) S.2.1 (xs (v5 + (1 : Int32)).toNatClampNeg) S.2.2.1 u4 e5) gL_law_L_points rfl z_L_points ⟨(Nat.le_of_ble_eq_true rfl), (Nat.le_of_ble_eq_true rfl)⟩ rfl rfl (Nat.le_of_ble_eq_true rfl) dL_law_252 ⟨(by show (kc) + 1 ≤ room_1.cells; omega), (by show (ks) + 6 ≤ room_1.slots; omega)⟩ ?_
  rintro _ _ ⟨rfl, rfl⟩
  have hW := hb (S.1, u4.2.2, u4.2.1, S.2.2.2) rfl
  refine LW.ren hW (fun ws hW => ?_)
  refine q_nm (wz := ws) (ka := kc + 1) (kb := ks + 6) (sz := [.int u4.1]) rfl (by omega) (by omega) rfl ?_
  refine q_istore (pc := 255) (lvq := [(6, .int u4.1), (0, .ref b), (1, .ref (g 0)), (2, .ref (ga 0)), (3, .ref xo), (4, .ref xd), (5, .int v5)]) C dL_law_255 (by decide) rfl ?_
  refine q_aload_n (pc := 257) C dL_law_257 rfl 3 rfl ?_
  refine q_aload_n (pc := 258) C dL_law_258 rfl 1 rfl ?_
  refine q_iload (pc := 259) C dL_law_259 6 rfl ?_
  refine q_iconst (pc := 261) C (1 : Int32) dL_law_261 q_ci_1 ?_
  refine q_iadd (pc := 262) C dL_law_262 ?_
  obtain ⟨g6, hf⟩ := q_gd hf
  refine q_sld (pc := 263) C CS.2.1 CS.2.2.1 CS.2.2.2 g6 dL_law_263 ?_
  obtain ⟨u7, e8, hf⟩ := q_bind hf
  obtain ⟨_, he⟩ := hW.obj
  refine q_callV (pc := 264) (As := [.int (xs (v5 + (1 : Int32)).toNatClampNeg)]) (rest := []) C (c_X9_points l D cc N0 ga ad  (LG cc g xo xd (S.1, u4.2.2, u4.2.1, S.2.2.2) ++ []) (S.1, u4.2.2, u4.2.1, S.2.2.2).1 (xs (v5 + (1 : Int32)).toNatClampNeg) u7 e8 ws hW) gL_law_X9_points rfl rfl z_X9_points ⟨(Nat.le_of_ble_eq_true rfl), (Nat.le_of_ble_eq_true rfl)⟩ he rfl rfl rfl (Nat.le_of_ble_eq_true rfl) dL_law_264 ⟨(by show (kc + 1) + 0 ≤ room_1.cells; omega), (by show (ks + 6) + 0 ≤ room_1.slots; omega)⟩ ?_
  rintro _ ws ⟨rfl, hW⟩
  have hW : LW cc g ga xo xd ad (u7.2, (S.1, u4.2.2, u4.2.1, S.2.2.2).2) [] ws := hW
  refine q_nm (wz := ws) (ka := kc + 1) (kb := ks + 6) (sz := [.int u7.1]) rfl (by omega) (by omega) rfl ?_
  refine q_istore (pc := 267) (lvq := [(7, .int u7.1), (6, .int u4.1), (0, .ref b), (1, .ref (g 0)), (2, .ref (ga 0)), (3, .ref xo), (4, .ref xd), (5, .int v5)]) C dL_law_267 (by decide) rfl ?_
  refine q_aload_n (pc := 269) C dL_law_269 rfl 4 rfl ?_
  obtain ⟨u9, e10, hf⟩ := q_bind hf
  obtain ⟨_, he⟩ := hW.obj
  refine q_callV (pc := 270) (As := []) (rest := []) C (c_X9_thrown l D cc N0 ga ad  (LG cc g xo xd (u7.2, (S.1, u4.2.2, u4.2.1, S.2.2.2).2) ++ []) (u7.2, (S.1, u4.2.2, u4.2.1, S.2.2.2).2).1  u9 e10 ws hW) gL_law_X9_thrown rfl rfl z_X9_thrown ⟨(Nat.le_of_ble_eq_true rfl), (Nat.le_of_ble_eq_true rfl)⟩ he rfl rfl rfl (Nat.le_of_ble_eq_true rfl) dL_law_270 ⟨(by show (kc + 1) + 0 ≤ room_1.cells; omega), (by show (ks + 6) + 0 ≤ room_1.slots; omega)⟩ ?_
  rintro _ ws ⟨rfl, hW⟩
  have hW : LW cc g ga xo xd ad (u7.2, (S.1, u4.2.2, u4.2.1, S.2.2.2).2) [] ws := hW
  refine q_nm (wz := ws) (ka := kc + 1) (kb := ks + 6) (sz := [.int u9]) rfl (by omega) (by omega) rfl ?_
  refine q_iload (pc := 273) C dL_law_273 1 rfl ?_
  refine q_icmp_eq (pc := 275) (tgt := 280) C dL_law_275 (by decide) (fun c11 => ?_) (fun c11 => ?_)
  · have hf := q_iteT hf c11
    refine q_iload (pc := 280) C dL_law_280 1 rfl ?_
    refine q_if_ne (pc := 282) (tgt := 297) C dL_law_282 (by decide) (fun c12 => ?_) (fun c12 => ?_)
    · have hf := q_iteF hf c12
      refine q_sub (lvq := [(0, .ref b), (1, .ref (g 0)), (2, .ref (ga 0)), (3, .ref xo), (4, .ref xd), (5, .int v5)]) [2, 3, 4, 5, 6, 7] rfl ?_
      exact w_L_law_297 C CS hQ hk28 (kc + 1) (ks + 6) v5 (u7.2, (S.1, u4.2.2, u4.2.1, S.2.2.2).2) ad ws hf hW
    · have hf := q_iteT hf c12
      refine q_aload_n (pc := 285) C dL_law_285 rfl 5 rfl ?_
      refine q_iconst (pc := 286) C (0 : Int32) dL_law_286 q_ci_0 ?_
      refine LW.lald (pc := 287) hW C dL_law_287 ?_
      refine q_iload (pc := 288) C dL_law_288 0 rfl ?_
      refine q_i2l (pc := 290) C dL_law_290 rfl ?_
      refine q_lcmp (pc := 291) C dL_law_291 ?_
      refine q_if_eq (pc := 292) (tgt := 297) C dL_law_292 (by decide) (fun c13 => ?_) (fun c13 => ?_)
      · have hf := q_iteT hf c13
        refine q_sub (lvq := [(0, .ref b), (1, .ref (g 0)), (2, .ref (ga 0)), (3, .ref xo), (4, .ref xd), (5, .int v5)]) [2, 3, 4, 5, 6, 7] rfl ?_
        exact w_L_law_297 C CS hQ hk28 (kc + 1) (ks + 6) v5 (u7.2, (S.1, u4.2.2, u4.2.1, S.2.2.2).2) ad ws hf hW
      · have hf := q_iteF hf c13
        refine q_iconst (pc := 295) C (0 : Int32) dL_law_295 q_ci_0 ?_
        cases hf
  · have hf := q_iteF hf c11
    refine q_iconst (pc := 278) C (0 : Int32) dL_law_278 q_ci_0 ?_
    cases hf
set_option maxRecDepth 100000 in
set_option maxHeartbeats 8000000 in
theorem w_L_law_353 {p : Program} {l : Launch} {e : Env} {s : State} {m : MethodId} {args : Array Value} {below : List Frame} {meth : Method} {c : Code} {D : va_G} {cc : Nat → ClassId} {N0 : Nat} {Q : State → Prop} {g ga : Nat → Nat} {xo xd b L : Nat} {xs : Nat → Int32} {k28 : Nat → Nat → Int32 → LSt → Option Bool} (C : q_C p s m args meth c cL_law 9 (some .boolean) wsL_law RL D cc N0) (CS : l.stackTraces = false ∧ va_X b L xs s s.heap ∧ b < s.heap.size ∧ ¬ q_A N0 b) (hQ : ∀ (kc ks : Nat) (ws : va_W) (pc : Nat) (lv : List (Nat × Value)), kc ≤ room_1.cells → ks ≤ room_1.slots → decode cL_law pc = .ok (.ireturn, 1) → q_WA p l e room_1 s m args below meth c D N0 9 Q kc ks ws pc lv [.int 1]) (hk28 : ∀ (kc ks : Nat) (v5 : Int32) (S : LSt) (ad : Nat → Nat → Nat) (ws : va_W), k28 kc ks v5 S = some true → LW cc g ga xo xd ad S [] ws → q_WA p l e room_1 s m args below meth c D N0 9 Q kc ks ws 28 [(0, .ref b), (1, .ref (g 0)), (2, .ref (ga 0)), (3, .ref xo), (4, .ref xd), (5, .int v5)] []) (kc ks : Nat) (v5 : Int32) (S : LSt) (ad : Nat → Nat → Nat) (ws : va_W) : f_L_law_353 L xs k28 kc ks v5 S = some true → LW cc g ga xo xd ad S [] ws → q_WA p l e room_1 s m args below meth c D N0 9 Q kc ks ws 353 [(0, .ref b), (1, .ref (g 0)), (2, .ref (ga 0)), (3, .ref xo), (4, .ref xd), (5, .int v5)] [] := by
  intro hf hW
  refine q_goto (pc := 353) (tgt := 2537) C dL_law_353 (by decide) ?_
  refine q_sub (lvq := [(0, .ref b), (1, .ref (g 0)), (2, .ref (ga 0)), (3, .ref xo), (4, .ref xd), (5, .int v5)]) [0, 1, 2, 3, 4, 5] rfl ?_
  exact w_L_law_2537 C CS hQ hk28 (kc) (ks) v5 S ad ws hf hW
set_option maxRecDepth 100000 in
set_option maxHeartbeats 8000000 in
theorem w_L_law_300 {p : Program} {l : Launch} {e : Env} {s : State} {m : MethodId} {args : Array Value} {below : List Frame} {meth : Method} {c : Code} {D : va_G} {cc : Nat → ClassId} {N0 : Nat} {Q : State → Prop} {g ga : Nat → Nat} {xo xd b L : Nat} {xs : Nat → Int32} {k28 : Nat → Nat → Int32 → LSt → Option Bool} (C : q_C p s m args meth c cL_law 9 (some .boolean) wsL_law RL D cc N0) (CS : l.stackTraces = false ∧ va_X b L xs s s.heap ∧ b < s.heap.size ∧ ¬ q_A N0 b) (hQ : ∀ (kc ks : Nat) (ws : va_W) (pc : Nat) (lv : List (Nat × Value)), kc ≤ room_1.cells → ks ≤ room_1.slots → decode cL_law pc = .ok (.ireturn, 1) → q_WA p l e room_1 s m args below meth c D N0 9 Q kc ks ws pc lv [.int 1]) (hk28 : ∀ (kc ks : Nat) (v5 : Int32) (S : LSt) (ad : Nat → Nat → Nat) (ws : va_W), k28 kc ks v5 S = some true → LW cc g ga xo xd ad S [] ws → q_WA p l e room_1 s m args below meth c D N0 9 Q kc ks ws 28 [(0, .ref b), (1, .ref (g 0)), (2, .ref (ga 0)), (3, .ref xo), (4, .ref xd), (5, .int v5)] []) (kc ks : Nat) (v5 : Int32) (S : LSt) (ad : Nat → Nat → Nat) (ws : va_W) : f_L_law_300 L xs k28 kc ks v5 S = some true → LW cc g ga xo xd ad S [] ws → q_WA p l e room_1 s m args below meth c D N0 9 Q kc ks ws 300 [(0, .ref b), (1, .ref (g 0)), (2, .ref (ga 0)), (3, .ref xo), (4, .ref xd), (5, .int v5)] [] := by
  intro hf hW
  obtain ⟨hr, hf⟩ := q_gd hf
  obtain ⟨hr1, hr2⟩ := hr
  refine q_aload_n (pc := 300) C dL_law_300 rfl 1 rfl ?_
  refine q_aload_n (pc := 301) C dL_law_301 rfl 0 rfl ?_
  refine q_iload (pc := 302) C dL_law_302 5 rfl ?_
  refine q_iconst (pc := 304) C (1 : Int32) dL_law_304 q_ci_1 ?_
  refine q_iadd (pc := 305) C dL_law_305 ?_
  obtain ⟨g14, hf⟩ := q_gd hf
  refine q_sld (pc := 306) C CS.2.1 CS.2.2.1 CS.2.2.2 g14 dL_law_306 ?_
  refine q_aload_n (pc := 307) C dL_law_307 rfl 3 rfl ?_
  obtain ⟨u15, e16, hf⟩ := q_bind hf
  obtain ⟨T, hp, hb⟩ := hW.cls
  refine q_perm hp ?_
  refine q_callSH (pc := 308) (As := [.ref (g 0), .int (xs (v5 + (1 : Int32)).toNatClampNeg), .ref xo]) (rest := []) C (c_L_concept l CS.1 D cc N0 g xo (ld5 cc xd S.2.2.2 :: T) S.2.1 (xs (v5 + (1 : Int32)).toNatClampNeg) S.2.2.1 u15 e16) gL_law_L_concept rfl z_L_concept ⟨(Nat.le_of_ble_eq_true rfl), (Nat.le_of_ble_eq_true rfl)⟩ rfl rfl (Nat.le_of_ble_eq_true rfl) dL_law_308 ⟨(by show (kc) + 1 ≤ room_1.cells; omega), (by show (ks) + 6 ≤ room_1.slots; omega)⟩ ?_
  rintro _ _ ⟨rfl, rfl⟩
  have hW := hb (S.1, u15.2.2, u15.2.1, S.2.2.2) rfl
  refine LW.ren hW (fun ws hW => ?_)
  refine q_nm (wz := ws) (ka := kc + 1) (kb := ks + 6) (sz := [.int u15.1]) rfl (by omega) (by omega) rfl ?_
  refine q_istore (pc := 311) (lvq := [(6, .int u15.1), (0, .ref b), (1, .ref (g 0)), (2, .ref (ga 0)), (3, .ref xo), (4, .ref xd), (5, .int v5)]) C dL_law_311 (by decide) rfl ?_
  refine q_aload_n (pc := 313) C dL_law_313 rfl 3 rfl ?_
  refine q_aload_n (pc := 314) C dL_law_314 rfl 1 rfl ?_
  refine q_iload (pc := 315) C dL_law_315 6 rfl ?_
  refine q_iconst (pc := 317) C (1 : Int32) dL_law_317 q_ci_1 ?_
  refine q_iadd (pc := 318) C dL_law_318 ?_
  obtain ⟨g17, hf⟩ := q_gd hf
  refine q_sld (pc := 319) C CS.2.1 CS.2.2.1 CS.2.2.2 g17 dL_law_319 ?_
  obtain ⟨u18, e19, hf⟩ := q_bind hf
  obtain ⟨_, he⟩ := hW.obj
  refine q_callV (pc := 320) (As := [.int (xs (v5 + (1 : Int32)).toNatClampNeg)]) (rest := []) C (c_X9_concept l D cc N0 ga ad  (LG cc g xo xd (S.1, u15.2.2, u15.2.1, S.2.2.2) ++ []) (S.1, u15.2.2, u15.2.1, S.2.2.2).1 (xs (v5 + (1 : Int32)).toNatClampNeg) u18 e19 ws hW) gL_law_X9_concept rfl rfl z_X9_concept ⟨(Nat.le_of_ble_eq_true rfl), (Nat.le_of_ble_eq_true rfl)⟩ he rfl rfl rfl (Nat.le_of_ble_eq_true rfl) dL_law_320 ⟨(by show (kc + 1) + 3 ≤ room_1.cells; omega), (by show (ks + 6) + 110 ≤ room_1.slots; omega)⟩ ?_
  rintro _ ws ⟨rfl, ad, hW⟩
  have hW : LW cc g ga xo xd ad (u18.2, (S.1, u15.2.2, u15.2.1, S.2.2.2).2) [] ws := hW
  refine q_nm (wz := ws) (ka := kc + 4) (kb := ks + 116) (sz := [.int u18.1]) rfl (by omega) (by omega) rfl ?_
  refine q_istore (pc := 323) (lvq := [(7, .int u18.1), (6, .int u15.1), (0, .ref b), (1, .ref (g 0)), (2, .ref (ga 0)), (3, .ref xo), (4, .ref xd), (5, .int v5)]) C dL_law_323 (by decide) rfl ?_
  refine q_aload_n (pc := 325) C dL_law_325 rfl 4 rfl ?_
  obtain ⟨u20, e21, hf⟩ := q_bind hf
  obtain ⟨_, he⟩ := hW.obj
  refine q_callV (pc := 326) (As := []) (rest := []) C (c_X9_thrown l D cc N0 ga ad  (LG cc g xo xd (u18.2, (S.1, u15.2.2, u15.2.1, S.2.2.2).2) ++ []) (u18.2, (S.1, u15.2.2, u15.2.1, S.2.2.2).2).1  u20 e21 ws hW) gL_law_X9_thrown rfl rfl z_X9_thrown ⟨(Nat.le_of_ble_eq_true rfl), (Nat.le_of_ble_eq_true rfl)⟩ he rfl rfl rfl (Nat.le_of_ble_eq_true rfl) dL_law_326 ⟨(by show (kc + 4) + 0 ≤ room_1.cells; omega), (by show (ks + 116) + 0 ≤ room_1.slots; omega)⟩ ?_
  rintro _ ws ⟨rfl, hW⟩
  have hW : LW cc g ga xo xd ad (u18.2, (S.1, u15.2.2, u15.2.1, S.2.2.2).2) [] ws := hW
  refine q_nm (wz := ws) (ka := kc + 4) (kb := ks + 116) (sz := [.int u20]) rfl (by omega) (by omega) rfl ?_
  refine q_iload (pc := 329) C dL_law_329 1 rfl ?_
  refine q_icmp_eq (pc := 331) (tgt := 336) C dL_law_331 (by decide) (fun c22 => ?_) (fun c22 => ?_)
  · have hf := q_iteT hf c22
    refine q_iload (pc := 336) C dL_law_336 1 rfl ?_
    refine q_if_ne (pc := 338) (tgt := 353) C dL_law_338 (by decide) (fun c23 => ?_) (fun c23 => ?_)
    · have hf := q_iteF hf c23
      refine q_sub (lvq := [(0, .ref b), (1, .ref (g 0)), (2, .ref (ga 0)), (3, .ref xo), (4, .ref xd), (5, .int v5)]) [2, 3, 4, 5, 6, 7] rfl ?_
      exact w_L_law_353 C CS hQ hk28 (kc + 4) (ks + 116) v5 (u18.2, (S.1, u15.2.2, u15.2.1, S.2.2.2).2) ad ws hf hW
    · have hf := q_iteT hf c23
      refine q_aload_n (pc := 341) C dL_law_341 rfl 5 rfl ?_
      refine q_iconst (pc := 342) C (0 : Int32) dL_law_342 q_ci_0 ?_
      refine LW.lald (pc := 343) hW C dL_law_343 ?_
      refine q_iload (pc := 344) C dL_law_344 0 rfl ?_
      refine q_i2l (pc := 346) C dL_law_346 rfl ?_
      refine q_lcmp (pc := 347) C dL_law_347 ?_
      refine q_if_eq (pc := 348) (tgt := 353) C dL_law_348 (by decide) (fun c24 => ?_) (fun c24 => ?_)
      · have hf := q_iteT hf c24
        refine q_sub (lvq := [(0, .ref b), (1, .ref (g 0)), (2, .ref (ga 0)), (3, .ref xo), (4, .ref xd), (5, .int v5)]) [2, 3, 4, 5, 6, 7] rfl ?_
        exact w_L_law_353 C CS hQ hk28 (kc + 4) (ks + 116) v5 (u18.2, (S.1, u15.2.2, u15.2.1, S.2.2.2).2) ad ws hf hW
      · have hf := q_iteF hf c24
        refine q_iconst (pc := 351) C (0 : Int32) dL_law_351 q_ci_0 ?_
        cases hf
  · have hf := q_iteF hf c22
    refine q_iconst (pc := 334) C (0 : Int32) dL_law_334 q_ci_0 ?_
    cases hf
set_option maxRecDepth 100000 in
set_option maxHeartbeats 8000000 in
theorem w_L_law_411 {p : Program} {l : Launch} {e : Env} {s : State} {m : MethodId} {args : Array Value} {below : List Frame} {meth : Method} {c : Code} {D : va_G} {cc : Nat → ClassId} {N0 : Nat} {Q : State → Prop} {g ga : Nat → Nat} {xo xd b L : Nat} {xs : Nat → Int32} {k28 : Nat → Nat → Int32 → LSt → Option Bool} (C : q_C p s m args meth c cL_law 9 (some .boolean) wsL_law RL D cc N0) (CS : l.stackTraces = false ∧ va_X b L xs s s.heap ∧ b < s.heap.size ∧ ¬ q_A N0 b) (hQ : ∀ (kc ks : Nat) (ws : va_W) (pc : Nat) (lv : List (Nat × Value)), kc ≤ room_1.cells → ks ≤ room_1.slots → decode cL_law pc = .ok (.ireturn, 1) → q_WA p l e room_1 s m args below meth c D N0 9 Q kc ks ws pc lv [.int 1]) (hk28 : ∀ (kc ks : Nat) (v5 : Int32) (S : LSt) (ad : Nat → Nat → Nat) (ws : va_W), k28 kc ks v5 S = some true → LW cc g ga xo xd ad S [] ws → q_WA p l e room_1 s m args below meth c D N0 9 Q kc ks ws 28 [(0, .ref b), (1, .ref (g 0)), (2, .ref (ga 0)), (3, .ref xo), (4, .ref xd), (5, .int v5)] []) (kc ks : Nat) (v5 : Int32) (S : LSt) (ad : Nat → Nat → Nat) (ws : va_W) : f_L_law_411 L xs k28 kc ks v5 S = some true → LW cc g ga xo xd ad S [] ws → q_WA p l e room_1 s m args below meth c D N0 9 Q kc ks ws 411 [(0, .ref b), (1, .ref (g 0)), (2, .ref (ga 0)), (3, .ref xo), (4, .ref xd), (5, .int v5)] [] := by
  intro hf hW
  refine q_goto (pc := 411) (tgt := 2537) C dL_law_411 (by decide) ?_
  refine q_sub (lvq := [(0, .ref b), (1, .ref (g 0)), (2, .ref (ga 0)), (3, .ref xo), (4, .ref xd), (5, .int v5)]) [0, 1, 2, 3, 4, 5] rfl ?_
  exact w_L_law_2537 C CS hQ hk28 (kc) (ks) v5 S ad ws hf hW
set_option maxRecDepth 100000 in
set_option maxHeartbeats 8000000 in
theorem w_L_law_356 {p : Program} {l : Launch} {e : Env} {s : State} {m : MethodId} {args : Array Value} {below : List Frame} {meth : Method} {c : Code} {D : va_G} {cc : Nat → ClassId} {N0 : Nat} {Q : State → Prop} {g ga : Nat → Nat} {xo xd b L : Nat} {xs : Nat → Int32} {k28 : Nat → Nat → Int32 → LSt → Option Bool} (C : q_C p s m args meth c cL_law 9 (some .boolean) wsL_law RL D cc N0) (CS : l.stackTraces = false ∧ va_X b L xs s s.heap ∧ b < s.heap.size ∧ ¬ q_A N0 b) (hQ : ∀ (kc ks : Nat) (ws : va_W) (pc : Nat) (lv : List (Nat × Value)), kc ≤ room_1.cells → ks ≤ room_1.slots → decode cL_law pc = .ok (.ireturn, 1) → q_WA p l e room_1 s m args below meth c D N0 9 Q kc ks ws pc lv [.int 1]) (hk28 : ∀ (kc ks : Nat) (v5 : Int32) (S : LSt) (ad : Nat → Nat → Nat) (ws : va_W), k28 kc ks v5 S = some true → LW cc g ga xo xd ad S [] ws → q_WA p l e room_1 s m args below meth c D N0 9 Q kc ks ws 28 [(0, .ref b), (1, .ref (g 0)), (2, .ref (ga 0)), (3, .ref xo), (4, .ref xd), (5, .int v5)] []) (kc ks : Nat) (v5 : Int32) (S : LSt) (ad : Nat → Nat → Nat) (ws : va_W) : f_L_law_356 L xs k28 kc ks v5 S = some true → LW cc g ga xo xd ad S [] ws → q_WA p l e room_1 s m args below meth c D N0 9 Q kc ks ws 356 [(0, .ref b), (1, .ref (g 0)), (2, .ref (ga 0)), (3, .ref xo), (4, .ref xd), (5, .int v5)] [] := by
  intro hf hW
  obtain ⟨hr, hf⟩ := q_gd hf
  obtain ⟨hr1, hr2⟩ := hr
  refine q_aload_n (pc := 356) C dL_law_356 rfl 1 rfl ?_
  refine q_aload_n (pc := 357) C dL_law_357 rfl 0 rfl ?_
  refine q_iload (pc := 358) C dL_law_358 5 rfl ?_
  refine q_iconst (pc := 360) C (1 : Int32) dL_law_360 q_ci_1 ?_
  refine q_iadd (pc := 361) C dL_law_361 ?_
  obtain ⟨g25, hf⟩ := q_gd hf
  refine q_sld (pc := 362) C CS.2.1 CS.2.2.1 CS.2.2.2 g25 dL_law_362 ?_
  refine q_i2c (pc := 363) C dL_law_363 rfl ?_
  refine q_aload_n (pc := 364) C dL_law_364 rfl 3 rfl ?_
  obtain ⟨u26, e27, hf⟩ := q_bind hf
  obtain ⟨T, hp, hb⟩ := hW.cls
  refine q_perm hp ?_
  refine q_callSH (pc := 365) (As := [.ref (g 0), .int (((xs (v5 + (1 : Int32)).toNatClampNeg).toUInt32 % 65536).toInt32), .ref xo]) (rest := []) C (c_L_family l CS.1 D cc N0 g xo (ld5 cc xd S.2.2.2 :: T) S.2.1 (((xs (v5 + (1 : Int32)).toNatClampNeg).toUInt32 % 65536).toInt32) S.2.2.1 u26 e27) gL_law_L_family rfl z_L_family ⟨(Nat.le_of_ble_eq_true rfl), (Nat.le_of_ble_eq_true rfl)⟩ rfl rfl (Nat.le_of_ble_eq_true rfl) dL_law_365 ⟨(by show (kc) + 1 ≤ room_1.cells; omega), (by show (ks) + 6 ≤ room_1.slots; omega)⟩ ?_
  rintro _ _ ⟨rfl, rfl⟩
  have hW := hb (S.1, u26.2.2, u26.2.1, S.2.2.2) rfl
  refine LW.ren hW (fun ws hW => ?_)
  refine q_nm (wz := ws) (ka := kc + 1) (kb := ks + 6) (sz := [.int u26.1]) rfl (by omega) (by omega) rfl ?_
  refine q_istore (pc := 368) (lvq := [(6, .int u26.1), (0, .ref b), (1, .ref (g 0)), (2, .ref (ga 0)), (3, .ref xo), (4, .ref xd), (5, .int v5)]) C dL_law_368 (by decide) rfl ?_
  refine q_aload_n (pc := 370) C dL_law_370 rfl 3 rfl ?_
  refine q_aload_n (pc := 371) C dL_law_371 rfl 1 rfl ?_
  refine q_iload (pc := 372) C dL_law_372 6 rfl ?_
  refine q_iconst (pc := 374) C (1 : Int32) dL_law_374 q_ci_1 ?_
  refine q_iadd (pc := 375) C dL_law_375 ?_
  obtain ⟨g28, hf⟩ := q_gd hf
  refine q_sld (pc := 376) C CS.2.1 CS.2.2.1 CS.2.2.2 g28 dL_law_376 ?_
  refine q_i2c (pc := 377) C dL_law_377 rfl ?_
  obtain ⟨u29, e30, hf⟩ := q_bind hf
  obtain ⟨_, he⟩ := hW.obj
  refine q_callV (pc := 378) (As := [.int (((xs (v5 + (1 : Int32)).toNatClampNeg).toUInt32 % 65536).toInt32)]) (rest := []) C (c_X9_familW l D cc N0 ga ad  (LG cc g xo xd (S.1, u26.2.2, u26.2.1, S.2.2.2) ++ []) (S.1, u26.2.2, u26.2.1, S.2.2.2).1 (((xs (v5 + (1 : Int32)).toNatClampNeg).toUInt32 % 65536).toInt32) u29 e30 ws hW) gL_law_X9_family rfl rfl z_X9_familW ⟨(Nat.le_of_ble_eq_true rfl), (Nat.le_of_ble_eq_true rfl)⟩ he rfl rfl rfl (Nat.le_of_ble_eq_true rfl) dL_law_378 ⟨(by show (kc + 1) + 190 ≤ room_1.cells; omega), (by show (ks + 6) + 10300 ≤ room_1.slots; omega)⟩ ?_
  rintro _ ws ⟨rfl, ad, hW⟩
  have hW : LW cc g ga xo xd ad (u29.2, (S.1, u26.2.2, u26.2.1, S.2.2.2).2) [] ws := hW
  refine q_nm (wz := ws) (ka := kc + 191) (kb := ks + 10306) (sz := [.int u29.1]) rfl (by omega) (by omega) rfl ?_
  refine q_istore (pc := 381) (lvq := [(7, .int u29.1), (6, .int u26.1), (0, .ref b), (1, .ref (g 0)), (2, .ref (ga 0)), (3, .ref xo), (4, .ref xd), (5, .int v5)]) C dL_law_381 (by decide) rfl ?_
  refine q_aload_n (pc := 383) C dL_law_383 rfl 4 rfl ?_
  obtain ⟨u31, e32, hf⟩ := q_bind hf
  obtain ⟨_, he⟩ := hW.obj
  refine q_callV (pc := 384) (As := []) (rest := []) C (c_X9_thrown l D cc N0 ga ad  (LG cc g xo xd (u29.2, (S.1, u26.2.2, u26.2.1, S.2.2.2).2) ++ []) (u29.2, (S.1, u26.2.2, u26.2.1, S.2.2.2).2).1  u31 e32 ws hW) gL_law_X9_thrown rfl rfl z_X9_thrown ⟨(Nat.le_of_ble_eq_true rfl), (Nat.le_of_ble_eq_true rfl)⟩ he rfl rfl rfl (Nat.le_of_ble_eq_true rfl) dL_law_384 ⟨(by show (kc + 191) + 0 ≤ room_1.cells; omega), (by show (ks + 10306) + 0 ≤ room_1.slots; omega)⟩ ?_
  rintro _ ws ⟨rfl, hW⟩
  have hW : LW cc g ga xo xd ad (u29.2, (S.1, u26.2.2, u26.2.1, S.2.2.2).2) [] ws := hW
  refine q_nm (wz := ws) (ka := kc + 191) (kb := ks + 10306) (sz := [.int u31]) rfl (by omega) (by omega) rfl ?_
  refine q_iload (pc := 387) C dL_law_387 1 rfl ?_
  refine q_icmp_eq (pc := 389) (tgt := 394) C dL_law_389 (by decide) (fun c33 => ?_) (fun c33 => ?_)
  · have hf := q_iteT hf c33
    refine q_iload (pc := 394) C dL_law_394 1 rfl ?_
    refine q_if_ne (pc := 396) (tgt := 411) C dL_law_396 (by decide) (fun c34 => ?_) (fun c34 => ?_)
    · have hf := q_iteF hf c34
      refine q_sub (lvq := [(0, .ref b), (1, .ref (g 0)), (2, .ref (ga 0)), (3, .ref xo), (4, .ref xd), (5, .int v5)]) [2, 3, 4, 5, 6, 7] rfl ?_
      exact w_L_law_411 C CS hQ hk28 (kc + 191) (ks + 10306) v5 (u29.2, (S.1, u26.2.2, u26.2.1, S.2.2.2).2) ad ws hf hW
    · have hf := q_iteT hf c34
      refine q_aload_n (pc := 399) C dL_law_399 rfl 5 rfl ?_
      refine q_iconst (pc := 400) C (0 : Int32) dL_law_400 q_ci_0 ?_
      refine LW.lald (pc := 401) hW C dL_law_401 ?_
      refine q_iload (pc := 402) C dL_law_402 0 rfl ?_
      refine q_i2l (pc := 404) C dL_law_404 rfl ?_
      refine q_lcmp (pc := 405) C dL_law_405 ?_
      refine q_if_eq (pc := 406) (tgt := 411) C dL_law_406 (by decide) (fun c35 => ?_) (fun c35 => ?_)
      · have hf := q_iteT hf c35
        refine q_sub (lvq := [(0, .ref b), (1, .ref (g 0)), (2, .ref (ga 0)), (3, .ref xo), (4, .ref xd), (5, .int v5)]) [2, 3, 4, 5, 6, 7] rfl ?_
        exact w_L_law_411 C CS hQ hk28 (kc + 191) (ks + 10306) v5 (u29.2, (S.1, u26.2.2, u26.2.1, S.2.2.2).2) ad ws hf hW
      · have hf := q_iteF hf c35
        refine q_iconst (pc := 409) C (0 : Int32) dL_law_409 q_ci_0 ?_
        cases hf
  · have hf := q_iteF hf c33
    refine q_iconst (pc := 392) C (0 : Int32) dL_law_392 q_ci_0 ?_
    cases hf
set_option maxRecDepth 100000 in
set_option maxHeartbeats 8000000 in
theorem w_L_law_467 {p : Program} {l : Launch} {e : Env} {s : State} {m : MethodId} {args : Array Value} {below : List Frame} {meth : Method} {c : Code} {D : va_G} {cc : Nat → ClassId} {N0 : Nat} {Q : State → Prop} {g ga : Nat → Nat} {xo xd b L : Nat} {xs : Nat → Int32} {k28 : Nat → Nat → Int32 → LSt → Option Bool} (C : q_C p s m args meth c cL_law 9 (some .boolean) wsL_law RL D cc N0) (CS : l.stackTraces = false ∧ va_X b L xs s s.heap ∧ b < s.heap.size ∧ ¬ q_A N0 b) (hQ : ∀ (kc ks : Nat) (ws : va_W) (pc : Nat) (lv : List (Nat × Value)), kc ≤ room_1.cells → ks ≤ room_1.slots → decode cL_law pc = .ok (.ireturn, 1) → q_WA p l e room_1 s m args below meth c D N0 9 Q kc ks ws pc lv [.int 1]) (hk28 : ∀ (kc ks : Nat) (v5 : Int32) (S : LSt) (ad : Nat → Nat → Nat) (ws : va_W), k28 kc ks v5 S = some true → LW cc g ga xo xd ad S [] ws → q_WA p l e room_1 s m args below meth c D N0 9 Q kc ks ws 28 [(0, .ref b), (1, .ref (g 0)), (2, .ref (ga 0)), (3, .ref xo), (4, .ref xd), (5, .int v5)] []) (kc ks : Nat) (v5 : Int32) (S : LSt) (ad : Nat → Nat → Nat) (ws : va_W) : f_L_law_467 L xs k28 kc ks v5 S = some true → LW cc g ga xo xd ad S [] ws → q_WA p l e room_1 s m args below meth c D N0 9 Q kc ks ws 467 [(0, .ref b), (1, .ref (g 0)), (2, .ref (ga 0)), (3, .ref xo), (4, .ref xd), (5, .int v5)] [] := by
  intro hf hW
  refine q_goto (pc := 467) (tgt := 2537) C dL_law_467 (by decide) ?_
  refine q_sub (lvq := [(0, .ref b), (1, .ref (g 0)), (2, .ref (ga 0)), (3, .ref xo), (4, .ref xd), (5, .int v5)]) [0, 1, 2, 3, 4, 5] rfl ?_
  exact w_L_law_2537 C CS hQ hk28 (kc) (ks) v5 S ad ws hf hW
set_option maxRecDepth 100000 in
set_option maxHeartbeats 8000000 in
theorem w_L_law_414 {p : Program} {l : Launch} {e : Env} {s : State} {m : MethodId} {args : Array Value} {below : List Frame} {meth : Method} {c : Code} {D : va_G} {cc : Nat → ClassId} {N0 : Nat} {Q : State → Prop} {g ga : Nat → Nat} {xo xd b L : Nat} {xs : Nat → Int32} {k28 : Nat → Nat → Int32 → LSt → Option Bool} (C : q_C p s m args meth c cL_law 9 (some .boolean) wsL_law RL D cc N0) (CS : l.stackTraces = false ∧ va_X b L xs s s.heap ∧ b < s.heap.size ∧ ¬ q_A N0 b) (hQ : ∀ (kc ks : Nat) (ws : va_W) (pc : Nat) (lv : List (Nat × Value)), kc ≤ room_1.cells → ks ≤ room_1.slots → decode cL_law pc = .ok (.ireturn, 1) → q_WA p l e room_1 s m args below meth c D N0 9 Q kc ks ws pc lv [.int 1]) (hk28 : ∀ (kc ks : Nat) (v5 : Int32) (S : LSt) (ad : Nat → Nat → Nat) (ws : va_W), k28 kc ks v5 S = some true → LW cc g ga xo xd ad S [] ws → q_WA p l e room_1 s m args below meth c D N0 9 Q kc ks ws 28 [(0, .ref b), (1, .ref (g 0)), (2, .ref (ga 0)), (3, .ref xo), (4, .ref xd), (5, .int v5)] []) (kc ks : Nat) (v5 : Int32) (S : LSt) (ad : Nat → Nat → Nat) (ws : va_W) : f_L_law_414 L xs k28 kc ks v5 S = some true → LW cc g ga xo xd ad S [] ws → q_WA p l e room_1 s m args below meth c D N0 9 Q kc ks ws 414 [(0, .ref b), (1, .ref (g 0)), (2, .ref (ga 0)), (3, .ref xo), (4, .ref xd), (5, .int v5)] [] := by
  intro hf hW
  obtain ⟨hr, hf⟩ := q_gd hf
  obtain ⟨hr1, hr2⟩ := hr
  refine q_aload_n (pc := 414) C dL_law_414 rfl 1 rfl ?_
  refine q_aload_n (pc := 415) C dL_law_415 rfl 0 rfl ?_
  refine q_iload (pc := 416) C dL_law_416 5 rfl ?_
  refine q_iconst (pc := 418) C (1 : Int32) dL_law_418 q_ci_1 ?_
  refine q_iadd (pc := 419) C dL_law_419 ?_
  obtain ⟨g36, hf⟩ := q_gd hf
  refine q_sld (pc := 420) C CS.2.1 CS.2.2.1 CS.2.2.2 g36 dL_law_420 ?_
  refine q_aload_n (pc := 421) C dL_law_421 rfl 3 rfl ?_
  obtain ⟨u37, e38, hf⟩ := q_bind hf
  obtain ⟨T, hp, hb⟩ := hW.cls
  refine q_perm hp ?_
  refine q_callSH (pc := 422) (As := [.ref (g 0), .int (xs (v5 + (1 : Int32)).toNatClampNeg), .ref xo]) (rest := []) C (c_L_setOf l CS.1 D cc N0 g xo (ld5 cc xd S.2.2.2 :: T) S.2.1 (xs (v5 + (1 : Int32)).toNatClampNeg) S.2.2.1 u37 e38) gL_law_L_setOf rfl z_L_setOf ⟨(Nat.le_of_ble_eq_true rfl), (Nat.le_of_ble_eq_true rfl)⟩ rfl rfl (Nat.le_of_ble_eq_true rfl) dL_law_422 ⟨(by show (kc) + 1 ≤ room_1.cells; omega), (by show (ks) + 6 ≤ room_1.slots; omega)⟩ ?_
  rintro _ _ ⟨rfl, rfl⟩
  have hW := hb (S.1, u37.2.2, u37.2.1, S.2.2.2) rfl
  refine LW.ren hW (fun ws hW => ?_)
  refine q_nm (wz := ws) (ka := kc + 1) (kb := ks + 6) (sz := [.int u37.1]) rfl (by omega) (by omega) rfl ?_
  refine q_istore (pc := 425) (lvq := [(6, .int u37.1), (0, .ref b), (1, .ref (g 0)), (2, .ref (ga 0)), (3, .ref xo), (4, .ref xd), (5, .int v5)]) C dL_law_425 (by decide) rfl ?_
  refine q_aload_n (pc := 427) C dL_law_427 rfl 3 rfl ?_
  refine q_aload_n (pc := 428) C dL_law_428 rfl 1 rfl ?_
  refine q_iload (pc := 429) C dL_law_429 6 rfl ?_
  refine q_iconst (pc := 431) C (1 : Int32) dL_law_431 q_ci_1 ?_
  refine q_iadd (pc := 432) C dL_law_432 ?_
  obtain ⟨g39, hf⟩ := q_gd hf
  refine q_sld (pc := 433) C CS.2.1 CS.2.2.1 CS.2.2.2 g39 dL_law_433 ?_
  obtain ⟨u40, e41, hf⟩ := q_bind hf
  obtain ⟨_, he⟩ := hW.obj
  refine q_callV (pc := 434) (As := [.int (xs (v5 + (1 : Int32)).toNatClampNeg)]) (rest := []) C (c_X9_setOf l D cc N0 ga ad  (LG cc g xo xd (S.1, u37.2.2, u37.2.1, S.2.2.2) ++ []) (S.1, u37.2.2, u37.2.1, S.2.2.2).1 (xs (v5 + (1 : Int32)).toNatClampNeg) u40 e41 ws hW) gL_law_X9_setOf rfl rfl z_X9_setOf ⟨(Nat.le_of_ble_eq_true rfl), (Nat.le_of_ble_eq_true rfl)⟩ he rfl rfl rfl (Nat.le_of_ble_eq_true rfl) dL_law_434 ⟨(by show (kc + 1) + 0 ≤ room_1.cells; omega), (by show (ks + 6) + 0 ≤ room_1.slots; omega)⟩ ?_
  rintro _ ws ⟨rfl, hW⟩
  have hW : LW cc g ga xo xd ad (u40.2, (S.1, u37.2.2, u37.2.1, S.2.2.2).2) [] ws := hW
  refine q_nm (wz := ws) (ka := kc + 1) (kb := ks + 6) (sz := [.int u40.1]) rfl (by omega) (by omega) rfl ?_
  refine q_istore (pc := 437) (lvq := [(7, .int u40.1), (6, .int u37.1), (0, .ref b), (1, .ref (g 0)), (2, .ref (ga 0)), (3, .ref xo), (4, .ref xd), (5, .int v5)]) C dL_law_437 (by decide) rfl ?_
  refine q_aload_n (pc := 439) C dL_law_439 rfl 4 rfl ?_
  obtain ⟨u42, e43, hf⟩ := q_bind hf
  obtain ⟨_, he⟩ := hW.obj
  refine q_callV (pc := 440) (As := []) (rest := []) C (c_X9_thrown l D cc N0 ga ad  (LG cc g xo xd (u40.2, (S.1, u37.2.2, u37.2.1, S.2.2.2).2) ++ []) (u40.2, (S.1, u37.2.2, u37.2.1, S.2.2.2).2).1  u42 e43 ws hW) gL_law_X9_thrown rfl rfl z_X9_thrown ⟨(Nat.le_of_ble_eq_true rfl), (Nat.le_of_ble_eq_true rfl)⟩ he rfl rfl rfl (Nat.le_of_ble_eq_true rfl) dL_law_440 ⟨(by show (kc + 1) + 0 ≤ room_1.cells; omega), (by show (ks + 6) + 0 ≤ room_1.slots; omega)⟩ ?_
  rintro _ ws ⟨rfl, hW⟩
  have hW : LW cc g ga xo xd ad (u40.2, (S.1, u37.2.2, u37.2.1, S.2.2.2).2) [] ws := hW
  refine q_nm (wz := ws) (ka := kc + 1) (kb := ks + 6) (sz := [.int u42]) rfl (by omega) (by omega) rfl ?_
  refine q_iload (pc := 443) C dL_law_443 1 rfl ?_
  refine q_icmp_eq (pc := 445) (tgt := 450) C dL_law_445 (by decide) (fun c44 => ?_) (fun c44 => ?_)
  · have hf := q_iteT hf c44
    refine q_iload (pc := 450) C dL_law_450 1 rfl ?_
    refine q_if_ne (pc := 452) (tgt := 467) C dL_law_452 (by decide) (fun c45 => ?_) (fun c45 => ?_)
    · have hf := q_iteF hf c45
      refine q_sub (lvq := [(0, .ref b), (1, .ref (g 0)), (2, .ref (ga 0)), (3, .ref xo), (4, .ref xd), (5, .int v5)]) [2, 3, 4, 5, 6, 7] rfl ?_
      exact w_L_law_467 C CS hQ hk28 (kc + 1) (ks + 6) v5 (u40.2, (S.1, u37.2.2, u37.2.1, S.2.2.2).2) ad ws hf hW
    · have hf := q_iteT hf c45
      refine q_aload_n (pc := 455) C dL_law_455 rfl 5 rfl ?_
      refine q_iconst (pc := 456) C (0 : Int32) dL_law_456 q_ci_0 ?_
      refine LW.lald (pc := 457) hW C dL_law_457 ?_
      refine q_iload (pc := 458) C dL_law_458 0 rfl ?_
      refine q_i2l (pc := 460) C dL_law_460 rfl ?_
      refine q_lcmp (pc := 461) C dL_law_461 ?_
      refine q_if_eq (pc := 462) (tgt := 467) C dL_law_462 (by decide) (fun c46 => ?_) (fun c46 => ?_)
      · have hf := q_iteT hf c46
        refine q_sub (lvq := [(0, .ref b), (1, .ref (g 0)), (2, .ref (ga 0)), (3, .ref xo), (4, .ref xd), (5, .int v5)]) [2, 3, 4, 5, 6, 7] rfl ?_
        exact w_L_law_467 C CS hQ hk28 (kc + 1) (ks + 6) v5 (u40.2, (S.1, u37.2.2, u37.2.1, S.2.2.2).2) ad ws hf hW
      · have hf := q_iteF hf c46
        refine q_iconst (pc := 465) C (0 : Int32) dL_law_465 q_ci_0 ?_
        cases hf
  · have hf := q_iteF hf c44
    refine q_iconst (pc := 448) C (0 : Int32) dL_law_448 q_ci_0 ?_
    cases hf
set_option maxRecDepth 100000 in
set_option maxHeartbeats 8000000 in
theorem w_L_law_556 {p : Program} {l : Launch} {e : Env} {s : State} {m : MethodId} {args : Array Value} {below : List Frame} {meth : Method} {c : Code} {D : va_G} {cc : Nat → ClassId} {N0 : Nat} {Q : State → Prop} {g ga : Nat → Nat} {xo xd b L : Nat} {xs : Nat → Int32} {k28 : Nat → Nat → Int32 → LSt → Option Bool} (C : q_C p s m args meth c cL_law 9 (some .boolean) wsL_law RL D cc N0) (CS : l.stackTraces = false ∧ va_X b L xs s s.heap ∧ b < s.heap.size ∧ ¬ q_A N0 b) (hQ : ∀ (kc ks : Nat) (ws : va_W) (pc : Nat) (lv : List (Nat × Value)), kc ≤ room_1.cells → ks ≤ room_1.slots → decode cL_law pc = .ok (.ireturn, 1) → q_WA p l e room_1 s m args below meth c D N0 9 Q kc ks ws pc lv [.int 1]) (hk28 : ∀ (kc ks : Nat) (v5 : Int32) (S : LSt) (ad : Nat → Nat → Nat) (ws : va_W), k28 kc ks v5 S = some true → LW cc g ga xo xd ad S [] ws → q_WA p l e room_1 s m args below meth c D N0 9 Q kc ks ws 28 [(0, .ref b), (1, .ref (g 0)), (2, .ref (ga 0)), (3, .ref xo), (4, .ref xd), (5, .int v5)] []) (kc ks : Nat) (v5 : Int32) (S : LSt) (ad : Nat → Nat → Nat) (ws : va_W) : f_L_law_556 L xs k28 kc ks v5 S = some true → LW cc g ga xo xd ad S [] ws → q_WA p l e room_1 s m args below meth c D N0 9 Q kc ks ws 556 [(0, .ref b), (1, .ref (g 0)), (2, .ref (ga 0)), (3, .ref xo), (4, .ref xd), (5, .int v5)] [] := by
  intro hf hW
  refine q_goto (pc := 556) (tgt := 2537) C dL_law_556 (by decide) ?_
  refine q_sub (lvq := [(0, .ref b), (1, .ref (g 0)), (2, .ref (ga 0)), (3, .ref xo), (4, .ref xd), (5, .int v5)]) [0, 1, 2, 3, 4, 5] rfl ?_
  exact w_L_law_2537 C CS hQ hk28 (kc) (ks) v5 S ad ws hf hW
set_option maxRecDepth 100000 in
set_option maxHeartbeats 8000000 in
theorem w_L_law_550 {p : Program} {l : Launch} {e : Env} {s : State} {m : MethodId} {args : Array Value} {below : List Frame} {meth : Method} {c : Code} {D : va_G} {cc : Nat → ClassId} {N0 : Nat} {Q : State → Prop} {g ga : Nat → Nat} {xo xd b L : Nat} {xs : Nat → Int32} {k28 : Nat → Nat → Int32 → LSt → Option Bool} (C : q_C p s m args meth c cL_law 9 (some .boolean) wsL_law RL D cc N0) (CS : l.stackTraces = false ∧ va_X b L xs s s.heap ∧ b < s.heap.size ∧ ¬ q_A N0 b) (hQ : ∀ (kc ks : Nat) (ws : va_W) (pc : Nat) (lv : List (Nat × Value)), kc ≤ room_1.cells → ks ≤ room_1.slots → decode cL_law pc = .ok (.ireturn, 1) → q_WA p l e room_1 s m args below meth c D N0 9 Q kc ks ws pc lv [.int 1]) (hk28 : ∀ (kc ks : Nat) (v5 : Int32) (S : LSt) (ad : Nat → Nat → Nat) (ws : va_W), k28 kc ks v5 S = some true → LW cc g ga xo xd ad S [] ws → q_WA p l e room_1 s m args below meth c D N0 9 Q kc ks ws 28 [(0, .ref b), (1, .ref (g 0)), (2, .ref (ga 0)), (3, .ref xo), (4, .ref xd), (5, .int v5)] []) (kc ks : Nat) (v5 : Int32) (vt0 : Int64) (vt1 : Int64) (S : LSt) (ad : Nat → Nat → Nat) (ws : va_W) : f_L_law_550 L xs k28 kc ks v5 vt0 vt1 S = some true → LW cc g ga xo xd ad S [] ws → q_WA p l e room_1 s m args below meth c D N0 9 Q kc ks ws 550 [(0, .ref b), (1, .ref (g 0)), (2, .ref (ga 0)), (3, .ref xo), (4, .ref xd), (5, .int v5)] [.long vt0, .long vt1] := by
  intro hf hW
  refine q_lcmp (pc := 550) C dL_law_550 ?_
  refine q_if_eq (pc := 551) (tgt := 556) C dL_law_551 (by decide) (fun c62 => ?_) (fun c62 => ?_)
  · have hf := q_iteT hf c62
    refine q_sub (lvq := [(0, .ref b), (1, .ref (g 0)), (2, .ref (ga 0)), (3, .ref xo), (4, .ref xd), (5, .int v5)]) [0, 1, 2, 3, 4, 5] rfl ?_
    exact w_L_law_556 C CS hQ hk28 (kc) (ks) v5 S ad ws hf hW
  · have hf := q_iteF hf c62
    refine q_iconst (pc := 554) C (0 : Int32) dL_law_554 q_ci_0 ?_
    cases hf
set_option maxRecDepth 100000 in
set_option maxHeartbeats 8000000 in
theorem w_L_law_470 {p : Program} {l : Launch} {e : Env} {s : State} {m : MethodId} {args : Array Value} {below : List Frame} {meth : Method} {c : Code} {D : va_G} {cc : Nat → ClassId} {N0 : Nat} {Q : State → Prop} {g ga : Nat → Nat} {xo xd b L : Nat} {xs : Nat → Int32} {k28 : Nat → Nat → Int32 → LSt → Option Bool} (C : q_C p s m args meth c cL_law 9 (some .boolean) wsL_law RL D cc N0) (CS : l.stackTraces = false ∧ va_X b L xs s s.heap ∧ b < s.heap.size ∧ ¬ q_A N0 b) (hQ : ∀ (kc ks : Nat) (ws : va_W) (pc : Nat) (lv : List (Nat × Value)), kc ≤ room_1.cells → ks ≤ room_1.slots → decode cL_law pc = .ok (.ireturn, 1) → q_WA p l e room_1 s m args below meth c D N0 9 Q kc ks ws pc lv [.int 1]) (hk28 : ∀ (kc ks : Nat) (v5 : Int32) (S : LSt) (ad : Nat → Nat → Nat) (ws : va_W), k28 kc ks v5 S = some true → LW cc g ga xo xd ad S [] ws → q_WA p l e room_1 s m args below meth c D N0 9 Q kc ks ws 28 [(0, .ref b), (1, .ref (g 0)), (2, .ref (ga 0)), (3, .ref xo), (4, .ref xd), (5, .int v5)] []) (kc ks : Nat) (v5 : Int32) (S : LSt) (ad : Nat → Nat → Nat) (ws : va_W) : f_L_law_470 L xs k28 kc ks v5 S = some true → LW cc g ga xo xd ad S [] ws → q_WA p l e room_1 s m args below meth c D N0 9 Q kc ks ws 470 [(0, .ref b), (1, .ref (g 0)), (2, .ref (ga 0)), (3, .ref xo), (4, .ref xd), (5, .int v5)] [] := by
  intro hf hW
  obtain ⟨hr, hf⟩ := q_gd hf
  obtain ⟨hr1, hr2⟩ := hr
  refine q_aload_n (pc := 470) C dL_law_470 rfl 1 rfl ?_
  refine q_aload_n (pc := 471) C dL_law_471 rfl 0 rfl ?_
  refine q_iload (pc := 472) C dL_law_472 5 rfl ?_
  refine q_iconst (pc := 474) C (1 : Int32) dL_law_474 q_ci_1 ?_
  refine q_iadd (pc := 475) C dL_law_475 ?_
  obtain ⟨g47, hf⟩ := q_gd hf
  refine q_sld (pc := 476) C CS.2.1 CS.2.2.1 CS.2.2.2 g47 dL_law_476 ?_
  refine q_i2c (pc := 477) C dL_law_477 rfl ?_
  refine q_aload_n (pc := 478) C dL_law_478 rfl 0 rfl ?_
  refine q_iload (pc := 479) C dL_law_479 5 rfl ?_
  refine q_iconst (pc := 481) C (2 : Int32) dL_law_481 q_ci_2 ?_
  refine q_iadd (pc := 482) C dL_law_482 ?_
  obtain ⟨g48, hf⟩ := q_gd hf
  refine q_sld (pc := 483) C CS.2.1 CS.2.2.1 CS.2.2.2 g48 dL_law_483 ?_
  refine q_aload_n (pc := 484) C dL_law_484 rfl 0 rfl ?_
  refine q_iload (pc := 485) C dL_law_485 5 rfl ?_
  refine q_iconst (pc := 487) C (3 : Int32) dL_law_487 q_ci_3 ?_
  refine q_iadd (pc := 488) C dL_law_488 ?_
  obtain ⟨g49, hf⟩ := q_gd hf
  refine q_sld (pc := 489) C CS.2.1 CS.2.2.1 CS.2.2.2 g49 dL_law_489 ?_
  refine q_aload_n (pc := 490) C dL_law_490 rfl 3 rfl ?_
  obtain ⟨u50, e51, hf⟩ := q_bind hf
  obtain ⟨T, hp, hb⟩ := hW.cls
  refine q_perm hp ?_
  refine q_callSH (pc := 491) (As := [.ref (g 0), .int (((xs (v5 + (1 : Int32)).toNatClampNeg).toUInt32 % 65536).toInt32), .int (xs (v5 + (2 : Int32)).toNatClampNeg), .int (xs (v5 + (3 : Int32)).toNatClampNeg), .ref xo]) (rest := []) C (c_L_teach l CS.1 D cc N0 g xo (ld5 cc xd S.2.2.2 :: T) S.2.1 (((xs (v5 + (1 : Int32)).toNatClampNeg).toUInt32 % 65536).toInt32) (xs (v5 + (2 : Int32)).toNatClampNeg) (xs (v5 + (3 : Int32)).toNatClampNeg) S.2.2.1 u50 e51) gL_law_L_teach rfl z_L_teach ⟨(Nat.le_of_ble_eq_true rfl), (Nat.le_of_ble_eq_true rfl)⟩ rfl rfl (Nat.le_of_ble_eq_true rfl) dL_law_491 ⟨(by show (kc) + 1 ≤ room_1.cells; omega), (by show (ks) + 6 ≤ room_1.slots; omega)⟩ ?_
  rintro _ _ ⟨rfl, rfl⟩
  have hW := hb (S.1, u50.2.2, u50.2.1, S.2.2.2) rfl
  refine LW.ren hW (fun ws hW => ?_)
  refine q_nm (wz := ws) (ka := kc + 1) (kb := ks + 6) (sz := [.int u50.1]) rfl (by omega) (by omega) rfl ?_
  refine q_istore (pc := 494) (lvq := [(6, .int u50.1), (0, .ref b), (1, .ref (g 0)), (2, .ref (ga 0)), (3, .ref xo), (4, .ref xd), (5, .int v5)]) C dL_law_494 (by decide) rfl ?_
  refine q_aload_n (pc := 496) C dL_law_496 rfl 3 rfl ?_
  refine q_aload_n (pc := 497) C dL_law_497 rfl 1 rfl ?_
  refine q_iload (pc := 498) C dL_law_498 6 rfl ?_
  refine q_iconst (pc := 500) C (1 : Int32) dL_law_500 q_ci_1 ?_
  refine q_iadd (pc := 501) C dL_law_501 ?_
  obtain ⟨g52, hf⟩ := q_gd hf
  refine q_sld (pc := 502) C CS.2.1 CS.2.2.1 CS.2.2.2 g52 dL_law_502 ?_
  refine q_i2c (pc := 503) C dL_law_503 rfl ?_
  refine q_aload_n (pc := 504) C dL_law_504 rfl 1 rfl ?_
  refine q_iload (pc := 505) C dL_law_505 6 rfl ?_
  refine q_iconst (pc := 507) C (2 : Int32) dL_law_507 q_ci_2 ?_
  refine q_iadd (pc := 508) C dL_law_508 ?_
  obtain ⟨g53, hf⟩ := q_gd hf
  refine q_sld (pc := 509) C CS.2.1 CS.2.2.1 CS.2.2.2 g53 dL_law_509 ?_
  refine q_aload_n (pc := 510) C dL_law_510 rfl 1 rfl ?_
  refine q_iload (pc := 511) C dL_law_511 6 rfl ?_
  refine q_iconst (pc := 513) C (3 : Int32) dL_law_513 q_ci_3 ?_
  refine q_iadd (pc := 514) C dL_law_514 ?_
  obtain ⟨g54, hf⟩ := q_gd hf
  refine q_sld (pc := 515) C CS.2.1 CS.2.2.1 CS.2.2.2 g54 dL_law_515 ?_
  obtain ⟨u55, e56, hf⟩ := q_bind hf
  obtain ⟨_, he⟩ := hW.obj
  refine q_callV (pc := 516) (As := [.int (((xs (v5 + (1 : Int32)).toNatClampNeg).toUInt32 % 65536).toInt32), .int (xs (v5 + (2 : Int32)).toNatClampNeg), .int (xs (v5 + (3 : Int32)).toNatClampNeg)]) (rest := []) C (c_X9_teach l D cc N0 ga ad  (LG cc g xo xd (S.1, u50.2.2, u50.2.1, S.2.2.2) ++ []) (S.1, u50.2.2, u50.2.1, S.2.2.2).1 (((xs (v5 + (1 : Int32)).toNatClampNeg).toUInt32 % 65536).toInt32) (xs (v5 + (2 : Int32)).toNatClampNeg) (xs (v5 + (3 : Int32)).toNatClampNeg) u55 e56 ws hW) gL_law_X9_teach rfl rfl z_X9_teach ⟨(Nat.le_of_ble_eq_true rfl), (Nat.le_of_ble_eq_true rfl)⟩ he rfl rfl rfl (Nat.le_of_ble_eq_true rfl) dL_law_516 ⟨(by show (kc + 1) + 1 ≤ room_1.cells; omega), (by show (ks + 6) + 4 ≤ room_1.slots; omega)⟩ ?_
  rintro _ ws ⟨rfl, hW⟩
  have hW : LW cc g ga xo xd ad (u55.2, (S.1, u50.2.2, u50.2.1, S.2.2.2).2) [] ws := hW
  refine q_nm (wz := ws) (ka := kc + 2) (kb := ks + 10) (sz := [.int (q_b u55.1)]) rfl (by omega) (by omega) rfl ?_
  refine q_istore (pc := 519) (lvq := [(7, .int (q_b u55.1)), (6, .int u50.1), (0, .ref b), (1, .ref (g 0)), (2, .ref (ga 0)), (3, .ref xo), (4, .ref xd), (5, .int v5)]) C dL_law_519 (by decide) rfl ?_
  refine q_aload_n (pc := 521) C dL_law_521 rfl 4 rfl ?_
  obtain ⟨u57, e58, hf⟩ := q_bind hf
  obtain ⟨_, he⟩ := hW.obj
  refine q_callV (pc := 522) (As := []) (rest := []) C (c_X9_thrown l D cc N0 ga ad  (LG cc g xo xd (u55.2, (S.1, u50.2.2, u50.2.1, S.2.2.2).2) ++ []) (u55.2, (S.1, u50.2.2, u50.2.1, S.2.2.2).2).1  u57 e58 ws hW) gL_law_X9_thrown rfl rfl z_X9_thrown ⟨(Nat.le_of_ble_eq_true rfl), (Nat.le_of_ble_eq_true rfl)⟩ he rfl rfl rfl (Nat.le_of_ble_eq_true rfl) dL_law_522 ⟨(by show (kc + 2) + 0 ≤ room_1.cells; omega), (by show (ks + 10) + 0 ≤ room_1.slots; omega)⟩ ?_
  rintro _ ws ⟨rfl, hW⟩
  have hW : LW cc g ga xo xd ad (u55.2, (S.1, u50.2.2, u50.2.1, S.2.2.2).2) [] ws := hW
  refine q_nm (wz := ws) (ka := kc + 2) (kb := ks + 10) (sz := [.int u57]) rfl (by omega) (by omega) rfl ?_
  refine q_iload (pc := 525) C dL_law_525 1 rfl ?_
  refine q_icmp_eq (pc := 527) (tgt := 532) C dL_law_527 (by decide) (fun c59 => ?_) (fun c59 => ?_)
  · have hf := q_iteT hf c59
    refine q_iload (pc := 532) C dL_law_532 1 rfl ?_
    refine q_if_ne (pc := 534) (tgt := 556) C dL_law_534 (by decide) (fun c60 => ?_) (fun c60 => ?_)
    · have hf := q_iteF hf c60
      refine q_sub (lvq := [(0, .ref b), (1, .ref (g 0)), (2, .ref (ga 0)), (3, .ref xo), (4, .ref xd), (5, .int v5)]) [2, 3, 4, 5, 6, 7] rfl ?_
      exact w_L_law_556 C CS hQ hk28 (kc + 2) (ks + 10) v5 (u55.2, (S.1, u50.2.2, u50.2.1, S.2.2.2).2) ad ws hf hW
    · have hf := q_iteT hf c60
      refine q_aload_n (pc := 537) C dL_law_537 rfl 5 rfl ?_
      refine q_iconst (pc := 538) C (0 : Int32) dL_law_538 q_ci_0 ?_
      refine LW.lald (pc := 539) hW C dL_law_539 ?_
      refine q_iload (pc := 540) C dL_law_540 0 rfl ?_
      refine q_if_eq (pc := 542) (tgt := 549) C dL_law_542 (by decide) (fun c61 => ?_) (fun c61 => ?_)
      · have hf := q_iteT hf c61
        refine q_lconst (pc := 549) C (0 : Int64) dL_law_549 q_cl_0 ?_
        refine q_sub (lvq := [(0, .ref b), (1, .ref (g 0)), (2, .ref (ga 0)), (3, .ref xo), (4, .ref xd), (5, .int v5)]) [2, 3, 4, 5, 6, 7] rfl ?_
        exact w_L_law_550 C CS hQ hk28 (kc + 2) (ks + 10) v5 (0 : Int64) ((u55.2, (S.1, u50.2.2, u50.2.1, S.2.2.2).2).2.2.1 0) (u55.2, (S.1, u50.2.2, u50.2.1, S.2.2.2).2) ad ws hf hW
      · have hf := q_iteF hf c61
        refine q_lconst (pc := 545) C (1 : Int64) dL_law_545 q_cl_1 ?_
        refine q_goto (pc := 546) (tgt := 550) C dL_law_546 (by decide) ?_
        refine q_sub (lvq := [(0, .ref b), (1, .ref (g 0)), (2, .ref (ga 0)), (3, .ref xo), (4, .ref xd), (5, .int v5)]) [2, 3, 4, 5, 6, 7] rfl ?_
        exact w_L_law_550 C CS hQ hk28 (kc + 2) (ks + 10) v5 (1 : Int64) ((u55.2, (S.1, u50.2.2, u50.2.1, S.2.2.2).2).2.2.1 0) (u55.2, (S.1, u50.2.2, u50.2.1, S.2.2.2).2) ad ws hf hW
  · have hf := q_iteF hf c59
    refine q_iconst (pc := 530) C (0 : Int32) dL_law_530 q_ci_0 ?_
    cases hf
set_option maxRecDepth 100000 in
set_option maxHeartbeats 8000000 in
theorem w_L_law_612 {p : Program} {l : Launch} {e : Env} {s : State} {m : MethodId} {args : Array Value} {below : List Frame} {meth : Method} {c : Code} {D : va_G} {cc : Nat → ClassId} {N0 : Nat} {Q : State → Prop} {g ga : Nat → Nat} {xo xd b L : Nat} {xs : Nat → Int32} {k28 : Nat → Nat → Int32 → LSt → Option Bool} (C : q_C p s m args meth c cL_law 9 (some .boolean) wsL_law RL D cc N0) (CS : l.stackTraces = false ∧ va_X b L xs s s.heap ∧ b < s.heap.size ∧ ¬ q_A N0 b) (hQ : ∀ (kc ks : Nat) (ws : va_W) (pc : Nat) (lv : List (Nat × Value)), kc ≤ room_1.cells → ks ≤ room_1.slots → decode cL_law pc = .ok (.ireturn, 1) → q_WA p l e room_1 s m args below meth c D N0 9 Q kc ks ws pc lv [.int 1]) (hk28 : ∀ (kc ks : Nat) (v5 : Int32) (S : LSt) (ad : Nat → Nat → Nat) (ws : va_W), k28 kc ks v5 S = some true → LW cc g ga xo xd ad S [] ws → q_WA p l e room_1 s m args below meth c D N0 9 Q kc ks ws 28 [(0, .ref b), (1, .ref (g 0)), (2, .ref (ga 0)), (3, .ref xo), (4, .ref xd), (5, .int v5)] []) (kc ks : Nat) (v5 : Int32) (S : LSt) (ad : Nat → Nat → Nat) (ws : va_W) : f_L_law_612 L xs k28 kc ks v5 S = some true → LW cc g ga xo xd ad S [] ws → q_WA p l e room_1 s m args below meth c D N0 9 Q kc ks ws 612 [(0, .ref b), (1, .ref (g 0)), (2, .ref (ga 0)), (3, .ref xo), (4, .ref xd), (5, .int v5)] [] := by
  intro hf hW
  refine q_goto (pc := 612) (tgt := 2537) C dL_law_612 (by decide) ?_
  refine q_sub (lvq := [(0, .ref b), (1, .ref (g 0)), (2, .ref (ga 0)), (3, .ref xo), (4, .ref xd), (5, .int v5)]) [0, 1, 2, 3, 4, 5] rfl ?_
  exact w_L_law_2537 C CS hQ hk28 (kc) (ks) v5 S ad ws hf hW
set_option maxRecDepth 100000 in
set_option maxHeartbeats 8000000 in
theorem w_L_law_559 {p : Program} {l : Launch} {e : Env} {s : State} {m : MethodId} {args : Array Value} {below : List Frame} {meth : Method} {c : Code} {D : va_G} {cc : Nat → ClassId} {N0 : Nat} {Q : State → Prop} {g ga : Nat → Nat} {xo xd b L : Nat} {xs : Nat → Int32} {k28 : Nat → Nat → Int32 → LSt → Option Bool} (C : q_C p s m args meth c cL_law 9 (some .boolean) wsL_law RL D cc N0) (CS : l.stackTraces = false ∧ va_X b L xs s s.heap ∧ b < s.heap.size ∧ ¬ q_A N0 b) (hQ : ∀ (kc ks : Nat) (ws : va_W) (pc : Nat) (lv : List (Nat × Value)), kc ≤ room_1.cells → ks ≤ room_1.slots → decode cL_law pc = .ok (.ireturn, 1) → q_WA p l e room_1 s m args below meth c D N0 9 Q kc ks ws pc lv [.int 1]) (hk28 : ∀ (kc ks : Nat) (v5 : Int32) (S : LSt) (ad : Nat → Nat → Nat) (ws : va_W), k28 kc ks v5 S = some true → LW cc g ga xo xd ad S [] ws → q_WA p l e room_1 s m args below meth c D N0 9 Q kc ks ws 28 [(0, .ref b), (1, .ref (g 0)), (2, .ref (ga 0)), (3, .ref xo), (4, .ref xd), (5, .int v5)] []) (kc ks : Nat) (v5 : Int32) (S : LSt) (ad : Nat → Nat → Nat) (ws : va_W) : f_L_law_559 L xs k28 kc ks v5 S = some true → LW cc g ga xo xd ad S [] ws → q_WA p l e room_1 s m args below meth c D N0 9 Q kc ks ws 559 [(0, .ref b), (1, .ref (g 0)), (2, .ref (ga 0)), (3, .ref xo), (4, .ref xd), (5, .int v5)] [] := by
  intro hf hW
  obtain ⟨hr, hf⟩ := q_gd hf
  obtain ⟨hr1, hr2⟩ := hr
  refine q_aload_n (pc := 559) C dL_law_559 rfl 1 rfl ?_
  refine q_aload_n (pc := 560) C dL_law_560 rfl 0 rfl ?_
  refine q_iload (pc := 561) C dL_law_561 5 rfl ?_
  refine q_iconst (pc := 563) C (1 : Int32) dL_law_563 q_ci_1 ?_
  refine q_iadd (pc := 564) C dL_law_564 ?_
  obtain ⟨g63, hf⟩ := q_gd hf
  refine q_sld (pc := 565) C CS.2.1 CS.2.2.1 CS.2.2.2 g63 dL_law_565 ?_
  refine q_aload_n (pc := 566) C dL_law_566 rfl 3 rfl ?_
  obtain ⟨u64, e65, hf⟩ := q_bind hf
  obtain ⟨T, hp, hb⟩ := hW.cls
  refine q_perm hp ?_
  refine q_callSH (pc := 567) (As := [.ref (g 0), .int (xs (v5 + (1 : Int32)).toNatClampNeg), .ref xo]) (rest := []) C (c_L_seed l CS.1 D cc N0 g xo (ld5 cc xd S.2.2.2 :: T) S.2.1 (xs (v5 + (1 : Int32)).toNatClampNeg) S.2.2.1 u64 e65) gL_law_L_seed rfl z_L_seed ⟨(Nat.le_of_ble_eq_true rfl), (Nat.le_of_ble_eq_true rfl)⟩ rfl rfl (Nat.le_of_ble_eq_true rfl) dL_law_567 ⟨(by show (kc) + 1 ≤ room_1.cells; omega), (by show (ks) + 6 ≤ room_1.slots; omega)⟩ ?_
  rintro _ _ ⟨rfl, rfl⟩
  have hW := hb (S.1, u64.2.2, u64.2.1, S.2.2.2) rfl
  refine LW.ren hW (fun ws hW => ?_)
  refine q_nm (wz := ws) (ka := kc + 1) (kb := ks + 6) (sz := [.int u64.1]) rfl (by omega) (by omega) rfl ?_
  refine q_istore (pc := 570) (lvq := [(6, .int u64.1), (0, .ref b), (1, .ref (g 0)), (2, .ref (ga 0)), (3, .ref xo), (4, .ref xd), (5, .int v5)]) C dL_law_570 (by decide) rfl ?_
  refine q_aload_n (pc := 572) C dL_law_572 rfl 3 rfl ?_
  refine q_aload_n (pc := 573) C dL_law_573 rfl 1 rfl ?_
  refine q_iload (pc := 574) C dL_law_574 6 rfl ?_
  refine q_iconst (pc := 576) C (1 : Int32) dL_law_576 q_ci_1 ?_
  refine q_iadd (pc := 577) C dL_law_577 ?_
  obtain ⟨g66, hf⟩ := q_gd hf
  refine q_sld (pc := 578) C CS.2.1 CS.2.2.1 CS.2.2.2 g66 dL_law_578 ?_
  obtain ⟨u67, e68, hf⟩ := q_bind hf
  obtain ⟨_, he⟩ := hW.obj
  refine q_callV (pc := 579) (As := [.int (xs (v5 + (1 : Int32)).toNatClampNeg)]) (rest := []) C (c_X9_seed l D cc N0 ga ad  (LG cc g xo xd (S.1, u64.2.2, u64.2.1, S.2.2.2) ++ []) (S.1, u64.2.2, u64.2.1, S.2.2.2).1 (xs (v5 + (1 : Int32)).toNatClampNeg) u67 e68 ws hW) gL_law_X9_seed rfl rfl z_X9_seed ⟨(Nat.le_of_ble_eq_true rfl), (Nat.le_of_ble_eq_true rfl)⟩ he rfl rfl rfl (Nat.le_of_ble_eq_true rfl) dL_law_579 ⟨(by show (kc + 1) + 0 ≤ room_1.cells; omega), (by show (ks + 6) + 0 ≤ room_1.slots; omega)⟩ ?_
  rintro _ ws ⟨rfl, hW⟩
  have hW : LW cc g ga xo xd ad (u67.2, (S.1, u64.2.2, u64.2.1, S.2.2.2).2) [] ws := hW
  refine q_nm (wz := ws) (ka := kc + 1) (kb := ks + 6) (sz := [.int u67.1]) rfl (by omega) (by omega) rfl ?_
  refine q_istore (pc := 582) (lvq := [(7, .int u67.1), (6, .int u64.1), (0, .ref b), (1, .ref (g 0)), (2, .ref (ga 0)), (3, .ref xo), (4, .ref xd), (5, .int v5)]) C dL_law_582 (by decide) rfl ?_
  refine q_aload_n (pc := 584) C dL_law_584 rfl 4 rfl ?_
  obtain ⟨u69, e70, hf⟩ := q_bind hf
  obtain ⟨_, he⟩ := hW.obj
  refine q_callV (pc := 585) (As := []) (rest := []) C (c_X9_thrown l D cc N0 ga ad  (LG cc g xo xd (u67.2, (S.1, u64.2.2, u64.2.1, S.2.2.2).2) ++ []) (u67.2, (S.1, u64.2.2, u64.2.1, S.2.2.2).2).1  u69 e70 ws hW) gL_law_X9_thrown rfl rfl z_X9_thrown ⟨(Nat.le_of_ble_eq_true rfl), (Nat.le_of_ble_eq_true rfl)⟩ he rfl rfl rfl (Nat.le_of_ble_eq_true rfl) dL_law_585 ⟨(by show (kc + 1) + 0 ≤ room_1.cells; omega), (by show (ks + 6) + 0 ≤ room_1.slots; omega)⟩ ?_
  rintro _ ws ⟨rfl, hW⟩
  have hW : LW cc g ga xo xd ad (u67.2, (S.1, u64.2.2, u64.2.1, S.2.2.2).2) [] ws := hW
  refine q_nm (wz := ws) (ka := kc + 1) (kb := ks + 6) (sz := [.int u69]) rfl (by omega) (by omega) rfl ?_
  refine q_iload (pc := 588) C dL_law_588 1 rfl ?_
  refine q_icmp_eq (pc := 590) (tgt := 595) C dL_law_590 (by decide) (fun c71 => ?_) (fun c71 => ?_)
  · have hf := q_iteT hf c71
    refine q_iload (pc := 595) C dL_law_595 1 rfl ?_
    refine q_if_ne (pc := 597) (tgt := 612) C dL_law_597 (by decide) (fun c72 => ?_) (fun c72 => ?_)
    · have hf := q_iteF hf c72
      refine q_sub (lvq := [(0, .ref b), (1, .ref (g 0)), (2, .ref (ga 0)), (3, .ref xo), (4, .ref xd), (5, .int v5)]) [2, 3, 4, 5, 6, 7] rfl ?_
      exact w_L_law_612 C CS hQ hk28 (kc + 1) (ks + 6) v5 (u67.2, (S.1, u64.2.2, u64.2.1, S.2.2.2).2) ad ws hf hW
    · have hf := q_iteT hf c72
      refine q_aload_n (pc := 600) C dL_law_600 rfl 5 rfl ?_
      refine q_iconst (pc := 601) C (0 : Int32) dL_law_601 q_ci_0 ?_
      refine LW.lald (pc := 602) hW C dL_law_602 ?_
      refine q_iload (pc := 603) C dL_law_603 0 rfl ?_
      refine q_i2l (pc := 605) C dL_law_605 rfl ?_
      refine q_lcmp (pc := 606) C dL_law_606 ?_
      refine q_if_eq (pc := 607) (tgt := 612) C dL_law_607 (by decide) (fun c73 => ?_) (fun c73 => ?_)
      · have hf := q_iteT hf c73
        refine q_sub (lvq := [(0, .ref b), (1, .ref (g 0)), (2, .ref (ga 0)), (3, .ref xo), (4, .ref xd), (5, .int v5)]) [2, 3, 4, 5, 6, 7] rfl ?_
        exact w_L_law_612 C CS hQ hk28 (kc + 1) (ks + 6) v5 (u67.2, (S.1, u64.2.2, u64.2.1, S.2.2.2).2) ad ws hf hW
      · have hf := q_iteF hf c73
        refine q_iconst (pc := 610) C (0 : Int32) dL_law_610 q_ci_0 ?_
        cases hf
  · have hf := q_iteF hf c71
    refine q_iconst (pc := 593) C (0 : Int32) dL_law_593 q_ci_0 ?_
    cases hf
set_option maxRecDepth 100000 in
set_option maxHeartbeats 8000000 in
theorem w_L_law_675 {p : Program} {l : Launch} {e : Env} {s : State} {m : MethodId} {args : Array Value} {below : List Frame} {meth : Method} {c : Code} {D : va_G} {cc : Nat → ClassId} {N0 : Nat} {Q : State → Prop} {g ga : Nat → Nat} {xo xd b L : Nat} {xs : Nat → Int32} {k28 : Nat → Nat → Int32 → LSt → Option Bool} (C : q_C p s m args meth c cL_law 9 (some .boolean) wsL_law RL D cc N0) (CS : l.stackTraces = false ∧ va_X b L xs s s.heap ∧ b < s.heap.size ∧ ¬ q_A N0 b) (hQ : ∀ (kc ks : Nat) (ws : va_W) (pc : Nat) (lv : List (Nat × Value)), kc ≤ room_1.cells → ks ≤ room_1.slots → decode cL_law pc = .ok (.ireturn, 1) → q_WA p l e room_1 s m args below meth c D N0 9 Q kc ks ws pc lv [.int 1]) (hk28 : ∀ (kc ks : Nat) (v5 : Int32) (S : LSt) (ad : Nat → Nat → Nat) (ws : va_W), k28 kc ks v5 S = some true → LW cc g ga xo xd ad S [] ws → q_WA p l e room_1 s m args below meth c D N0 9 Q kc ks ws 28 [(0, .ref b), (1, .ref (g 0)), (2, .ref (ga 0)), (3, .ref xo), (4, .ref xd), (5, .int v5)] []) (kc ks : Nat) (v5 : Int32) (S : LSt) (ad : Nat → Nat → Nat) (ws : va_W) : f_L_law_675 L xs k28 kc ks v5 S = some true → LW cc g ga xo xd ad S [] ws → q_WA p l e room_1 s m args below meth c D N0 9 Q kc ks ws 675 [(0, .ref b), (1, .ref (g 0)), (2, .ref (ga 0)), (3, .ref xo), (4, .ref xd), (5, .int v5)] [] := by
  intro hf hW
  refine q_goto (pc := 675) (tgt := 2537) C dL_law_675 (by decide) ?_
  refine q_sub (lvq := [(0, .ref b), (1, .ref (g 0)), (2, .ref (ga 0)), (3, .ref xo), (4, .ref xd), (5, .int v5)]) [0, 1, 2, 3, 4, 5] rfl ?_
  exact w_L_law_2537 C CS hQ hk28 (kc) (ks) v5 S ad ws hf hW
set_option maxRecDepth 100000 in
set_option maxHeartbeats 8000000 in
theorem w_L_law_669 {p : Program} {l : Launch} {e : Env} {s : State} {m : MethodId} {args : Array Value} {below : List Frame} {meth : Method} {c : Code} {D : va_G} {cc : Nat → ClassId} {N0 : Nat} {Q : State → Prop} {g ga : Nat → Nat} {xo xd b L : Nat} {xs : Nat → Int32} {k28 : Nat → Nat → Int32 → LSt → Option Bool} (C : q_C p s m args meth c cL_law 9 (some .boolean) wsL_law RL D cc N0) (CS : l.stackTraces = false ∧ va_X b L xs s s.heap ∧ b < s.heap.size ∧ ¬ q_A N0 b) (hQ : ∀ (kc ks : Nat) (ws : va_W) (pc : Nat) (lv : List (Nat × Value)), kc ≤ room_1.cells → ks ≤ room_1.slots → decode cL_law pc = .ok (.ireturn, 1) → q_WA p l e room_1 s m args below meth c D N0 9 Q kc ks ws pc lv [.int 1]) (hk28 : ∀ (kc ks : Nat) (v5 : Int32) (S : LSt) (ad : Nat → Nat → Nat) (ws : va_W), k28 kc ks v5 S = some true → LW cc g ga xo xd ad S [] ws → q_WA p l e room_1 s m args below meth c D N0 9 Q kc ks ws 28 [(0, .ref b), (1, .ref (g 0)), (2, .ref (ga 0)), (3, .ref xo), (4, .ref xd), (5, .int v5)] []) (kc ks : Nat) (v5 : Int32) (vt0 : Int64) (vt1 : Int64) (S : LSt) (ad : Nat → Nat → Nat) (ws : va_W) : f_L_law_669 L xs k28 kc ks v5 vt0 vt1 S = some true → LW cc g ga xo xd ad S [] ws → q_WA p l e room_1 s m args below meth c D N0 9 Q kc ks ws 669 [(0, .ref b), (1, .ref (g 0)), (2, .ref (ga 0)), (3, .ref xo), (4, .ref xd), (5, .int v5)] [.long vt0, .long vt1] := by
  intro hf hW
  refine q_lcmp (pc := 669) C dL_law_669 ?_
  refine q_if_eq (pc := 670) (tgt := 675) C dL_law_670 (by decide) (fun c85 => ?_) (fun c85 => ?_)
  · have hf := q_iteT hf c85
    refine q_sub (lvq := [(0, .ref b), (1, .ref (g 0)), (2, .ref (ga 0)), (3, .ref xo), (4, .ref xd), (5, .int v5)]) [0, 1, 2, 3, 4, 5] rfl ?_
    exact w_L_law_675 C CS hQ hk28 (kc) (ks) v5 S ad ws hf hW
  · have hf := q_iteF hf c85
    refine q_iconst (pc := 673) C (0 : Int32) dL_law_673 q_ci_0 ?_
    cases hf
set_option maxRecDepth 100000 in
set_option maxHeartbeats 8000000 in
theorem w_L_law_615 {p : Program} {l : Launch} {e : Env} {s : State} {m : MethodId} {args : Array Value} {below : List Frame} {meth : Method} {c : Code} {D : va_G} {cc : Nat → ClassId} {N0 : Nat} {Q : State → Prop} {g ga : Nat → Nat} {xo xd b L : Nat} {xs : Nat → Int32} {k28 : Nat → Nat → Int32 → LSt → Option Bool} (C : q_C p s m args meth c cL_law 9 (some .boolean) wsL_law RL D cc N0) (CS : l.stackTraces = false ∧ va_X b L xs s s.heap ∧ b < s.heap.size ∧ ¬ q_A N0 b) (hQ : ∀ (kc ks : Nat) (ws : va_W) (pc : Nat) (lv : List (Nat × Value)), kc ≤ room_1.cells → ks ≤ room_1.slots → decode cL_law pc = .ok (.ireturn, 1) → q_WA p l e room_1 s m args below meth c D N0 9 Q kc ks ws pc lv [.int 1]) (hk28 : ∀ (kc ks : Nat) (v5 : Int32) (S : LSt) (ad : Nat → Nat → Nat) (ws : va_W), k28 kc ks v5 S = some true → LW cc g ga xo xd ad S [] ws → q_WA p l e room_1 s m args below meth c D N0 9 Q kc ks ws 28 [(0, .ref b), (1, .ref (g 0)), (2, .ref (ga 0)), (3, .ref xo), (4, .ref xd), (5, .int v5)] []) (kc ks : Nat) (v5 : Int32) (S : LSt) (ad : Nat → Nat → Nat) (ws : va_W) : f_L_law_615 L xs k28 kc ks v5 S = some true → LW cc g ga xo xd ad S [] ws → q_WA p l e room_1 s m args below meth c D N0 9 Q kc ks ws 615 [(0, .ref b), (1, .ref (g 0)), (2, .ref (ga 0)), (3, .ref xo), (4, .ref xd), (5, .int v5)] [] := by
  intro hf hW
  obtain ⟨hr, hf⟩ := q_gd hf
  obtain ⟨hr1, hr2⟩ := hr
  refine q_aload_n (pc := 615) C dL_law_615 rfl 1 rfl ?_
  refine q_aload_n (pc := 616) C dL_law_616 rfl 0 rfl ?_
  refine q_iload (pc := 617) C dL_law_617 5 rfl ?_
  refine q_iconst (pc := 619) C (1 : Int32) dL_law_619 q_ci_1 ?_
  refine q_iadd (pc := 620) C dL_law_620 ?_
  obtain ⟨g74, hf⟩ := q_gd hf
  refine q_sld (pc := 621) C CS.2.1 CS.2.2.1 CS.2.2.2 g74 dL_law_621 ?_
  refine q_aload_n (pc := 622) C dL_law_622 rfl 3 rfl ?_
  obtain ⟨u75, e76, hf⟩ := q_bind hf
  obtain ⟨T, hp, hb⟩ := hW.cls
  refine q_perm hp ?_
  refine q_callSH (pc := 623) (As := [.ref (g 0), .int (xs (v5 + (1 : Int32)).toNatClampNeg), .ref xo]) (rest := []) C (c_L_ask l CS.1 D cc N0 g xo (ld5 cc xd S.2.2.2 :: T) S.2.1 (xs (v5 + (1 : Int32)).toNatClampNeg) S.2.2.1 u75 e76) gL_law_L_ask rfl z_L_ask ⟨(Nat.le_of_ble_eq_true rfl), (Nat.le_of_ble_eq_true rfl)⟩ rfl rfl (Nat.le_of_ble_eq_true rfl) dL_law_623 ⟨(by show (kc) + 1 ≤ room_1.cells; omega), (by show (ks) + 6 ≤ room_1.slots; omega)⟩ ?_
  rintro _ _ ⟨rfl, rfl⟩
  have hW := hb (S.1, u75.2.2, u75.2.1, S.2.2.2) rfl
  refine LW.ren hW (fun ws hW => ?_)
  refine q_nm (wz := ws) (ka := kc + 1) (kb := ks + 6) (sz := [.int u75.1]) rfl (by omega) (by omega) rfl ?_
  refine q_istore (pc := 626) (lvq := [(6, .int u75.1), (0, .ref b), (1, .ref (g 0)), (2, .ref (ga 0)), (3, .ref xo), (4, .ref xd), (5, .int v5)]) C dL_law_626 (by decide) rfl ?_
  refine q_aload_n (pc := 628) C dL_law_628 rfl 3 rfl ?_
  refine q_aload_n (pc := 629) C dL_law_629 rfl 1 rfl ?_
  refine q_iload (pc := 630) C dL_law_630 6 rfl ?_
  refine q_iconst (pc := 632) C (1 : Int32) dL_law_632 q_ci_1 ?_
  refine q_iadd (pc := 633) C dL_law_633 ?_
  obtain ⟨g77, hf⟩ := q_gd hf
  refine q_sld (pc := 634) C CS.2.1 CS.2.2.1 CS.2.2.2 g77 dL_law_634 ?_
  obtain ⟨u78, e79, hf⟩ := q_bind hf
  obtain ⟨_, he⟩ := hW.obj
  refine q_callV (pc := 635) (As := [.int (xs (v5 + (1 : Int32)).toNatClampNeg)]) (rest := []) C (c_X9_ask l D cc N0 ga ad  (LG cc g xo xd (S.1, u75.2.2, u75.2.1, S.2.2.2) ++ []) (S.1, u75.2.2, u75.2.1, S.2.2.2).1 (xs (v5 + (1 : Int32)).toNatClampNeg) u78 e79 ws hW) gL_law_X9_ask rfl rfl z_X9_ask ⟨(Nat.le_of_ble_eq_true rfl), (Nat.le_of_ble_eq_true rfl)⟩ he rfl rfl rfl (Nat.le_of_ble_eq_true rfl) dL_law_635 ⟨(by show (kc + 1) + 3 ≤ room_1.cells; omega), (by show (ks + 6) + 12 ≤ room_1.slots; omega)⟩ ?_
  rintro _ ws ⟨rfl, hW⟩
  have hW : LW cc g ga xo xd ad (u78.2, (S.1, u75.2.2, u75.2.1, S.2.2.2).2) [] ws := hW
  refine q_nm (wz := ws) (ka := kc + 4) (kb := ks + 18) (sz := [.int (q_b u78.1)]) rfl (by omega) (by omega) rfl ?_
  refine q_istore (pc := 638) (lvq := [(7, .int (q_b u78.1)), (6, .int u75.1), (0, .ref b), (1, .ref (g 0)), (2, .ref (ga 0)), (3, .ref xo), (4, .ref xd), (5, .int v5)]) C dL_law_638 (by decide) rfl ?_
  refine q_aload_n (pc := 640) C dL_law_640 rfl 4 rfl ?_
  obtain ⟨u80, e81, hf⟩ := q_bind hf
  obtain ⟨_, he⟩ := hW.obj
  refine q_callV (pc := 641) (As := []) (rest := []) C (c_X9_thrown l D cc N0 ga ad  (LG cc g xo xd (u78.2, (S.1, u75.2.2, u75.2.1, S.2.2.2).2) ++ []) (u78.2, (S.1, u75.2.2, u75.2.1, S.2.2.2).2).1  u80 e81 ws hW) gL_law_X9_thrown rfl rfl z_X9_thrown ⟨(Nat.le_of_ble_eq_true rfl), (Nat.le_of_ble_eq_true rfl)⟩ he rfl rfl rfl (Nat.le_of_ble_eq_true rfl) dL_law_641 ⟨(by show (kc + 4) + 0 ≤ room_1.cells; omega), (by show (ks + 18) + 0 ≤ room_1.slots; omega)⟩ ?_
  rintro _ ws ⟨rfl, hW⟩
  have hW : LW cc g ga xo xd ad (u78.2, (S.1, u75.2.2, u75.2.1, S.2.2.2).2) [] ws := hW
  refine q_nm (wz := ws) (ka := kc + 4) (kb := ks + 18) (sz := [.int u80]) rfl (by omega) (by omega) rfl ?_
  refine q_iload (pc := 644) C dL_law_644 1 rfl ?_
  refine q_icmp_eq (pc := 646) (tgt := 651) C dL_law_646 (by decide) (fun c82 => ?_) (fun c82 => ?_)
  · have hf := q_iteT hf c82
    refine q_iload (pc := 651) C dL_law_651 1 rfl ?_
    refine q_if_ne (pc := 653) (tgt := 675) C dL_law_653 (by decide) (fun c83 => ?_) (fun c83 => ?_)
    · have hf := q_iteF hf c83
      refine q_sub (lvq := [(0, .ref b), (1, .ref (g 0)), (2, .ref (ga 0)), (3, .ref xo), (4, .ref xd), (5, .int v5)]) [2, 3, 4, 5, 6, 7] rfl ?_
      exact w_L_law_675 C CS hQ hk28 (kc + 4) (ks + 18) v5 (u78.2, (S.1, u75.2.2, u75.2.1, S.2.2.2).2) ad ws hf hW
    · have hf := q_iteT hf c83
      refine q_aload_n (pc := 656) C dL_law_656 rfl 5 rfl ?_
      refine q_iconst (pc := 657) C (0 : Int32) dL_law_657 q_ci_0 ?_
      refine LW.lald (pc := 658) hW C dL_law_658 ?_
      refine q_iload (pc := 659) C dL_law_659 0 rfl ?_
      refine q_if_eq (pc := 661) (tgt := 668) C dL_law_661 (by decide) (fun c84 => ?_) (fun c84 => ?_)
      · have hf := q_iteT hf c84
        refine q_lconst (pc := 668) C (0 : Int64) dL_law_668 q_cl_0 ?_
        refine q_sub (lvq := [(0, .ref b), (1, .ref (g 0)), (2, .ref (ga 0)), (3, .ref xo), (4, .ref xd), (5, .int v5)]) [2, 3, 4, 5, 6, 7] rfl ?_
        exact w_L_law_669 C CS hQ hk28 (kc + 4) (ks + 18) v5 (0 : Int64) ((u78.2, (S.1, u75.2.2, u75.2.1, S.2.2.2).2).2.2.1 0) (u78.2, (S.1, u75.2.2, u75.2.1, S.2.2.2).2) ad ws hf hW
      · have hf := q_iteF hf c84
        refine q_lconst (pc := 664) C (1 : Int64) dL_law_664 q_cl_1 ?_
        refine q_goto (pc := 665) (tgt := 669) C dL_law_665 (by decide) ?_
        refine q_sub (lvq := [(0, .ref b), (1, .ref (g 0)), (2, .ref (ga 0)), (3, .ref xo), (4, .ref xd), (5, .int v5)]) [2, 3, 4, 5, 6, 7] rfl ?_
        exact w_L_law_669 C CS hQ hk28 (kc + 4) (ks + 18) v5 (1 : Int64) ((u78.2, (S.1, u75.2.2, u75.2.1, S.2.2.2).2).2.2.1 0) (u78.2, (S.1, u75.2.2, u75.2.1, S.2.2.2).2) ad ws hf hW
  · have hf := q_iteF hf c82
    refine q_iconst (pc := 649) C (0 : Int32) dL_law_649 q_ci_0 ?_
    cases hf
set_option maxRecDepth 100000 in
set_option maxHeartbeats 8000000 in
theorem w_L_law_731 {p : Program} {l : Launch} {e : Env} {s : State} {m : MethodId} {args : Array Value} {below : List Frame} {meth : Method} {c : Code} {D : va_G} {cc : Nat → ClassId} {N0 : Nat} {Q : State → Prop} {g ga : Nat → Nat} {xo xd b L : Nat} {xs : Nat → Int32} {k28 : Nat → Nat → Int32 → LSt → Option Bool} (C : q_C p s m args meth c cL_law 9 (some .boolean) wsL_law RL D cc N0) (CS : l.stackTraces = false ∧ va_X b L xs s s.heap ∧ b < s.heap.size ∧ ¬ q_A N0 b) (hQ : ∀ (kc ks : Nat) (ws : va_W) (pc : Nat) (lv : List (Nat × Value)), kc ≤ room_1.cells → ks ≤ room_1.slots → decode cL_law pc = .ok (.ireturn, 1) → q_WA p l e room_1 s m args below meth c D N0 9 Q kc ks ws pc lv [.int 1]) (hk28 : ∀ (kc ks : Nat) (v5 : Int32) (S : LSt) (ad : Nat → Nat → Nat) (ws : va_W), k28 kc ks v5 S = some true → LW cc g ga xo xd ad S [] ws → q_WA p l e room_1 s m args below meth c D N0 9 Q kc ks ws 28 [(0, .ref b), (1, .ref (g 0)), (2, .ref (ga 0)), (3, .ref xo), (4, .ref xd), (5, .int v5)] []) (kc ks : Nat) (v5 : Int32) (S : LSt) (ad : Nat → Nat → Nat) (ws : va_W) : f_L_law_731 L xs k28 kc ks v5 S = some true → LW cc g ga xo xd ad S [] ws → q_WA p l e room_1 s m args below meth c D N0 9 Q kc ks ws 731 [(0, .ref b), (1, .ref (g 0)), (2, .ref (ga 0)), (3, .ref xo), (4, .ref xd), (5, .int v5)] [] := by
  intro hf hW
  refine q_goto (pc := 731) (tgt := 2537) C dL_law_731 (by decide) ?_
  refine q_sub (lvq := [(0, .ref b), (1, .ref (g 0)), (2, .ref (ga 0)), (3, .ref xo), (4, .ref xd), (5, .int v5)]) [0, 1, 2, 3, 4, 5] rfl ?_
  exact w_L_law_2537 C CS hQ hk28 (kc) (ks) v5 S ad ws hf hW
set_option maxRecDepth 100000 in
set_option maxHeartbeats 8000000 in
theorem w_L_law_678 {p : Program} {l : Launch} {e : Env} {s : State} {m : MethodId} {args : Array Value} {below : List Frame} {meth : Method} {c : Code} {D : va_G} {cc : Nat → ClassId} {N0 : Nat} {Q : State → Prop} {g ga : Nat → Nat} {xo xd b L : Nat} {xs : Nat → Int32} {k28 : Nat → Nat → Int32 → LSt → Option Bool} (C : q_C p s m args meth c cL_law 9 (some .boolean) wsL_law RL D cc N0) (CS : l.stackTraces = false ∧ va_X b L xs s s.heap ∧ b < s.heap.size ∧ ¬ q_A N0 b) (hQ : ∀ (kc ks : Nat) (ws : va_W) (pc : Nat) (lv : List (Nat × Value)), kc ≤ room_1.cells → ks ≤ room_1.slots → decode cL_law pc = .ok (.ireturn, 1) → q_WA p l e room_1 s m args below meth c D N0 9 Q kc ks ws pc lv [.int 1]) (hk28 : ∀ (kc ks : Nat) (v5 : Int32) (S : LSt) (ad : Nat → Nat → Nat) (ws : va_W), k28 kc ks v5 S = some true → LW cc g ga xo xd ad S [] ws → q_WA p l e room_1 s m args below meth c D N0 9 Q kc ks ws 28 [(0, .ref b), (1, .ref (g 0)), (2, .ref (ga 0)), (3, .ref xo), (4, .ref xd), (5, .int v5)] []) (kc ks : Nat) (v5 : Int32) (S : LSt) (ad : Nat → Nat → Nat) (ws : va_W) : f_L_law_678 L xs k28 kc ks v5 S = some true → LW cc g ga xo xd ad S [] ws → q_WA p l e room_1 s m args below meth c D N0 9 Q kc ks ws 678 [(0, .ref b), (1, .ref (g 0)), (2, .ref (ga 0)), (3, .ref xo), (4, .ref xd), (5, .int v5)] [] := by
  intro hf hW
  obtain ⟨hr, hf⟩ := q_gd hf
  obtain ⟨hr1, hr2⟩ := hr
  refine q_aload_n (pc := 678) C dL_law_678 rfl 1 rfl ?_
  refine q_aload_n (pc := 679) C dL_law_679 rfl 0 rfl ?_
  refine q_iload (pc := 680) C dL_law_680 5 rfl ?_
  refine q_iconst (pc := 682) C (1 : Int32) dL_law_682 q_ci_1 ?_
  refine q_iadd (pc := 683) C dL_law_683 ?_
  obtain ⟨g86, hf⟩ := q_gd hf
  refine q_sld (pc := 684) C CS.2.1 CS.2.2.1 CS.2.2.2 g86 dL_law_684 ?_
  refine q_aload_n (pc := 685) C dL_law_685 rfl 3 rfl ?_
  obtain ⟨u87, e88, hf⟩ := q_bind hf
  obtain ⟨T, hp, hb⟩ := hW.cls
  refine q_perm hp ?_
  refine q_callSH (pc := 686) (As := [.ref (g 0), .int (xs (v5 + (1 : Int32)).toNatClampNeg), .ref xo]) (rest := []) C (c_L_equal l CS.1 D cc N0 g xo (ld5 cc xd S.2.2.2 :: T) S.2.1 (xs (v5 + (1 : Int32)).toNatClampNeg) S.2.2.1 u87 e88) gL_law_L_equal rfl z_L_equal ⟨(Nat.le_of_ble_eq_true rfl), (Nat.le_of_ble_eq_true rfl)⟩ rfl rfl (Nat.le_of_ble_eq_true rfl) dL_law_686 ⟨(by show (kc) + 1 ≤ room_1.cells; omega), (by show (ks) + 6 ≤ room_1.slots; omega)⟩ ?_
  rintro _ _ ⟨rfl, rfl⟩
  have hW := hb (S.1, u87.2.2, u87.2.1, S.2.2.2) rfl
  refine LW.ren hW (fun ws hW => ?_)
  refine q_nm (wz := ws) (ka := kc + 1) (kb := ks + 6) (sz := [.int u87.1]) rfl (by omega) (by omega) rfl ?_
  refine q_istore (pc := 689) (lvq := [(6, .int u87.1), (0, .ref b), (1, .ref (g 0)), (2, .ref (ga 0)), (3, .ref xo), (4, .ref xd), (5, .int v5)]) C dL_law_689 (by decide) rfl ?_
  refine q_aload_n (pc := 691) C dL_law_691 rfl 3 rfl ?_
  refine q_aload_n (pc := 692) C dL_law_692 rfl 1 rfl ?_
  refine q_iload (pc := 693) C dL_law_693 6 rfl ?_
  refine q_iconst (pc := 695) C (1 : Int32) dL_law_695 q_ci_1 ?_
  refine q_iadd (pc := 696) C dL_law_696 ?_
  obtain ⟨g89, hf⟩ := q_gd hf
  refine q_sld (pc := 697) C CS.2.1 CS.2.2.1 CS.2.2.2 g89 dL_law_697 ?_
  obtain ⟨u90, e91, hf⟩ := q_bind hf
  obtain ⟨_, he⟩ := hW.obj
  refine q_callV (pc := 698) (As := [.int (xs (v5 + (1 : Int32)).toNatClampNeg)]) (rest := []) C (c_X9_equal l D cc N0 ga ad  (LG cc g xo xd (S.1, u87.2.2, u87.2.1, S.2.2.2) ++ []) (S.1, u87.2.2, u87.2.1, S.2.2.2).1 (xs (v5 + (1 : Int32)).toNatClampNeg) u90 e91 ws hW) gL_law_X9_equal rfl rfl z_X9_equal ⟨(Nat.le_of_ble_eq_true rfl), (Nat.le_of_ble_eq_true rfl)⟩ he rfl rfl rfl (Nat.le_of_ble_eq_true rfl) dL_law_698 ⟨(by show (kc + 1) + 25 ≤ room_1.cells; omega), (by show (ks + 6) + 100 ≤ room_1.slots; omega)⟩ ?_
  rintro _ ws ⟨rfl, hW⟩
  have hW : LW cc g ga xo xd ad (u90.2, (S.1, u87.2.2, u87.2.1, S.2.2.2).2) [] ws := hW
  refine q_nm (wz := ws) (ka := kc + 26) (kb := ks + 106) (sz := [.int u90.1]) rfl (by omega) (by omega) rfl ?_
  refine q_istore (pc := 701) (lvq := [(7, .int u90.1), (6, .int u87.1), (0, .ref b), (1, .ref (g 0)), (2, .ref (ga 0)), (3, .ref xo), (4, .ref xd), (5, .int v5)]) C dL_law_701 (by decide) rfl ?_
  refine q_aload_n (pc := 703) C dL_law_703 rfl 4 rfl ?_
  obtain ⟨u92, e93, hf⟩ := q_bind hf
  obtain ⟨_, he⟩ := hW.obj
  refine q_callV (pc := 704) (As := []) (rest := []) C (c_X9_thrown l D cc N0 ga ad  (LG cc g xo xd (u90.2, (S.1, u87.2.2, u87.2.1, S.2.2.2).2) ++ []) (u90.2, (S.1, u87.2.2, u87.2.1, S.2.2.2).2).1  u92 e93 ws hW) gL_law_X9_thrown rfl rfl z_X9_thrown ⟨(Nat.le_of_ble_eq_true rfl), (Nat.le_of_ble_eq_true rfl)⟩ he rfl rfl rfl (Nat.le_of_ble_eq_true rfl) dL_law_704 ⟨(by show (kc + 26) + 0 ≤ room_1.cells; omega), (by show (ks + 106) + 0 ≤ room_1.slots; omega)⟩ ?_
  rintro _ ws ⟨rfl, hW⟩
  have hW : LW cc g ga xo xd ad (u90.2, (S.1, u87.2.2, u87.2.1, S.2.2.2).2) [] ws := hW
  refine q_nm (wz := ws) (ka := kc + 26) (kb := ks + 106) (sz := [.int u92]) rfl (by omega) (by omega) rfl ?_
  refine q_iload (pc := 707) C dL_law_707 1 rfl ?_
  refine q_icmp_eq (pc := 709) (tgt := 714) C dL_law_709 (by decide) (fun c94 => ?_) (fun c94 => ?_)
  · have hf := q_iteT hf c94
    refine q_iload (pc := 714) C dL_law_714 1 rfl ?_
    refine q_if_ne (pc := 716) (tgt := 731) C dL_law_716 (by decide) (fun c95 => ?_) (fun c95 => ?_)
    · have hf := q_iteF hf c95
      refine q_sub (lvq := [(0, .ref b), (1, .ref (g 0)), (2, .ref (ga 0)), (3, .ref xo), (4, .ref xd), (5, .int v5)]) [2, 3, 4, 5, 6, 7] rfl ?_
      exact w_L_law_731 C CS hQ hk28 (kc + 26) (ks + 106) v5 (u90.2, (S.1, u87.2.2, u87.2.1, S.2.2.2).2) ad ws hf hW
    · have hf := q_iteT hf c95
      refine q_aload_n (pc := 719) C dL_law_719 rfl 5 rfl ?_
      refine q_iconst (pc := 720) C (0 : Int32) dL_law_720 q_ci_0 ?_
      refine LW.lald (pc := 721) hW C dL_law_721 ?_
      refine q_iload (pc := 722) C dL_law_722 0 rfl ?_
      refine q_i2l (pc := 724) C dL_law_724 rfl ?_
      refine q_lcmp (pc := 725) C dL_law_725 ?_
      refine q_if_eq (pc := 726) (tgt := 731) C dL_law_726 (by decide) (fun c96 => ?_) (fun c96 => ?_)
      · have hf := q_iteT hf c96
        refine q_sub (lvq := [(0, .ref b), (1, .ref (g 0)), (2, .ref (ga 0)), (3, .ref xo), (4, .ref xd), (5, .int v5)]) [2, 3, 4, 5, 6, 7] rfl ?_
        exact w_L_law_731 C CS hQ hk28 (kc + 26) (ks + 106) v5 (u90.2, (S.1, u87.2.2, u87.2.1, S.2.2.2).2) ad ws hf hW
      · have hf := q_iteF hf c96
        refine q_iconst (pc := 729) C (0 : Int32) dL_law_729 q_ci_0 ?_
        cases hf
  · have hf := q_iteF hf c94
    refine q_iconst (pc := 712) C (0 : Int32) dL_law_712 q_ci_0 ?_
    cases hf
set_option maxRecDepth 100000 in
set_option maxHeartbeats 8000000 in
theorem w_L_law_734 {p : Program} {l : Launch} {e : Env} {s : State} {m : MethodId} {args : Array Value} {below : List Frame} {meth : Method} {c : Code} {D : va_G} {cc : Nat → ClassId} {N0 : Nat} {Q : State → Prop} {g ga : Nat → Nat} {xo xd b L : Nat} {xs : Nat → Int32} {k28 : Nat → Nat → Int32 → LSt → Option Bool} (C : q_C p s m args meth c cL_law 9 (some .boolean) wsL_law RL D cc N0) (CS : l.stackTraces = false ∧ va_X b L xs s s.heap ∧ b < s.heap.size ∧ ¬ q_A N0 b) (hQ : ∀ (kc ks : Nat) (ws : va_W) (pc : Nat) (lv : List (Nat × Value)), kc ≤ room_1.cells → ks ≤ room_1.slots → decode cL_law pc = .ok (.ireturn, 1) → q_WA p l e room_1 s m args below meth c D N0 9 Q kc ks ws pc lv [.int 1]) (hk28 : ∀ (kc ks : Nat) (v5 : Int32) (S : LSt) (ad : Nat → Nat → Nat) (ws : va_W), k28 kc ks v5 S = some true → LW cc g ga xo xd ad S [] ws → q_WA p l e room_1 s m args below meth c D N0 9 Q kc ks ws 28 [(0, .ref b), (1, .ref (g 0)), (2, .ref (ga 0)), (3, .ref xo), (4, .ref xd), (5, .int v5)] []) (kc ks : Nat) (v5 : Int32) (S : LSt) (ad : Nat → Nat → Nat) (ws : va_W) : f_L_law_734 L xs k28 kc ks v5 S = some true → LW cc g ga xo xd ad S [] ws → q_WA p l e room_1 s m args below meth c D N0 9 Q kc ks ws 734 [(0, .ref b), (1, .ref (g 0)), (2, .ref (ga 0)), (3, .ref xo), (4, .ref xd), (5, .int v5)] [] := by
  intro hf hW
  obtain ⟨hr, hf⟩ := q_gd hf
  obtain ⟨hr1, hr2⟩ := hr
  refine q_aload_n (pc := 734) C dL_law_734 rfl 1 rfl ?_
  obtain ⟨T, hp, hb⟩ := hW.cls
  refine q_perm hp ?_
  refine q_callV (pc := 735) (As := []) (rest := []) C (c_X8_answers l D cc N0 g (lo4 cc xo S.2.2.1 :: ld5 cc xd S.2.2.2 :: T) S.2.1 _ rfl) gL_law_X8_answers rfl rfl z_X8_answers ⟨(Nat.le_of_ble_eq_true rfl), (Nat.le_of_ble_eq_true rfl)⟩ (cw_at_0 cc g _ _) rfl rfl rfl (Nat.le_of_ble_eq_true rfl) dL_law_735 ⟨(by show (kc) + 0 ≤ room_1.cells; omega), (by show (ks) + 0 ≤ room_1.slots; omega)⟩ ?_
  rintro _ _ ⟨rfl, rfl⟩
  have hW := hb S rfl
  refine LW.ren hW (fun ws hW => ?_)
  refine q_nm (wz := ws) (ka := kc) (kb := ks) (sz := [.int (f_X8_answers S.2.1)]) rfl (by omega) (by omega) rfl ?_
  refine q_aload_n (pc := 738) C dL_law_738 rfl 2 rfl ?_
  obtain ⟨u99, e100, hf⟩ := q_bind hf
  obtain ⟨_, he⟩ := hW.obj
  refine q_callV (pc := 739) (As := []) (rest := [.int (f_X8_answers S.2.1)]) C (c_X9_answers l D cc N0 ga ad  (LG cc g xo xd S ++ []) S.1  u99 e100 ws hW) gL_law_X9_answers rfl rfl z_X9_answers ⟨(Nat.le_of_ble_eq_true rfl), (Nat.le_of_ble_eq_true rfl)⟩ he rfl rfl rfl (Nat.le_of_ble_eq_true rfl) dL_law_739 ⟨(by show (kc) + 0 ≤ room_1.cells; omega), (by show (ks) + 0 ≤ room_1.slots; omega)⟩ ?_
  rintro _ ws ⟨rfl, hW⟩
  have hW : LW cc g ga xo xd ad (u99.2, S.2) [] ws := hW
  refine q_nm (wz := ws) (ka := kc) (kb := ks) (sz := [.int u99.1, .int (f_X8_answers S.2.1)]) rfl (by omega) (by omega) rfl ?_
  refine q_icmp_eq (pc := 742) (tgt := 2537) C dL_law_742 (by decide) (fun c101 => ?_) (fun c101 => ?_)
  · have hf := q_iteT hf c101
    refine q_sub (lvq := [(0, .ref b), (1, .ref (g 0)), (2, .ref (ga 0)), (3, .ref xo), (4, .ref xd), (5, .int v5)]) [0, 1, 2, 3, 4, 5] rfl ?_
    exact w_L_law_2537 C CS hQ hk28 (kc) (ks) v5 (u99.2, S.2) ad ws hf hW
  · have hf := q_iteF hf c101
    refine q_iconst (pc := 745) C (0 : Int32) dL_law_745 q_ci_0 ?_
    cases hf
set_option maxRecDepth 100000 in
set_option maxHeartbeats 8000000 in
theorem w_L_law_800 {p : Program} {l : Launch} {e : Env} {s : State} {m : MethodId} {args : Array Value} {below : List Frame} {meth : Method} {c : Code} {D : va_G} {cc : Nat → ClassId} {N0 : Nat} {Q : State → Prop} {g ga : Nat → Nat} {xo xd b L : Nat} {xs : Nat → Int32} {k28 : Nat → Nat → Int32 → LSt → Option Bool} (C : q_C p s m args meth c cL_law 9 (some .boolean) wsL_law RL D cc N0) (CS : l.stackTraces = false ∧ va_X b L xs s s.heap ∧ b < s.heap.size ∧ ¬ q_A N0 b) (hQ : ∀ (kc ks : Nat) (ws : va_W) (pc : Nat) (lv : List (Nat × Value)), kc ≤ room_1.cells → ks ≤ room_1.slots → decode cL_law pc = .ok (.ireturn, 1) → q_WA p l e room_1 s m args below meth c D N0 9 Q kc ks ws pc lv [.int 1]) (hk28 : ∀ (kc ks : Nat) (v5 : Int32) (S : LSt) (ad : Nat → Nat → Nat) (ws : va_W), k28 kc ks v5 S = some true → LW cc g ga xo xd ad S [] ws → q_WA p l e room_1 s m args below meth c D N0 9 Q kc ks ws 28 [(0, .ref b), (1, .ref (g 0)), (2, .ref (ga 0)), (3, .ref xo), (4, .ref xd), (5, .int v5)] []) (kc ks : Nat) (v5 : Int32) (S : LSt) (ad : Nat → Nat → Nat) (ws : va_W) : f_L_law_800 L xs k28 kc ks v5 S = some true → LW cc g ga xo xd ad S [] ws → q_WA p l e room_1 s m args below meth c D N0 9 Q kc ks ws 800 [(0, .ref b), (1, .ref (g 0)), (2, .ref (ga 0)), (3, .ref xo), (4, .ref xd), (5, .int v5)] [] := by
  intro hf hW
  refine q_goto (pc := 800) (tgt := 2537) C dL_law_800 (by decide) ?_
  refine q_sub (lvq := [(0, .ref b), (1, .ref (g 0)), (2, .ref (ga 0)), (3, .ref xo), (4, .ref xd), (5, .int v5)]) [0, 1, 2, 3, 4, 5] rfl ?_
  exact w_L_law_2537 C CS hQ hk28 (kc) (ks) v5 S ad ws hf hW
set_option maxRecDepth 100000 in
set_option maxHeartbeats 8000000 in
theorem w_L_law_747 {p : Program} {l : Launch} {e : Env} {s : State} {m : MethodId} {args : Array Value} {below : List Frame} {meth : Method} {c : Code} {D : va_G} {cc : Nat → ClassId} {N0 : Nat} {Q : State → Prop} {g ga : Nat → Nat} {xo xd b L : Nat} {xs : Nat → Int32} {k28 : Nat → Nat → Int32 → LSt → Option Bool} (C : q_C p s m args meth c cL_law 9 (some .boolean) wsL_law RL D cc N0) (CS : l.stackTraces = false ∧ va_X b L xs s s.heap ∧ b < s.heap.size ∧ ¬ q_A N0 b) (hQ : ∀ (kc ks : Nat) (ws : va_W) (pc : Nat) (lv : List (Nat × Value)), kc ≤ room_1.cells → ks ≤ room_1.slots → decode cL_law pc = .ok (.ireturn, 1) → q_WA p l e room_1 s m args below meth c D N0 9 Q kc ks ws pc lv [.int 1]) (hk28 : ∀ (kc ks : Nat) (v5 : Int32) (S : LSt) (ad : Nat → Nat → Nat) (ws : va_W), k28 kc ks v5 S = some true → LW cc g ga xo xd ad S [] ws → q_WA p l e room_1 s m args below meth c D N0 9 Q kc ks ws 28 [(0, .ref b), (1, .ref (g 0)), (2, .ref (ga 0)), (3, .ref xo), (4, .ref xd), (5, .int v5)] []) (kc ks : Nat) (v5 : Int32) (S : LSt) (ad : Nat → Nat → Nat) (ws : va_W) : f_L_law_747 L xs k28 kc ks v5 S = some true → LW cc g ga xo xd ad S [] ws → q_WA p l e room_1 s m args below meth c D N0 9 Q kc ks ws 747 [(0, .ref b), (1, .ref (g 0)), (2, .ref (ga 0)), (3, .ref xo), (4, .ref xd), (5, .int v5)] [] := by
  intro hf hW
  obtain ⟨hr, hf⟩ := q_gd hf
  obtain ⟨hr1, hr2⟩ := hr
  refine q_aload_n (pc := 747) C dL_law_747 rfl 1 rfl ?_
  refine q_aload_n (pc := 748) C dL_law_748 rfl 0 rfl ?_
  refine q_iload (pc := 749) C dL_law_749 5 rfl ?_
  refine q_iconst (pc := 751) C (1 : Int32) dL_law_751 q_ci_1 ?_
  refine q_iadd (pc := 752) C dL_law_752 ?_
  obtain ⟨g102, hf⟩ := q_gd hf
  refine q_sld (pc := 753) C CS.2.1 CS.2.2.1 CS.2.2.2 g102 dL_law_753 ?_
  refine q_aload_n (pc := 754) C dL_law_754 rfl 3 rfl ?_
  obtain ⟨u103, e104, hf⟩ := q_bind hf
  obtain ⟨T, hp, hb⟩ := hW.cls
  refine q_perm hp ?_
  refine q_callSH (pc := 755) (As := [.ref (g 0), .int (xs (v5 + (1 : Int32)).toNatClampNeg), .ref xo]) (rest := []) C (c_L_conflicts l CS.1 D cc N0 g xo (ld5 cc xd S.2.2.2 :: T) S.2.1 (xs (v5 + (1 : Int32)).toNatClampNeg) S.2.2.1 u103 e104) gL_law_L_conflicts rfl z_L_conflicts ⟨(Nat.le_of_ble_eq_true rfl), (Nat.le_of_ble_eq_true rfl)⟩ rfl rfl (Nat.le_of_ble_eq_true rfl) dL_law_755 ⟨(by show (kc) + 1 ≤ room_1.cells; omega), (by show (ks) + 6 ≤ room_1.slots; omega)⟩ ?_
  rintro _ _ ⟨rfl, rfl⟩
  have hW := hb (S.1, u103.2.2, u103.2.1, S.2.2.2) rfl
  refine LW.ren hW (fun ws hW => ?_)
  refine q_nm (wz := ws) (ka := kc + 1) (kb := ks + 6) (sz := [.int u103.1]) rfl (by omega) (by omega) rfl ?_
  refine q_istore (pc := 758) (lvq := [(6, .int u103.1), (0, .ref b), (1, .ref (g 0)), (2, .ref (ga 0)), (3, .ref xo), (4, .ref xd), (5, .int v5)]) C dL_law_758 (by decide) rfl ?_
  refine q_aload_n (pc := 760) C dL_law_760 rfl 3 rfl ?_
  refine q_aload_n (pc := 761) C dL_law_761 rfl 1 rfl ?_
  refine q_iload (pc := 762) C dL_law_762 6 rfl ?_
  refine q_iconst (pc := 764) C (1 : Int32) dL_law_764 q_ci_1 ?_
  refine q_iadd (pc := 765) C dL_law_765 ?_
  obtain ⟨g105, hf⟩ := q_gd hf
  refine q_sld (pc := 766) C CS.2.1 CS.2.2.1 CS.2.2.2 g105 dL_law_766 ?_
  obtain ⟨u106, e107, hf⟩ := q_bind hf
  obtain ⟨_, he⟩ := hW.obj
  refine q_callV (pc := 767) (As := [.int (xs (v5 + (1 : Int32)).toNatClampNeg)]) (rest := []) C (c_X9_conflicts l D cc N0 ga ad  (LG cc g xo xd (S.1, u103.2.2, u103.2.1, S.2.2.2) ++ []) (S.1, u103.2.2, u103.2.1, S.2.2.2).1 (xs (v5 + (1 : Int32)).toNatClampNeg) u106 e107 ws hW) gL_law_X9_conflicts rfl rfl z_X9_conflicts ⟨(Nat.le_of_ble_eq_true rfl), (Nat.le_of_ble_eq_true rfl)⟩ he rfl rfl rfl (Nat.le_of_ble_eq_true rfl) dL_law_767 ⟨(by show (kc + 1) + 0 ≤ room_1.cells; omega), (by show (ks + 6) + 0 ≤ room_1.slots; omega)⟩ ?_
  rintro _ ws ⟨rfl, hW⟩
  have hW : LW cc g ga xo xd ad (u106.2, (S.1, u103.2.2, u103.2.1, S.2.2.2).2) [] ws := hW
  refine q_nm (wz := ws) (ka := kc + 1) (kb := ks + 6) (sz := [.int u106.1]) rfl (by omega) (by omega) rfl ?_
  refine q_istore (pc := 770) (lvq := [(7, .int u106.1), (6, .int u103.1), (0, .ref b), (1, .ref (g 0)), (2, .ref (ga 0)), (3, .ref xo), (4, .ref xd), (5, .int v5)]) C dL_law_770 (by decide) rfl ?_
  refine q_aload_n (pc := 772) C dL_law_772 rfl 4 rfl ?_
  obtain ⟨u108, e109, hf⟩ := q_bind hf
  obtain ⟨_, he⟩ := hW.obj
  refine q_callV (pc := 773) (As := []) (rest := []) C (c_X9_thrown l D cc N0 ga ad  (LG cc g xo xd (u106.2, (S.1, u103.2.2, u103.2.1, S.2.2.2).2) ++ []) (u106.2, (S.1, u103.2.2, u103.2.1, S.2.2.2).2).1  u108 e109 ws hW) gL_law_X9_thrown rfl rfl z_X9_thrown ⟨(Nat.le_of_ble_eq_true rfl), (Nat.le_of_ble_eq_true rfl)⟩ he rfl rfl rfl (Nat.le_of_ble_eq_true rfl) dL_law_773 ⟨(by show (kc + 1) + 0 ≤ room_1.cells; omega), (by show (ks + 6) + 0 ≤ room_1.slots; omega)⟩ ?_
  rintro _ ws ⟨rfl, hW⟩
  have hW : LW cc g ga xo xd ad (u106.2, (S.1, u103.2.2, u103.2.1, S.2.2.2).2) [] ws := hW
  refine q_nm (wz := ws) (ka := kc + 1) (kb := ks + 6) (sz := [.int u108]) rfl (by omega) (by omega) rfl ?_
  refine q_iload (pc := 776) C dL_law_776 1 rfl ?_
  refine q_icmp_eq (pc := 778) (tgt := 783) C dL_law_778 (by decide) (fun c110 => ?_) (fun c110 => ?_)
  · have hf := q_iteT hf c110
    refine q_iload (pc := 783) C dL_law_783 1 rfl ?_
    refine q_if_ne (pc := 785) (tgt := 800) C dL_law_785 (by decide) (fun c111 => ?_) (fun c111 => ?_)
    · have hf := q_iteF hf c111
      refine q_sub (lvq := [(0, .ref b), (1, .ref (g 0)), (2, .ref (ga 0)), (3, .ref xo), (4, .ref xd), (5, .int v5)]) [2, 3, 4, 5, 6, 7] rfl ?_
      exact w_L_law_800 C CS hQ hk28 (kc + 1) (ks + 6) v5 (u106.2, (S.1, u103.2.2, u103.2.1, S.2.2.2).2) ad ws hf hW
    · have hf := q_iteT hf c111
      refine q_aload_n (pc := 788) C dL_law_788 rfl 5 rfl ?_
      refine q_iconst (pc := 789) C (0 : Int32) dL_law_789 q_ci_0 ?_
      refine LW.lald (pc := 790) hW C dL_law_790 ?_
      refine q_iload (pc := 791) C dL_law_791 0 rfl ?_
      refine q_i2l (pc := 793) C dL_law_793 rfl ?_
      refine q_lcmp (pc := 794) C dL_law_794 ?_
      refine q_if_eq (pc := 795) (tgt := 800) C dL_law_795 (by decide) (fun c112 => ?_) (fun c112 => ?_)
      · have hf := q_iteT hf c112
        refine q_sub (lvq := [(0, .ref b), (1, .ref (g 0)), (2, .ref (ga 0)), (3, .ref xo), (4, .ref xd), (5, .int v5)]) [2, 3, 4, 5, 6, 7] rfl ?_
        exact w_L_law_800 C CS hQ hk28 (kc + 1) (ks + 6) v5 (u106.2, (S.1, u103.2.2, u103.2.1, S.2.2.2).2) ad ws hf hW
      · have hf := q_iteF hf c112
        refine q_iconst (pc := 798) C (0 : Int32) dL_law_798 q_ci_0 ?_
        cases hf
  · have hf := q_iteF hf c110
    refine q_iconst (pc := 781) C (0 : Int32) dL_law_781 q_ci_0 ?_
    cases hf
set_option maxRecDepth 100000 in
set_option maxHeartbeats 8000000 in
theorem w_L_law_863 {p : Program} {l : Launch} {e : Env} {s : State} {m : MethodId} {args : Array Value} {below : List Frame} {meth : Method} {c : Code} {D : va_G} {cc : Nat → ClassId} {N0 : Nat} {Q : State → Prop} {g ga : Nat → Nat} {xo xd b L : Nat} {xs : Nat → Int32} {k28 : Nat → Nat → Int32 → LSt → Option Bool} (C : q_C p s m args meth c cL_law 9 (some .boolean) wsL_law RL D cc N0) (CS : l.stackTraces = false ∧ va_X b L xs s s.heap ∧ b < s.heap.size ∧ ¬ q_A N0 b) (hQ : ∀ (kc ks : Nat) (ws : va_W) (pc : Nat) (lv : List (Nat × Value)), kc ≤ room_1.cells → ks ≤ room_1.slots → decode cL_law pc = .ok (.ireturn, 1) → q_WA p l e room_1 s m args below meth c D N0 9 Q kc ks ws pc lv [.int 1]) (hk28 : ∀ (kc ks : Nat) (v5 : Int32) (S : LSt) (ad : Nat → Nat → Nat) (ws : va_W), k28 kc ks v5 S = some true → LW cc g ga xo xd ad S [] ws → q_WA p l e room_1 s m args below meth c D N0 9 Q kc ks ws 28 [(0, .ref b), (1, .ref (g 0)), (2, .ref (ga 0)), (3, .ref xo), (4, .ref xd), (5, .int v5)] []) (kc ks : Nat) (v5 : Int32) (S : LSt) (ad : Nat → Nat → Nat) (ws : va_W) : f_L_law_863 L xs k28 kc ks v5 S = some true → LW cc g ga xo xd ad S [] ws → q_WA p l e room_1 s m args below meth c D N0 9 Q kc ks ws 863 [(0, .ref b), (1, .ref (g 0)), (2, .ref (ga 0)), (3, .ref xo), (4, .ref xd), (5, .int v5)] [] := by
  intro hf hW
  refine q_goto (pc := 863) (tgt := 2537) C dL_law_863 (by decide) ?_
  refine q_sub (lvq := [(0, .ref b), (1, .ref (g 0)), (2, .ref (ga 0)), (3, .ref xo), (4, .ref xd), (5, .int v5)]) [0, 1, 2, 3, 4, 5] rfl ?_
  exact w_L_law_2537 C CS hQ hk28 (kc) (ks) v5 S ad ws hf hW
set_option maxRecDepth 100000 in
set_option maxHeartbeats 8000000 in
theorem w_L_law_857 {p : Program} {l : Launch} {e : Env} {s : State} {m : MethodId} {args : Array Value} {below : List Frame} {meth : Method} {c : Code} {D : va_G} {cc : Nat → ClassId} {N0 : Nat} {Q : State → Prop} {g ga : Nat → Nat} {xo xd b L : Nat} {xs : Nat → Int32} {k28 : Nat → Nat → Int32 → LSt → Option Bool} (C : q_C p s m args meth c cL_law 9 (some .boolean) wsL_law RL D cc N0) (CS : l.stackTraces = false ∧ va_X b L xs s s.heap ∧ b < s.heap.size ∧ ¬ q_A N0 b) (hQ : ∀ (kc ks : Nat) (ws : va_W) (pc : Nat) (lv : List (Nat × Value)), kc ≤ room_1.cells → ks ≤ room_1.slots → decode cL_law pc = .ok (.ireturn, 1) → q_WA p l e room_1 s m args below meth c D N0 9 Q kc ks ws pc lv [.int 1]) (hk28 : ∀ (kc ks : Nat) (v5 : Int32) (S : LSt) (ad : Nat → Nat → Nat) (ws : va_W), k28 kc ks v5 S = some true → LW cc g ga xo xd ad S [] ws → q_WA p l e room_1 s m args below meth c D N0 9 Q kc ks ws 28 [(0, .ref b), (1, .ref (g 0)), (2, .ref (ga 0)), (3, .ref xo), (4, .ref xd), (5, .int v5)] []) (kc ks : Nat) (v5 : Int32) (vt0 : Int64) (vt1 : Int64) (S : LSt) (ad : Nat → Nat → Nat) (ws : va_W) : f_L_law_857 L xs k28 kc ks v5 vt0 vt1 S = some true → LW cc g ga xo xd ad S [] ws → q_WA p l e room_1 s m args below meth c D N0 9 Q kc ks ws 857 [(0, .ref b), (1, .ref (g 0)), (2, .ref (ga 0)), (3, .ref xo), (4, .ref xd), (5, .int v5)] [.long vt0, .long vt1] := by
  intro hf hW
  refine q_lcmp (pc := 857) C dL_law_857 ?_
  refine q_if_eq (pc := 858) (tgt := 863) C dL_law_858 (by decide) (fun c124 => ?_) (fun c124 => ?_)
  · have hf := q_iteT hf c124
    refine q_sub (lvq := [(0, .ref b), (1, .ref (g 0)), (2, .ref (ga 0)), (3, .ref xo), (4, .ref xd), (5, .int v5)]) [0, 1, 2, 3, 4, 5] rfl ?_
    exact w_L_law_863 C CS hQ hk28 (kc) (ks) v5 S ad ws hf hW
  · have hf := q_iteF hf c124
    refine q_iconst (pc := 861) C (0 : Int32) dL_law_861 q_ci_0 ?_
    cases hf
