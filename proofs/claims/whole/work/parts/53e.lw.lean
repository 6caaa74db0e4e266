set_option maxRecDepth 100000 in
set_option maxHeartbeats 8000000 in
theorem w_L_law_28 {p : Program} {l : Launch} {e : Env} {s : State} {m : MethodId} {args : Array Value} {below : List Frame} {meth : Method} {c : Code} {D : va_G} {cc : Nat → ClassId} {N0 : Nat} {Q : State → Prop} {g ga : Nat → Nat} {xo xd b L : Nat} {xs : Nat → Int32} (C : q_C p s m args meth c cL_law 9 (some .boolean) wsL_law RL D cc N0) (CS : l.stackTraces = false ∧ va_X b L xs s s.heap ∧ b < s.heap.size ∧ ¬ q_A N0 b) (hQ : ∀ (kc ks : Nat) (ws : va_W) (pc : Nat) (lv : List (Nat × Value)), kc ≤ room_1.cells → ks ≤ room_1.slots → decode cL_law pc = .ok (.ireturn, 1) → q_WA p l e room_1 s m args below meth c D N0 9 Q kc ks ws pc lv [.int 1]) : ∀ (n kc ks : Nat) (v5 : Int32) (S : LSt) (ad : Nat → Nat → Nat) (ws : va_W), f_L_law_28 L xs n kc ks v5 S = some true → LW cc g ga xo xd ad S [] ws → q_WA p l e room_1 s m args below meth c D N0 9 Q kc ks ws 28 [(0, .ref b), (1, .ref (g 0)), (2, .ref (ga 0)), (3, .ref xo), (4, .ref xd), (5, .int v5)] [] := by
  intro n
  induction n with
  | zero => intro kc ks v5 S ad ws hf; cases hf
  | succ n ih =>
    intro kc ks v5 S ad ws hf hW
    have hk28 : ∀ (kc ks : Nat) (v5 : Int32) (S : LSt) (ad : Nat → Nat → Nat) (ws : va_W), f_L_law_28 L xs n kc ks v5 S = some true → LW cc g ga xo xd ad S [] ws → q_WA p l e room_1 s m args below meth c D N0 9 Q kc ks ws 28 [(0, .ref b), (1, .ref (g 0)), (2, .ref (ga 0)), (3, .ref xo), (4, .ref xd), (5, .int v5)] [] := ih
    have hf : f_L_law_28b L xs (f_L_law_28 L xs n) kc ks v5 S = some true := hf
    refine q_iload (pc := 28) C dL_law_28 5 rfl ?_
    refine q_aload_n (pc := 30) C dL_law_30 rfl 0 rfl ?_
    refine q_slen (pc := 31) C CS.2.1 CS.2.2.1 CS.2.2.2 dL_law_31 ?_
    refine q_iconst (pc := 32) C (4 : Int32) dL_law_32 q_ci_4 ?_
    refine q_isub (pc := 33) C dL_law_33 ?_
    refine q_icmp_gt (pc := 34) (tgt := 2543) C dL_law_34 (by decide) (fun c1 => ?_) (fun c1 => ?_)
    · have hf := q_iteT hf c1
      refine q_iconst (pc := 2543) C (1 : Int32) dL_law_2543 q_ci_1 ?_
      obtain ⟨hr, hf⟩ := q_gd hf
      exact hQ _ _ _ _ _ hr.1 hr.2 dL_law_2544 
    · have hf := q_iteF hf c1
      refine q_aload_n (pc := 37) C dL_law_37 rfl 0 rfl ?_
      refine q_iload (pc := 38) C dL_law_38 5 rfl ?_
      obtain ⟨g2, hf⟩ := q_gd hf
      refine q_sld (pc := 40) C CS.2.1 CS.2.2.1 CS.2.2.2 g2 dL_law_40 ?_
      refine q_bipush (pc := 41) C (63 : Int32) dL_law_41 q_cb_63 ?_
      refine q_iand (pc := 43) C dL_law_43 ?_
      by_cases h0 : ((xs v5.toNatClampNeg) &&& (63 : Int32)).toInt < 0 ∨ 45 < ((xs v5.toNatClampNeg) &&& (63 : Int32)).toInt
      · have hf := q_iteT hf h0
        refine q_tabOut (pc := 44) (tgt := 2537) C dL_law_44 h0 (by decide) ?_
        refine q_sub (lvq := [(0, .ref b), (1, .ref (g 0)), (2, .ref (ga 0)), (3, .ref xo), (4, .ref xd), (5, .int v5)]) [0, 1, 2, 3, 4, 5] rfl ?_
        exact w_L_law_2537 C CS hQ hk28 (kc) (ks) v5 S ad ws hf hW
      have hf := q_iteF hf h0
      by_cases h1 : ((xs v5.toNatClampNeg) &&& (63 : Int32)) = (0 : Int32)
      · have hf := q_iteT hf h1
        refine q_tabIn (pc := 44) (tgt := 244) C h1 dL_law_44 (by decide) (by decide) rfl (by decide) ?_
        refine q_sub (lvq := [(0, .ref b), (1, .ref (g 0)), (2, .ref (ga 0)), (3, .ref xo), (4, .ref xd), (5, .int v5)]) [0, 1, 2, 3, 4, 5] rfl ?_
        exact w_L_law_244 C CS hQ hk28 (kc) (ks) v5 S ad ws hf hW
      have hf := q_iteF hf h1
      by_cases h2 : ((xs v5.toNatClampNeg) &&& (63 : Int32)) = (1 : Int32)
      · have hf := q_iteT hf h2
        refine q_tabIn (pc := 44) (tgt := 300) C h2 dL_law_44 (by decide) (by decide) rfl (by decide) ?_
        refine q_sub (lvq := [(0, .ref b), (1, .ref (g 0)), (2, .ref (ga 0)), (3, .ref xo), (4, .ref xd), (5, .int v5)]) [0, 1, 2, 3, 4, 5] rfl ?_
        exact w_L_law_300 C CS hQ hk28 (kc) (ks) v5 S ad ws hf hW
      have hf := q_iteF hf h2
      by_cases h3 : ((xs v5.toNatClampNeg) &&& (63 : Int32)) = (2 : Int32)
      · have hf := q_iteT hf h3
        refine q_tabIn (pc := 44) (tgt := 356) C h3 dL_law_44 (by decide) (by decide) rfl (by decide) ?_
        refine q_sub (lvq := [(0, .ref b), (1, .ref (g 0)), (2, .ref (ga 0)), (3, .ref xo), (4, .ref xd), (5, .int v5)]) [0, 1, 2, 3, 4, 5] rfl ?_
        exact w_L_law_356 C CS hQ hk28 (kc) (ks) v5 S ad ws hf hW
      have hf := q_iteF hf h3
      by_cases h4 : ((xs v5.toNatClampNeg) &&& (63 : Int32)) = (3 : Int32)
      · have hf := q_iteT hf h4
        refine q_tabIn (pc := 44) (tgt := 414) C h4 dL_law_44 (by decide) (by decide) rfl (by decide) ?_
        refine q_sub (lvq := [(0, .ref b), (1, .ref (g 0)), (2, .ref (ga 0)), (3, .ref xo), (4, .ref xd), (5, .int v5)]) [0, 1, 2, 3, 4, 5] rfl ?_
        exact w_L_law_414 C CS hQ hk28 (kc) (ks) v5 S ad ws hf hW
      have hf := q_iteF hf h4
      by_cases h5 : ((xs v5.toNatClampNeg) &&& (63 : Int32)) = (4 : Int32)
      · have hf := q_iteT hf h5
        refine q_tabIn (pc := 44) (tgt := 470) C h5 dL_law_44 (by decide) (by decide) rfl (by decide) ?_
        refine q_sub (lvq := [(0, .ref b), (1, .ref (g 0)), (2, .ref (ga 0)), (3, .ref xo), (4, .ref xd), (5, .int v5)]) [0, 1, 2, 3, 4, 5] rfl ?_
        exact w_L_law_470 C CS hQ hk28 (kc) (ks) v5 S ad ws hf hW
      have hf := q_iteF hf h5
      by_cases h6 : ((xs v5.toNatClampNeg) &&& (63 : Int32)) = (5 : Int32)
      · have hf := q_iteT hf h6
        refine q_tabIn (pc := 44) (tgt := 559) C h6 dL_law_44 (by decide) (by decide) rfl (by decide) ?_
        refine q_sub (lvq := [(0, .ref b), (1, .ref (g 0)), (2, .ref (ga 0)), (3, .ref xo), (4, .ref xd), (5, .int v5)]) [0, 1, 2, 3, 4, 5] rfl ?_
        exact w_L_law_559 C CS hQ hk28 (kc) (ks) v5 S ad ws hf hW
      have hf := q_iteF hf h6
      by_cases h7 : ((xs v5.toNatClampNeg) &&& (63 : Int32)) = (6 : Int32)
      · have hf := q_iteT hf h7
        refine q_tabIn (pc := 44) (tgt := 615) C h7 dL_law_44 (by decide) (by decide) rfl (by decide) ?_
        refine q_sub (lvq := [(0, .ref b), (1, .ref (g 0)), (2, .ref (ga 0)), (3, .ref xo), (4, .ref xd), (5, .int v5)]) [0, 1, 2, 3, 4, 5] rfl ?_
        exact w_L_law_615 C CS hQ hk28 (kc) (ks) v5 S ad ws hf hW
      have hf := q_iteF hf h7
      by_cases h8 : ((xs v5.toNatClampNeg) &&& (63 : Int32)) = (7 : Int32)
      · have hf := q_iteT hf h8
        refine q_tabIn (pc := 44) (tgt := 678) C h8 dL_law_44 (by decide) (by decide) rfl (by decide) ?_
        refine q_sub (lvq := [(0, .ref b), (1, .ref (g 0)), (2, .ref (ga 0)), (3, .ref xo), (4, .ref xd), (5, .int v5)]) [0, 1, 2, 3, 4, 5] rfl ?_
        exact w_L_law_678 C CS hQ hk28 (kc) (ks) v5 S ad ws hf hW
      have hf := q_iteF hf h8
      by_cases h9 : ((xs v5.toNatClampNeg) &&& (63 : Int32)) = (8 : Int32)
      · have hf := q_iteT hf h9
        refine q_tabIn (pc := 44) (tgt := 734) C h9 dL_law_44 (by decide) (by decide) rfl (by decide) ?_
        refine q_sub (lvq := [(0, .ref b), (1, .ref (g 0)), (2, .ref (ga 0)), (3, .ref xo), (4, .ref xd), (5, .int v5)]) [0, 1, 2, 3, 4, 5] rfl ?_
        exact w_L_law_734 C CS hQ hk28 (kc) (ks) v5 S ad ws hf hW
      have hf := q_iteF hf h9
      by_cases h10 : ((xs v5.toNatClampNeg) &&& (63 : Int32)) = (9 : Int32)
      · have hf := q_iteT hf h10
        refine q_tabIn (pc := 44) (tgt := 747) C h10 dL_law_44 (by decide) (by decide) rfl (by decide) ?_
        refine q_sub (lvq := [(0, .ref b), (1, .ref (g 0)), (2, .ref (ga 0)), (3, .ref xo), (4, .ref xd), (5, .int v5)]) [0, 1, 2, 3, 4, 5] rfl ?_
        exact w_L_law_747 C CS hQ hk28 (kc) (ks) v5 S ad ws hf hW
      have hf := q_iteF hf h10
      by_cases h11 : ((xs v5.toNatClampNeg) &&& (63 : Int32)) = (10 : Int32)
      · have hf := q_iteT hf h11
        refine q_tabIn (pc := 44) (tgt := 803) C h11 dL_law_44 (by decide) (by decide) rfl (by decide) ?_
        refine q_sub (lvq := [(0, .ref b), (1, .ref (g 0)), (2, .ref (ga 0)), (3, .ref xo), (4, .ref xd), (5, .int v5)]) [0, 1, 2, 3, 4, 5] rfl ?_
        exact w_L_law_803 C CS hQ hk28 (kc) (ks) v5 S ad ws hf hW
      have hf := q_iteF hf h11
      by_cases h12 : ((xs v5.toNatClampNeg) &&& (63 : Int32)) = (11 : Int32)
      · have hf := q_iteT hf h12
        refine q_tabIn (pc := 44) (tgt := 866) C h12 dL_law_44 (by decide) (by decide) rfl (by decide) ?_
        refine q_sub (lvq := [(0, .ref b), (1, .ref (g 0)), (2, .ref (ga 0)), (3, .ref xo), (4, .ref xd), (5, .int v5)]) [0, 1, 2, 3, 4, 5] rfl ?_
        exact w_L_law_866 C CS hQ hk28 (kc) (ks) v5 S ad ws hf hW
      have hf := q_iteF hf h12
      by_cases h13 : ((xs v5.toNatClampNeg) &&& (63 : Int32)) = (12 : Int32)
      · have hf := q_iteT hf h13
        refine q_tabIn (pc := 44) (tgt := 879) C h13 dL_law_44 (by decide) (by decide) rfl (by decide) ?_
        refine q_sub (lvq := [(0, .ref b), (1, .ref (g 0)), (2, .ref (ga 0)), (3, .ref xo), (4, .ref xd), (5, .int v5)]) [0, 1, 2, 3, 4, 5] rfl ?_
        exact w_L_law_879 C CS hQ hk28 (kc) (ks) v5 S ad ws hf hW
      have hf := q_iteF hf h13
      by_cases h14 : ((xs v5.toNatClampNeg) &&& (63 : Int32)) = (13 : Int32)
      · have hf := q_iteT hf h14
        refine q_tabIn (pc := 44) (tgt := 935) C h14 dL_law_44 (by decide) (by decide) rfl (by decide) ?_
        refine q_sub (lvq := [(0, .ref b), (1, .ref (g 0)), (2, .ref (ga 0)), (3, .ref xo), (4, .ref xd), (5, .int v5)]) [0, 1, 2, 3, 4, 5] rfl ?_
        exact w_L_law_935 C CS hQ hk28 (kc) (ks) v5 S ad ws hf hW
      have hf := q_iteF hf h14
      by_cases h15 : ((xs v5.toNatClampNeg) &&& (63 : Int32)) = (14 : Int32)
      · have hf := q_iteT hf h15
        refine q_tabIn (pc := 44) (tgt := 979) C h15 dL_law_44 (by decide) (by decide) rfl (by decide) ?_
        refine q_sub (lvq := [(0, .ref b), (1, .ref (g 0)), (2, .ref (ga 0)), (3, .ref xo), (4, .ref xd), (5, .int v5)]) [0, 1, 2, 3, 4, 5] rfl ?_
        exact w_L_law_979 C CS hQ hk28 (kc) (ks) v5 S ad ws hf hW
      have hf := q_iteF hf h15
      by_cases h16 : ((xs v5.toNatClampNeg) &&& (63 : Int32)) = (15 : Int32)
      · have hf := q_iteT hf h16
        refine q_tabIn (pc := 44) (tgt := 1023) C h16 dL_law_44 (by decide) (by decide) rfl (by decide) ?_
        refine q_sub (lvq := [(0, .ref b), (1, .ref (g 0)), (2, .ref (ga 0)), (3, .ref xo), (4, .ref xd), (5, .int v5)]) [0, 1, 2, 3, 4, 5] rfl ?_
        exact w_L_law_1023 C CS hQ hk28 (kc) (ks) v5 S ad ws hf hW
      have hf := q_iteF hf h16
      by_cases h17 : ((xs v5.toNatClampNeg) &&& (63 : Int32)) = (16 : Int32)
      · have hf := q_iteT hf h17
        refine q_tabIn (pc := 44) (tgt := 1067) C h17 dL_law_44 (by decide) (by decide) rfl (by decide) ?_
        refine q_sub (lvq := [(0, .ref b), (1, .ref (g 0)), (2, .ref (ga 0)), (3, .ref xo), (4, .ref xd), (5, .int v5)]) [0, 1, 2, 3, 4, 5] rfl ?_
        exact w_L_law_1067 C CS hQ hk28 (kc) (ks) v5 S ad ws hf hW
      have hf := q_iteF hf h17
      by_cases h18 : ((xs v5.toNatClampNeg) &&& (63 : Int32)) = (17 : Int32)
      · have hf := q_iteT hf h18
        refine q_tabIn (pc := 44) (tgt := 1130) C h18 dL_law_44 (by decide) (by decide) rfl (by decide) ?_
        refine q_sub (lvq := [(0, .ref b), (1, .ref (g 0)), (2, .ref (ga 0)), (3, .ref xo), (4, .ref xd), (5, .int v5)]) [0, 1, 2, 3, 4, 5] rfl ?_
        exact w_L_law_1130 C CS hQ hk28 (kc) (ks) v5 S ad ws hf hW
      have hf := q_iteF hf h18
      by_cases h19 : ((xs v5.toNatClampNeg) &&& (63 : Int32)) = (18 : Int32)
      · have hf := q_iteT hf h19
        refine q_tabIn (pc := 44) (tgt := 1143) C h19 dL_law_44 (by decide) (by decide) rfl (by decide) ?_
        refine q_sub (lvq := [(0, .ref b), (1, .ref (g 0)), (2, .ref (ga 0)), (3, .ref xo), (4, .ref xd), (5, .int v5)]) [0, 1, 2, 3, 4, 5] rfl ?_
        exact w_L_law_1143 C CS hQ hk28 (kc) (ks) v5 S ad ws hf hW
      have hf := q_iteF hf h19
      by_cases h20 : ((xs v5.toNatClampNeg) &&& (63 : Int32)) = (19 : Int32)
      · have hf := q_iteT hf h20
        refine q_tabIn (pc := 44) (tgt := 1199) C h20 dL_law_44 (by decide) (by decide) rfl (by decide) ?_
        refine q_sub (lvq := [(0, .ref b), (1, .ref (g 0)), (2, .ref (ga 0)), (3, .ref xo), (4, .ref xd), (5, .int v5)]) [0, 1, 2, 3, 4, 5] rfl ?_
        exact w_L_law_1199 C CS hQ hk28 (kc) (ks) v5 S ad ws hf hW
      have hf := q_iteF hf h20
      by_cases h21 : ((xs v5.toNatClampNeg) &&& (63 : Int32)) = (20 : Int32)
      · have hf := q_iteT hf h21
        refine q_tabIn (pc := 44) (tgt := 1212) C h21 dL_law_44 (by decide) (by decide) rfl (by decide) ?_
        refine q_sub (lvq := [(0, .ref b), (1, .ref (g 0)), (2, .ref (ga 0)), (3, .ref xo), (4, .ref xd), (5, .int v5)]) [0, 1, 2, 3, 4, 5] rfl ?_
        exact w_L_law_1212 C CS hQ hk28 (kc) (ks) v5 S ad ws hf hW
      have hf := q_iteF hf h21
      by_cases h22 : ((xs v5.toNatClampNeg) &&& (63 : Int32)) = (21 : Int32)
      · have hf := q_iteT hf h22
        refine q_tabIn (pc := 44) (tgt := 1225) C h22 dL_law_44 (by decide) (by decide) rfl (by decide) ?_
        refine q_sub (lvq := [(0, .ref b), (1, .ref (g 0)), (2, .ref (ga 0)), (3, .ref xo), (4, .ref xd), (5, .int v5)]) [0, 1, 2, 3, 4, 5] rfl ?_
        exact w_L_law_1225 C CS hQ hk28 (kc) (ks) v5 S ad ws hf hW
      have hf := q_iteF hf h22
      by_cases h23 : ((xs v5.toNatClampNeg) &&& (63 : Int32)) = (22 : Int32)
      · have hf := q_iteT hf h23
        refine q_tabIn (pc := 44) (tgt := 1281) C h23 dL_law_44 (by decide) (by decide) rfl (by decide) ?_
        refine q_sub (lvq := [(0, .ref b), (1, .ref (g 0)), (2, .ref (ga 0)), (3, .ref xo), (4, .ref xd), (5, .int v5)]) [0, 1, 2, 3, 4, 5] rfl ?_
        exact w_L_law_1281 C CS hQ hk28 (kc) (ks) v5 S ad ws hf hW
      have hf := q_iteF hf h23
      by_cases h24 : ((xs v5.toNatClampNeg) &&& (63 : Int32)) = (23 : Int32)
      · have hf := q_iteT hf h24
        refine q_tabIn (pc := 44) (tgt := 1337) C h24 dL_law_44 (by decide) (by decide) rfl (by decide) ?_
        refine q_sub (lvq := [(0, .ref b), (1, .ref (g 0)), (2, .ref (ga 0)), (3, .ref xo), (4, .ref xd), (5, .int v5)]) [0, 1, 2, 3, 4, 5] rfl ?_
        exact w_L_law_1337 C CS hQ hk28 (kc) (ks) v5 S ad ws hf hW
      have hf := q_iteF hf h24
      by_cases h25 : ((xs v5.toNatClampNeg) &&& (63 : Int32)) = (24 : Int32)
      · have hf := q_iteT hf h25
        refine q_tabIn (pc := 44) (tgt := 1428) C h25 dL_law_44 (by decide) (by decide) rfl (by decide) ?_
        refine q_sub (lvq := [(0, .ref b), (1, .ref (g 0)), (2, .ref (ga 0)), (3, .ref xo), (4, .ref xd), (5, .int v5)]) [0, 1, 2, 3, 4, 5] rfl ?_
        exact w_L_law_1428 C CS hQ hk28 (kc) (ks) v5 S ad ws hf hW
      have hf := q_iteF hf h25
      by_cases h26 : ((xs v5.toNatClampNeg) &&& (63 : Int32)) = (25 : Int32)
      · have hf := q_iteT hf h26
        refine q_tabIn (pc := 44) (tgt := 1484) C h26 dL_law_44 (by decide) (by decide) rfl (by decide) ?_
        refine q_sub (lvq := [(0, .ref b), (1, .ref (g 0)), (2, .ref (ga 0)), (3, .ref xo), (4, .ref xd), (5, .int v5)]) [0, 1, 2, 3, 4, 5] rfl ?_
        exact w_L_law_1484 C CS hQ hk28 (kc) (ks) v5 S ad ws hf hW
      have hf := q_iteF hf h26
      by_cases h27 : ((xs v5.toNatClampNeg) &&& (63 : Int32)) = (26 : Int32)
      · have hf := q_iteT hf h27
        refine q_tabIn (pc := 44) (tgt := 1528) C h27 dL_law_44 (by decide) (by decide) rfl (by decide) ?_
        refine q_sub (lvq := [(0, .ref b), (1, .ref (g 0)), (2, .ref (ga 0)), (3, .ref xo), (4, .ref xd), (5, .int v5)]) [0, 1, 2, 3, 4, 5] rfl ?_
        exact w_L_law_1528 C CS hQ hk28 (kc) (ks) v5 S ad ws hf hW
      have hf := q_iteF hf h27
      by_cases h28 : ((xs v5.toNatClampNeg) &&& (63 : Int32)) = (27 : Int32)
      · have hf := q_iteT hf h28
        refine q_tabIn (pc := 44) (tgt := 1600) C h28 dL_law_44 (by decide) (by decide) rfl (by decide) ?_
        refine q_sub (lvq := [(0, .ref b), (1, .ref (g 0)), (2, .ref (ga 0)), (3, .ref xo), (4, .ref xd), (5, .int v5)]) [0, 1, 2, 3, 4, 5] rfl ?_
        exact w_L_law_1600 C CS hQ hk28 (kc) (ks) v5 S ad ws hf hW
      have hf := q_iteF hf h28
      by_cases h29 : ((xs v5.toNatClampNeg) &&& (63 : Int32)) = (28 : Int32)
      · have hf := q_iteT hf h29
        refine q_tabIn (pc := 44) (tgt := 1682) C h29 dL_law_44 (by decide) (by decide) rfl (by decide) ?_
        refine q_sub (lvq := [(0, .ref b), (1, .ref (g 0)), (2, .ref (ga 0)), (3, .ref xo), (4, .ref xd), (5, .int v5)]) [0, 1, 2, 3, 4, 5] rfl ?_
        exact w_L_law_1682 C CS hQ hk28 (kc) (ks) v5 S ad ws hf hW
      have hf := q_iteF hf h29
      by_cases h30 : ((xs v5.toNatClampNeg) &&& (63 : Int32)) = (29 : Int32)
      · have hf := q_iteT hf h30
        refine q_tabIn (pc := 44) (tgt := 1757) C h30 dL_law_44 (by decide) (by decide) rfl (by decide) ?_
        refine q_sub (lvq := [(0, .ref b), (1, .ref (g 0)), (2, .ref (ga 0)), (3, .ref xo), (4, .ref xd), (5, .int v5)]) [0, 1, 2, 3, 4, 5] rfl ?_
        exact w_L_law_1757 C CS hQ hk28 (kc) (ks) v5 S ad ws hf hW
      have hf := q_iteF hf h30
      by_cases h31 : ((xs v5.toNatClampNeg) &&& (63 : Int32)) = (30 : Int32)
      · have hf := q_iteT hf h31
        refine q_tabIn (pc := 44) (tgt := 1825) C h31 dL_law_44 (by decide) (by decide) rfl (by decide) ?_
        refine q_sub (lvq := [(0, .ref b), (1, .ref (g 0)), (2, .ref (ga 0)), (3, .ref xo), (4, .ref xd), (5, .int v5)]) [0, 1, 2, 3, 4, 5] rfl ?_
        exact w_L_law_1825 C CS hQ hk28 (kc) (ks) v5 S ad ws hf hW
      have hf := q_iteF hf h31
      by_cases h32 : ((xs v5.toNatClampNeg) &&& (63 : Int32)) = (31 : Int32)
      · have hf := q_iteT hf h32
        refine q_tabIn (pc := 44) (tgt := 1869) C h32 dL_law_44 (by decide) (by decide) rfl (by decide) ?_
        refine q_sub (lvq := [(0, .ref b), (1, .ref (g 0)), (2, .ref (ga 0)), (3, .ref xo), (4, .ref xd), (5, .int v5)]) [0, 1, 2, 3, 4, 5] rfl ?_
        exact w_L_law_1869 C CS hQ hk28 (kc) (ks) v5 S ad ws hf hW
      have hf := q_iteF hf h32
      by_cases h33 : ((xs v5.toNatClampNeg) &&& (63 : Int32)) = (32 : Int32)
      · have hf := q_iteT hf h33
        refine q_tabIn (pc := 44) (tgt := 1965) C h33 dL_law_44 (by decide) (by decide) rfl (by decide) ?_
        refine q_sub (lvq := [(0, .ref b), (1, .ref (g 0)), (2, .ref (ga 0)), (3, .ref xo), (4, .ref xd), (5, .int v5)]) [0, 1, 2, 3, 4, 5] rfl ?_
        exact w_L_law_1965 C CS hQ hk28 (kc) (ks) v5 S ad ws hf hW
      have hf := q_iteF hf h33
      by_cases h34 : ((xs v5.toNatClampNeg) &&& (63 : Int32)) = (33 : Int32)
      · have hf := q_iteT hf h34
        refine q_tabIn (pc := 44) (tgt := 2016) C h34 dL_law_44 (by decide) (by decide) rfl (by decide) ?_
        refine q_sub (lvq := [(0, .ref b), (1, .ref (g 0)), (2, .ref (ga 0)), (3, .ref xo), (4, .ref xd), (5, .int v5)]) [0, 1, 2, 3, 4, 5] rfl ?_
        exact w_L_law_2016 C CS hQ hk28 (kc) (ks) v5 S ad ws hf hW
      have hf := q_iteF hf h34
      by_cases h35 : ((xs v5.toNatClampNeg) &&& (63 : Int32)) = (34 : Int32)
      · have hf := q_iteT hf h35
        refine q_tabIn (pc := 44) (tgt := 2060) C h35 dL_law_44 (by decide) (by decide) rfl (by decide) ?_
        refine q_sub (lvq := [(0, .ref b), (1, .ref (g 0)), (2, .ref (ga 0)), (3, .ref xo), (4, .ref xd), (5, .int v5)]) [0, 1, 2, 3, 4, 5] rfl ?_
        exact w_L_law_2060 C CS hQ hk28 (kc) (ks) v5 S ad ws hf hW
      have hf := q_iteF hf h35
      by_cases h36 : ((xs v5.toNatClampNeg) &&& (63 : Int32)) = (35 : Int32)
      · have hf := q_iteT hf h36
        refine q_tabIn (pc := 44) (tgt := 2116) C h36 dL_law_44 (by decide) (by decide) rfl (by decide) ?_
        refine q_sub (lvq := [(0, .ref b), (1, .ref (g 0)), (2, .ref (ga 0)), (3, .ref xo), (4, .ref xd), (5, .int v5)]) [0, 1, 2, 3, 4, 5] rfl ?_
        exact w_L_law_2116 C CS hQ hk28 (kc) (ks) v5 S ad ws hf hW
      have hf := q_iteF hf h36
      by_cases h37 : ((xs v5.toNatClampNeg) &&& (63 : Int32)) = (36 : Int32)
      · have hf := q_iteT hf h37
        refine q_tabIn (pc := 44) (tgt := 2172) C h37 dL_law_44 (by decide) (by decide) rfl (by decide) ?_
        refine q_sub (lvq := [(0, .ref b), (1, .ref (g 0)), (2, .ref (ga 0)), (3, .ref xo), (4, .ref xd), (5, .int v5)]) [0, 1, 2, 3, 4, 5] rfl ?_
        exact w_L_law_2172 C CS hQ hk28 (kc) (ks) v5 S ad ws hf hW
      have hf := q_iteF hf h37
      by_cases h38 : ((xs v5.toNatClampNeg) &&& (63 : Int32)) = (37 : Int32)
      · have hf := q_iteT hf h38
        refine q_tabIn (pc := 44) (tgt := 2185) C h38 dL_law_44 (by decide) (by decide) rfl (by decide) ?_
        refine q_sub (lvq := [(0, .ref b), (1, .ref (g 0)), (2, .ref (ga 0)), (3, .ref xo), (4, .ref xd), (5, .int v5)]) [0, 1, 2, 3, 4, 5] rfl ?_
        exact w_L_law_2185 C CS hQ hk28 (kc) (ks) v5 S ad ws hf hW
      have hf := q_iteF hf h38
      by_cases h39 : ((xs v5.toNatClampNeg) &&& (63 : Int32)) = (38 : Int32)
      · have hf := q_iteT hf h39
        refine q_tabIn (pc := 44) (tgt := 2198) C h39 dL_law_44 (by decide) (by decide) rfl (by decide) ?_
        refine q_sub (lvq := [(0, .ref b), (1, .ref (g 0)), (2, .ref (ga 0)), (3, .ref xo), (4, .ref xd), (5, .int v5)]) [0, 1, 2, 3, 4, 5] rfl ?_
        exact w_L_law_2198 C CS hQ hk28 (kc) (ks) v5 S ad ws hf hW
      have hf := q_iteF hf h39
      by_cases h40 : ((xs v5.toNatClampNeg) &&& (63 : Int32)) = (39 : Int32)
      · have hf := q_iteT hf h40
        refine q_tabIn (pc := 44) (tgt := 2254) C h40 dL_law_44 (by decide) (by decide) rfl (by decide) ?_
        refine q_sub (lvq := [(0, .ref b), (1, .ref (g 0)), (2, .ref (ga 0)), (3, .ref xo), (4, .ref xd), (5, .int v5)]) [0, 1, 2, 3, 4, 5] rfl ?_
        exact w_L_law_2254 C CS hQ hk28 (kc) (ks) v5 S ad ws hf hW
      have hf := q_iteF hf h40
      by_cases h41 : ((xs v5.toNatClampNeg) &&& (63 : Int32)) = (40 : Int32)
      · have hf := q_iteT hf h41
        refine q_tabIn (pc := 44) (tgt := 2322) C h41 dL_law_44 (by decide) (by decide) rfl (by decide) ?_
        refine q_sub (lvq := [(0, .ref b), (1, .ref (g 0)), (2, .ref (ga 0)), (3, .ref xo), (4, .ref xd), (5, .int v5)]) [0, 1, 2, 3, 4, 5] rfl ?_
        exact w_L_law_2322 C CS hQ hk28 (kc) (ks) v5 S ad ws hf hW
      have hf := q_iteF hf h41
      by_cases h42 : ((xs v5.toNatClampNeg) &&& (63 : Int32)) = (41 : Int32)
      · have hf := q_iteT hf h42
        refine q_tabIn (pc := 44) (tgt := 2335) C h42 dL_law_44 (by decide) (by decide) rfl (by decide) ?_
        refine q_sub (lvq := [(0, .ref b), (1, .ref (g 0)), (2, .ref (ga 0)), (3, .ref xo), (4, .ref xd), (5, .int v5)]) [0, 1, 2, 3, 4, 5] rfl ?_
        exact w_L_law_2335 C CS hQ hk28 (kc) (ks) v5 S ad ws hf hW
      have hf := q_iteF hf h42
      by_cases h43 : ((xs v5.toNatClampNeg) &&& (63 : Int32)) = (42 : Int32)
      · have hf := q_iteT hf h43
        refine q_tabIn (pc := 44) (tgt := 2379) C h43 dL_law_44 (by decide) (by decide) rfl (by decide) ?_
        refine q_sub (lvq := [(0, .ref b), (1, .ref (g 0)), (2, .ref (ga 0)), (3, .ref xo), (4, .ref xd), (5, .int v5)]) [0, 1, 2, 3, 4, 5] rfl ?_
        exact w_L_law_2379 C CS hQ hk28 (kc) (ks) v5 S ad ws hf hW
      have hf := q_iteF hf h43
      by_cases h44 : ((xs v5.toNatClampNeg) &&& (63 : Int32)) = (43 : Int32)
      · have hf := q_iteT hf h44
        refine q_tabIn (pc := 44) (tgt := 2393) C h44 dL_law_44 (by decide) (by decide) rfl (by decide) ?_
        refine q_sub (lvq := [(0, .ref b), (1, .ref (g 0)), (2, .ref (ga 0)), (3, .ref xo), (4, .ref xd), (5, .int v5)]) [0, 1, 2, 3, 4, 5] rfl ?_
        exact w_L_law_2393 C CS hQ hk28 (kc) (ks) v5 S ad ws hf hW
      have hf := q_iteF hf h44
      by_cases h45 : ((xs v5.toNatClampNeg) &&& (63 : Int32)) = (44 : Int32)
      · have hf := q_iteT hf h45
        refine q_tabIn (pc := 44) (tgt := 2459) C h45 dL_law_44 (by decide) (by decide) rfl (by decide) ?_
        refine q_sub (lvq := [(0, .ref b), (1, .ref (g 0)), (2, .ref (ga 0)), (3, .ref xo), (4, .ref xd), (5, .int v5)]) [0, 1, 2, 3, 4, 5] rfl ?_
        exact w_L_law_2459 C CS hQ hk28 (kc) (ks) v5 S ad ws hf hW
      have hf := q_iteF hf h45
      by_cases h46 : ((xs v5.toNatClampNeg) &&& (63 : Int32)) = (45 : Int32)
      · have hf := q_iteT hf h46
        refine q_tabIn (pc := 44) (tgt := 2524) C h46 dL_law_44 (by decide) (by decide) rfl (by decide) ?_
        refine q_sub (lvq := [(0, .ref b), (1, .ref (g 0)), (2, .ref (ga 0)), (3, .ref xo), (4, .ref xd), (5, .int v5)]) [0, 1, 2, 3, 4, 5] rfl ?_
        exact w_L_law_2524 C CS hQ hk28 (kc) (ks) v5 S ad ws hf hW
      have hf := q_iteF hf h46
      cases hf
