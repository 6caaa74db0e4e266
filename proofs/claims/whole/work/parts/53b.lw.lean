set_option maxRecDepth 100000 in
set_option maxHeartbeats 8000000 in
theorem w_L_law_803 {p : Program} {l : Launch} {e : Env} {s : State} {m : MethodId} {args : Array Value} {below : List Frame} {meth : Method} {c : Code} {D : va_G} {cc : Nat → ClassId} {N0 : Nat} {Q : State → Prop} {g ga : Nat → Nat} {xo xd b L : Nat} {xs : Nat → Int32} {k28 : Nat → Nat → Int32 → LSt → Option Bool} (C : q_C p s m args meth c cL_law 9 (some .boolean) wsL_law RL D cc N0) (CS : l.stackTraces = false ∧ va_X b L xs s s.heap ∧ b < s.heap.size ∧ ¬ q_A N0 b) (hQ : ∀ (kc ks : Nat) (ws : va_W) (pc : Nat) (lv : List (Nat × Value)), kc ≤ room_1.cells → ks ≤ room_1.slots → decode cL_law pc = .ok (.ireturn, 1) → q_WA p l e room_1 s m args below meth c D N0 9 Q kc ks ws pc lv [.int 1]) (hk28 : ∀ (kc ks : Nat) (v5 : Int32) (S : LSt) (ad : Nat → Nat → Nat) (ws : va_W), k28 kc ks v5 S = some true → LW cc g ga xo xd ad S [] ws → q_WA p l e room_1 s m args below meth c D N0 9 Q kc ks ws 28 [(0, .ref b), (1, .ref (g 0)), (2, .ref (ga 0)), (3, .ref xo), (4, .ref xd), (5, .int v5)] []) (kc ks : Nat) (v5 : Int32) (S : LSt) (ad : Nat → Nat → Nat) (ws : va_W) : f_L_law_803 L xs k28 kc ks v5 S = some true → LW cc g ga xo xd ad S [] ws → q_WA p l e room_1 s m args below meth c D N0 9 Q kc ks ws 803 [(0, .ref b), (1, .ref (g 0)), (2, .ref (ga 0)), (3, .ref xo), (4, .ref xd), (5, .int v5)] [] := by
  intro hf hW
  obtain ⟨hr, hf⟩ := q_gd hf
  obtain ⟨hr1, hr2⟩ := hr
  refine q_aload_n (pc := 803) C dL_law_803 rfl 1 rfl ?_
  refine q_aload_n (pc := 804) C dL_law_804 rfl 0 rfl ?_
  refine q_iload (pc := 805) C dL_law_805 5 rfl ?_
  refine q_iconst (pc := 807) C (1 : Int32) dL_law_807 q_ci_1 ?_
  refine q_iadd (pc := 808) C dL_law_808 ?_
  obtain ⟨g113, hf⟩ := q_gd hf
  refine q_sld (pc := 809) C CS.2.1 CS.2.2.1 CS.2.2.2 g113 dL_law_809 ?_
  refine q_aload_n (pc := 810) C dL_law_810 rfl 3 rfl ?_
  obtain ⟨u114, e115, hf⟩ := q_bind hf
  obtain ⟨T, hp, hb⟩ := hW.cls
  refine q_perm hp ?_
  refine q_callSH (pc := 811) (As := [.ref (g 0), .int (xs (v5 + (1 : Int32)).toNatClampNeg), .ref xo]) (rest := []) C (c_L_isAlive l CS.1 D cc N0 g xo (ld5 cc xd S.2.2.2 :: T) S.2.1 (xs (v5 + (1 : Int32)).toNatClampNeg) S.2.2.1 u114 e115) gL_law_L_isAlive rfl z_L_isAlive ⟨(Nat.le_of_ble_eq_true rfl), (Nat.le_of_ble_eq_true rfl)⟩ rfl rfl (Nat.le_of_ble_eq_true rfl) dL_law_811 ⟨(by show (kc) + 1 ≤ room_1.cells; omega), (by show (ks) + 6 ≤ room_1.slots; omega)⟩ ?_
  rintro _ _ ⟨rfl, rfl⟩
  have hW := hb (S.1, u114.2.2, u114.2.1, S.2.2.2) rfl
  refine LW.ren hW (fun ws hW => ?_)
  refine q_nm (wz := ws) (ka := kc + 1) (kb := ks + 6) (sz := [.int u114.1]) rfl (by omega) (by omega) rfl ?_
  refine q_istore (pc := 814) (lvq := [(6, .int u114.1), (0, .ref b), (1, .ref (g 0)), (2, .ref (ga 0)), (3, .ref xo), (4, .ref xd), (5, .int v5)]) C dL_law_814 (by decide) rfl ?_
  refine q_aload_n (pc := 816) C dL_law_816 rfl 3 rfl ?_
  refine q_aload_n (pc := 817) C dL_law_817 rfl 1 rfl ?_
  refine q_iload (pc := 818) C dL_law_818 6 rfl ?_
  refine q_iconst (pc := 820) C (1 : Int32) dL_law_820 q_ci_1 ?_
  refine q_iadd (pc := 821) C dL_law_821 ?_
  obtain ⟨g116, hf⟩ := q_gd hf
  refine q_sld (pc := 822) C CS.2.1 CS.2.2.1 CS.2.2.2 g116 dL_law_822 ?_
  obtain ⟨u117, e118, hf⟩ := q_bind hf
  obtain ⟨_, he⟩ := hW.obj
  refine q_callV (pc := 823) (As := [.int (xs (v5 + (1 : Int32)).toNatClampNeg)]) (rest := []) C (c_X9_isAlive l D cc N0 ga ad  (LG cc g xo xd (S.1, u114.2.2, u114.2.1, S.2.2.2) ++ []) (S.1, u114.2.2, u114.2.1, S.2.2.2).1 (xs (v5 + (1 : Int32)).toNatClampNeg) u117 e118 ws hW) gL_law_X9_isAlive rfl rfl z_X9_isAlive ⟨(Nat.le_of_ble_eq_true rfl), (Nat.le_of_ble_eq_true rfl)⟩ he rfl rfl rfl (Nat.le_of_ble_eq_true rfl) dL_law_823 ⟨(by show (kc + 1) + 0 ≤ room_1.cells; omega), (by show (ks + 6) + 0 ≤ room_1.slots; omega)⟩ ?_
  rintro _ ws ⟨rfl, hW⟩
  have hW : LW cc g ga xo xd ad (u117.2, (S.1, u114.2.2, u114.2.1, S.2.2.2).2) [] ws := hW
  refine q_nm (wz := ws) (ka := kc + 1) (kb := ks + 6) (sz := [.int (q_b u117.1)]) rfl (by omega) (by omega) rfl ?_
  refine q_istore (pc := 826) (lvq := [(7, .int (q_b u117.1)), (6, .int u114.1), (0, .ref b), (1, .ref (g 0)), (2, .ref (ga 0)), (3, .ref xo), (4, .ref xd), (5, .int v5)]) C dL_law_826 (by decide) rfl ?_
  refine q_aload_n (pc := 828) C dL_law_828 rfl 4 rfl ?_
  obtain ⟨u119, e120, hf⟩ := q_bind hf
  obtain ⟨_, he⟩ := hW.obj
  refine q_callV (pc := 829) (As := []) (rest := []) C (c_X9_thrown l D cc N0 ga ad  (LG cc g xo xd (u117.2, (S.1, u114.2.2, u114.2.1, S.2.2.2).2) ++ []) (u117.2, (S.1, u114.2.2, u114.2.1, S.2.2.2).2).1  u119 e120 ws hW) gL_law_X9_thrown rfl rfl z_X9_thrown ⟨(Nat.le_of_ble_eq_true rfl), (Nat.le_of_ble_eq_true rfl)⟩ he rfl rfl rfl (Nat.le_of_ble_eq_true rfl) dL_law_829 ⟨(by show (kc + 1) + 0 ≤ room_1.cells; omega), (by show (ks + 6) + 0 ≤ room_1.slots; omega)⟩ ?_
  rintro _ ws ⟨rfl, hW⟩
  have hW : LW cc g ga xo xd ad (u117.2, (S.1, u114.2.2, u114.2.1, S.2.2.2).2) [] ws := hW
  refine q_nm (wz := ws) (ka := kc + 1) (kb := ks + 6) (sz := [.int u119]) rfl (by omega) (by omega) rfl ?_
  refine q_iload (pc := 832) C dL_law_832 1 rfl ?_
  refine q_icmp_eq (pc := 834) (tgt := 839) C dL_law_834 (by decide) (fun c121 => ?_) (fun c121 => ?_)
  · have hf := q_iteT hf c121
    refine q_iload (pc := 839) C dL_law_839 1 rfl ?_
    refine q_if_ne (pc := 841) (tgt := 863) C dL_law_841 (by decide) (fun c122 => ?_) (fun c122 => ?_)
    · have hf := q_iteF hf c122
      refine q_sub (lvq := [(0, .ref b), (1, .ref (g 0)), (2, .ref (ga 0)), (3, .ref xo), (4, .ref xd), (5, .int v5)]) [2, 3, 4, 5, 6, 7] rfl ?_
      exact w_L_law_863 C CS hQ hk28 (kc + 1) (ks + 6) v5 (u117.2, (S.1, u114.2.2, u114.2.1, S.2.2.2).2) ad ws hf hW
    · have hf := q_iteT hf c122
      refine q_aload_n (pc := 844) C dL_law_844 rfl 5 rfl ?_
      refine q_iconst (pc := 845) C (0 : Int32) dL_law_845 q_ci_0 ?_
      refine LW.lald (pc := 846) hW C dL_law_846 ?_
      refine q_iload (pc := 847) C dL_law_847 0 rfl ?_
      refine q_if_eq (pc := 849) (tgt := 856) C dL_law_849 (by decide) (fun c123 => ?_) (fun c123 => ?_)
      · have hf := q_iteT hf c123
        refine q_lconst (pc := 856) C (0 : Int64) dL_law_856 q_cl_0 ?_
        refine q_sub (lvq := [(0, .ref b), (1, .ref (g 0)), (2, .ref (ga 0)), (3, .ref xo), (4, .ref xd), (5, .int v5)]) [2, 3, 4, 5, 6, 7] rfl ?_
        exact w_L_law_857 C CS hQ hk28 (kc + 1) (ks + 6) v5 (0 : Int64) ((u117.2, (S.1, u114.2.2, u114.2.1, S.2.2.2).2).2.2.1 0) (u117.2, (S.1, u114.2.2, u114.2.1, S.2.2.2).2) ad ws hf hW
      · have hf := q_iteF hf c123
        refine q_lconst (pc := 852) C (1 : Int64) dL_law_852 q_cl_1 ?_
        refine q_goto (pc := 853) (tgt := 857) C dL_law_853 (by decide) ?_
        refine q_sub (lvq := [(0, .ref b), (1, .ref (g 0)), (2, .ref (ga 0)), (3, .ref xo), (4, .ref xd), (5, .int v5)]) [2, 3, 4, 5, 6, 7] rfl ?_
        exact w_L_law_857 C CS hQ hk28 (kc + 1) (ks + 6) v5 (1 : Int64) ((u117.2, (S.1, u114.2.2, u114.2.1, S.2.2.2).2).2.2.1 0) (u117.2, (S.1, u114.2.2, u114.2.1, S.2.2.2).2) ad ws hf hW
  · have hf := q_iteF hf c121
    refine q_iconst (pc := 837) C (0 : Int32) dL_law_837 q_ci_0 ?_
    cases hf
set_option maxRecDepth 100000 in
set_option maxHeartbeats 8000000 in
theorem w_L_law_866 {p : Program} {l : Launch} {e : Env} {s : State} {m : MethodId} {args : Array Value} {below : List Frame} {meth : Method} {c : Code} {D : va_G} {cc : Nat → ClassId} {N0 : Nat} {Q : State → Prop} {g ga : Nat → Nat} {xo xd b L : Nat} {xs : Nat → Int32} {k28 : Nat → Nat → Int32 → LSt → Option Bool} (C : q_C p s m args meth c cL_law 9 (some .boolean) wsL_law RL D cc N0) (CS : l.stackTraces = false ∧ va_X b L xs s s.heap ∧ b < s.heap.size ∧ ¬ q_A N0 b) (hQ : ∀ (kc ks : Nat) (ws : va_W) (pc : Nat) (lv : List (Nat × Value)), kc ≤ room_1.cells → ks ≤ room_1.slots → decode cL_law pc = .ok (.ireturn, 1) → q_WA p l e room_1 s m args below meth c D N0 9 Q kc ks ws pc lv [.int 1]) (hk28 : ∀ (kc ks : Nat) (v5 : Int32) (S : LSt) (ad : Nat → Nat → Nat) (ws : va_W), k28 kc ks v5 S = some true → LW cc g ga xo xd ad S [] ws → q_WA p l e room_1 s m args below meth c D N0 9 Q kc ks ws 28 [(0, .ref b), (1, .ref (g 0)), (2, .ref (ga 0)), (3, .ref xo), (4, .ref xd), (5, .int v5)] []) (kc ks : Nat) (v5 : Int32) (S : LSt) (ad : Nat → Nat → Nat) (ws : va_W) : f_L_law_866 L xs k28 kc ks v5 S = some true → LW cc g ga xo xd ad S [] ws → q_WA p l e room_1 s m args below meth c D N0 9 Q kc ks ws 866 [(0, .ref b), (1, .ref (g 0)), (2, .ref (ga 0)), (3, .ref xo), (4, .ref xd), (5, .int v5)] [] := by
  intro hf hW
  obtain ⟨hr, hf⟩ := q_gd hf
  obtain ⟨hr1, hr2⟩ := hr
  refine q_aload_n (pc := 866) C dL_law_866 rfl 1 rfl ?_
  obtain ⟨T, hp, hb⟩ := hW.cls
  obtain ⟨u125, e126, hf⟩ := q_bind hf
  refine q_perm hp ?_
  refine q_callV (pc := 867) (As := []) (rest := []) C (c_X8_alive l D cc N0 g (lo4 cc xo S.2.2.1 :: ld5 cc xd S.2.2.2 :: T) S.2.1 u125 e126) gL_law_X8_alive rfl rfl z_X8_alive ⟨(Nat.le_of_ble_eq_true rfl), (Nat.le_of_ble_eq_true rfl)⟩ (cw_at_0 cc g _ _) rfl rfl rfl (Nat.le_of_ble_eq_true rfl) dL_law_867 ⟨(by show (kc) + 0 ≤ room_1.cells; omega), (by show (ks) + 0 ≤ room_1.slots; omega)⟩ ?_
  rintro _ _ ⟨rfl, rfl⟩
  have hW := hb S rfl
  refine LW.ren hW (fun ws hW => ?_)
  refine q_nm (wz := ws) (ka := kc) (kb := ks) (sz := [.int u125]) rfl (by omega) (by omega) rfl ?_
  refine q_aload_n (pc := 870) C dL_law_870 rfl 2 rfl ?_
  obtain ⟨u127, e128, hf⟩ := q_bind hf
  obtain ⟨_, he⟩ := hW.obj
  refine q_callV (pc := 871) (As := []) (rest := [.int u125]) C (c_X9_alive l D cc N0 ga ad  (LG cc g xo xd S ++ []) S.1  u127 e128 ws hW) gL_law_X9_alive rfl rfl z_X9_alive ⟨(Nat.le_of_ble_eq_true rfl), (Nat.le_of_ble_eq_true rfl)⟩ he rfl rfl rfl (Nat.le_of_ble_eq_true rfl) dL_law_871 ⟨(by show (kc) + 1 ≤ room_1.cells; omega), (by show (ks) + 4 ≤ room_1.slots; omega)⟩ ?_
  rintro _ ws ⟨rfl, hW⟩
  have hW : LW cc g ga xo xd ad (u127.2, S.2) [] ws := hW
  refine q_nm (wz := ws) (ka := kc + 1) (kb := ks + 4) (sz := [.int u127.1, .int u125]) rfl (by omega) (by omega) rfl ?_
  refine q_icmp_eq (pc := 874) (tgt := 2537) C dL_law_874 (by decide) (fun c129 => ?_) (fun c129 => ?_)
  · have hf := q_iteT hf c129
    refine q_sub (lvq := [(0, .ref b), (1, .ref (g 0)), (2, .ref (ga 0)), (3, .ref xo), (4, .ref xd), (5, .int v5)]) [0, 1, 2, 3, 4, 5] rfl ?_
    exact w_L_law_2537 C CS hQ hk28 (kc + 1) (ks + 4) v5 (u127.2, S.2) ad ws hf hW
  · have hf := q_iteF hf c129
    refine q_iconst (pc := 877) C (0 : Int32) dL_law_877 q_ci_0 ?_
    cases hf
set_option maxRecDepth 100000 in
set_option maxHeartbeats 8000000 in
theorem w_L_law_932 {p : Program} {l : Launch} {e : Env} {s : State} {m : MethodId} {args : Array Value} {below : List Frame} {meth : Method} {c : Code} {D : va_G} {cc : Nat → ClassId} {N0 : Nat} {Q : State → Prop} {g ga : Nat → Nat} {xo xd b L : Nat} {xs : Nat → Int32} {k28 : Nat → Nat → Int32 → LSt → Option Bool} (C : q_C p s m args meth c cL_law 9 (some .boolean) wsL_law RL D cc N0) (CS : l.stackTraces = false ∧ va_X b L xs s s.heap ∧ b < s.heap.size ∧ ¬ q_A N0 b) (hQ : ∀ (kc ks : Nat) (ws : va_W) (pc : Nat) (lv : List (Nat × Value)), kc ≤ room_1.cells → ks ≤ room_1.slots → decode cL_law pc = .ok (.ireturn, 1) → q_WA p l e room_1 s m args below meth c D N0 9 Q kc ks ws pc lv [.int 1]) (hk28 : ∀ (kc ks : Nat) (v5 : Int32) (S : LSt) (ad : Nat → Nat → Nat) (ws : va_W), k28 kc ks v5 S = some true → LW cc g ga xo xd ad S [] ws → q_WA p l e room_1 s m args below meth c D N0 9 Q kc ks ws 28 [(0, .ref b), (1, .ref (g 0)), (2, .ref (ga 0)), (3, .ref xo), (4, .ref xd), (5, .int v5)] []) (kc ks : Nat) (v5 : Int32) (S : LSt) (ad : Nat → Nat → Nat) (ws : va_W) : f_L_law_932 L xs k28 kc ks v5 S = some true → LW cc g ga xo xd ad S [] ws → q_WA p l e room_1 s m args below meth c D N0 9 Q kc ks ws 932 [(0, .ref b), (1, .ref (g 0)), (2, .ref (ga 0)), (3, .ref xo), (4, .ref xd), (5, .int v5)] [] := by
  intro hf hW
  refine q_goto (pc := 932) (tgt := 2537) C dL_law_932 (by decide) ?_
  refine q_sub (lvq := [(0, .ref b), (1, .ref (g 0)), (2, .ref (ga 0)), (3, .ref xo), (4, .ref xd), (5, .int v5)]) [0, 1, 2, 3, 4, 5] rfl ?_
  exact w_L_law_2537 C CS hQ hk28 (kc) (ks) v5 S ad ws hf hW
set_option maxRecDepth 100000 in
set_option maxHeartbeats 8000000 in
theorem w_L_law_879 {p : Program} {l : Launch} {e : Env} {s : State} {m : MethodId} {args : Array Value} {below : List Frame} {meth : Method} {c : Code} {D : va_G} {cc : Nat → ClassId} {N0 : Nat} {Q : State → Prop} {g ga : Nat → Nat} {xo xd b L : Nat} {xs : Nat → Int32} {k28 : Nat → Nat → Int32 → LSt → Option Bool} (C : q_C p s m args meth c cL_law 9 (some .boolean) wsL_law RL D cc N0) (CS : l.stackTraces = false ∧ va_X b L xs s s.heap ∧ b < s.heap.size ∧ ¬ q_A N0 b) (hQ : ∀ (kc ks : Nat) (ws : va_W) (pc : Nat) (lv : List (Nat × Value)), kc ≤ room_1.cells → ks ≤ room_1.slots → decode cL_law pc = .ok (.ireturn, 1) → q_WA p l e room_1 s m args below meth c D N0 9 Q kc ks ws pc lv [.int 1]) (hk28 : ∀ (kc ks : Nat) (v5 : Int32) (S : LSt) (ad : Nat → Nat → Nat) (ws : va_W), k28 kc ks v5 S = some true → LW cc g ga xo xd ad S [] ws → q_WA p l e room_1 s m args below meth c D N0 9 Q kc ks ws 28 [(0, .ref b), (1, .ref (g 0)), (2, .ref (ga 0)), (3, .ref xo), (4, .ref xd), (5, .int v5)] []) (kc ks : Nat) (v5 : Int32) (S : LSt) (ad : Nat → Nat → Nat) (ws : va_W) : f_L_law_879 L xs k28 kc ks v5 S = some true → LW cc g ga xo xd ad S [] ws → q_WA p l e room_1 s m args below meth c D N0 9 Q kc ks ws 879 [(0, .ref b), (1, .ref (g 0)), (2, .ref (ga 0)), (3, .ref xo), (4, .ref xd), (5, .int v5)] [] := by
  intro hf hW
  obtain ⟨hr, hf⟩ := q_gd hf
  obtain ⟨hr1, hr2⟩ := hr
  refine q_aload_n (pc := 879) C dL_law_879 rfl 1 rfl ?_
  refine q_aload_n (pc := 880) C dL_law_880 rfl 0 rfl ?_
  refine q_iload (pc := 881) C dL_law_881 5 rfl ?_
  refine q_iconst (pc := 883) C (1 : Int32) dL_law_883 q_ci_1 ?_
  refine q_iadd (pc := 884) C dL_law_884 ?_
  obtain ⟨g130, hf⟩ := q_gd hf
  refine q_sld (pc := 885) C CS.2.1 CS.2.2.1 CS.2.2.2 g130 dL_law_885 ?_
  refine q_aload_n (pc := 886) C dL_law_886 rfl 3 rfl ?_
  obtain ⟨u131, e132, hf⟩ := q_bind hf
  obtain ⟨T, hp, hb⟩ := hW.cls
  refine q_perm hp ?_
  refine q_callSH (pc := 887) (As := [.ref (g 0), .int (xs (v5 + (1 : Int32)).toNatClampNeg), .ref xo]) (rest := []) C (c_L_sure l CS.1 D cc N0 g xo (ld5 cc xd S.2.2.2 :: T) S.2.1 (xs (v5 + (1 : Int32)).toNatClampNeg) S.2.2.1 u131 e132) gL_law_L_sure rfl z_L_sure ⟨(Nat.le_of_ble_eq_true rfl), (Nat.le_of_ble_eq_true rfl)⟩ rfl rfl (Nat.le_of_ble_eq_true rfl) dL_law_887 ⟨(by show (kc) + 1 ≤ room_1.cells; omega), (by show (ks) + 6 ≤ room_1.slots; omega)⟩ ?_
  rintro _ _ ⟨rfl, rfl⟩
  have hW := hb (S.1, u131.2.2, u131.2.1, S.2.2.2) rfl
  refine LW.ren hW (fun ws hW => ?_)
  refine q_nm (wz := ws) (ka := kc + 1) (kb := ks + 6) (sz := [.int u131.1]) rfl (by omega) (by omega) rfl ?_
  refine q_istore (pc := 890) (lvq := [(6, .int u131.1), (0, .ref b), (1, .ref (g 0)), (2, .ref (ga 0)), (3, .ref xo), (4, .ref xd), (5, .int v5)]) C dL_law_890 (by decide) rfl ?_
  refine q_aload_n (pc := 892) C dL_law_892 rfl 3 rfl ?_
  refine q_aload_n (pc := 893) C dL_law_893 rfl 1 rfl ?_
  refine q_iload (pc := 894) C dL_law_894 6 rfl ?_
  refine q_iconst (pc := 896) C (1 : Int32) dL_law_896 q_ci_1 ?_
  refine q_iadd (pc := 897) C dL_law_897 ?_
  obtain ⟨g133, hf⟩ := q_gd hf
  refine q_sld (pc := 898) C CS.2.1 CS.2.2.1 CS.2.2.2 g133 dL_law_898 ?_
  obtain ⟨u134, e135, hf⟩ := q_bind hf
  obtain ⟨_, he⟩ := hW.obj
  refine q_callV (pc := 899) (As := [.int (xs (v5 + (1 : Int32)).toNatClampNeg)]) (rest := []) C (c_X9_sure l D cc N0 ga ad  (LG cc g xo xd (S.1, u131.2.2, u131.2.1, S.2.2.2) ++ []) (S.1, u131.2.2, u131.2.1, S.2.2.2).1 (xs (v5 + (1 : Int32)).toNatClampNeg) u134 e135 ws hW) gL_law_X9_sure rfl rfl z_X9_sure ⟨(Nat.le_of_ble_eq_true rfl), (Nat.le_of_ble_eq_true rfl)⟩ he rfl rfl rfl (Nat.le_of_ble_eq_true rfl) dL_law_899 ⟨(by show (kc + 1) + 3 ≤ room_1.cells; omega), (by show (ks + 6) + 12 ≤ room_1.slots; omega)⟩ ?_
  rintro _ ws ⟨rfl, hW⟩
  have hW : LW cc g ga xo xd ad (u134.2, (S.1, u131.2.2, u131.2.1, S.2.2.2).2) [] ws := hW
  refine q_nm (wz := ws) (ka := kc + 4) (kb := ks + 18) (sz := [.int u134.1]) rfl (by omega) (by omega) rfl ?_
  refine q_istore (pc := 902) (lvq := [(7, .int u134.1), (6, .int u131.1), (0, .ref b), (1, .ref (g 0)), (2, .ref (ga 0)), (3, .ref xo), (4, .ref xd), (5, .int v5)]) C dL_law_902 (by decide) rfl ?_
  refine q_aload_n (pc := 904) C dL_law_904 rfl 4 rfl ?_
  obtain ⟨u136, e137, hf⟩ := q_bind hf
  obtain ⟨_, he⟩ := hW.obj
  refine q_callV (pc := 905) (As := []) (rest := []) C (c_X9_thrown l D cc N0 ga ad  (LG cc g xo xd (u134.2, (S.1, u131.2.2, u131.2.1, S.2.2.2).2) ++ []) (u134.2, (S.1, u131.2.2, u131.2.1, S.2.2.2).2).1  u136 e137 ws hW) gL_law_X9_thrown rfl rfl z_X9_thrown ⟨(Nat.le_of_ble_eq_true rfl), (Nat.le_of_ble_eq_true rfl)⟩ he rfl rfl rfl (Nat.le_of_ble_eq_true rfl) dL_law_905 ⟨(by show (kc + 4) + 0 ≤ room_1.cells; omega), (by show (ks + 18) + 0 ≤ room_1.slots; omega)⟩ ?_
  rintro _ ws ⟨rfl, hW⟩
  have hW : LW cc g ga xo xd ad (u134.2, (S.1, u131.2.2, u131.2.1, S.2.2.2).2) [] ws := hW
  refine q_nm (wz := ws) (ka := kc + 4) (kb := ks + 18) (sz := [.int u136]) rfl (by omega) (by omega) rfl ?_
  refine q_iload (pc := 908) C dL_law_908 1 rfl ?_
  refine q_icmp_eq (pc := 910) (tgt := 915) C dL_law_910 (by decide) (fun c138 => ?_) (fun c138 => ?_)
  · have hf := q_iteT hf c138
    refine q_iload (pc := 915) C dL_law_915 1 rfl ?_
    refine q_if_ne (pc := 917) (tgt := 932) C dL_law_917 (by decide) (fun c139 => ?_) (fun c139 => ?_)
    · have hf := q_iteF hf c139
      refine q_sub (lvq := [(0, .ref b), (1, .ref (g 0)), (2, .ref (ga 0)), (3, .ref xo), (4, .ref xd), (5, .int v5)]) [2, 3, 4, 5, 6, 7] rfl ?_
      exact w_L_law_932 C CS hQ hk28 (kc + 4) (ks + 18) v5 (u134.2, (S.1, u131.2.2, u131.2.1, S.2.2.2).2) ad ws hf hW
    · have hf := q_iteT hf c139
      refine q_aload_n (pc := 920) C dL_law_920 rfl 5 rfl ?_
      refine q_iconst (pc := 921) C (0 : Int32) dL_law_921 q_ci_0 ?_
      refine LW.lald (pc := 922) hW C dL_law_922 ?_
      refine q_iload (pc := 923) C dL_law_923 0 rfl ?_
      refine q_i2l (pc := 925) C dL_law_925 rfl ?_
      refine q_lcmp (pc := 926) C dL_law_926 ?_
      refine q_if_eq (pc := 927) (tgt := 932) C dL_law_927 (by decide) (fun c140 => ?_) (fun c140 => ?_)
      · have hf := q_iteT hf c140
        refine q_sub (lvq := [(0, .ref b), (1, .ref (g 0)), (2, .ref (ga 0)), (3, .ref xo), (4, .ref xd), (5, .int v5)]) [2, 3, 4, 5, 6, 7] rfl ?_
        exact w_L_law_932 C CS hQ hk28 (kc + 4) (ks + 18) v5 (u134.2, (S.1, u131.2.2, u131.2.1, S.2.2.2).2) ad ws hf hW
      · have hf := q_iteF hf c140
        refine q_iconst (pc := 930) C (0 : Int32) dL_law_930 q_ci_0 ?_
        cases hf
  · have hf := q_iteF hf c138
    refine q_iconst (pc := 913) C (0 : Int32) dL_law_913 q_ci_0 ?_
    cases hf
set_option maxRecDepth 100000 in
set_option maxHeartbeats 8000000 in
theorem w_L_law_976 {p : Program} {l : Launch} {e : Env} {s : State} {m : MethodId} {args : Array Value} {below : List Frame} {meth : Method} {c : Code} {D : va_G} {cc : Nat → ClassId} {N0 : Nat} {Q : State → Prop} {g ga : Nat → Nat} {xo xd b L : Nat} {xs : Nat → Int32} {k28 : Nat → Nat → Int32 → LSt → Option Bool} (C : q_C p s m args meth c cL_law 9 (some .boolean) wsL_law RL D cc N0) (CS : l.stackTraces = false ∧ va_X b L xs s s.heap ∧ b < s.heap.size ∧ ¬ q_A N0 b) (hQ : ∀ (kc ks : Nat) (ws : va_W) (pc : Nat) (lv : List (Nat × Value)), kc ≤ room_1.cells → ks ≤ room_1.slots → decode cL_law pc = .ok (.ireturn, 1) → q_WA p l e room_1 s m args below meth c D N0 9 Q kc ks ws pc lv [.int 1]) (hk28 : ∀ (kc ks : Nat) (v5 : Int32) (S : LSt) (ad : Nat → Nat → Nat) (ws : va_W), k28 kc ks v5 S = some true → LW cc g ga xo xd ad S [] ws → q_WA p l e room_1 s m args below meth c D N0 9 Q kc ks ws 28 [(0, .ref b), (1, .ref (g 0)), (2, .ref (ga 0)), (3, .ref xo), (4, .ref xd), (5, .int v5)] []) (kc ks : Nat) (v5 : Int32) (S : LSt) (ad : Nat → Nat → Nat) (ws : va_W) : f_L_law_976 L xs k28 kc ks v5 S = some true → LW cc g ga xo xd ad S [] ws → q_WA p l e room_1 s m args below meth c D N0 9 Q kc ks ws 976 [(0, .ref b), (1, .ref (g 0)), (2, .ref (ga 0)), (3, .ref xo), (4, .ref xd), (5, .int v5)] [] := by
  intro hf hW
  refine q_goto (pc := 976) (tgt := 2537) C dL_law_976 (by decide) ?_
  refine q_sub (lvq := [(0, .ref b), (1, .ref (g 0)), (2, .ref (ga 0)), (3, .ref xo), (4, .ref xd), (5, .int v5)]) [0, 1, 2, 3, 4, 5] rfl ?_
  exact w_L_law_2537 C CS hQ hk28 (kc) (ks) v5 S ad ws hf hW
set_option maxRecDepth 100000 in
set_option maxHeartbeats 8000000 in
theorem w_L_law_935 {p : Program} {l : Launch} {e : Env} {s : State} {m : MethodId} {args : Array Value} {below : List Frame} {meth : Method} {c : Code} {D : va_G} {cc : Nat → ClassId} {N0 : Nat} {Q : State → Prop} {g ga : Nat → Nat} {xo xd b L : Nat} {xs : Nat → Int32} {k28 : Nat → Nat → Int32 → LSt → Option Bool} (C : q_C p s m args meth c cL_law 9 (some .boolean) wsL_law RL D cc N0) (CS : l.stackTraces = false ∧ va_X b L xs s s.heap ∧ b < s.heap.size ∧ ¬ q_A N0 b) (hQ : ∀ (kc ks : Nat) (ws : va_W) (pc : Nat) (lv : List (Nat × Value)), kc ≤ room_1.cells → ks ≤ room_1.slots → decode cL_law pc = .ok (.ireturn, 1) → q_WA p l e room_1 s m args below meth c D N0 9 Q kc ks ws pc lv [.int 1]) (hk28 : ∀ (kc ks : Nat) (v5 : Int32) (S : LSt) (ad : Nat → Nat → Nat) (ws : va_W), k28 kc ks v5 S = some true → LW cc g ga xo xd ad S [] ws → q_WA p l e room_1 s m args below meth c D N0 9 Q kc ks ws 28 [(0, .ref b), (1, .ref (g 0)), (2, .ref (ga 0)), (3, .ref xo), (4, .ref xd), (5, .int v5)] []) (kc ks : Nat) (v5 : Int32) (S : LSt) (ad : Nat → Nat → Nat) (ws : va_W) : f_L_law_935 L xs k28 kc ks v5 S = some true → LW cc g ga xo xd ad S [] ws → q_WA p l e room_1 s m args below meth c D N0 9 Q kc ks ws 935 [(0, .ref b), (1, .ref (g 0)), (2, .ref (ga 0)), (3, .ref xo), (4, .ref xd), (5, .int v5)] [] := by
  intro hf hW
  obtain ⟨hr, hf⟩ := q_gd hf
  obtain ⟨hr1, hr2⟩ := hr
  refine q_aload_n (pc := 935) C dL_law_935 rfl 1 rfl ?_
  refine q_aload_n (pc := 936) C dL_law_936 rfl 3 rfl ?_
  obtain ⟨u141, e142, hf⟩ := q_bind hf
  obtain ⟨T, hp, hb⟩ := hW.cls
  refine q_perm hp ?_
  refine q_callSH (pc := 937) (As := [.ref (g 0), .ref xo]) (rest := []) C (c_L_best l CS.1 D cc N0 g xo (ld5 cc xd S.2.2.2 :: T) S.2.1 S.2.2.1 u141 e142) gL_law_L_best rfl z_L_best ⟨(Nat.le_of_ble_eq_true rfl), (Nat.le_of_ble_eq_true rfl)⟩ rfl rfl (Nat.le_of_ble_eq_true rfl) dL_law_937 ⟨(by show (kc) + 1 ≤ room_1.cells; omega), (by show (ks) + 6 ≤ room_1.slots; omega)⟩ ?_
  rintro _ _ ⟨rfl, rfl⟩
  have hW := hb (S.1, u141.2.2, u141.2.1, S.2.2.2) rfl
  refine LW.ren hW (fun ws hW => ?_)
  refine q_nm (wz := ws) (ka := kc + 1) (kb := ks + 6) (sz := [.int u141.1]) rfl (by omega) (by omega) rfl ?_
  refine q_istore (pc := 940) (lvq := [(6, .int u141.1), (0, .ref b), (1, .ref (g 0)), (2, .ref (ga 0)), (3, .ref xo), (4, .ref xd), (5, .int v5)]) C dL_law_940 (by decide) rfl ?_
  refine q_aload_n (pc := 942) C dL_law_942 rfl 3 rfl ?_
  obtain ⟨u143, e144, hf⟩ := q_bind hf
  obtain ⟨_, he⟩ := hW.obj
  refine q_callV (pc := 943) (As := []) (rest := []) C (c_X9_best l D cc N0 ga ad  (LG cc g xo xd (S.1, u141.2.2, u141.2.1, S.2.2.2) ++ []) (S.1, u141.2.2, u141.2.1, S.2.2.2).1  u143 e144 ws hW) gL_law_X9_best rfl rfl z_X9_best ⟨(Nat.le_of_ble_eq_true rfl), (Nat.le_of_ble_eq_true rfl)⟩ he rfl rfl rfl (Nat.le_of_ble_eq_true rfl) dL_law_943 ⟨(by show (kc + 1) + 31 ≤ room_1.cells; omega), (by show (ks + 6) + 124 ≤ room_1.slots; omega)⟩ ?_
  rintro _ ws ⟨rfl, hW⟩
  have hW : LW cc g ga xo xd ad (u143.2, (S.1, u141.2.2, u141.2.1, S.2.2.2).2) [] ws := hW
  refine q_nm (wz := ws) (ka := kc + 32) (kb := ks + 130) (sz := [.int u143.1]) rfl (by omega) (by omega) rfl ?_
  refine q_istore (pc := 946) (lvq := [(7, .int u143.1), (6, .int u141.1), (0, .ref b), (1, .ref (g 0)), (2, .ref (ga 0)), (3, .ref xo), (4, .ref xd), (5, .int v5)]) C dL_law_946 (by decide) rfl ?_
  refine q_aload_n (pc := 948) C dL_law_948 rfl 4 rfl ?_
  obtain ⟨u145, e146, hf⟩ := q_bind hf
  obtain ⟨_, he⟩ := hW.obj
  refine q_callV (pc := 949) (As := []) (rest := []) C (c_X9_thrown l D cc N0 ga ad  (LG cc g xo xd (u143.2, (S.1, u141.2.2, u141.2.1, S.2.2.2).2) ++ []) (u143.2, (S.1, u141.2.2, u141.2.1, S.2.2.2).2).1  u145 e146 ws hW) gL_law_X9_thrown rfl rfl z_X9_thrown ⟨(Nat.le_of_ble_eq_true rfl), (Nat.le_of_ble_eq_true rfl)⟩ he rfl rfl rfl (Nat.le_of_ble_eq_true rfl) dL_law_949 ⟨(by show (kc + 32) + 0 ≤ room_1.cells; omega), (by show (ks + 130) + 0 ≤ room_1.slots; omega)⟩ ?_
  rintro _ ws ⟨rfl, hW⟩
  have hW : LW cc g ga xo xd ad (u143.2, (S.1, u141.2.2, u141.2.1, S.2.2.2).2) [] ws := hW
  refine q_nm (wz := ws) (ka := kc + 32) (kb := ks + 130) (sz := [.int u145]) rfl (by omega) (by omega) rfl ?_
  refine q_iload (pc := 952) C dL_law_952 1 rfl ?_
  refine q_icmp_eq (pc := 954) (tgt := 959) C dL_law_954 (by decide) (fun c147 => ?_) (fun c147 => ?_)
  · have hf := q_iteT hf c147
    refine q_iload (pc := 959) C dL_law_959 1 rfl ?_
    refine q_if_ne (pc := 961) (tgt := 976) C dL_law_961 (by decide) (fun c148 => ?_) (fun c148 => ?_)
    · have hf := q_iteF hf c148
      refine q_sub (lvq := [(0, .ref b), (1, .ref (g 0)), (2, .ref (ga 0)), (3, .ref xo), (4, .ref xd), (5, .int v5)]) [2, 3, 4, 5, 6, 7] rfl ?_
      exact w_L_law_976 C CS hQ hk28 (kc + 32) (ks + 130) v5 (u143.2, (S.1, u141.2.2, u141.2.1, S.2.2.2).2) ad ws hf hW
    · have hf := q_iteT hf c148
      refine q_aload_n (pc := 964) C dL_law_964 rfl 5 rfl ?_
      refine q_iconst (pc := 965) C (0 : Int32) dL_law_965 q_ci_0 ?_
      refine LW.lald (pc := 966) hW C dL_law_966 ?_
      refine q_iload (pc := 967) C dL_law_967 0 rfl ?_
      refine q_i2l (pc := 969) C dL_law_969 rfl ?_
      refine q_lcmp (pc := 970) C dL_law_970 ?_
      refine q_if_eq (pc := 971) (tgt := 976) C dL_law_971 (by decide) (fun c149 => ?_) (fun c149 => ?_)
      · have hf := q_iteT hf c149
        refine q_sub (lvq := [(0, .ref b), (1, .ref (g 0)), (2, .ref (ga 0)), (3, .ref xo), (4, .ref xd), (5, .int v5)]) [2, 3, 4, 5, 6, 7] rfl ?_
        exact w_L_law_976 C CS hQ hk28 (kc + 32) (ks + 130) v5 (u143.2, (S.1, u141.2.2, u141.2.1, S.2.2.2).2) ad ws hf hW
      · have hf := q_iteF hf c149
        refine q_iconst (pc := 974) C (0 : Int32) dL_law_974 q_ci_0 ?_
        cases hf
  · have hf := q_iteF hf c147
    refine q_iconst (pc := 957) C (0 : Int32) dL_law_957 q_ci_0 ?_
    cases hf
set_option maxRecDepth 100000 in
set_option maxHeartbeats 8000000 in
theorem w_L_law_1020 {p : Program} {l : Launch} {e : Env} {s : State} {m : MethodId} {args : Array Value} {below : List Frame} {meth : Method} {c : Code} {D : va_G} {cc : Nat → ClassId} {N0 : Nat} {Q : State → Prop} {g ga : Nat → Nat} {xo xd b L : Nat} {xs : Nat → Int32} {k28 : Nat → Nat → Int32 → LSt → Option Bool} (C : q_C p s m args meth c cL_law 9 (some .boolean) wsL_law RL D cc N0) (CS : l.stackTraces = false ∧ va_X b L xs s s.heap ∧ b < s.heap.size ∧ ¬ q_A N0 b) (hQ : ∀ (kc ks : Nat) (ws : va_W) (pc : Nat) (lv : List (Nat × Value)), kc ≤ room_1.cells → ks ≤ room_1.slots → decode cL_law pc = .ok (.ireturn, 1) → q_WA p l e room_1 s m args below meth c D N0 9 Q kc ks ws pc lv [.int 1]) (hk28 : ∀ (kc ks : Nat) (v5 : Int32) (S : LSt) (ad : Nat → Nat → Nat) (ws : va_W), k28 kc ks v5 S = some true → LW cc g ga xo xd ad S [] ws → q_WA p l e room_1 s m args below meth c D N0 9 Q kc ks ws 28 [(0, .ref b), (1, .ref (g 0)), (2, .ref (ga 0)), (3, .ref xo), (4, .ref xd), (5, .int v5)] []) (kc ks : Nat) (v5 : Int32) (S : LSt) (ad : Nat → Nat → Nat) (ws : va_W) : f_L_law_1020 L xs k28 kc ks v5 S = some true → LW cc g ga xo xd ad S [] ws → q_WA p l e room_1 s m args below meth c D N0 9 Q kc ks ws 1020 [(0, .ref b), (1, .ref (g 0)), (2, .ref (ga 0)), (3, .ref xo), (4, .ref xd), (5, .int v5)] [] := by
  intro hf hW
  refine q_goto (pc := 1020) (tgt := 2537) C dL_law_1020 (by decide) ?_
  refine q_sub (lvq := [(0, .ref b), (1, .ref (g 0)), (2, .ref (ga 0)), (3, .ref xo), (4, .ref xd), (5, .int v5)]) [0, 1, 2, 3, 4, 5] rfl ?_
  exact w_L_law_2537 C CS hQ hk28 (kc) (ks) v5 S ad ws hf hW
set_option maxRecDepth 100000 in
set_option maxHeartbeats 8000000 in
theorem w_L_law_979 {p : Program} {l : Launch} {e : Env} {s : State} {m : MethodId} {args : Array Value} {below : List Frame} {meth : Method} {c : Code} {D : va_G} {cc : Nat → ClassId} {N0 : Nat} {Q : State → Prop} {g ga : Nat → Nat} {xo xd b L : Nat} {xs : Nat → Int32} {k28 : Nat → Nat → Int32 → LSt → Option Bool} (C : q_C p s m args meth c cL_law 9 (some .boolean) wsL_law RL D cc N0) (CS : l.stackTraces = false ∧ va_X b L xs s s.heap ∧ b < s.heap.size ∧ ¬ q_A N0 b) (hQ : ∀ (kc ks : Nat) (ws : va_W) (pc : Nat) (lv : List (Nat × Value)), kc ≤ room_1.cells → ks ≤ room_1.slots → decode cL_law pc = .ok (.ireturn, 1) → q_WA p l e room_1 s m args below meth c D N0 9 Q kc ks ws pc lv [.int 1]) (hk28 : ∀ (kc ks : Nat) (v5 : Int32) (S : LSt) (ad : Nat → Nat → Nat) (ws : va_W), k28 kc ks v5 S = some true → LW cc g ga xo xd ad S [] ws → q_WA p l e room_1 s m args below meth c D N0 9 Q kc ks ws 28 [(0, .ref b), (1, .ref (g 0)), (2, .ref (ga 0)), (3, .ref xo), (4, .ref xd), (5, .int v5)] []) (kc ks : Nat) (v5 : Int32) (S : LSt) (ad : Nat → Nat → Nat) (ws : va_W) : f_L_law_979 L xs k28 kc ks v5 S = some true → LW cc g ga xo xd ad S [] ws → q_WA p l e room_1 s m args below meth c D N0 9 Q kc ks ws 979 [(0, .ref b), (1, .ref (g 0)), (2, .ref (ga 0)), (3, .ref xo), (4, .ref xd), (5, .int v5)] [] := by
  intro hf hW
  obtain ⟨hr, hf⟩ := q_gd hf
  obtain ⟨hr1, hr2⟩ := hr
  refine q_aload_n (pc := 979) C dL_law_979 rfl 1 rfl ?_
  refine q_aload_n (pc := 980) C dL_law_980 rfl 3 rfl ?_
  obtain ⟨u150, e151, hf⟩ := q_bind hf
  obtain ⟨T, hp, hb⟩ := hW.cls
  refine q_perm hp ?_
  refine q_callSH (pc := 981) (As := [.ref (g 0), .ref xo]) (rest := []) C (c_L_learn l CS.1 D cc N0 g xo (ld5 cc xd S.2.2.2 :: T) S.2.1 S.2.2.1 u150 e151) gL_law_L_learn rfl z_L_learn ⟨(Nat.le_of_ble_eq_true rfl), (Nat.le_of_ble_eq_true rfl)⟩ rfl rfl (Nat.le_of_ble_eq_true rfl) dL_law_981 ⟨(by show (kc) + 1 ≤ room_1.cells; omega), (by show (ks) + 6 ≤ room_1.slots; omega)⟩ ?_
  rintro _ _ ⟨rfl, rfl⟩
  have hW := hb (S.1, u150.2.2, u150.2.1, S.2.2.2) rfl
  refine LW.ren hW (fun ws hW => ?_)
  refine q_nm (wz := ws) (ka := kc + 1) (kb := ks + 6) (sz := [.int u150.1]) rfl (by omega) (by omega) rfl ?_
  refine q_istore (pc := 984) (lvq := [(6, .int u150.1), (0, .ref b), (1, .ref (g 0)), (2, .ref (ga 0)), (3, .ref xo), (4, .ref xd), (5, .int v5)]) C dL_law_984 (by decide) rfl ?_
  refine q_aload_n (pc := 986) C dL_law_986 rfl 3 rfl ?_
  obtain ⟨u152, e153, hf⟩ := q_bind hf
  obtain ⟨_, he⟩ := hW.obj
  refine q_callV (pc := 987) (As := []) (rest := []) C (c_X9_learn l D cc N0 ga ad  (LG cc g xo xd (S.1, u150.2.2, u150.2.1, S.2.2.2) ++ []) (S.1, u150.2.2, u150.2.1, S.2.2.2).1  u152 e153 ws hW) gL_law_X9_learn rfl rfl z_X9_learn ⟨(Nat.le_of_ble_eq_true rfl), (Nat.le_of_ble_eq_true rfl)⟩ he rfl rfl rfl (Nat.le_of_ble_eq_true rfl) dL_law_987 ⟨(by show (kc + 1) + 1600 ≤ room_1.cells; omega), (by show (ks + 6) + 6400 ≤ room_1.slots; omega)⟩ ?_
  rintro _ ws ⟨rfl, hW⟩
  have hW : LW cc g ga xo xd ad (u152.2, (S.1, u150.2.2, u150.2.1, S.2.2.2).2) [] ws := hW
  refine q_nm (wz := ws) (ka := kc + 1601) (kb := ks + 6406) (sz := [.int u152.1]) rfl (by omega) (by omega) rfl ?_
  refine q_istore (pc := 990) (lvq := [(7, .int u152.1), (6, .int u150.1), (0, .ref b), (1, .ref (g 0)), (2, .ref (ga 0)), (3, .ref xo), (4, .ref xd), (5, .int v5)]) C dL_law_990 (by decide) rfl ?_
  refine q_aload_n (pc := 992) C dL_law_992 rfl 4 rfl ?_
  obtain ⟨u154, e155, hf⟩ := q_bind hf
  obtain ⟨_, he⟩ := hW.obj
  refine q_callV (pc := 993) (As := []) (rest := []) C (c_X9_thrown l D cc N0 ga ad  (LG cc g xo xd (u152.2, (S.1, u150.2.2, u150.2.1, S.2.2.2).2) ++ []) (u152.2, (S.1, u150.2.2, u150.2.1, S.2.2.2).2).1  u154 e155 ws hW) gL_law_X9_thrown rfl rfl z_X9_thrown ⟨(Nat.le_of_ble_eq_true rfl), (Nat.le_of_ble_eq_true rfl)⟩ he rfl rfl rfl (Nat.le_of_ble_eq_true rfl) dL_law_993 ⟨(by show (kc + 1601) + 0 ≤ room_1.cells; omega), (by show (ks + 6406) + 0 ≤ room_1.slots; omega)⟩ ?_
  rintro _ ws ⟨rfl, hW⟩
  have hW : LW cc g ga xo xd ad (u152.2, (S.1, u150.2.2, u150.2.1, S.2.2.2).2) [] ws := hW
  refine q_nm (wz := ws) (ka := kc + 1601) (kb := ks + 6406) (sz := [.int u154]) rfl (by omega) (by omega) rfl ?_
  refine q_iload (pc := 996) C dL_law_996 1 rfl ?_
  refine q_icmp_eq (pc := 998) (tgt := 1003) C dL_law_998 (by decide) (fun c156 => ?_) (fun c156 => ?_)
  · have hf := q_iteT hf c156
    refine q_iload (pc := 1003) C dL_law_1003 1 rfl ?_
    refine q_if_ne (pc := 1005) (tgt := 1020) C dL_law_1005 (by decide) (fun c157 => ?_) (fun c157 => ?_)
    · have hf := q_iteF hf c157
      refine q_sub (lvq := [(0, .ref b), (1, .ref (g 0)), (2, .ref (ga 0)), (3, .ref xo), (4, .ref xd), (5, .int v5)]) [2, 3, 4, 5, 6, 7] rfl ?_
      exact w_L_law_1020 C CS hQ hk28 (kc + 1601) (ks + 6406) v5 (u152.2, (S.1, u150.2.2, u150.2.1, S.2.2.2).2) ad ws hf hW
    · have hf := q_iteT hf c157
      refine q_aload_n (pc := 1008) C dL_law_1008 rfl 5 rfl ?_
      refine q_iconst (pc := 1009) C (0 : Int32) dL_law_1009 q_ci_0 ?_
      refine LW.lald (pc := 1010) hW C dL_law_1010 ?_
      refine q_iload (pc := 1011) C dL_law_1011 0 rfl ?_
      refine q_i2l (pc := 1013) C dL_law_1013 rfl ?_
      refine q_lcmp (pc := 1014) C dL_law_1014 ?_
      refine q_if_eq (pc := 1015) (tgt := 1020) C dL_law_1015 (by decide) (fun c158 => ?_) (fun c158 => ?_)
      · have hf := q_iteT hf c158
        refine q_sub (lvq := [(0, .ref b), (1, .ref (g 0)), (2, .ref (ga 0)), (3, .ref xo), (4, .ref xd), (5, .int v5)]) [2, 3, 4, 5, 6, 7] rfl ?_
        exact w_L_law_1020 C CS hQ hk28 (kc + 1601) (ks + 6406) v5 (u152.2, (S.1, u150.2.2, u150.2.1, S.2.2.2).2) ad ws hf hW
      · have hf := q_iteF hf c158
        refine q_iconst (pc := 1018) C (0 : Int32) dL_law_1018 q_ci_0 ?_
        cases hf
  · have hf := q_iteF hf c156
    refine q_iconst (pc := 1001) C (0 : Int32) dL_law_1001 q_ci_0 ?_
    cases hf
set_option maxRecDepth 100000 in
set_option maxHeartbeats 8000000 in
theorem w_L_law_1064 {p : Program} {l : Launch} {e : Env} {s : State} {m : MethodId} {args : Array Value} {below : List Frame} {meth : Method} {c : Code} {D : va_G} {cc : Nat → ClassId} {N0 : Nat} {Q : State → Prop} {g ga : Nat → Nat} {xo xd b L : Nat} {xs : Nat → Int32} {k28 : Nat → Nat → Int32 → LSt → Option Bool} (C : q_C p s m args meth c cL_law 9 (some .boolean) wsL_law RL D cc N0) (CS : l.stackTraces = false ∧ va_X b L xs s s.heap ∧ b < s.heap.size ∧ ¬ q_A N0 b) (hQ : ∀ (kc ks : Nat) (ws : va_W) (pc : Nat) (lv : List (Nat × Value)), kc ≤ room_1.cells → ks ≤ room_1.slots → decode cL_law pc = .ok (.ireturn, 1) → q_WA p l e room_1 s m args below meth c D N0 9 Q kc ks ws pc lv [.int 1]) (hk28 : ∀ (kc ks : Nat) (v5 : Int32) (S : LSt) (ad : Nat → Nat → Nat) (ws : va_W), k28 kc ks v5 S = some true → LW cc g ga xo xd ad S [] ws → q_WA p l e room_1 s m args below meth c D N0 9 Q kc ks ws 28 [(0, .ref b), (1, .ref (g 0)), (2, .ref (ga 0)), (3, .ref xo), (4, .ref xd), (5, .int v5)] []) (kc ks : Nat) (v5 : Int32) (S : LSt) (ad : Nat → Nat → Nat) (ws : va_W) : f_L_law_1064 L xs k28 kc ks v5 S = some true → LW cc g ga xo xd ad S [] ws → q_WA p l e room_1 s m args below meth c D N0 9 Q kc ks ws 1064 [(0, .ref b), (1, .ref (g 0)), (2, .ref (ga 0)), (3, .ref xo), (4, .ref xd), (5, .int v5)] [] := by
  intro hf hW
  refine q_goto (pc := 1064) (tgt := 2537) C dL_law_1064 (by decide) ?_
  refine q_sub (lvq := [(0, .ref b), (1, .ref (g 0)), (2, .ref (ga 0)), (3, .ref xo), (4, .ref xd), (5, .int v5)]) [0, 1, 2, 3, 4, 5] rfl ?_
  exact w_L_law_2537 C CS hQ hk28 (kc) (ks) v5 S ad ws hf hW
set_option maxRecDepth 100000 in
set_option maxHeartbeats 8000000 in
theorem w_L_law_1023 {p : Program} {l : Launch} {e : Env} {s : State} {m : MethodId} {args : Array Value} {below : List Frame} {meth : Method} {c : Code} {D : va_G} {cc : Nat → ClassId} {N0 : Nat} {Q : State → Prop} {g ga : Nat → Nat} {xo xd b L : Nat} {xs : Nat → Int32} {k28 : Nat → Nat → Int32 → LSt → Option Bool} (C : q_C p s m args meth c cL_law 9 (some .boolean) wsL_law RL D cc N0) (CS : l.stackTraces = false ∧ va_X b L xs s s.heap ∧ b < s.heap.size ∧ ¬ q_A N0 b) (hQ : ∀ (kc ks : Nat) (ws : va_W) (pc : Nat) (lv : List (Nat × Value)), kc ≤ room_1.cells → ks ≤ room_1.slots → decode cL_law pc = .ok (.ireturn, 1) → q_WA p l e room_1 s m args below meth c D N0 9 Q kc ks ws pc lv [.int 1]) (hk28 : ∀ (kc ks : Nat) (v5 : Int32) (S : LSt) (ad : Nat → Nat → Nat) (ws : va_W), k28 kc ks v5 S = some true → LW cc g ga xo xd ad S [] ws → q_WA p l e room_1 s m args below meth c D N0 9 Q kc ks ws 28 [(0, .ref b), (1, .ref (g 0)), (2, .ref (ga 0)), (3, .ref xo), (4, .ref xd), (5, .int v5)] []) (kc ks : Nat) (v5 : Int32) (S : LSt) (ad : Nat → Nat → Nat) (ws : va_W) : f_L_law_1023 L xs k28 kc ks v5 S = some true → LW cc g ga xo xd ad S [] ws → q_WA p l e room_1 s m args below meth c D N0 9 Q kc ks ws 1023 [(0, .ref b), (1, .ref (g 0)), (2, .ref (ga 0)), (3, .ref xo), (4, .ref xd), (5, .int v5)] [] := by
  intro hf hW
  obtain ⟨hr, hf⟩ := q_gd hf
  obtain ⟨hr1, hr2⟩ := hr
  refine q_aload_n (pc := 1023) C dL_law_1023 rfl 1 rfl ?_
  refine q_aload_n (pc := 1024) C dL_law_1024 rfl 3 rfl ?_
  obtain ⟨u159, e160, hf⟩ := q_bind hf
  obtain ⟨T, hp, hb⟩ := hW.cls
  refine q_perm hp ?_
  refine q_callSH (pc := 1025) (As := [.ref (g 0), .ref xo]) (rest := []) C (c_L_found l CS.1 D cc N0 g xo (ld5 cc xd S.2.2.2 :: T) S.2.1 S.2.2.1 u159 e160) gL_law_L_found rfl z_L_found ⟨(Nat.le_of_ble_eq_true rfl), (Nat.le_of_ble_eq_true rfl)⟩ rfl rfl (Nat.le_of_ble_eq_true rfl) dL_law_1025 ⟨(by show (kc) + 1 ≤ room_1.cells; omega), (by show (ks) + 6 ≤ room_1.slots; omega)⟩ ?_
  rintro _ _ ⟨rfl, rfl⟩
  have hW := hb (S.1, u159.2.2, u159.2.1, S.2.2.2) rfl
  refine LW.ren hW (fun ws hW => ?_)
  refine q_nm (wz := ws) (ka := kc + 1) (kb := ks + 6) (sz := [.int u159.1]) rfl (by omega) (by omega) rfl ?_
  refine q_istore (pc := 1028) (lvq := [(6, .int u159.1), (0, .ref b), (1, .ref (g 0)), (2, .ref (ga 0)), (3, .ref xo), (4, .ref xd), (5, .int v5)]) C dL_law_1028 (by decide) rfl ?_
  refine q_aload_n (pc := 1030) C dL_law_1030 rfl 3 rfl ?_
  obtain ⟨u161, e162, hf⟩ := q_bind hf
  obtain ⟨_, he⟩ := hW.obj
  refine q_callV (pc := 1031) (As := []) (rest := []) C (c_X9_found l D cc N0 ga ad  (LG cc g xo xd (S.1, u159.2.2, u159.2.1, S.2.2.2) ++ []) (S.1, u159.2.2, u159.2.1, S.2.2.2).1  u161 e162 ws hW) gL_law_X9_found rfl rfl z_X9_found ⟨(Nat.le_of_ble_eq_true rfl), (Nat.le_of_ble_eq_true rfl)⟩ he rfl rfl rfl (Nat.le_of_ble_eq_true rfl) dL_law_1031 ⟨(by show (kc + 1) + 1 ≤ room_1.cells; omega), (by show (ks + 6) + 4 ≤ room_1.slots; omega)⟩ ?_
  rintro _ ws ⟨rfl, hW⟩
  have hW : LW cc g ga xo xd ad (u161.2, (S.1, u159.2.2, u159.2.1, S.2.2.2).2) [] ws := hW
  refine q_nm (wz := ws) (ka := kc + 2) (kb := ks + 10) (sz := [.int u161.1]) rfl (by omega) (by omega) rfl ?_
  refine q_istore (pc := 1034) (lvq := [(7, .int u161.1), (6, .int u159.1), (0, .ref b), (1, .ref (g 0)), (2, .ref (ga 0)), (3, .ref xo), (4, .ref xd), (5, .int v5)]) C dL_law_1034 (by decide) rfl ?_
  refine q_aload_n (pc := 1036) C dL_law_1036 rfl 4 rfl ?_
  obtain ⟨u163, e164, hf⟩ := q_bind hf
  obtain ⟨_, he⟩ := hW.obj
  refine q_callV (pc := 1037) (As := []) (rest := []) C (c_X9_thrown l D cc N0 ga ad  (LG cc g xo xd (u161.2, (S.1, u159.2.2, u159.2.1, S.2.2.2).2) ++ []) (u161.2, (S.1, u159.2.2, u159.2.1, S.2.2.2).2).1  u163 e164 ws hW) gL_law_X9_thrown rfl rfl z_X9_thrown ⟨(Nat.le_of_ble_eq_true rfl), (Nat.le_of_ble_eq_true rfl)⟩ he rfl rfl rfl (Nat.le_of_ble_eq_true rfl) dL_law_1037 ⟨(by show (kc + 2) + 0 ≤ room_1.cells; omega), (by show (ks + 10) + 0 ≤ room_1.slots; omega)⟩ ?_
  rintro _ ws ⟨rfl, hW⟩
  have hW : LW cc g ga xo xd ad (u161.2, (S.1, u159.2.2, u159.2.1, S.2.2.2).2) [] ws := hW
  refine q_nm (wz := ws) (ka := kc + 2) (kb := ks + 10) (sz := [.int u163]) rfl (by omega) (by omega) rfl ?_
  refine q_iload (pc := 1040) C dL_law_1040 1 rfl ?_
  refine q_icmp_eq (pc := 1042) (tgt := 1047) C dL_law_1042 (by decide) (fun c165 => ?_) (fun c165 => ?_)
  · have hf := q_iteT hf c165
    refine q_iload (pc := 1047) C dL_law_1047 1 rfl ?_
    refine q_if_ne (pc := 1049) (tgt := 1064) C dL_law_1049 (by decide) (fun c166 => ?_) (fun c166 => ?_)
    · have hf := q_iteF hf c166
      refine q_sub (lvq := [(0, .ref b), (1, .ref (g 0)), (2, .ref (ga 0)), (3, .ref xo), (4, .ref xd), (5, .int v5)]) [2, 3, 4, 5, 6, 7] rfl ?_
      exact w_L_law_1064 C CS hQ hk28 (kc + 2) (ks + 10) v5 (u161.2, (S.1, u159.2.2, u159.2.1, S.2.2.2).2) ad ws hf hW
    · have hf := q_iteT hf c166
      refine q_aload_n (pc := 1052) C dL_law_1052 rfl 5 rfl ?_
      refine q_iconst (pc := 1053) C (0 : Int32) dL_law_1053 q_ci_0 ?_
      refine LW.lald (pc := 1054) hW C dL_law_1054 ?_
      refine q_iload (pc := 1055) C dL_law_1055 0 rfl ?_
      refine q_i2l (pc := 1057) C dL_law_1057 rfl ?_
      refine q_lcmp (pc := 1058) C dL_law_1058 ?_
      refine q_if_eq (pc := 1059) (tgt := 1064) C dL_law_1059 (by decide) (fun c167 => ?_) (fun c167 => ?_)
      · have hf := q_iteT hf c167
        refine q_sub (lvq := [(0, .ref b), (1, .ref (g 0)), (2, .ref (ga 0)), (3, .ref xo), (4, .ref xd), (5, .int v5)]) [2, 3, 4, 5, 6, 7] rfl ?_
        exact w_L_law_1064 C CS hQ hk28 (kc + 2) (ks + 10) v5 (u161.2, (S.1, u159.2.2, u159.2.1, S.2.2.2).2) ad ws hf hW
      · have hf := q_iteF hf c167
        refine q_iconst (pc := 1062) C (0 : Int32) dL_law_1062 q_ci_0 ?_
        cases hf
  · have hf := q_iteF hf c165
    refine q_iconst (pc := 1045) C (0 : Int32) dL_law_1045 q_ci_0 ?_
    cases hf
set_option maxRecDepth 100000 in
set_option maxHeartbeats 8000000 in
theorem w_L_law_1127 {p : Program} {l : Launch} {e : Env} {s : State} {m : MethodId} {args : Array Value} {below : List Frame} {meth : Method} {c : Code} {D : va_G} {cc : Nat → ClassId} {N0 : Nat} {Q : State → Prop} {g ga : Nat → Nat} {xo xd b L : Nat} {xs : Nat → Int32} {k28 : Nat → Nat → Int32 → LSt → Option Bool} (C : q_C p s m args meth c cL_law 9 (some .boolean) wsL_law RL D cc N0) (CS : l.stackTraces = false ∧ va_X b L xs s s.heap ∧ b < s.heap.size ∧ ¬ q_A N0 b) (hQ : ∀ (kc ks : Nat) (ws : va_W) (pc : Nat) (lv : List (Nat × Value)), kc ≤ room_1.cells → ks ≤ room_1.slots → decode cL_law pc = .ok (.ireturn, 1) → q_WA p l e room_1 s m args below meth c D N0 9 Q kc ks ws pc lv [.int 1]) (hk28 : ∀ (kc ks : Nat) (v5 : Int32) (S : LSt) (ad : Nat → Nat → Nat) (ws : va_W), k28 kc ks v5 S = some true → LW cc g ga xo xd ad S [] ws → q_WA p l e room_1 s m args below meth c D N0 9 Q kc ks ws 28 [(0, .ref b), (1, .ref (g 0)), (2, .ref (ga 0)), (3, .ref xo), (4, .ref xd), (5, .int v5)] []) (kc ks : Nat) (v5 : Int32) (S : LSt) (ad : Nat → Nat → Nat) (ws : va_W) : f_L_law_1127 L xs k28 kc ks v5 S = some true → LW cc g ga xo xd ad S [] ws → q_WA p l e room_1 s m args below meth c D N0 9 Q kc ks ws 1127 [(0, .ref b), (1, .ref (g 0)), (2, .ref (ga 0)), (3, .ref xo), (4, .ref xd), (5, .int v5)] [] := by
  intro hf hW
  refine q_goto (pc := 1127) (tgt := 2537) C dL_law_1127 (by decide) ?_
  refine q_sub (lvq := [(0, .ref b), (1, .ref (g 0)), (2, .ref (ga 0)), (3, .ref xo), (4, .ref xd), (5, .int v5)]) [0, 1, 2, 3, 4, 5] rfl ?_
  exact w_L_law_2537 C CS hQ hk28 (kc) (ks) v5 S ad ws hf hW
set_option maxRecDepth 100000 in
set_option maxHeartbeats 8000000 in
theorem w_L_law_1121 {p : Program} {l : Launch} {e : Env} {s : State} {m : MethodId} {args : Array Value} {below : List Frame} {meth : Method} {c : Code} {D : va_G} {cc : Nat → ClassId} {N0 : Nat} {Q : State → Prop} {g ga : Nat → Nat} {xo xd b L : Nat} {xs : Nat → Int32} {k28 : Nat → Nat → Int32 → LSt → Option Bool} (C : q_C p s m args meth c cL_law 9 (some .boolean) wsL_law RL D cc N0) (CS : l.stackTraces = false ∧ va_X b L xs s s.heap ∧ b < s.heap.size ∧ ¬ q_A N0 b) (hQ : ∀ (kc ks : Nat) (ws : va_W) (pc : Nat) (lv : List (Nat × Value)), kc ≤ room_1.cells → ks ≤ room_1.slots → decode cL_law pc = .ok (.ireturn, 1) → q_WA p l e room_1 s m args below meth c D N0 9 Q kc ks ws pc lv [.int 1]) (hk28 : ∀ (kc ks : Nat) (v5 : Int32) (S : LSt) (ad : Nat → Nat → Nat) (ws : va_W), k28 kc ks v5 S = some true → LW cc g ga xo xd ad S [] ws → q_WA p l e room_1 s m args below meth c D N0 9 Q kc ks ws 28 [(0, .ref b), (1, .ref (g 0)), (2, .ref (ga 0)), (3, .ref xo), (4, .ref xd), (5, .int v5)] []) (kc ks : Nat) (v5 : Int32) (vt0 : Int64) (vt1 : Int64) (S : LSt) (ad : Nat → Nat → Nat) (ws : va_W) : f_L_law_1121 L xs k28 kc ks v5 vt0 vt1 S = some true → LW cc g ga xo xd ad S [] ws → q_WA p l e room_1 s m args below meth c D N0 9 Q kc ks ws 1121 [(0, .ref b), (1, .ref (g 0)), (2, .ref (ga 0)), (3, .ref xo), (4, .ref xd), (5, .int v5)] [.long vt0, .long vt1] := by
  intro hf hW
  refine q_lcmp (pc := 1121) C dL_law_1121 ?_
  refine q_if_eq (pc := 1122) (tgt := 1127) C dL_law_1122 (by decide) (fun c179 => ?_) (fun c179 => ?_)
  · have hf := q_iteT hf c179
    refine q_sub (lvq := [(0, .ref b), (1, .ref (g 0)), (2, .ref (ga 0)), (3, .ref xo), (4, .ref xd), (5, .int v5)]) [0, 1, 2, 3, 4, 5] rfl ?_
    exact w_L_law_1127 C CS hQ hk28 (kc) (ks) v5 S ad ws hf hW
  · have hf := q_iteF hf c179
    refine q_iconst (pc := 1125) C (0 : Int32) dL_law_1125 q_ci_0 ?_
    cases hf
set_option maxRecDepth 100000 in
set_option maxHeartbeats 8000000 in
theorem w_L_law_1067 {p : Program} {l : Launch} {e : Env} {s : State} {m : MethodId} {args : Array Value} {below : List Frame} {meth : Method} {c : Code} {D : va_G} {cc : Nat → ClassId} {N0 : Nat} {Q : State → Prop} {g ga : Nat → Nat} {xo xd b L : Nat} {xs : Nat → Int32} {k28 : Nat → Nat → Int32 → LSt → Option Bool} (C : q_C p s m args meth c cL_law 9 (some .boolean) wsL_law RL D cc N0) (CS : l.stackTraces = false ∧ va_X b L xs s s.heap ∧ b < s.heap.size ∧ ¬ q_A N0 b) (hQ : ∀ (kc ks : Nat) (ws : va_W) (pc : Nat) (lv : List (Nat × Value)), kc ≤ room_1.cells → ks ≤ room_1.slots → decode cL_law pc = .ok (.ireturn, 1) → q_WA p l e room_1 s m args below meth c D N0 9 Q kc ks ws pc lv [.int 1]) (hk28 : ∀ (kc ks : Nat) (v5 : Int32) (S : LSt) (ad : Nat → Nat → Nat) (ws : va_W), k28 kc ks v5 S = some true → LW cc g ga xo xd ad S [] ws → q_WA p l e room_1 s m args below meth c D N0 9 Q kc ks ws 28 [(0, .ref b), (1, .ref (g 0)), (2, .ref (ga 0)), (3, .ref xo), (4, .ref xd), (5, .int v5)] []) (kc ks : Nat) (v5 : Int32) (S : LSt) (ad : Nat → Nat → Nat) (ws : va_W) : f_L_law_1067 L xs k28 kc ks v5 S = some true → LW cc g ga xo xd ad S [] ws → q_WA p l e room_1 s m args below meth c D N0 9 Q kc ks ws 1067 [(0, .ref b), (1, .ref (g 0)), (2, .ref (ga 0)), (3, .ref xo), (4, .ref xd), (5, .int v5)] [] := by
  intro hf hW
  obtain ⟨hr, hf⟩ := q_gd hf
  obtain ⟨hr1, hr2⟩ := hr
  refine q_aload_n (pc := 1067) C dL_law_1067 rfl 1 rfl ?_
  refine q_aload_n (pc := 1068) C dL_law_1068 rfl 0 rfl ?_
  refine q_iload (pc := 1069) C dL_law_1069 5 rfl ?_
  refine q_iconst (pc := 1071) C (1 : Int32) dL_law_1071 q_ci_1 ?_
  refine q_iadd (pc := 1072) C dL_law_1072 ?_
  obtain ⟨g168, hf⟩ := q_gd hf
  refine q_sld (pc := 1073) C CS.2.1 CS.2.2.1 CS.2.2.2 g168 dL_law_1073 ?_
  refine q_aload_n (pc := 1074) C dL_law_1074 rfl 3 rfl ?_
  obtain ⟨u169, e170, hf⟩ := q_bind hf
  obtain ⟨T, hp, hb⟩ := hW.cls
  refine q_perm hp ?_
  refine q_callSH (pc := 1075) (As := [.ref (g 0), .int (xs (v5 + (1 : Int32)).toNatClampNeg), .ref xo]) (rest := []) C (c_L_isShattered l CS.1 D cc N0 g xo (ld5 cc xd S.2.2.2 :: T) S.2.1 (xs (v5 + (1 : Int32)).toNatClampNeg) S.2.2.1 u169 e170) gL_law_L_isShattered rfl z_L_isShattered ⟨(Nat.le_of_ble_eq_true rfl), (Nat.le_of_ble_eq_true rfl)⟩ rfl rfl (Nat.le_of_ble_eq_true rfl) dL_law_1075 ⟨(by show (kc) + 1 ≤ room_1.cells; omega), (by show (ks) + 6 ≤ room_1.slots; omega)⟩ ?_
  rintro _ _ ⟨rfl, rfl⟩
  have hW := hb (S.1, u169.2.2, u169.2.1, S.2.2.2) rfl
  refine LW.ren hW (fun ws hW => ?_)
  refine q_nm (wz := ws) (ka := kc + 1) (kb := ks + 6) (sz := [.int u169.1]) rfl (by omega) (by omega) rfl ?_
  refine q_istore (pc := 1078) (lvq := [(6, .int u169.1), (0, .ref b), (1, .ref (g 0)), (2, .ref (ga 0)), (3, .ref xo), (4, .ref xd), (5, .int v5)]) C dL_law_1078 (by decide) rfl ?_
  refine q_aload_n (pc := 1080) C dL_law_1080 rfl 3 rfl ?_
  refine q_aload_n (pc := 1081) C dL_law_1081 rfl 1 rfl ?_
  refine q_iload (pc := 1082) C dL_law_1082 6 rfl ?_
  refine q_iconst (pc := 1084) C (1 : Int32) dL_law_1084 q_ci_1 ?_
  refine q_iadd (pc := 1085) C dL_law_1085 ?_
  obtain ⟨g171, hf⟩ := q_gd hf
  refine q_sld (pc := 1086) C CS.2.1 CS.2.2.1 CS.2.2.2 g171 dL_law_1086 ?_
  obtain ⟨u172, e173, hf⟩ := q_bind hf
  obtain ⟨_, he⟩ := hW.obj
  refine q_callV (pc := 1087) (As := [.int (xs (v5 + (1 : Int32)).toNatClampNeg)]) (rest := []) C (c_X9_isShattered l D cc N0 ga ad  (LG cc g xo xd (S.1, u169.2.2, u169.2.1, S.2.2.2) ++ []) (S.1, u169.2.2, u169.2.1, S.2.2.2).1 (xs (v5 + (1 : Int32)).toNatClampNeg) u172 e173 ws hW) gL_law_X9_isShattered rfl rfl z_X9_isShattered ⟨(Nat.le_of_ble_eq_true rfl), (Nat.le_of_ble_eq_true rfl)⟩ he rfl rfl rfl (Nat.le_of_ble_eq_true rfl) dL_law_1087 ⟨(by show (kc + 1) + 2 ≤ room_1.cells; omega), (by show (ks + 6) + 68 ≤ room_1.slots; omega)⟩ ?_
  rintro _ ws ⟨rfl, hW⟩
  have hW : LW cc g ga xo xd ad (u172.2, (S.1, u169.2.2, u169.2.1, S.2.2.2).2) [] ws := hW
  refine q_nm (wz := ws) (ka := kc + 3) (kb := ks + 74) (sz := [.int (q_b u172.1)]) rfl (by omega) (by omega) rfl ?_
  refine q_istore (pc := 1090) (lvq := [(7, .int (q_b u172.1)), (6, .int u169.1), (0, .ref b), (1, .ref (g 0)), (2, .ref (ga 0)), (3, .ref xo), (4, .ref xd), (5, .int v5)]) C dL_law_1090 (by decide) rfl ?_
  refine q_aload_n (pc := 1092) C dL_law_1092 rfl 4 rfl ?_
  obtain ⟨u174, e175, hf⟩ := q_bind hf
  obtain ⟨_, he⟩ := hW.obj
  refine q_callV (pc := 1093) (As := []) (rest := []) C (c_X9_thrown l D cc N0 ga ad  (LG cc g xo xd (u172.2, (S.1, u169.2.2, u169.2.1, S.2.2.2).2) ++ []) (u172.2, (S.1, u169.2.2, u169.2.1, S.2.2.2).2).1  u174 e175 ws hW) gL_law_X9_thrown rfl rfl z_X9_thrown ⟨(Nat.le_of_ble_eq_true rfl), (Nat.le_of_ble_eq_true rfl)⟩ he rfl rfl rfl (Nat.le_of_ble_eq_true rfl) dL_law_1093 ⟨(by show (kc + 3) + 0 ≤ room_1.cells; omega), (by show (ks + 74) + 0 ≤ room_1.slots; omega)⟩ ?_
  rintro _ ws ⟨rfl, hW⟩
  have hW : LW cc g ga xo xd ad (u172.2, (S.1, u169.2.2, u169.2.1, S.2.2.2).2) [] ws := hW
  refine q_nm (wz := ws) (ka := kc + 3) (kb := ks + 74) (sz := [.int u174]) rfl (by omega) (by omega) rfl ?_
  refine q_iload (pc := 1096) C dL_law_1096 1 rfl ?_
  refine q_icmp_eq (pc := 1098) (tgt := 1103) C dL_law_1098 (by decide) (fun c176 => ?_) (fun c176 => ?_)
  · have hf := q_iteT hf c176
    refine q_iload (pc := 1103) C dL_law_1103 1 rfl ?_
    refine q_if_ne (pc := 1105) (tgt := 1127) C dL_law_1105 (by decide) (fun c177 => ?_) (fun c177 => ?_)
    · have hf := q_iteF hf c177
      refine q_sub (lvq := [(0, .ref b), (1, .ref (g 0)), (2, .ref (ga 0)), (3, .ref xo), (4, .ref xd), (5, .int v5)]) [2, 3, 4, 5, 6, 7] rfl ?_
      exact w_L_law_1127 C CS hQ hk28 (kc + 3) (ks + 74) v5 (u172.2, (S.1, u169.2.2, u169.2.1, S.2.2.2).2) ad ws hf hW
    · have hf := q_iteT hf c177
      refine q_aload_n (pc := 1108) C dL_law_1108 rfl 5 rfl ?_
      refine q_iconst (pc := 1109) C (0 : Int32) dL_law_1109 q_ci_0 ?_
      refine LW.lald (pc := 1110) hW C dL_law_1110 ?_
      refine q_iload (pc := 1111) C dL_law_1111 0 rfl ?_
      refine q_if_eq (pc := 1113) (tgt := 1120) C dL_law_1113 (by decide) (fun c178 => ?_) (fun c178 => ?_)
      · have hf := q_iteT hf c178
        refine q_lconst (pc := 1120) C (0 : Int64) dL_law_1120 q_cl_0 ?_
        refine q_sub (lvq := [(0, .ref b), (1, .ref (g 0)), (2, .ref (ga 0)), (3, .ref xo), (4, .ref xd), (5, .int v5)]) [2, 3, 4, 5, 6, 7] rfl ?_
        exact w_L_law_1121 C CS hQ hk28 (kc + 3) (ks + 74) v5 (0 : Int64) ((u172.2, (S.1, u169.2.2, u169.2.1, S.2.2.2).2).2.2.1 0) (u172.2, (S.1, u169.2.2, u169.2.1, S.2.2.2).2) ad ws hf hW
      · have hf := q_iteF hf c178
        refine q_lconst (pc := 1116) C (1 : Int64) dL_law_1116 q_cl_1 ?_
        refine q_goto (pc := 1117) (tgt := 1121) C dL_law_1117 (by decide) ?_
        refine q_sub (lvq := [(0, .ref b), (1, .ref (g 0)), (2, .ref (ga 0)), (3, .ref xo), (4, .ref xd), (5, .int v5)]) [2, 3, 4, 5, 6, 7] rfl ?_
        exact w_L_law_1121 C CS hQ hk28 (kc + 3) (ks + 74) v5 (1 : Int64) ((u172.2, (S.1, u169.2.2, u169.2.1, S.2.2.2).2).2.2.1 0) (u172.2, (S.1, u169.2.2, u169.2.1, S.2.2.2).2) ad ws hf hW
  · have hf := q_iteF hf c176
    refine q_iconst (pc := 1101) C (0 : Int32) dL_law_1101 q_ci_0 ?_
    cases hf
set_option maxRecDepth 100000 in
set_option maxHeartbeats 8000000 in
theorem w_L_law_1130 {p : Program} {l : Launch} {e : Env} {s : State} {m : MethodId} {args : Array Value} {below : List Frame} {meth : Method} {c : Code} {D : va_G} {cc : Nat → ClassId} {N0 : Nat} {Q : State → Prop} {g ga : Nat → Nat} {xo xd b L : Nat} {xs : Nat → Int32} {k28 : Nat → Nat → Int32 → LSt → Option Bool} (C : q_C p s m args meth c cL_law 9 (some .boolean) wsL_law RL D cc N0) (CS : l.stackTraces = false ∧ va_X b L xs s s.heap ∧ b < s.heap.size ∧ ¬ q_A N0 b) (hQ : ∀ (kc ks : Nat) (ws : va_W) (pc : Nat) (lv : List (Nat × Value)), kc ≤ room_1.cells → ks ≤ room_1.slots → decode cL_law pc = .ok (.ireturn, 1) → q_WA p l e room_1 s m args below meth c D N0 9 Q kc ks ws pc lv [.int 1]) (hk28 : ∀ (kc ks : Nat) (v5 : Int32) (S : LSt) (ad : Nat → Nat → Nat) (ws : va_W), k28 kc ks v5 S = some true → LW cc g ga xo xd ad S [] ws → q_WA p l e room_1 s m args below meth c D N0 9 Q kc ks ws 28 [(0, .ref b), (1, .ref (g 0)), (2, .ref (ga 0)), (3, .ref xo), (4, .ref xd), (5, .int v5)] []) (kc ks : Nat) (v5 : Int32) (S : LSt) (ad : Nat → Nat → Nat) (ws : va_W) : f_L_law_1130 L xs k28 kc ks v5 S = some true → LW cc g ga xo xd ad S [] ws → q_WA p l e room_1 s m args below meth c D N0 9 Q kc ks ws 1130 [(0, .ref b), (1, .ref (g 0)), (2, .ref (ga 0)), (3, .ref xo), (4, .ref xd), (5, .int v5)] [] := by
  intro hf hW
  obtain ⟨hr, hf⟩ := q_gd hf
  obtain ⟨hr1, hr2⟩ := hr
  refine q_aload_n (pc := 1130) C dL_law_1130 rfl 1 rfl ?_
  obtain ⟨T, hp, hb⟩ := hW.cls
  obtain ⟨u180, e181, hf⟩ := q_bind hf
  refine q_perm hp ?_
  refine q_callV (pc := 1131) (As := []) (rest := []) C (c_X8_dimension l D cc N0 g (lo4 cc xo S.2.2.1 :: ld5 cc xd S.2.2.2 :: T) S.2.1 u180 e181) gL_law_X8_dimension rfl rfl z_X8_dimension ⟨(Nat.le_of_ble_eq_true rfl), (Nat.le_of_ble_eq_true rfl)⟩ (cw_at_0 cc g _ _) rfl rfl rfl (Nat.le_of_ble_eq_true rfl) dL_law_1131 ⟨(by show (kc) + 0 ≤ room_1.cells; omega), (by show (ks) + 0 ≤ room_1.slots; omega)⟩ ?_
  rintro _ _ ⟨rfl, rfl⟩
  have hW := hb S rfl
  refine LW.ren hW (fun ws hW => ?_)
  refine q_nm (wz := ws) (ka := kc) (kb := ks) (sz := [.int u180]) rfl (by omega) (by omega) rfl ?_
  refine q_aload_n (pc := 1134) C dL_law_1134 rfl 2 rfl ?_
  obtain ⟨u182, e183, hf⟩ := q_bind hf
  obtain ⟨_, he⟩ := hW.obj
  refine q_callV (pc := 1135) (As := []) (rest := [.int u180]) C (c_X9_dimension l D cc N0 ga ad  (LG cc g xo xd S ++ []) S.1  u182 e183 ws hW) gL_law_X9_dimension rfl rfl z_X9_dimension ⟨(Nat.le_of_ble_eq_true rfl), (Nat.le_of_ble_eq_true rfl)⟩ he rfl rfl rfl (Nat.le_of_ble_eq_true rfl) dL_law_1135 ⟨(by show (kc) + 140 ≤ room_1.cells; omega), (by show (ks) + 4760 ≤ room_1.slots; omega)⟩ ?_
  rintro _ ws ⟨rfl, hW⟩
  have hW : LW cc g ga xo xd ad (u182.2, S.2) [] ws := hW
  refine q_nm (wz := ws) (ka := kc + 140) (kb := ks + 4760) (sz := [.int u182.1, .int u180]) rfl (by omega) (by omega) rfl ?_
  refine q_icmp_eq (pc := 1138) (tgt := 2537) C dL_law_1138 (by decide) (fun c184 => ?_) (fun c184 => ?_)
  · have hf := q_iteT hf c184
    refine q_sub (lvq := [(0, .ref b), (1, .ref (g 0)), (2, .ref (ga 0)), (3, .ref xo), (4, .ref xd), (5, .int v5)]) [0, 1, 2, 3, 4, 5] rfl ?_
    exact w_L_law_2537 C CS hQ hk28 (kc + 140) (ks + 4760) v5 (u182.2, S.2) ad ws hf hW
  · have hf := q_iteF hf c184
    refine q_iconst (pc := 1141) C (0 : Int32) dL_law_1141 q_ci_0 ?_
    cases hf
set_option maxRecDepth 100000 in
set_option maxHeartbeats 8000000 in
theorem w_L_law_1196 {p : Program} {l : Launch} {e : Env} {s : State} {m : MethodId} {args : Array Value} {below : List Frame} {meth : Method} {c : Code} {D : va_G} {cc : Nat → ClassId} {N0 : Nat} {Q : State → Prop} {g ga : Nat → Nat} {xo xd b L : Nat} {xs : Nat → Int32} {k28 : Nat → Nat → Int32 → LSt → Option Bool} (C : q_C p s m args meth c cL_law 9 (some .boolean) wsL_law RL D cc N0) (CS : l.stackTraces = false ∧ va_X b L xs s s.heap ∧ b < s.heap.size ∧ ¬ q_A N0 b) (hQ : ∀ (kc ks : Nat) (ws : va_W) (pc : Nat) (lv : List (Nat × Value)), kc ≤ room_1.cells → ks ≤ room_1.slots → decode cL_law pc = .ok (.ireturn, 1) → q_WA p l e room_1 s m args below meth c D N0 9 Q kc ks ws pc lv [.int 1]) (hk28 : ∀ (kc ks : Nat) (v5 : Int32) (S : LSt) (ad : Nat → Nat → Nat) (ws : va_W), k28 kc ks v5 S = some true → LW cc g ga xo xd ad S [] ws → q_WA p l e room_1 s m args below meth c D N0 9 Q kc ks ws 28 [(0, .ref b), (1, .ref (g 0)), (2, .ref (ga 0)), (3, .ref xo), (4, .ref xd), (5, .int v5)] []) (kc ks : Nat) (v5 : Int32) (S : LSt) (ad : Nat → Nat → Nat) (ws : va_W) : f_L_law_1196 L xs k28 kc ks v5 S = some true → LW cc g ga xo xd ad S [] ws → q_WA p l e room_1 s m args below meth c D N0 9 Q kc ks ws 1196 [(0, .ref b), (1, .ref (g 0)), (2, .ref (ga 0)), (3, .ref xo), (4, .ref xd), (5, .int v5)] [] := by
  intro hf hW
  refine q_goto (pc := 1196) (tgt := 2537) C dL_law_1196 (by decide) ?_
  refine q_sub (lvq := [(0, .ref b), (1, .ref (g 0)), (2, .ref (ga 0)), (3, .ref xo), (4, .ref xd), (5, .int v5)]) [0, 1, 2, 3, 4, 5] rfl ?_
  exact w_L_law_2537 C CS hQ hk28 (kc) (ks) v5 S ad ws hf hW
set_option maxRecDepth 100000 in
set_option maxHeartbeats 8000000 in
theorem w_L_law_1143 {p : Program} {l : Launch} {e : Env} {s : State} {m : MethodId} {args : Array Value} {below : List Frame} {meth : Method} {c : Code} {D : va_G} {cc : Nat → ClassId} {N0 : Nat} {Q : State → Prop} {g ga : Nat → Nat} {xo xd b L : Nat} {xs : Nat → Int32} {k28 : Nat → Nat → Int32 → LSt → Option Bool} (C : q_C p s m args meth c cL_law 9 (some .boolean) wsL_law RL D cc N0) (CS : l.stackTraces = false ∧ va_X b L xs s s.heap ∧ b < s.heap.size ∧ ¬ q_A N0 b) (hQ : ∀ (kc ks : Nat) (ws : va_W) (pc : Nat) (lv : List (Nat × Value)), kc ≤ room_1.cells → ks ≤ room_1.slots → decode cL_law pc = .ok (.ireturn, 1) → q_WA p l e room_1 s m args below meth c D N0 9 Q kc ks ws pc lv [.int 1]) (hk28 : ∀ (kc ks : Nat) (v5 : Int32) (S : LSt) (ad : Nat → Nat → Nat) (ws : va_W), k28 kc ks v5 S = some true → LW cc g ga xo xd ad S [] ws → q_WA p l e room_1 s m args below meth c D N0 9 Q kc ks ws 28 [(0, .ref b), (1, .ref (g 0)), (2, .ref (ga 0)), (3, .ref xo), (4, .ref xd), (5, .int v5)] []) (kc ks : Nat) (v5 : Int32) (S : LSt) (ad : Nat → Nat → Nat) (ws : va_W) : f_L_law_1143 L xs k28 kc ks v5 S = some true → LW cc g ga xo xd ad S [] ws → q_WA p l e room_1 s m args below meth c D N0 9 Q kc ks ws 1143 [(0, .ref b), (1, .ref (g 0)), (2, .ref (ga 0)), (3, .ref xo), (4, .ref xd), (5, .int v5)] [] := by
  intro hf hW
  obtain ⟨hr, hf⟩ := q_gd hf
  obtain ⟨hr1, hr2⟩ := hr
  refine q_aload_n (pc := 1143) C dL_law_1143 rfl 1 rfl ?_
  refine q_aload_n (pc := 1144) C dL_law_1144 rfl 0 rfl ?_
  refine q_iload (pc := 1145) C dL_law_1145 5 rfl ?_
  refine q_iconst (pc := 1147) C (1 : Int32) dL_law_1147 q_ci_1 ?_
  refine q_iadd (pc := 1148) C dL_law_1148 ?_
  obtain ⟨g185, hf⟩ := q_gd hf
  refine q_sld (pc := 1149) C CS.2.1 CS.2.2.1 CS.2.2.2 g185 dL_law_1149 ?_
  refine q_aload_n (pc := 1150) C dL_law_1150 rfl 3 rfl ?_
  obtain ⟨u186, e187, hf⟩ := q_bind hf
  obtain ⟨T, hp, hb⟩ := hW.cls
  refine q_perm hp ?_
  refine q_callSH (pc := 1151) (As := [.ref (g 0), .int (xs (v5 + (1 : Int32)).toNatClampNeg), .ref xo]) (rest := []) C (c_L_lesson l CS.1 D cc N0 g xo (ld5 cc xd S.2.2.2 :: T) S.2.1 (xs (v5 + (1 : Int32)).toNatClampNeg) S.2.2.1 u186 e187) gL_law_L_lesson rfl z_L_lesson ⟨(Nat.le_of_ble_eq_true rfl), (Nat.le_of_ble_eq_true rfl)⟩ rfl rfl (Nat.le_of_ble_eq_true rfl) dL_law_1151 ⟨(by show (kc) + 1 ≤ room_1.cells; omega), (by show (ks) + 6 ≤ room_1.slots; omega)⟩ ?_
  rintro _ _ ⟨rfl, rfl⟩
  have hW := hb (S.1, u186.2.2, u186.2.1, S.2.2.2) rfl
  refine LW.ren hW (fun ws hW => ?_)
  refine q_nm (wz := ws) (ka := kc + 1) (kb := ks + 6) (sz := [.int u186.1]) rfl (by omega) (by omega) rfl ?_
  refine q_istore (pc := 1154) (lvq := [(6, .int u186.1), (0, .ref b), (1, .ref (g 0)), (2, .ref (ga 0)), (3, .ref xo), (4, .ref xd), (5, .int v5)]) C dL_law_1154 (by decide) rfl ?_
  refine q_aload_n (pc := 1156) C dL_law_1156 rfl 3 rfl ?_
  refine q_aload_n (pc := 1157) C dL_law_1157 rfl 1 rfl ?_
  refine q_iload (pc := 1158) C dL_law_1158 6 rfl ?_
  refine q_iconst (pc := 1160) C (1 : Int32) dL_law_1160 q_ci_1 ?_
  refine q_iadd (pc := 1161) C dL_law_1161 ?_
  obtain ⟨g188, hf⟩ := q_gd hf
  refine q_sld (pc := 1162) C CS.2.1 CS.2.2.1 CS.2.2.2 g188 dL_law_1162 ?_
  obtain ⟨u189, e190, hf⟩ := q_bind hf
  obtain ⟨_, he⟩ := hW.obj
  refine q_callV (pc := 1163) (As := [.int (xs (v5 + (1 : Int32)).toNatClampNeg)]) (rest := []) C (c_X9_lesson l D cc N0 ga ad  (LG cc g xo xd (S.1, u186.2.2, u186.2.1, S.2.2.2) ++ []) (S.1, u186.2.2, u186.2.1, S.2.2.2).1 (xs (v5 + (1 : Int32)).toNatClampNeg) u189 e190 ws hW) gL_law_X9_lesson rfl rfl z_X9_lesson ⟨(Nat.le_of_ble_eq_true rfl), (Nat.le_of_ble_eq_true rfl)⟩ he rfl rfl rfl (Nat.le_of_ble_eq_true rfl) dL_law_1163 ⟨(by show (kc + 1) + 0 ≤ room_1.cells; omega), (by show (ks + 6) + 0 ≤ room_1.slots; omega)⟩ ?_
  rintro _ ws ⟨rfl, hW⟩
  have hW : LW cc g ga xo xd ad (u189.2, (S.1, u186.2.2, u186.2.1, S.2.2.2).2) [] ws := hW
  refine q_nm (wz := ws) (ka := kc + 1) (kb := ks + 6) (sz := [.int u189.1]) rfl (by omega) (by omega) rfl ?_
  refine q_istore (pc := 1166) (lvq := [(7, .int u189.1), (6, .int u186.1), (0, .ref b), (1, .ref (g 0)), (2, .ref (ga 0)), (3, .ref xo), (4, .ref xd), (5, .int v5)]) C dL_law_1166 (by decide) rfl ?_
  refine q_aload_n (pc := 1168) C dL_law_1168 rfl 4 rfl ?_
  obtain ⟨u191, e192, hf⟩ := q_bind hf
  obtain ⟨_, he⟩ := hW.obj
  refine q_callV (pc := 1169) (As := []) (rest := []) C (c_X9_thrown l D cc N0 ga ad  (LG cc g xo xd (u189.2, (S.1, u186.2.2, u186.2.1, S.2.2.2).2) ++ []) (u189.2, (S.1, u186.2.2, u186.2.1, S.2.2.2).2).1  u191 e192 ws hW) gL_law_X9_thrown rfl rfl z_X9_thrown ⟨(Nat.le_of_ble_eq_true rfl), (Nat.le_of_ble_eq_true rfl)⟩ he rfl rfl rfl (Nat.le_of_ble_eq_true rfl) dL_law_1169 ⟨(by show (kc + 1) + 0 ≤ room_1.cells; omega), (by show (ks + 6) + 0 ≤ room_1.slots; omega)⟩ ?_
  rintro _ ws ⟨rfl, hW⟩
  have hW : LW cc g ga xo xd ad (u189.2, (S.1, u186.2.2, u186.2.1, S.2.2.2).2) [] ws := hW
  refine q_nm (wz := ws) (ka := kc + 1) (kb := ks + 6) (sz := [.int u191]) rfl (by omega) (by omega) rfl ?_
  refine q_iload (pc := 1172) C dL_law_1172 1 rfl ?_
  refine q_icmp_eq (pc := 1174) (tgt := 1179) C dL_law_1174 (by decide) (fun c193 => ?_) (fun c193 => ?_)
  · have hf := q_iteT hf c193
    refine q_iload (pc := 1179) C dL_law_1179 1 rfl ?_
    refine q_if_ne (pc := 1181) (tgt := 1196) C dL_law_1181 (by decide) (fun c194 => ?_) (fun c194 => ?_)
    · have hf := q_iteF hf c194
      refine q_sub (lvq := [(0, .ref b), (1, .ref (g 0)), (2, .ref (ga 0)), (3, .ref xo), (4, .ref xd), (5, .int v5)]) [2, 3, 4, 5, 6, 7] rfl ?_
      exact w_L_law_1196 C CS hQ hk28 (kc + 1) (ks + 6) v5 (u189.2, (S.1, u186.2.2, u186.2.1, S.2.2.2).2) ad ws hf hW
    · have hf := q_iteT hf c194
      refine q_aload_n (pc := 1184) C dL_law_1184 rfl 5 rfl ?_
      refine q_iconst (pc := 1185) C (0 : Int32) dL_law_1185 q_ci_0 ?_
      refine LW.lald (pc := 1186) hW C dL_law_1186 ?_
      refine q_iload (pc := 1187) C dL_law_1187 0 rfl ?_
      refine q_i2l (pc := 1189) C dL_law_1189 rfl ?_
      refine q_lcmp (pc := 1190) C dL_law_1190 ?_
      refine q_if_eq (pc := 1191) (tgt := 1196) C dL_law_1191 (by decide) (fun c195 => ?_) (fun c195 => ?_)
      · have hf := q_iteT hf c195
        refine q_sub (lvq := [(0, .ref b), (1, .ref (g 0)), (2, .ref (ga 0)), (3, .ref xo), (4, .ref xd), (5, .int v5)]) [2, 3, 4, 5, 6, 7] rfl ?_
        exact w_L_law_1196 C CS hQ hk28 (kc + 1) (ks + 6) v5 (u189.2, (S.1, u186.2.2, u186.2.1, S.2.2.2).2) ad ws hf hW
      · have hf := q_iteF hf c195
        refine q_iconst (pc := 1194) C (0 : Int32) dL_law_1194 q_ci_0 ?_
        cases hf
  · have hf := q_iteF hf c193
    refine q_iconst (pc := 1177) C (0 : Int32) dL_law_1177 q_ci_0 ?_
    cases hf
set_option maxRecDepth 100000 in
set_option maxHeartbeats 8000000 in
theorem w_L_law_1199 {p : Program} {l : Launch} {e : Env} {s : State} {m : MethodId} {args : Array Value} {below : List Frame} {meth : Method} {c : Code} {D : va_G} {cc : Nat → ClassId} {N0 : Nat} {Q : State → Prop} {g ga : Nat → Nat} {xo xd b L : Nat} {xs : Nat → Int32} {k28 : Nat → Nat → Int32 → LSt → Option Bool} (C : q_C p s m args meth c cL_law 9 (some .boolean) wsL_law RL D cc N0) (CS : l.stackTraces = false ∧ va_X b L xs s s.heap ∧ b < s.heap.size ∧ ¬ q_A N0 b) (hQ : ∀ (kc ks : Nat) (ws : va_W) (pc : Nat) (lv : List (Nat × Value)), kc ≤ room_1.cells → ks ≤ room_1.slots → decode cL_law pc = .ok (.ireturn, 1) → q_WA p l e room_1 s m args below meth c D N0 9 Q kc ks ws pc lv [.int 1]) (hk28 : ∀ (kc ks : Nat) (v5 : Int32) (S : LSt) (ad : Nat → Nat → Nat) (ws : va_W), k28 kc ks v5 S = some true → LW cc g ga xo xd ad S [] ws → q_WA p l e room_1 s m args below meth c D N0 9 Q kc ks ws 28 [(0, .ref b), (1, .ref (g 0)), (2, .ref (ga 0)), (3, .ref xo), (4, .ref xd), (5, .int v5)] []) (kc ks : Nat) (v5 : Int32) (S : LSt) (ad : Nat → Nat → Nat) (ws : va_W) : f_L_law_1199 L xs k28 kc ks v5 S = some true → LW cc g ga xo xd ad S [] ws → q_WA p l e room_1 s m args below meth c D N0 9 Q kc ks ws 1199 [(0, .ref b), (1, .ref (g 0)), (2, .ref (ga 0)), (3, .ref xo), (4, .ref xd), (5, .int v5)] [] := by
  intro hf hW
  obtain ⟨hr, hf⟩ := q_gd hf
  obtain ⟨hr1, hr2⟩ := hr
  refine q_aload_n (pc := 1199) C dL_law_1199 rfl 1 rfl ?_
  obtain ⟨T, hp, hb⟩ := hW.cls
  obtain ⟨u196, e197, hf⟩ := q_bind hf
  refine q_perm hp ?_
  refine q_callV (pc := 1200) (As := []) (rest := []) C (c_X8_depth l D cc N0 g (lo4 cc xo S.2.2.1 :: ld5 cc xd S.2.2.2 :: T) S.2.1 u196 e197) gL_law_X8_depth rfl rfl z_X8_depth ⟨(Nat.le_of_ble_eq_true rfl), (Nat.le_of_ble_eq_true rfl)⟩ (cw_at_0 cc g _ _) rfl rfl rfl (Nat.le_of_ble_eq_true rfl) dL_law_1200 ⟨(by show (kc) + 0 ≤ room_1.cells; omega), (by show (ks) + 0 ≤ room_1.slots; omega)⟩ ?_
  rintro _ _ ⟨rfl, rfl⟩
  have hW := hb (S.1, u196.2, S.2.2) rfl
  refine LW.ren hW (fun ws hW => ?_)
  refine q_nm (wz := ws) (ka := kc) (kb := ks) (sz := [.int u196.1]) rfl (by omega) (by omega) rfl ?_
  refine q_aload_n (pc := 1203) C dL_law_1203 rfl 2 rfl ?_
  obtain ⟨u198, e199, hf⟩ := q_bind hf
  obtain ⟨_, he⟩ := hW.obj
  refine q_callV (pc := 1204) (As := []) (rest := [.int u196.1]) C (c_X9_depth l D cc N0 ga ad  (LG cc g xo xd (S.1, u196.2, S.2.2) ++ []) (S.1, u196.2, S.2.2).1  u198 e199 ws hW) gL_law_X9_depth rfl rfl z_X9_depth ⟨(Nat.le_of_ble_eq_true rfl), (Nat.le_of_ble_eq_true rfl)⟩ he rfl rfl rfl (Nat.le_of_ble_eq_true rfl) dL_law_1204 ⟨(by show (kc) + 0 ≤ room_1.cells; omega), (by show (ks) + 0 ≤ room_1.slots; omega)⟩ ?_
  rintro _ ws ⟨rfl, hW⟩
  have hW : LW cc g ga xo xd ad (u198.2, (S.1, u196.2, S.2.2).2) [] ws := hW
  refine q_nm (wz := ws) (ka := kc) (kb := ks) (sz := [.int u198.1, .int u196.1]) rfl (by omega) (by omega) rfl ?_
  refine q_icmp_eq (pc := 1207) (tgt := 2537) C dL_law_1207 (by decide) (fun c200 => ?_) (fun c200 => ?_)
  · have hf := q_iteT hf c200
    refine q_sub (lvq := [(0, .ref b), (1, .ref (g 0)), (2, .ref (ga 0)), (3, .ref xo), (4, .ref xd), (5, .int v5)]) [0, 1, 2, 3, 4, 5] rfl ?_
    exact w_L_law_2537 C CS hQ hk28 (kc) (ks) v5 (u198.2, (S.1, u196.2, S.2.2).2) ad ws hf hW
  · have hf := q_iteF hf c200
    refine q_iconst (pc := 1210) C (0 : Int32) dL_law_1210 q_ci_0 ?_
    cases hf
set_option maxRecDepth 100000 in
set_option maxHeartbeats 8000000 in
theorem w_L_law_1212 {p : Program} {l : Launch} {e : Env} {s : State} {m : MethodId} {args : Array Value} {below : List Frame} {meth : Method} {c : Code} {D : va_G} {cc : Nat → ClassId} {N0 : Nat} {Q : State → Prop} {g ga : Nat → Nat} {xo xd b L : Nat} {xs : Nat → Int32} {k28 : Nat → Nat → Int32 → LSt → Option Bool} (C : q_C p s m args meth c cL_law 9 (some .boolean) wsL_law RL D cc N0) (CS : l.stackTraces = false ∧ va_X b L xs s s.heap ∧ b < s.heap.size ∧ ¬ q_A N0 b) (hQ : ∀ (kc ks : Nat) (ws : va_W) (pc : Nat) (lv : List (Nat × Value)), kc ≤ room_1.cells → ks ≤ room_1.slots → decode cL_law pc = .ok (.ireturn, 1) → q_WA p l e room_1 s m args below meth c D N0 9 Q kc ks ws pc lv [.int 1]) (hk28 : ∀ (kc ks : Nat) (v5 : Int32) (S : LSt) (ad : Nat → Nat → Nat) (ws : va_W), k28 kc ks v5 S = some true → LW cc g ga xo xd ad S [] ws → q_WA p l e room_1 s m args below meth c D N0 9 Q kc ks ws 28 [(0, .ref b), (1, .ref (g 0)), (2, .ref (ga 0)), (3, .ref xo), (4, .ref xd), (5, .int v5)] []) (kc ks : Nat) (v5 : Int32) (S : LSt) (ad : Nat → Nat → Nat) (ws : va_W) : f_L_law_1212 L xs k28 kc ks v5 S = some true → LW cc g ga xo xd ad S [] ws → q_WA p l e room_1 s m args below meth c D N0 9 Q kc ks ws 1212 [(0, .ref b), (1, .ref (g 0)), (2, .ref (ga 0)), (3, .ref xo), (4, .ref xd), (5, .int v5)] [] := by
  intro hf hW
  obtain ⟨hr, hf⟩ := q_gd hf
  obtain ⟨hr1, hr2⟩ := hr
  refine q_aload_n (pc := 1212) C dL_law_1212 rfl 1 rfl ?_
  obtain ⟨T, hp, hb⟩ := hW.cls
  obtain ⟨u201, e202, hf⟩ := q_bind hf
  refine q_perm hp ?_
  refine q_callV (pc := 1213) (As := []) (rest := []) C (c_X8_mistakes l D cc N0 g (lo4 cc xo S.2.2.1 :: ld5 cc xd S.2.2.2 :: T) S.2.1 u201 e202) gL_law_X8_mistakes rfl rfl z_X8_mistakes ⟨(Nat.le_of_ble_eq_true rfl), (Nat.le_of_ble_eq_true rfl)⟩ (cw_at_0 cc g _ _) rfl rfl rfl (Nat.le_of_ble_eq_true rfl) dL_law_1213 ⟨(by show (kc) + 0 ≤ room_1.cells; omega), (by show (ks) + 0 ≤ room_1.slots; omega)⟩ ?_
  rintro _ _ ⟨rfl, rfl⟩
  have hW := hb (S.1, u201.2, S.2.2) rfl
  refine LW.ren hW (fun ws hW => ?_)
  refine q_nm (wz := ws) (ka := kc) (kb := ks) (sz := [.int u201.1]) rfl (by omega) (by omega) rfl ?_
  refine q_aload_n (pc := 1216) C dL_law_1216 rfl 2 rfl ?_
  obtain ⟨u203, e204, hf⟩ := q_bind hf
  obtain ⟨_, he⟩ := hW.obj
  refine q_callV (pc := 1217) (As := []) (rest := [.int u201.1]) C (c_X9_mistakes l D cc N0 ga ad  (LG cc g xo xd (S.1, u201.2, S.2.2) ++ []) (S.1, u201.2, S.2.2).1  u203 e204 ws hW) gL_law_X9_mistakes rfl rfl z_X9_mistakes ⟨(Nat.le_of_ble_eq_true rfl), (Nat.le_of_ble_eq_true rfl)⟩ he rfl rfl rfl (Nat.le_of_ble_eq_true rfl) dL_law_1217 ⟨(by show (kc) + 0 ≤ room_1.cells; omega), (by show (ks) + 0 ≤ room_1.slots; omega)⟩ ?_
  rintro _ ws ⟨rfl, hW⟩
  have hW : LW cc g ga xo xd ad (u203.2, (S.1, u201.2, S.2.2).2) [] ws := hW
  refine q_nm (wz := ws) (ka := kc) (kb := ks) (sz := [.int u203.1, .int u201.1]) rfl (by omega) (by omega) rfl ?_
  refine q_icmp_eq (pc := 1220) (tgt := 2537) C dL_law_1220 (by decide) (fun c205 => ?_) (fun c205 => ?_)
  · have hf := q_iteT hf c205
    refine q_sub (lvq := [(0, .ref b), (1, .ref (g 0)), (2, .ref (ga 0)), (3, .ref xo), (4, .ref xd), (5, .int v5)]) [0, 1, 2, 3, 4, 5] rfl ?_
    exact w_L_law_2537 C CS hQ hk28 (kc) (ks) v5 (u203.2, (S.1, u201.2, S.2.2).2) ad ws hf hW
  · have hf := q_iteF hf c205
    refine q_iconst (pc := 1223) C (0 : Int32) dL_law_1223 q_ci_0 ?_
    cases hf
set_option maxRecDepth 100000 in
set_option maxHeartbeats 8000000 in
theorem w_L_law_1278 {p : Program} {l : Launch} {e : Env} {s : State} {m : MethodId} {args : Array Value} {below : List Frame} {meth : Method} {c : Code} {D : va_G} {cc : Nat → ClassId} {N0 : Nat} {Q : State → Prop} {g ga : Nat → Nat} {xo xd b L : Nat} {xs : Nat → Int32} {k28 : Nat → Nat → Int32 → LSt → Option Bool} (C : q_C p s m args meth c cL_law 9 (some .boolean) wsL_law RL D cc N0) (CS : l.stackTraces = false ∧ va_X b L xs s s.heap ∧ b < s.heap.size ∧ ¬ q_A N0 b) (hQ : ∀ (kc ks : Nat) (ws : va_W) (pc : Nat) (lv : List (Nat × Value)), kc ≤ room_1.cells → ks ≤ room_1.slots → decode cL_law pc = .ok (.ireturn, 1) → q_WA p l e room_1 s m args below meth c D N0 9 Q kc ks ws pc lv [.int 1]) (hk28 : ∀ (kc ks : Nat) (v5 : Int32) (S : LSt) (ad : Nat → Nat → Nat) (ws : va_W), k28 kc ks v5 S = some true → LW cc g ga xo xd ad S [] ws → q_WA p l e room_1 s m args below meth c D N0 9 Q kc ks ws 28 [(0, .ref b), (1, .ref (g 0)), (2, .ref (ga 0)), (3, .ref xo), (4, .ref xd), (5, .int v5)] []) (kc ks : Nat) (v5 : Int32) (S : LSt) (ad : Nat → Nat → Nat) (ws : va_W) : f_L_law_1278 L xs k28 kc ks v5 S = some true → LW cc g ga xo xd ad S [] ws → q_WA p l e room_1 s m args below meth c D N0 9 Q kc ks ws 1278 [(0, .ref b), (1, .ref (g 0)), (2, .ref (ga 0)), (3, .ref xo), (4, .ref xd), (5, .int v5)] [] := by
  intro hf hW
  refine q_goto (pc := 1278) (tgt := 2537) C dL_law_1278 (by decide) ?_
  refine q_sub (lvq := [(0, .ref b), (1, .ref (g 0)), (2, .ref (ga 0)), (3, .ref xo), (4, .ref xd), (5, .int v5)]) [0, 1, 2, 3, 4, 5] rfl ?_
  exact w_L_law_2537 C CS hQ hk28 (kc) (ks) v5 S ad ws hf hW
set_option maxRecDepth 100000 in
set_option maxHeartbeats 8000000 in
theorem w_L_law_1225 {p : Program} {l : Launch} {e : Env} {s : State} {m : MethodId} {args : Array Value} {below : List Frame} {meth : Method} {c : Code} {D : va_G} {cc : Nat → ClassId} {N0 : Nat} {Q : State → Prop} {g ga : Nat → Nat} {xo xd b L : Nat} {xs : Nat → Int32} {k28 : Nat → Nat → Int32 → LSt → Option Bool} (C : q_C p s m args meth c cL_law 9 (some .boolean) wsL_law RL D cc N0) (CS : l.stackTraces = false ∧ va_X b L xs s s.heap ∧ b < s.heap.size ∧ ¬ q_A N0 b) (hQ : ∀ (kc ks : Nat) (ws : va_W) (pc : Nat) (lv : List (Nat × Value)), kc ≤ room_1.cells → ks ≤ room_1.slots → decode cL_law pc = .ok (.ireturn, 1) → q_WA p l e room_1 s m args below meth c D N0 9 Q kc ks ws pc lv [.int 1]) (hk28 : ∀ (kc ks : Nat) (v5 : Int32) (S : LSt) (ad : Nat → Nat → Nat) (ws : va_W), k28 kc ks v5 S = some true → LW cc g ga xo xd ad S [] ws → q_WA p l e room_1 s m args below meth c D N0 9 Q kc ks ws 28 [(0, .ref b), (1, .ref (g 0)), (2, .ref (ga 0)), (3, .ref xo), (4, .ref xd), (5, .int v5)] []) (kc ks : Nat) (v5 : Int32) (S : LSt) (ad : Nat → Nat → Nat) (ws : va_W) : f_L_law_1225 L xs k28 kc ks v5 S = some true → LW cc g ga xo xd ad S [] ws → q_WA p l e room_1 s m args below meth c D N0 9 Q kc ks ws 1225 [(0, .ref b), (1, .ref (g 0)), (2, .ref (ga 0)), (3, .ref xo), (4, .ref xd), (5, .int v5)] [] := by
  intro hf hW
  obtain ⟨hr, hf⟩ := q_gd hf
  obtain ⟨hr1, hr2⟩ := hr
  refine q_aload_n (pc := 1225) C dL_law_1225 rfl 1 rfl ?_
  refine q_aload_n (pc := 1226) C dL_law_1226 rfl 0 rfl ?_
  refine q_iload (pc := 1227) C dL_law_1227 5 rfl ?_
  refine q_iconst (pc := 1229) C (1 : Int32) dL_law_1229 q_ci_1 ?_
  refine q_iadd (pc := 1230) C dL_law_1230 ?_
  obtain ⟨g206, hf⟩ := q_gd hf
  refine q_sld (pc := 1231) C CS.2.1 CS.2.2.1 CS.2.2.2 g206 dL_law_1231 ?_
  refine q_aload_n (pc := 1232) C dL_law_1232 rfl 3 rfl ?_
  obtain ⟨u207, e208, hf⟩ := q_bind hf
  obtain ⟨T, hp, hb⟩ := hW.cls
  refine q_perm hp ?_
  refine q_callSH (pc := 1233) (As := [.ref (g 0), .int (xs (v5 + (1 : Int32)).toNatClampNeg), .ref xo]) (rest := []) C (c_L_halver l CS.1 D cc N0 g xo (ld5 cc xd S.2.2.2 :: T) S.2.1 (xs (v5 + (1 : Int32)).toNatClampNeg) S.2.2.1 u207 e208) gL_law_L_halver rfl z_L_halver ⟨(Nat.le_of_ble_eq_true rfl), (Nat.le_of_ble_eq_true rfl)⟩ rfl rfl (Nat.le_of_ble_eq_true rfl) dL_law_1233 ⟨(by show (kc) + 1 ≤ room_1.cells; omega), (by show (ks) + 6 ≤ room_1.slots; omega)⟩ ?_
  rintro _ _ ⟨rfl, rfl⟩
  have hW := hb (S.1, u207.2.2, u207.2.1, S.2.2.2) rfl
  refine LW.ren hW (fun ws hW => ?_)
  refine q_nm (wz := ws) (ka := kc + 1) (kb := ks + 6) (sz := [.int u207.1]) rfl (by omega) (by omega) rfl ?_
  refine q_istore (pc := 1236) (lvq := [(6, .int u207.1), (0, .ref b), (1, .ref (g 0)), (2, .ref (ga 0)), (3, .ref xo), (4, .ref xd), (5, .int v5)]) C dL_law_1236 (by decide) rfl ?_
  refine q_aload_n (pc := 1238) C dL_law_1238 rfl 3 rfl ?_
  refine q_aload_n (pc := 1239) C dL_law_1239 rfl 1 rfl ?_
  refine q_iload (pc := 1240) C dL_law_1240 6 rfl ?_
  refine q_iconst (pc := 1242) C (1 : Int32) dL_law_1242 q_ci_1 ?_
  refine q_iadd (pc := 1243) C dL_law_1243 ?_
  obtain ⟨g209, hf⟩ := q_gd hf
  refine q_sld (pc := 1244) C CS.2.1 CS.2.2.1 CS.2.2.2 g209 dL_law_1244 ?_
  obtain ⟨u210, e211, hf⟩ := q_bind hf
  obtain ⟨_, he⟩ := hW.obj
  refine q_callV (pc := 1245) (As := [.int (xs (v5 + (1 : Int32)).toNatClampNeg)]) (rest := []) C (c_X9_halver l D cc N0 ga ad  (LG cc g xo xd (S.1, u207.2.2, u207.2.1, S.2.2.2) ++ []) (S.1, u207.2.2, u207.2.1, S.2.2.2).1 (xs (v5 + (1 : Int32)).toNatClampNeg) u210 e211 ws hW) gL_law_X9_halver rfl rfl z_X9_halver ⟨(Nat.le_of_ble_eq_true rfl), (Nat.le_of_ble_eq_true rfl)⟩ he rfl rfl rfl (Nat.le_of_ble_eq_true rfl) dL_law_1245 ⟨(by show (kc + 1) + 0 ≤ room_1.cells; omega), (by show (ks + 6) + 0 ≤ room_1.slots; omega)⟩ ?_
  rintro _ ws ⟨rfl, hW⟩
  have hW : LW cc g ga xo xd ad (u210.2, (S.1, u207.2.2, u207.2.1, S.2.2.2).2) [] ws := hW
  refine q_nm (wz := ws) (ka := kc + 1) (kb := ks + 6) (sz := [.int u210.1]) rfl (by omega) (by omega) rfl ?_
  refine q_istore (pc := 1248) (lvq := [(7, .int u210.1), (6, .int u207.1), (0, .ref b), (1, .ref (g 0)), (2, .ref (ga 0)), (3, .ref xo), (4, .ref xd), (5, .int v5)]) C dL_law_1248 (by decide) rfl ?_
  refine q_aload_n (pc := 1250) C dL_law_1250 rfl 4 rfl ?_
  obtain ⟨u212, e213, hf⟩ := q_bind hf
  obtain ⟨_, he⟩ := hW.obj
  refine q_callV (pc := 1251) (As := []) (rest := []) C (c_X9_thrown l D cc N0 ga ad  (LG cc g xo xd (u210.2, (S.1, u207.2.2, u207.2.1, S.2.2.2).2) ++ []) (u210.2, (S.1, u207.2.2, u207.2.1, S.2.2.2).2).1  u212 e213 ws hW) gL_law_X9_thrown rfl rfl z_X9_thrown ⟨(Nat.le_of_ble_eq_true rfl), (Nat.le_of_ble_eq_true rfl)⟩ he rfl rfl rfl (Nat.le_of_ble_eq_true rfl) dL_law_1251 ⟨(by show (kc + 1) + 0 ≤ room_1.cells; omega), (by show (ks + 6) + 0 ≤ room_1.slots; omega)⟩ ?_
  rintro _ ws ⟨rfl, hW⟩
  have hW : LW cc g ga xo xd ad (u210.2, (S.1, u207.2.2, u207.2.1, S.2.2.2).2) [] ws := hW
  refine q_nm (wz := ws) (ka := kc + 1) (kb := ks + 6) (sz := [.int u212]) rfl (by omega) (by omega) rfl ?_
  refine q_iload (pc := 1254) C dL_law_1254 1 rfl ?_
  refine q_icmp_eq (pc := 1256) (tgt := 1261) C dL_law_1256 (by decide) (fun c214 => ?_) (fun c214 => ?_)
  · have hf := q_iteT hf c214
    refine q_iload (pc := 1261) C dL_law_1261 1 rfl ?_
    refine q_if_ne (pc := 1263) (tgt := 1278) C dL_law_1263 (by decide) (fun c215 => ?_) (fun c215 => ?_)
    · have hf := q_iteF hf c215
      refine q_sub (lvq := [(0, .ref b), (1, .ref (g 0)), (2, .ref (ga 0)), (3, .ref xo), (4, .ref xd), (5, .int v5)]) [2, 3, 4, 5, 6, 7] rfl ?_
      exact w_L_law_1278 C CS hQ hk28 (kc + 1) (ks + 6) v5 (u210.2, (S.1, u207.2.2, u207.2.1, S.2.2.2).2) ad ws hf hW
    · have hf := q_iteT hf c215
      refine q_aload_n (pc := 1266) C dL_law_1266 rfl 5 rfl ?_
      refine q_iconst (pc := 1267) C (0 : Int32) dL_law_1267 q_ci_0 ?_
      refine LW.lald (pc := 1268) hW C dL_law_1268 ?_
      refine q_iload (pc := 1269) C dL_law_1269 0 rfl ?_
      refine q_i2l (pc := 1271) C dL_law_1271 rfl ?_
      refine q_lcmp (pc := 1272) C dL_law_1272 ?_
      refine q_if_eq (pc := 1273) (tgt := 1278) C dL_law_1273 (by decide) (fun c216 => ?_) (fun c216 => ?_)
      · have hf := q_iteT hf c216
        refine q_sub (lvq := [(0, .ref b), (1, .ref (g 0)), (2, .ref (ga 0)), (3, .ref xo), (4, .ref xd), (5, .int v5)]) [2, 3, 4, 5, 6, 7] rfl ?_
        exact w_L_law_1278 C CS hQ hk28 (kc + 1) (ks + 6) v5 (u210.2, (S.1, u207.2.2, u207.2.1, S.2.2.2).2) ad ws hf hW
      · have hf := q_iteF hf c216
        refine q_iconst (pc := 1276) C (0 : Int32) dL_law_1276 q_ci_0 ?_
        cases hf
  · have hf := q_iteF hf c214
    refine q_iconst (pc := 1259) C (0 : Int32) dL_law_1259 q_ci_0 ?_
    cases hf
set_option maxRecDepth 100000 in
set_option maxHeartbeats 8000000 in
theorem w_L_law_1334 {p : Program} {l : Launch} {e : Env} {s : State} {m : MethodId} {args : Array Value} {below : List Frame} {meth : Method} {c : Code} {D : va_G} {cc : Nat → ClassId} {N0 : Nat} {Q : State → Prop} {g ga : Nat → Nat} {xo xd b L : Nat} {xs : Nat → Int32} {k28 : Nat → Nat → Int32 → LSt → Option Bool} (C : q_C p s m args meth c cL_law 9 (some .boolean) wsL_law RL D cc N0) (CS : l.stackTraces = false ∧ va_X b L xs s s.heap ∧ b < s.heap.size ∧ ¬ q_A N0 b) (hQ : ∀ (kc ks : Nat) (ws : va_W) (pc : Nat) (lv : List (Nat × Value)), kc ≤ room_1.cells → ks ≤ room_1.slots → decode cL_law pc = .ok (.ireturn, 1) → q_WA p l e room_1 s m args below meth c D N0 9 Q kc ks ws pc lv [.int 1]) (hk28 : ∀ (kc ks : Nat) (v5 : Int32) (S : LSt) (ad : Nat → Nat → Nat) (ws : va_W), k28 kc ks v5 S = some true → LW cc g ga xo xd ad S [] ws → q_WA p l e room_1 s m args below meth c D N0 9 Q kc ks ws 28 [(0, .ref b), (1, .ref (g 0)), (2, .ref (ga 0)), (3, .ref xo), (4, .ref xd), (5, .int v5)] []) (kc ks : Nat) (v5 : Int32) (S : LSt) (ad : Nat → Nat → Nat) (ws : va_W) : f_L_law_1334 L xs k28 kc ks v5 S = some true → LW cc g ga xo xd ad S [] ws → q_WA p l e room_1 s m args below meth c D N0 9 Q kc ks ws 1334 [(0, .ref b), (1, .ref (g 0)), (2, .ref (ga 0)), (3, .ref xo), (4, .ref xd), (5, .int v5)] [] := by
  intro hf hW
  refine q_goto (pc := 1334) (tgt := 2537) C dL_law_1334 (by decide) ?_
  refine q_sub (lvq := [(0, .ref b), (1, .ref (g 0)), (2, .ref (ga 0)), (3, .ref xo), (4, .ref xd), (5, .int v5)]) [0, 1, 2, 3, 4, 5] rfl ?_
  exact w_L_law_2537 C CS hQ hk28 (kc) (ks) v5 S ad ws hf hW
set_option maxRecDepth 100000 in
set_option maxHeartbeats 8000000 in
theorem w_L_law_1281 {p : Program} {l : Launch} {e : Env} {s : State} {m : MethodId} {args : Array Value} {below : List Frame} {meth : Method} {c : Code} {D : va_G} {cc : Nat → ClassId} {N0 : Nat} {Q : State → Prop} {g ga : Nat → Nat} {xo xd b L : Nat} {xs : Nat → Int32} {k28 : Nat → Nat → Int32 → LSt → Option Bool} (C : q_C p s m args meth c cL_law 9 (some .boolean) wsL_law RL D cc N0) (CS : l.stackTraces = false ∧ va_X b L xs s s.heap ∧ b < s.heap.size ∧ ¬ q_A N0 b) (hQ : ∀ (kc ks : Nat) (ws : va_W) (pc : Nat) (lv : List (Nat × Value)), kc ≤ room_1.cells → ks ≤ room_1.slots → decode cL_law pc = .ok (.ireturn, 1) → q_WA p l e room_1 s m args below meth c D N0 9 Q kc ks ws pc lv [.int 1]) (hk28 : ∀ (kc ks : Nat) (v5 : Int32) (S : LSt) (ad : Nat → Nat → Nat) (ws : va_W), k28 kc ks v5 S = some true → LW cc g ga xo xd ad S [] ws → q_WA p l e room_1 s m args below meth c D N0 9 Q kc ks ws 28 [(0, .ref b), (1, .ref (g 0)), (2, .ref (ga 0)), (3, .ref xo), (4, .ref xd), (5, .int v5)] []) (kc ks : Nat) (v5 : Int32) (S : LSt) (ad : Nat → Nat → Nat) (ws : va_W) : f_L_law_1281 L xs k28 kc ks v5 S = some true → LW cc g ga xo xd ad S [] ws → q_WA p l e room_1 s m args below meth c D N0 9 Q kc ks ws 1281 [(0, .ref b), (1, .ref (g 0)), (2, .ref (ga 0)), (3, .ref xo), (4, .ref xd), (5, .int v5)] [] := by
  intro hf hW
  obtain ⟨hr, hf⟩ := q_gd hf
  obtain ⟨hr1, hr2⟩ := hr
  refine q_aload_n (pc := 1281) C dL_law_1281 rfl 1 rfl ?_
  refine q_aload_n (pc := 1282) C dL_law_1282 rfl 0 rfl ?_
  refine q_iload (pc := 1283) C dL_law_1283 5 rfl ?_
  refine q_iconst (pc := 1285) C (1 : Int32) dL_law_1285 q_ci_1 ?_
  refine q_iadd (pc := 1286) C dL_law_1286 ?_
  obtain ⟨g217, hf⟩ := q_gd hf
  refine q_sld (pc := 1287) C CS.2.1 CS.2.2.1 CS.2.2.2 g217 dL_law_1287 ?_
  refine q_aload_n (pc := 1288) C dL_law_1288 rfl 3 rfl ?_
  obtain ⟨u218, e219, hf⟩ := q_bind hf
  obtain ⟨T, hp, hb⟩ := hW.cls
  refine q_perm hp ?_
  refine q_callSH (pc := 1289) (As := [.ref (g 0), .int (xs (v5 + (1 : Int32)).toNatClampNeg), .ref xo]) (rest := []) C (c_L_experts l CS.1 D cc N0 g xo (ld5 cc xd S.2.2.2 :: T) S.2.1 (xs (v5 + (1 : Int32)).toNatClampNeg) S.2.2.1 u218 e219) gL_law_L_experts rfl z_L_experts ⟨(Nat.le_of_ble_eq_true rfl), (Nat.le_of_ble_eq_true rfl)⟩ rfl rfl (Nat.le_of_ble_eq_true rfl) dL_law_1289 ⟨(by show (kc) + 1 ≤ room_1.cells; omega), (by show (ks) + 6 ≤ room_1.slots; omega)⟩ ?_
  rintro _ _ ⟨rfl, rfl⟩
  have hW := hb (S.1, u218.2.2, u218.2.1, S.2.2.2) rfl
  refine LW.ren hW (fun ws hW => ?_)
  refine q_nm (wz := ws) (ka := kc + 1) (kb := ks + 6) (sz := [.int u218.1]) rfl (by omega) (by omega) rfl ?_
  refine q_istore (pc := 1292) (lvq := [(6, .int u218.1), (0, .ref b), (1, .ref (g 0)), (2, .ref (ga 0)), (3, .ref xo), (4, .ref xd), (5, .int v5)]) C dL_law_1292 (by decide) rfl ?_
  refine q_aload_n (pc := 1294) C dL_law_1294 rfl 3 rfl ?_
  refine q_aload_n (pc := 1295) C dL_law_1295 rfl 1 rfl ?_
  refine q_iload (pc := 1296) C dL_law_1296 6 rfl ?_
  refine q_iconst (pc := 1298) C (1 : Int32) dL_law_1298 q_ci_1 ?_
  refine q_iadd (pc := 1299) C dL_law_1299 ?_
  obtain ⟨g220, hf⟩ := q_gd hf
  refine q_sld (pc := 1300) C CS.2.1 CS.2.2.1 CS.2.2.2 g220 dL_law_1300 ?_
  obtain ⟨u221, e222, hf⟩ := q_bind hf
  obtain ⟨_, he⟩ := hW.obj
  refine q_callV (pc := 1301) (As := [.int (xs (v5 + (1 : Int32)).toNatClampNeg)]) (rest := []) C (c_X9_experts l D cc N0 ga ad  (LG cc g xo xd (S.1, u218.2.2, u218.2.1, S.2.2.2) ++ []) (S.1, u218.2.2, u218.2.1, S.2.2.2).1 (xs (v5 + (1 : Int32)).toNatClampNeg) u221 e222 ws hW) gL_law_X9_experts rfl rfl z_X9_experts ⟨(Nat.le_of_ble_eq_true rfl), (Nat.le_of_ble_eq_true rfl)⟩ he rfl rfl rfl (Nat.le_of_ble_eq_true rfl) dL_law_1301 ⟨(by show (kc + 1) + 20 ≤ room_1.cells; omega), (by show (ks + 6) + 1020 ≤ room_1.slots; omega)⟩ ?_
  rintro _ ws ⟨rfl, ad, hW⟩
  have hW : LW cc g ga xo xd ad (u221.2, (S.1, u218.2.2, u218.2.1, S.2.2.2).2) [] ws := hW
  refine q_nm (wz := ws) (ka := kc + 21) (kb := ks + 1026) (sz := [.int u221.1]) rfl (by omega) (by omega) rfl ?_
  refine q_istore (pc := 1304) (lvq := [(7, .int u221.1), (6, .int u218.1), (0, .ref b), (1, .ref (g 0)), (2, .ref (ga 0)), (3, .ref xo), (4, .ref xd), (5, .int v5)]) C dL_law_1304 (by decide) rfl ?_
  refine q_aload_n (pc := 1306) C dL_law_1306 rfl 4 rfl ?_
  obtain ⟨u223, e224, hf⟩ := q_bind hf
  obtain ⟨_, he⟩ := hW.obj
  refine q_callV (pc := 1307) (As := []) (rest := []) C (c_X9_thrown l D cc N0 ga ad  (LG cc g xo xd (u221.2, (S.1, u218.2.2, u218.2.1, S.2.2.2).2) ++ []) (u221.2, (S.1, u218.2.2, u218.2.1, S.2.2.2).2).1  u223 e224 ws hW) gL_law_X9_thrown rfl rfl z_X9_thrown ⟨(Nat.le_of_ble_eq_true rfl), (Nat.le_of_ble_eq_true rfl)⟩ he rfl rfl rfl (Nat.le_of_ble_eq_true rfl) dL_law_1307 ⟨(by show (kc + 21) + 0 ≤ room_1.cells; omega), (by show (ks + 1026) + 0 ≤ room_1.slots; omega)⟩ ?_
  rintro _ ws ⟨rfl, hW⟩
  have hW : LW cc g ga xo xd ad (u221.2, (S.1, u218.2.2, u218.2.1, S.2.2.2).2) [] ws := hW
  refine q_nm (wz := ws) (ka := kc + 21) (kb := ks + 1026) (sz := [.int u223]) rfl (by omega) (by omega) rfl ?_
  refine q_iload (pc := 1310) C dL_law_1310 1 rfl ?_
  refine q_icmp_eq (pc := 1312) (tgt := 1317) C dL_law_1312 (by decide) (fun c225 => ?_) (fun c225 => ?_)
  · have hf := q_iteT hf c225
    refine q_iload (pc := 1317) C dL_law_1317 1 rfl ?_
    refine q_if_ne (pc := 1319) (tgt := 1334) C dL_law_1319 (by decide) (fun c226 => ?_) (fun c226 => ?_)
    · have hf := q_iteF hf c226
      refine q_sub (lvq := [(0, .ref b), (1, .ref (g 0)), (2, .ref (ga 0)), (3, .ref xo), (4, .ref xd), (5, .int v5)]) [2, 3, 4, 5, 6, 7] rfl ?_
      exact w_L_law_1334 C CS hQ hk28 (kc + 21) (ks + 1026) v5 (u221.2, (S.1, u218.2.2, u218.2.1, S.2.2.2).2) ad ws hf hW
    · have hf := q_iteT hf c226
      refine q_aload_n (pc := 1322) C dL_law_1322 rfl 5 rfl ?_
      refine q_iconst (pc := 1323) C (0 : Int32) dL_law_1323 q_ci_0 ?_
      refine LW.lald (pc := 1324) hW C dL_law_1324 ?_
      refine q_iload (pc := 1325) C dL_law_1325 0 rfl ?_
      refine q_i2l (pc := 1327) C dL_law_1327 rfl ?_
      refine q_lcmp (pc := 1328) C dL_law_1328 ?_
      refine q_if_eq (pc := 1329) (tgt := 1334) C dL_law_1329 (by decide) (fun c227 => ?_) (fun c227 => ?_)
      · have hf := q_iteT hf c227
        refine q_sub (lvq := [(0, .ref b), (1, .ref (g 0)), (2, .ref (ga 0)), (3, .ref xo), (4, .ref xd), (5, .int v5)]) [2, 3, 4, 5, 6, 7] rfl ?_
        exact w_L_law_1334 C CS hQ hk28 (kc + 21) (ks + 1026) v5 (u221.2, (S.1, u218.2.2, u218.2.1, S.2.2.2).2) ad ws hf hW
      · have hf := q_iteF hf c227
        refine q_iconst (pc := 1332) C (0 : Int32) dL_law_1332 q_ci_0 ?_
        cases hf
  · have hf := q_iteF hf c225
    refine q_iconst (pc := 1315) C (0 : Int32) dL_law_1315 q_ci_0 ?_
    cases hf
set_option maxRecDepth 100000 in
set_option maxHeartbeats 8000000 in
theorem w_L_law_1425 {p : Program} {l : Launch} {e : Env} {s : State} {m : MethodId} {args : Array Value} {below : List Frame} {meth : Method} {c : Code} {D : va_G} {cc : Nat → ClassId} {N0 : Nat} {Q : State → Prop} {g ga : Nat → Nat} {xo xd b L : Nat} {xs : Nat → Int32} {k28 : Nat → Nat → Int32 → LSt → Option Bool} (C : q_C p s m args meth c cL_law 9 (some .boolean) wsL_law RL D cc N0) (CS : l.stackTraces = false ∧ va_X b L xs s s.heap ∧ b < s.heap.size ∧ ¬ q_A N0 b) (hQ : ∀ (kc ks : Nat) (ws : va_W) (pc : Nat) (lv : List (Nat × Value)), kc ≤ room_1.cells → ks ≤ room_1.slots → decode cL_law pc = .ok (.ireturn, 1) → q_WA p l e room_1 s m args below meth c D N0 9 Q kc ks ws pc lv [.int 1]) (hk28 : ∀ (kc ks : Nat) (v5 : Int32) (S : LSt) (ad : Nat → Nat → Nat) (ws : va_W), k28 kc ks v5 S = some true → LW cc g ga xo xd ad S [] ws → q_WA p l e room_1 s m args below meth c D N0 9 Q kc ks ws 28 [(0, .ref b), (1, .ref (g 0)), (2, .ref (ga 0)), (3, .ref xo), (4, .ref xd), (5, .int v5)] []) (kc ks : Nat) (v5 : Int32) (S : LSt) (ad : Nat → Nat → Nat) (ws : va_W) : f_L_law_1425 L xs k28 kc ks v5 S = some true → LW cc g ga xo xd ad S [] ws → q_WA p l e room_1 s m args below meth c D N0 9 Q kc ks ws 1425 [(0, .ref b), (1, .ref (g 0)), (2, .ref (ga 0)), (3, .ref xo), (4, .ref xd), (5, .int v5)] [] := by
  intro hf hW
  refine q_goto (pc := 1425) (tgt := 2537) C dL_law_1425 (by decide) ?_
  refine q_sub (lvq := [(0, .ref b), (1, .ref (g 0)), (2, .ref (ga 0)), (3, .ref xo), (4, .ref xd), (5, .int v5)]) [0, 1, 2, 3, 4, 5] rfl ?_
  exact w_L_law_2537 C CS hQ hk28 (kc) (ks) v5 S ad ws hf hW
set_option maxRecDepth 100000 in
set_option maxHeartbeats 8000000 in
theorem w_L_law_1419 {p : Program} {l : Launch} {e : Env} {s : State} {m : MethodId} {args : Array Value} {below : List Frame} {meth : Method} {c : Code} {D : va_G} {cc : Nat → ClassId} {N0 : Nat} {Q : State → Prop} {g ga : Nat → Nat} {xo xd b L : Nat} {xs : Nat → Int32} {k28 : Nat → Nat → Int32 → LSt → Option Bool} (C : q_C p s m args meth c cL_law 9 (some .boolean) wsL_law RL D cc N0) (CS : l.stackTraces = false ∧ va_X b L xs s s.heap ∧ b < s.heap.size ∧ ¬ q_A N0 b) (hQ : ∀ (kc ks : Nat) (ws : va_W) (pc : Nat) (lv : List (Nat × Value)), kc ≤ room_1.cells → ks ≤ room_1.slots → decode cL_law pc = .ok (.ireturn, 1) → q_WA p l e room_1 s m args below meth c D N0 9 Q kc ks ws pc lv [.int 1]) (hk28 : ∀ (kc ks : Nat) (v5 : Int32) (S : LSt) (ad : Nat → Nat → Nat) (ws : va_W), k28 kc ks v5 S = some true → LW cc g ga xo xd ad S [] ws → q_WA p l e room_1 s m args below meth c D N0 9 Q kc ks ws 28 [(0, .ref b), (1, .ref (g 0)), (2, .ref (ga 0)), (3, .ref xo), (4, .ref xd), (5, .int v5)] []) (kc ks : Nat) (v5 : Int32) (vt0 : Int64) (vt1 : Int64) (S : LSt) (ad : Nat → Nat → Nat) (ws : va_W) : f_L_law_1419 L xs k28 kc ks v5 vt0 vt1 S = some true → LW cc g ga xo xd ad S [] ws → q_WA p l e room_1 s m args below meth c D N0 9 Q kc ks ws 1419 [(0, .ref b), (1, .ref (g 0)), (2, .ref (ga 0)), (3, .ref xo), (4, .ref xd), (5, .int v5)] [.long vt0, .long vt1] := by
  intro hf hW
  refine q_lcmp (pc := 1419) C dL_law_1419 ?_
  refine q_if_eq (pc := 1420) (tgt := 1425) C dL_law_1420 (by decide) (fun c243 => ?_) (fun c243 => ?_)
  · have hf := q_iteT hf c243
    refine q_sub (lvq := [(0, .ref b), (1, .ref (g 0)), (2, .ref (ga 0)), (3, .ref xo), (4, .ref xd), (5, .int v5)]) [0, 1, 2, 3, 4, 5] rfl ?_
    exact w_L_law_1425 C CS hQ hk28 (kc) (ks) v5 S ad ws hf hW
  · have hf := q_iteF hf c243
    refine q_iconst (pc := 1423) C (0 : Int32) dL_law_1423 q_ci_0 ?_
    cases hf
