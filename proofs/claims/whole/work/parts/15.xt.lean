theorem n_X6_fillGroups_X1 : ∀ w ∈ wsX10, w ∈ wsX6_fillGroups := fun _ h => (List.mem_cons_of_mem _ (List.mem_append_left _ (List.mem_append_right _ h)))
theorem n_X6_fillGroups_X6 : ∀ w ∈ wsX60, w ∈ wsX6_fillGroups := fun _ h => (List.mem_cons_of_mem _ (List.mem_append_right _ h))
def f_X6_fillGroups_35b (k24 : Int32 → Int32 → CS → Option (Int32 × CS)) (k35 : Int32 → Int32 → Int32 → CS → Option (Int32 × CS)) (v2 : Int32) (v3 : Int32) (v4 : Int32) (S : CS) : Option (Int32 × CS) := (if v2 ≤ v4 then k24 (v2 * (3 : Int32)) (v3 + (1 : Int32)) S else k35 v2 v3 (v4 + (1 : Int32)) (cfun (cfun S 12 (q_pu 729 (S.1 12) (v4 + v2) ((q_at 729 (S.1 12) v4) &&& (f_X1_holding S v3)))) 12 (q_pu 729 ((cfun S 12 (q_pu 729 (S.1 12) (v4 + v2) ((q_at 729 (S.1 12) v4) &&& (f_X1_holding S v3)))).1 12) (v4 + ((2 : Int32) * v2)) ((q_at 729 ((cfun S 12 (q_pu 729 (S.1 12) (v4 + v2) ((q_at 729 (S.1 12) v4) &&& (f_X1_holding S v3)))).1 12) v4) &&& (f_X1_lacking (cfun S 12 (q_pu 729 (S.1 12) (v4 + v2) ((q_at 729 (S.1 12) v4) &&& (f_X1_holding S v3)))) v3)))))
def f_X6_fillGroups_35 (k24 : Int32 → Int32 → CS → Option (Int32 × CS)) : Nat → Int32 → Int32 → Int32 → CS → Option (Int32 × CS)
  | 0, _, _, _, _ => none
  | n + 1, v2, v3, v4, S => f_X6_fillGroups_35b k24 (f_X6_fillGroups_35 k24 n) v2 v3 v4 S
def f_X6_fillGroups_24b (k24 : Int32 → Int32 → CS → Option (Int32 × CS)) (v2 : Int32) (v3 : Int32) (S : CS) : Option (Int32 × CS) := (if (S.1 3 2) ≤ v3 then some (v2, S) else f_X6_fillGroups_35 k24 1000 v2 v3 (0 : Int32) S)
def f_X6_fillGroups_24 : Nat → Int32 → Int32 → CS → Option (Int32 × CS)
  | 0, _, _, _ => none
  | n + 1, v2, v3, S => f_X6_fillGroups_24b  (f_X6_fillGroups_24  n) v2 v3 S
def f_X6_fillGroups (S : CS) : Option (Int32 × CS) := f_X6_fillGroups_24 1000 (1 : Int32) (0 : Int32) (cfun (cset S 3 2 (S.1 2 2)) 12 (q_pu 729 ((cset S 3 2 (S.1 2 2)).1 12) (0 : Int32) (f_X1_everyone (cset S 3 2 (S.1 2 2)))))
set_option maxRecDepth 100000 in
set_option maxHeartbeats 4000000 in
theorem w_X6_fillGroups_35 {p : Program} {l : Launch} {e : Env} {s : State} {m : MethodId} {args : Array Value} {below : List Frame} {meth : Method} {c : Code} {D : va_G} {cc : Nat → ClassId} {N0 : Nat} {g : Nat → Nat} {E : va_W} {k24 : Int32 → Int32 → CS → Option (Int32 × CS)} {v : (Int32 × CS)} (C : q_C p s m args meth c cX6_fillGroups 5 (some .int) wsX6_fillGroups RX6 D cc N0) (hk24 : ∀ (v2 : Int32) (v3 : Int32) (S : CS), k24 v2 v3 S = some v → q_WA p l e (q_rm 2 42 0 0) s m args below meth c D N0 5 (MQ below (q_Q D N0 (q_p (some (.int v.1)) (cw cc g v.2 ++ E))) args s 0 0 (q_A N0)) 0 0 (cw cc g S ++ E) 24 [(0, .ref (g 3)), (1, .ref (g 2)), (2, .int v2), (3, .int v3)] []) : ∀ (n : Nat) (v2 : Int32) (v3 : Int32) (v4 : Int32) (S : CS), f_X6_fillGroups_35 k24 n v2 v3 v4 S = some v → q_WA p l e (q_rm 2 42 0 0) s m args below meth c D N0 5 (MQ below (q_Q D N0 (q_p (some (.int v.1)) (cw cc g v.2 ++ E))) args s 0 0 (q_A N0)) 0 0 (cw cc g S ++ E) 35 [(0, .ref (g 3)), (1, .ref (g 2)), (2, .int v2), (3, .int v3), (4, .int v4)] [] := by
  intro n
  induction n with
  | zero => intro v2 v3 v4 S hf; cases hf
  | succ n ih =>
    intro v2 v3 v4 S hf
    have hk35 : ∀ (v2 : Int32) (v3 : Int32) (v4 : Int32) (S : CS), f_X6_fillGroups_35 k24 n v2 v3 v4 S = some v → q_WA p l e (q_rm 2 42 0 0) s m args below meth c D N0 5 (MQ below (q_Q D N0 (q_p (some (.int v.1)) (cw cc g v.2 ++ E))) args s 0 0 (q_A N0)) 0 0 (cw cc g S ++ E) 35 [(0, .ref (g 3)), (1, .ref (g 2)), (2, .int v2), (3, .int v3), (4, .int v4)] [] := ih
    have hf : f_X6_fillGroups_35b k24 (f_X6_fillGroups_35 k24 n) v2 v3 v4 S = some v := hf
    refine q_iload (pc := 35) C dX6_fillGroups_35 4 rfl ?_
    refine q_iload_n (pc := 37) C dX6_fillGroups_37 rfl 2 rfl ?_
    refine q_icmp_ge (pc := 38) (tgt := 101) C dX6_fillGroups_38 (by decide) (fun c2 => ?_) (fun c2 => ?_)
    · have hf := q_iteT hf c2
      refine q_iload_n (pc := 101) C dX6_fillGroups_101 rfl 2 rfl ?_
      refine q_iconst (pc := 102) C (3 : Int32) dX6_fillGroups_102 q_ci_3 ?_
      refine q_imul (pc := 103) C dX6_fillGroups_103 ?_
      refine q_istore_n (pc := 104) (lvq := [(2, .int (v2 * (3 : Int32))), (0, .ref (g 3)), (1, .ref (g 2)), (3, .int v3), (4, .int v4)]) C dX6_fillGroups_104 rfl (by decide) rfl ?_
      refine q_iinc (pc := 105) (lvq := [(3, .int (v3 + (1 : Int32))), (2, .int (v2 * (3 : Int32))), (0, .ref (g 3)), (1, .ref (g 2)), (4, .int v4)]) C (v3 + (1 : Int32)) dX6_fillGroups_105 3 rfl q_ca_1 (by decide) rfl ?_
      refine q_goto (pc := 108) (tgt := 24) C dX6_fillGroups_108 (by decide) ?_
      refine q_sub (lvq := [(0, .ref (g 3)), (1, .ref (g 2)), (2, .int (v2 * (3 : Int32))), (3, .int (v3 + (1 : Int32)))]) [2, 3, 1, 0] rfl ?_
      exact hk24 (v2 * (3 : Int32)) (v3 + (1 : Int32)) S hf
    · have hf := q_iteF hf c2
      refine q_aload_n (pc := 41) C dX6_fillGroups_41 rfl 0 rfl ?_
      refine r_g_3_0 (pc := 42) C n_X6_fillGroups_X6 (List.mem_of_getElem? (i := 2) rfl) dX6_fillGroups_42 ?_
      refine q_iload (pc := 45) C dX6_fillGroups_45 4 rfl ?_
      refine q_iload_n (pc := 47) C dX6_fillGroups_47 rfl 2 rfl ?_
      refine q_iadd (pc := 48) C dX6_fillGroups_48 ?_
      refine q_aload_n (pc := 49) C dX6_fillGroups_49 rfl 0 rfl ?_
      refine r_g_3_0 (pc := 50) C n_X6_fillGroups_X6 (List.mem_of_getElem? (i := 2) rfl) dX6_fillGroups_50 ?_
      refine q_iload (pc := 53) C dX6_fillGroups_53 4 rfl ?_
      refine q_callSN (pc := 55) (host := "Queryschool") (As := [.ref (g 12), .int v4]) (rest := [.int (v4 + v2), .ref (g 12)]) C (c_X8_at l D cc N0 (cw cc g S ++ E) 12 (g 12) 729 (S.1 12) (by decide) (cw_at_12 cc g E S) v4) gX6_fillGroups_X8_at_n54 rfl (List.mem_of_getElem? (i := 11) rfl) (List.mem_of_getElem? (i := 10) rfl) (List.mem_of_getElem? (i := 12) rfl) z_X8_at ⟨Nat.le_of_ble_eq_true rfl, Nat.le_of_ble_eq_true rfl⟩ rfl rfl (Nat.le_of_ble_eq_true rfl) dX6_fillGroups_55 ⟨Nat.le_of_ble_eq_true rfl, Nat.le_of_ble_eq_true rfl⟩ ?_
      refine q_after (rv := (some (.int (q_at 729 (S.1 12) v4)))) (w0 := (cw cc g S ++ E)) (st2 := [.int (q_at 729 (S.1 12) v4), .int (v4 + v2), .ref (g 12)]) rfl rfl rfl ?_
      refine q_aload_n (pc := 58) C dX6_fillGroups_58 rfl 1 rfl ?_
      refine q_iload_n (pc := 59) C dX6_fillGroups_59 rfl 3 rfl ?_
      refine q_callV (pc := 60) (As := [.int v3]) (rest := [.int (q_at 729 (S.1 12) v4), .int (v4 + v2), .ref (g 12)]) C (c_X1_holding l D cc N0 g E S v3 _ rfl) gX6_fillGroups_X1_holding rfl rfl z_X1_holding ⟨Nat.le_of_ble_eq_true rfl, Nat.le_of_ble_eq_true rfl⟩ (cw_at_2 cc g E _) rfl rfl rfl (Nat.le_of_ble_eq_true rfl) dX6_fillGroups_60 ⟨Nat.le_of_ble_eq_true rfl, Nat.le_of_ble_eq_true rfl⟩ ?_
      refine q_after (rv := (some (.int (f_X1_holding S v3)))) (w0 := (cw cc g S ++ E)) (st2 := [.int (f_X1_holding S v3), .int (q_at 729 (S.1 12) v4), .int (v4 + v2), .ref (g 12)]) rfl rfl rfl ?_
      refine q_iand (pc := 63) C dX6_fillGroups_63 ?_
      refine q_callSN (pc := 64) (host := "Queryschool") (As := [.ref (g 12), .int (v4 + v2), .int ((q_at 729 (S.1 12) v4) &&& (f_X1_holding S v3))]) (rest := []) C (c_X8_put l D cc N0 (cw cc g S ++ E) 12 (g 12) 729 (S.1 12) (by decide) (cw_at_12 cc g E S) (v4 + v2) ((q_at 729 (S.1 12) v4) &&& (f_X1_holding S v3))) gX6_fillGroups_X8_put_n48 rfl (List.mem_of_getElem? (i := 10) rfl) (List.mem_of_getElem? (i := 10) rfl) (List.mem_of_getElem? (i := 9) rfl) z_X8_put ⟨Nat.le_of_ble_eq_true rfl, Nat.le_of_ble_eq_true rfl⟩ rfl rfl (Nat.le_of_ble_eq_true rfl) dX6_fillGroups_64 ⟨Nat.le_of_ble_eq_true rfl, Nat.le_of_ble_eq_true rfl⟩ ?_
      refine q_after (rv := none) (w0 := (cw cc g (cfun S 12 (q_pu 729 (S.1 12) (v4 + v2) ((q_at 729 (S.1 12) v4) &&& (f_X1_holding S v3)))) ++ E)) (st2 := []) (cw_fun_12 cc g E _ _) rfl rfl ?_
      refine q_aload_n (pc := 67) C dX6_fillGroups_67 rfl 0 rfl ?_
      refine r_g_3_0 (pc := 68) C n_X6_fillGroups_X6 (List.mem_of_getElem? (i := 2) rfl) dX6_fillGroups_68 ?_
      refine q_iload (pc := 71) C dX6_fillGroups_71 4 rfl ?_
      refine q_iconst (pc := 73) C (2 : Int32) dX6_fillGroups_73 q_ci_2 ?_
      refine q_iload_n (pc := 74) C dX6_fillGroups_74 rfl 2 rfl ?_
      refine q_imul (pc := 75) C dX6_fillGroups_75 ?_
      refine q_iadd (pc := 76) C dX6_fillGroups_76 ?_
      refine q_aload_n (pc := 77) C dX6_fillGroups_77 rfl 0 rfl ?_
      refine r_g_3_0 (pc := 78) C n_X6_fillGroups_X6 (List.mem_of_getElem? (i := 2) rfl) dX6_fillGroups_78 ?_
      refine q_iload (pc := 81) C dX6_fillGroups_81 4 rfl ?_
      refine q_callSN (pc := 83) (host := "Queryschool") (As := [.ref (g 12), .int v4]) (rest := [.int (v4 + ((2 : Int32) * v2)), .ref (g 12)]) C (c_X8_at l D cc N0 (cw cc g (cfun S 12 (q_pu 729 (S.1 12) (v4 + v2) ((q_at 729 (S.1 12) v4) &&& (f_X1_holding S v3)))) ++ E) 12 (g 12) 729 ((cfun S 12 (q_pu 729 (S.1 12) (v4 + v2) ((q_at 729 (S.1 12) v4) &&& (f_X1_holding S v3)))).1 12) (by decide) (cw_at_12 cc g E (cfun S 12 (q_pu 729 (S.1 12) (v4 + v2) ((q_at 729 (S.1 12) v4) &&& (f_X1_holding S v3))))) v4) gX6_fillGroups_X8_at_n54 rfl (List.mem_of_getElem? (i := 11) rfl) (List.mem_of_getElem? (i := 10) rfl) (List.mem_of_getElem? (i := 12) rfl) z_X8_at ⟨Nat.le_of_ble_eq_true rfl, Nat.le_of_ble_eq_true rfl⟩ rfl rfl (Nat.le_of_ble_eq_true rfl) dX6_fillGroups_83 ⟨Nat.le_of_ble_eq_true rfl, Nat.le_of_ble_eq_true rfl⟩ ?_
      refine q_after (rv := (some (.int (q_at 729 ((cfun S 12 (q_pu 729 (S.1 12) (v4 + v2) ((q_at 729 (S.1 12) v4) &&& (f_X1_holding S v3)))).1 12) v4)))) (w0 := (cw cc g (cfun S 12 (q_pu 729 (S.1 12) (v4 + v2) ((q_at 729 (S.1 12) v4) &&& (f_X1_holding S v3)))) ++ E)) (st2 := [.int (q_at 729 ((cfun S 12 (q_pu 729 (S.1 12) (v4 + v2) ((q_at 729 (S.1 12) v4) &&& (f_X1_holding S v3)))).1 12) v4), .int (v4 + ((2 : Int32) * v2)), .ref (g 12)]) rfl rfl rfl ?_
      refine q_aload_n (pc := 86) C dX6_fillGroups_86 rfl 1 rfl ?_
      refine q_iload_n (pc := 87) C dX6_fillGroups_87 rfl 3 rfl ?_
      refine q_callV (pc := 88) (As := [.int v3]) (rest := [.int (q_at 729 ((cfun S 12 (q_pu 729 (S.1 12) (v4 + v2) ((q_at 729 (S.1 12) v4) &&& (f_X1_holding S v3)))).1 12) v4), .int (v4 + ((2 : Int32) * v2)), .ref (g 12)]) C (c_X1_lacking l D cc N0 g E (cfun S 12 (q_pu 729 (S.1 12) (v4 + v2) ((q_at 729 (S.1 12) v4) &&& (f_X1_holding S v3)))) v3 _ rfl) gX6_fillGroups_X1_lacking rfl rfl z_X1_lacking ⟨Nat.le_of_ble_eq_true rfl, Nat.le_of_ble_eq_true rfl⟩ (cw_at_2 cc g E _) rfl rfl rfl (Nat.le_of_ble_eq_true rfl) dX6_fillGroups_88 ⟨Nat.le_of_ble_eq_true rfl, Nat.le_of_ble_eq_true rfl⟩ ?_
      refine q_after (rv := (some (.int (f_X1_lacking (cfun S 12 (q_pu 729 (S.1 12) (v4 + v2) ((q_at 729 (S.1 12) v4) &&& (f_X1_holding S v3)))) v3)))) (w0 := (cw cc g (cfun S 12 (q_pu 729 (S.1 12) (v4 + v2) ((q_at 729 (S.1 12) v4) &&& (f_X1_holding S v3)))) ++ E)) (st2 := [.int (f_X1_lacking (cfun S 12 (q_pu 729 (S.1 12) (v4 + v2) ((q_at 729 (S.1 12) v4) &&& (f_X1_holding S v3)))) v3), .int (q_at 729 ((cfun S 12 (q_pu 729 (S.1 12) (v4 + v2) ((q_at 729 (S.1 12) v4) &&& (f_X1_holding S v3)))).1 12) v4), .int (v4 + ((2 : Int32) * v2)), .ref (g 12)]) rfl rfl rfl ?_
      refine q_iand (pc := 91) C dX6_fillGroups_91 ?_
      refine q_callSN (pc := 92) (host := "Queryschool") (As := [.ref (g 12), .int (v4 + ((2 : Int32) * v2)), .int ((q_at 729 ((cfun S 12 (q_pu 729 (S.1 12) (v4 + v2) ((q_at 729 (S.1 12) v4) &&& (f_X1_holding S v3)))).1 12) v4) &&& (f_X1_lacking (cfun S 12 (q_pu 729 (S.1 12) (v4 + v2) ((q_at 729 (S.1 12) v4) &&& (f_X1_holding S v3)))) v3))]) (rest := []) C (c_X8_put l D cc N0 (cw cc g (cfun S 12 (q_pu 729 (S.1 12) (v4 + v2) ((q_at 729 (S.1 12) v4) &&& (f_X1_holding S v3)))) ++ E) 12 (g 12) 729 ((cfun S 12 (q_pu 729 (S.1 12) (v4 + v2) ((q_at 729 (S.1 12) v4) &&& (f_X1_holding S v3)))).1 12) (by decide) (cw_at_12 cc g E (cfun S 12 (q_pu 729 (S.1 12) (v4 + v2) ((q_at 729 (S.1 12) v4) &&& (f_X1_holding S v3))))) (v4 + ((2 : Int32) * v2)) ((q_at 729 ((cfun S 12 (q_pu 729 (S.1 12) (v4 + v2) ((q_at 729 (S.1 12) v4) &&& (f_X1_holding S v3)))).1 12) v4) &&& (f_X1_lacking (cfun S 12 (q_pu 729 (S.1 12) (v4 + v2) ((q_at 729 (S.1 12) v4) &&& (f_X1_holding S v3)))) v3))) gX6_fillGroups_X8_put_n48 rfl (List.mem_of_getElem? (i := 10) rfl) (List.mem_of_getElem? (i := 10) rfl) (List.mem_of_getElem? (i := 9) rfl) z_X8_put ⟨Nat.le_of_ble_eq_true rfl, Nat.le_of_ble_eq_true rfl⟩ rfl rfl (Nat.le_of_ble_eq_true rfl) dX6_fillGroups_92 ⟨Nat.le_of_ble_eq_true rfl, Nat.le_of_ble_eq_true rfl⟩ ?_
      refine q_after (rv := none) (w0 := (cw cc g (cfun (cfun S 12 (q_pu 729 (S.1 12) (v4 + v2) ((q_at 729 (S.1 12) v4) &&& (f_X1_holding S v3)))) 12 (q_pu 729 ((cfun S 12 (q_pu 729 (S.1 12) (v4 + v2) ((q_at 729 (S.1 12) v4) &&& (f_X1_holding S v3)))).1 12) (v4 + ((2 : Int32) * v2)) ((q_at 729 ((cfun S 12 (q_pu 729 (S.1 12) (v4 + v2) ((q_at 729 (S.1 12) v4) &&& (f_X1_holding S v3)))).1 12) v4) &&& (f_X1_lacking (cfun S 12 (q_pu 729 (S.1 12) (v4 + v2) ((q_at 729 (S.1 12) v4) &&& (f_X1_holding S v3)))) v3)))) ++ E)) (st2 := []) (cw_fun_12 cc g E _ _) rfl rfl ?_
      refine q_iinc (pc := 95) (lvq := [(4, .int (v4 + (1 : Int32))), (0, .ref (g 3)), (1, .ref (g 2)), (2, .int v2), (3, .int v3)]) C (v4 + (1 : Int32)) dX6_fillGroups_95 4 rfl q_ca_1 (by decide) rfl ?_
      refine q_goto (pc := 98) (tgt := 35) C dX6_fillGroups_98 (by decide) ?_
      refine q_sub (lvq := [(0, .ref (g 3)), (1, .ref (g 2)), (2, .int v2), (3, .int v3), (4, .int (v4 + (1 : Int32)))]) [1, 2, 3, 4, 0] rfl ?_
      exact hk35 v2 v3 (v4 + (1 : Int32)) (cfun (cfun S 12 (q_pu 729 (S.1 12) (v4 + v2) ((q_at 729 (S.1 12) v4) &&& (f_X1_holding S v3)))) 12 (q_pu 729 ((cfun S 12 (q_pu 729 (S.1 12) (v4 + v2) ((q_at 729 (S.1 12) v4) &&& (f_X1_holding S v3)))).1 12) (v4 + ((2 : Int32) * v2)) ((q_at 729 ((cfun S 12 (q_pu 729 (S.1 12) (v4 + v2) ((q_at 729 (S.1 12) v4) &&& (f_X1_holding S v3)))).1 12) v4) &&& (f_X1_lacking (cfun S 12 (q_pu 729 (S.1 12) (v4 + v2) ((q_at 729 (S.1 12) v4) &&& (f_X1_holding S v3)))) v3)))) hf
set_option maxRecDepth 100000 in
set_option maxHeartbeats 4000000 in
theorem w_X6_fillGroups_24 {p : Program} {l : Launch} {e : Env} {s : State} {m : MethodId} {args : Array Value} {below : List Frame} {meth : Method} {c : Code} {D : va_G} {cc : Nat → ClassId} {N0 : Nat} {g : Nat → Nat} {E : va_W} {v : (Int32 × CS)} (C : q_C p s m args meth c cX6_fillGroups 5 (some .int) wsX6_fillGroups RX6 D cc N0)  : ∀ (n : Nat) (v2 : Int32) (v3 : Int32) (S : CS), f_X6_fillGroups_24  n v2 v3 S = some v → q_WA p l e (q_rm 2 42 0 0) s m args below meth c D N0 5 (MQ below (q_Q D N0 (q_p (some (.int v.1)) (cw cc g v.2 ++ E))) args s 0 0 (q_A N0)) 0 0 (cw cc g S ++ E) 24 [(0, .ref (g 3)), (1, .ref (g 2)), (2, .int v2), (3, .int v3)] [] := by
  intro n
  induction n with
  | zero => intro v2 v3 S hf; cases hf
  | succ n ih =>
    intro v2 v3 S hf
    have hk24 : ∀ (v2 : Int32) (v3 : Int32) (S : CS), f_X6_fillGroups_24  n v2 v3 S = some v → q_WA p l e (q_rm 2 42 0 0) s m args below meth c D N0 5 (MQ below (q_Q D N0 (q_p (some (.int v.1)) (cw cc g v.2 ++ E))) args s 0 0 (q_A N0)) 0 0 (cw cc g S ++ E) 24 [(0, .ref (g 3)), (1, .ref (g 2)), (2, .int v2), (3, .int v3)] [] := ih
    have hf : f_X6_fillGroups_24b  (f_X6_fillGroups_24  n) v2 v3 S = some v := hf
    refine q_iload_n (pc := 24) C dX6_fillGroups_24 rfl 3 rfl ?_
    refine q_aload_n (pc := 25) C dX6_fillGroups_25 rfl 0 rfl ?_
    refine r_g_3_2 (pc := 26) C n_X6_fillGroups_X6 (List.mem_of_getElem? (i := 1) rfl) dX6_fillGroups_26 ?_
    refine q_icmp_ge (pc := 29) (tgt := 111) C dX6_fillGroups_29 (by decide) (fun c1 => ?_) (fun c1 => ?_)
    · have hf := q_iteT hf c1
      refine q_iload_n (pc := 111) C dX6_fillGroups_111 rfl 2 rfl ?_
      obtain rfl := q_some hf
      exact q_iret (pc := 112) C dX6_fillGroups_112 ⟨rfl, rfl⟩
    · have hf := q_iteF hf c1
      refine q_iconst (pc := 32) C (0 : Int32) dX6_fillGroups_32 q_ci_0 ?_
      refine q_istore (pc := 33) (lvq := [(4, .int (0 : Int32)), (0, .ref (g 3)), (1, .ref (g 2)), (2, .int v2), (3, .int v3)]) C dX6_fillGroups_33 (by decide) rfl ?_
      refine q_sub (lvq := [(0, .ref (g 3)), (1, .ref (g 2)), (2, .int v2), (3, .int v3), (4, .int (0 : Int32))]) [1, 2, 3, 4, 0] rfl ?_
      exact w_X6_fillGroups_35 C hk24 1000 v2 v3 (0 : Int32) S hf
set_option maxRecDepth 100000 in
set_option maxHeartbeats 4000000 in
theorem c_X6_fillGroups (l : Launch) (D : va_G) (cc : Nat → ClassId) (N0 : Nat) (g : Nat → Nat) (E : va_W) (S : CS) (v : (Int32 × CS)) (hf : f_X6_fillGroups S = some v) : q_Met l yX6_fillGroups wsX6_fillGroups 2 42 D cc N0 (cw cc g S ++ E) [.ref (g 3), .ref (g 2)] (q_p (some (.int v.1)) (cw cc g v.2 ++ E)) 0 0 := by
  refine q_ofW (code := cX6_fillGroups) (nL := 5) (ret := (some .int)) (by decide +kernel) rfl (Nat.le_of_ble_eq_true rfl) (fun p e s m below meth c C _ => ?_)
  refine q_lv (lv2 := [(0, .ref (g 3)), (1, .ref (g 2))]) rfl ?_
  refine q_iconst (pc := 0) C (1 : Int32) dX6_fillGroups_0 q_ci_1 ?_
  refine q_istore_n (pc := 1) (lvq := [(2, .int (1 : Int32)), (0, .ref (g 3)), (1, .ref (g 2))]) C dX6_fillGroups_1 rfl (by decide) rfl ?_
  refine q_aload_n (pc := 2) C dX6_fillGroups_2 rfl 1 rfl ?_
  refine q_aload_n (pc := 3) C dX6_fillGroups_3 rfl 2 rfl ?_
  refine r_n_2_2 (pc := 4) C n_X6_fillGroups_X1 (host := "Queryschool") (List.mem_of_getElem? (i := 0) rfl) dX6_fillGroups_4 ?_
  refine r_p_3_2 (pc := 7) C n_X6_fillGroups_X6 (List.mem_of_getElem? (i := 1) rfl) dX6_fillGroups_7 ?_
  refine q_aload_n (pc := 10) C dX6_fillGroups_10 rfl 1 rfl ?_
  refine r_g_3_0 (pc := 11) C n_X6_fillGroups_X6 (List.mem_of_getElem? (i := 2) rfl) dX6_fillGroups_11 ?_
  refine q_iconst (pc := 14) C (0 : Int32) dX6_fillGroups_14 q_ci_0 ?_
  refine q_aload_n (pc := 15) C dX6_fillGroups_15 rfl 2 rfl ?_
  refine q_callV (pc := 16) (As := []) (rest := [.int (0 : Int32), .ref (g 12)]) C (c_X1_everyone l D cc N0 g E (cset S 3 2 (S.1 2 2)) _ rfl) gX6_fillGroups_X1_everyone rfl rfl z_X1_everyone ⟨Nat.le_of_ble_eq_true rfl, Nat.le_of_ble_eq_true rfl⟩ (cw_at_2 cc g E _) rfl rfl rfl (Nat.le_of_ble_eq_true rfl) dX6_fillGroups_16 ⟨Nat.le_of_ble_eq_true rfl, Nat.le_of_ble_eq_true rfl⟩ ?_
  refine q_after (rv := (some (.int (f_X1_everyone (cset S 3 2 (S.1 2 2)))))) (w0 := (cw cc g (cset S 3 2 (S.1 2 2)) ++ E)) (st2 := [.int (f_X1_everyone (cset S 3 2 (S.1 2 2))), .int (0 : Int32), .ref (g 12)]) rfl rfl rfl ?_
  refine q_callSN (pc := 19) (host := "Queryschool") (As := [.ref (g 12), .int (0 : Int32), .int (f_X1_everyone (cset S 3 2 (S.1 2 2)))]) (rest := []) C (c_X8_put l D cc N0 (cw cc g (cset S 3 2 (S.1 2 2)) ++ E) 12 (g 12) 729 ((cset S 3 2 (S.1 2 2)).1 12) (by decide) (cw_at_12 cc g E (cset S 3 2 (S.1 2 2))) (0 : Int32) (f_X1_everyone (cset S 3 2 (S.1 2 2)))) gX6_fillGroups_X8_put_n48 rfl (List.mem_of_getElem? (i := 10) rfl) (List.mem_of_getElem? (i := 10) rfl) (List.mem_of_getElem? (i := 9) rfl) z_X8_put ⟨Nat.le_of_ble_eq_true rfl, Nat.le_of_ble_eq_true rfl⟩ rfl rfl (Nat.le_of_ble_eq_true rfl) dX6_fillGroups_19 ⟨Nat.le_of_ble_eq_true rfl, Nat.le_of_ble_eq_true rfl⟩ ?_
  refine q_after (rv := none) (w0 := (cw cc g (cfun (cset S 3 2 (S.1 2 2)) 12 (q_pu 729 ((cset S 3 2 (S.1 2 2)).1 12) (0 : Int32) (f_X1_everyone (cset S 3 2 (S.1 2 2))))) ++ E)) (st2 := []) (cw_fun_12 cc g E _ _) rfl rfl ?_
  refine q_iconst (pc := 22) C (0 : Int32) dX6_fillGroups_22 q_ci_0 ?_
  refine q_istore_n (pc := 23) (lvq := [(3, .int (0 : Int32)), (2, .int (1 : Int32)), (0, .ref (g 3)), (1, .ref (g 2))]) C dX6_fillGroups_23 rfl (by decide) rfl ?_
  refine q_sub (lvq := [(0, .ref (g 3)), (1, .ref (g 2)), (2, .int (1 : Int32)), (3, .int (0 : Int32))]) [2, 3, 1, 0] rfl ?_
  exact w_X6_fillGroups_24 C 1000 (1 : Int32) (0 : Int32) (cfun (cset S 3 2 (S.1 2 2)) 12 (q_pu 729 ((cset S 3 2 (S.1 2 2)).1 12) (0 : Int32) (f_X1_everyone (cset S 3 2 (S.1 2 2))))) hf
theorem z_X6_fillGroups : q_dsc yX6_fillGroups 1 := ⟨by decide +kernel, by decide +kernel, by decide +kernel⟩
theorem n_X6_isSettled_X6 : ∀ w ∈ wsX60, w ∈ wsX6_isSettled := fun _ h => (List.mem_cons_of_mem _ (List.mem_append_right _ h))
def f_X6_isSettled (S : CS) (a1 : Int32) : Bool := (if (2 : Int32) ≤ (f_J6_bitCount_0f7a4 (q_at 729 (S.1 12) a1)) then false else true)
set_option maxRecDepth 100000 in
set_option maxHeartbeats 4000000 in
theorem c_X6_isSettled (l : Launch) (D : va_G) (cc : Nat → ClassId) (N0 : Nat) (g : Nat → Nat) (E : va_W) (S : CS) (a1 : Int32) (v : Bool) (hf : f_X6_isSettled S a1 = v) : q_Met l yX6_isSettled wsX6_isSettled 1 21 D cc N0 (cw cc g S ++ E) [.ref (g 3), .int a1] (q_p (some (.int (q_b v))) (cw cc g S ++ E)) 0 0 := by
  refine q_ofW (code := cX6_isSettled) (nL := 2) (ret := (some .boolean)) (by decide +kernel) rfl (Nat.le_of_ble_eq_true rfl) (fun p e s m below meth c C _ => ?_)
  refine q_lv (lv2 := [(0, .ref (g 3)), (1, .int a1)]) rfl ?_
  refine q_aload_n (pc := 0) C dX6_isSettled_0 rfl 0 rfl ?_
  refine r_g_3_0 (pc := 1) C n_X6_isSettled_X6 (List.mem_of_getElem? (i := 1) rfl) dX6_isSettled_1 ?_
  refine q_iload_n (pc := 4) C dX6_isSettled_4 rfl 1 rfl ?_
  refine q_callSN (pc := 5) (host := "Queryschool") (As := [.ref (g 12), .int a1]) (rest := []) C (c_X8_at l D cc N0 (cw cc g S ++ E) 12 (g 12) 729 (S.1 12) (by decide) (cw_at_12 cc g E S) a1) gX6_isSettled_X8_at_n54 rfl (List.mem_of_getElem? (i := 11) rfl) (List.mem_of_getElem? (i := 3) rfl) (List.mem_of_getElem? (i := 2) rfl) z_X8_at ⟨Nat.le_of_ble_eq_true rfl, Nat.le_of_ble_eq_true rfl⟩ rfl rfl (Nat.le_of_ble_eq_true rfl) dX6_isSettled_5 ⟨Nat.le_of_ble_eq_true rfl, Nat.le_of_ble_eq_true rfl⟩ ?_
  refine q_after (rv := (some (.int (q_at 729 (S.1 12) a1)))) (w0 := (cw cc g S ++ E)) (st2 := [.int (q_at 729 (S.1 12) a1)]) rfl rfl rfl ?_
  refine q_callS (pc := 8) (As := [.int (q_at 729 (S.1 12) a1)]) (rest := []) C (c_J6_bitCount_0f7a4 l D cc N0 (cw cc g S ++ E) (q_at 729 (S.1 12) a1) _ rfl) gX6_isSettled_J6_bitCount_0f7a4 rfl z_J6_bitCount_0f7a4 ⟨Nat.le_of_ble_eq_true rfl, Nat.le_of_ble_eq_true rfl⟩ rfl rfl (Nat.le_of_ble_eq_true rfl) dX6_isSettled_8 ⟨Nat.le_of_ble_eq_true rfl, Nat.le_of_ble_eq_true rfl⟩ ?_
  refine q_after (rv := (some (.int (f_J6_bitCount_0f7a4 (q_at 729 (S.1 12) a1))))) (w0 := (cw cc g S ++ E)) (st2 := [.int (f_J6_bitCount_0f7a4 (q_at 729 (S.1 12) a1))]) rfl rfl rfl ?_
  refine q_iconst (pc := 11) C (2 : Int32) dX6_isSettled_11 q_ci_2 ?_
  refine q_icmp_ge (pc := 12) (tgt := 19) C dX6_isSettled_12 (by decide) (fun c1 => ?_) (fun c1 => ?_)
  · have hf := q_iteT hf c1
    refine q_iconst (pc := 19) C (0 : Int32) dX6_isSettled_19 q_ci_0 ?_
    obtain rfl := hf
    exact q_zret (pc := 20) C (by decide +kernel) dX6_isSettled_20 ⟨rfl, rfl⟩
  · have hf := q_iteF hf c1
    refine q_iconst (pc := 15) C (1 : Int32) dX6_isSettled_15 q_ci_1 ?_
    refine q_goto (pc := 16) (tgt := 20) C dX6_isSettled_16 (by decide) ?_
    obtain rfl := hf
    exact q_zret (pc := 20) C (by decide +kernel) dX6_isSettled_20 ⟨rfl, rfl⟩
theorem z_X6_isSettled : q_dsc yX6_isSettled 1 := ⟨by decide +kernel, by decide +kernel, by decide +kernel⟩
theorem n_X6_splits_X6 : ∀ w ∈ wsX60, w ∈ wsX6_splits := fun _ h => (List.mem_cons_of_mem _ (List.mem_append_right _ h))
def f_X6_splits (S : CS) (a1 : Int32) (a2 : Int32) : Bool := (if (q_at 729 (S.1 12) a1) = 0 then false else (if (q_at 729 (S.1 12) a2) = 0 then false else true))
set_option maxRecDepth 100000 in
set_option maxHeartbeats 4000000 in
theorem c_X6_splits (l : Launch) (D : va_G) (cc : Nat → ClassId) (N0 : Nat) (g : Nat → Nat) (E : va_W) (S : CS) (a1 : Int32) (a2 : Int32) (v : Bool) (hf : f_X6_splits S a1 a2 = v) : q_Met l yX6_splits wsX6_splits 1 21 D cc N0 (cw cc g S ++ E) [.ref (g 3), .int a1, .int a2] (q_p (some (.int (q_b v))) (cw cc g S ++ E)) 0 0 := by
  refine q_ofW (code := cX6_splits) (nL := 3) (ret := (some .boolean)) (by decide +kernel) rfl (Nat.le_of_ble_eq_true rfl) (fun p e s m below meth c C _ => ?_)
  refine q_lv (lv2 := [(0, .ref (g 3)), (1, .int a1), (2, .int a2)]) rfl ?_
  refine q_aload_n (pc := 0) C dX6_splits_0 rfl 0 rfl ?_
  refine r_g_3_0 (pc := 1) C n_X6_splits_X6 (List.mem_of_getElem? (i := 1) rfl) dX6_splits_1 ?_
  refine q_iload_n (pc := 4) C dX6_splits_4 rfl 1 rfl ?_
  refine q_callSN (pc := 5) (host := "Queryschool") (As := [.ref (g 12), .int a1]) (rest := []) C (c_X8_at l D cc N0 (cw cc g S ++ E) 12 (g 12) 729 (S.1 12) (by decide) (cw_at_12 cc g E S) a1) gX6_splits_X8_at_n54 rfl (List.mem_of_getElem? (i := 11) rfl) (List.mem_of_getElem? (i := 3) rfl) (List.mem_of_getElem? (i := 2) rfl) z_X8_at ⟨Nat.le_of_ble_eq_true rfl, Nat.le_of_ble_eq_true rfl⟩ rfl rfl (Nat.le_of_ble_eq_true rfl) dX6_splits_5 ⟨Nat.le_of_ble_eq_true rfl, Nat.le_of_ble_eq_true rfl⟩ ?_
  refine q_after (rv := (some (.int (q_at 729 (S.1 12) a1)))) (w0 := (cw cc g S ++ E)) (st2 := [.int (q_at 729 (S.1 12) a1)]) rfl rfl rfl ?_
  refine q_if_eq (pc := 8) (tgt := 26) C dX6_splits_8 (by decide) (fun c1 => ?_) (fun c1 => ?_)
  · have hf := q_iteT hf c1
    refine q_iconst (pc := 26) C (0 : Int32) dX6_splits_26 q_ci_0 ?_
    obtain rfl := hf
    exact q_zret (pc := 27) C (by decide +kernel) dX6_splits_27 ⟨rfl, rfl⟩
  · have hf := q_iteF hf c1
    refine q_aload_n (pc := 11) C dX6_splits_11 rfl 0 rfl ?_
    refine r_g_3_0 (pc := 12) C n_X6_splits_X6 (List.mem_of_getElem? (i := 1) rfl) dX6_splits_12 ?_
    refine q_iload_n (pc := 15) C dX6_splits_15 rfl 2 rfl ?_
    refine q_callSN (pc := 16) (host := "Queryschool") (As := [.ref (g 12), .int a2]) (rest := []) C (c_X8_at l D cc N0 (cw cc g S ++ E) 12 (g 12) 729 (S.1 12) (by decide) (cw_at_12 cc g E S) a2) gX6_splits_X8_at_n54 rfl (List.mem_of_getElem? (i := 11) rfl) (List.mem_of_getElem? (i := 3) rfl) (List.mem_of_getElem? (i := 2) rfl) z_X8_at ⟨Nat.le_of_ble_eq_true rfl, Nat.le_of_ble_eq_true rfl⟩ rfl rfl (Nat.le_of_ble_eq_true rfl) dX6_splits_16 ⟨Nat.le_of_ble_eq_true rfl, Nat.le_of_ble_eq_true rfl⟩ ?_
    refine q_after (rv := (some (.int (q_at 729 (S.1 12) a2)))) (w0 := (cw cc g S ++ E)) (st2 := [.int (q_at 729 (S.1 12) a2)]) rfl rfl rfl ?_
    refine q_if_eq (pc := 19) (tgt := 26) C dX6_splits_19 (by decide) (fun c2 => ?_) (fun c2 => ?_)
    · have hf := q_iteT hf c2
      refine q_iconst (pc := 26) C (0 : Int32) dX6_splits_26 q_ci_0 ?_
      obtain rfl := hf
      exact q_zret (pc := 27) C (by decide +kernel) dX6_splits_27 ⟨rfl, rfl⟩
    · have hf := q_iteF hf c2
      refine q_iconst (pc := 22) C (1 : Int32) dX6_splits_22 q_ci_1 ?_
      refine q_goto (pc := 23) (tgt := 27) C dX6_splits_23 (by decide) ?_
      obtain rfl := hf
      exact q_zret (pc := 27) C (by decide +kernel) dX6_splits_27 ⟨rfl, rfl⟩
theorem z_X6_splits : q_dsc yX6_splits 2 := ⟨by decide +kernel, by decide +kernel, by decide +kernel⟩
theorem n_X6_worthFrom_X6 : ∀ w ∈ wsX60, w ∈ wsX6_worthFrom := fun _ h => (List.mem_cons_of_mem _ (List.mem_append_right _ h))
def f_X6_worthFrom_132 (S : CS) (k22 : Int32 → Int32 → Int32 → Int32 → Int32 → Int32 → Option Int32) (v1 : Int32) (v2 : Int32) (v3 : Int32) (v4 : Int32) (v5 : Int32) (v6 : Int32) : Option Int32 := k22 v1 v2 v3 (v4 / (3 : Int32)) (v5 * (3 : Int32)) (v6 + (1 : Int32))
def f_X6_worthFrom_131 (S : CS) (k22 : Int32 → Int32 → Int32 → Int32 → Int32 → Int32 → Option Int32) (v1 : Int32) (v2 : Int32) (v4 : Int32) (v5 : Int32) (v6 : Int32) (t0 : Int32) : Option Int32 := f_X6_worthFrom_132 S k22 v1 v2 t0 v4 v5 v6
def f_X6_worthFrom_22b (S : CS) (k22 : Int32 → Int32 → Int32 → Int32 → Int32 → Int32 → Option Int32) (v1 : Int32) (v2 : Int32) (v3 : Int32) (v4 : Int32) (v5 : Int32) (v6 : Int32) : Option Int32 := (if (S.1 3 2) ≤ v6 then some v3 else (if (v4 - v4 / (3 : Int32) * (3 : Int32)) = 0 then (if (q_b (f_X6_splits S (v1 + v5) ((v1 + v5) + v5))) = 0 then f_X6_worthFrom_132 S k22 v1 v2 v3 v4 v5 v6 else (if v2 = 0 then f_X6_worthFrom_131 S k22 v1 v2 v4 v5 v6 (q_min v3 ((1 : Int32) + (q_max (q_at 729 (S.1 13) (v1 + v5)) (q_at 729 (S.1 13) ((v1 + v5) + v5))))) else f_X6_worthFrom_131 S k22 v1 v2 v4 v5 v6 (q_max v3 ((1 : Int32) + (q_min (q_at 729 (S.1 13) (v1 + v5)) (q_at 729 (S.1 13) ((v1 + v5) + v5))))))) else f_X6_worthFrom_132 S k22 v1 v2 v3 v4 v5 v6))
def f_X6_worthFrom_22 (S : CS) : Nat → Int32 → Int32 → Int32 → Int32 → Int32 → Int32 → Option Int32
  | 0, _, _, _, _, _, _ => none
  | n + 1, v1, v2, v3, v4, v5, v6 => f_X6_worthFrom_22b S (f_X6_worthFrom_22 S n) v1 v2 v3 v4 v5 v6
def f_X6_worthFrom_12 (S : CS) (v1 : Int32) (v2 : Int32) (t0 : Int32) : Option Int32 := f_X6_worthFrom_22 S 1000 v1 v2 t0 v1 (1 : Int32) (0 : Int32)
def f_X6_worthFrom (S : CS) (a1 : Int32) (a2 : Int32) : Option Int32 := (if a2 = 0 then f_X6_worthFrom_12 S a1 a2 (S.1 3 2) else f_X6_worthFrom_12 S a1 a2 (0 : Int32))
set_option maxRecDepth 100000 in
set_option maxHeartbeats 4000000 in
theorem w_X6_worthFrom_132 {p : Program} {l : Launch} {e : Env} {s : State} {m : MethodId} {args : Array Value} {below : List Frame} {meth : Method} {c : Code} {D : va_G} {cc : Nat → ClassId} {N0 : Nat} {g : Nat → Nat} {E : va_W} {S : CS} {k22 : Int32 → Int32 → Int32 → Int32 → Int32 → Int32 → Option Int32} {v : Int32} (C : q_C p s m args meth c cX6_worthFrom 11 (some .int) wsX6_worthFrom RX6 D cc N0) (hk22 : ∀ (v1 : Int32) (v2 : Int32) (v3 : Int32) (v4 : Int32) (v5 : Int32) (v6 : Int32), k22 v1 v2 v3 v4 v5 v6 = some v → q_WA p l e (q_rm 2 43 0 0) s m args below meth c D N0 11 (MQ below (q_Q D N0 (q_p (some (.int v)) (cw cc g S ++ E))) args s 0 0 (q_A N0)) 0 0 (cw cc g S ++ E) 22 [(0, .ref (g 3)), (1, .int v1), (2, .int v2), (3, .int v3), (4, .int v4), (5, .int v5), (6, .int v6)] []) (v1 : Int32) (v2 : Int32) (v3 : Int32) (v4 : Int32) (v5 : Int32) (v6 : Int32) (hf : f_X6_worthFrom_132 S k22 v1 v2 v3 v4 v5 v6 = some v) : q_WA p l e (q_rm 2 43 0 0) s m args below meth c D N0 11 (MQ below (q_Q D N0 (q_p (some (.int v)) (cw cc g S ++ E))) args s 0 0 (q_A N0)) 0 0 (cw cc g S ++ E) 132 [(0, .ref (g 3)), (1, .int v1), (2, .int v2), (3, .int v3), (4, .int v4), (5, .int v5), (6, .int v6)] [] := by
  refine q_iload (pc := 132) C dX6_worthFrom_132 4 rfl ?_
  refine q_iconst (pc := 134) C (3 : Int32) dX6_worthFrom_134 q_ci_3 ?_
  refine q_idiv (pc := 135) C dX6_worthFrom_135 (by decide +kernel) ?_
  refine q_istore (pc := 136) (lvq := [(4, .int (v4 / (3 : Int32))), (0, .ref (g 3)), (1, .int v1), (2, .int v2), (3, .int v3), (5, .int v5), (6, .int v6)]) C dX6_worthFrom_136 (by decide) rfl ?_
  refine q_iload (pc := 138) C dX6_worthFrom_138 5 rfl ?_
  refine q_iconst (pc := 140) C (3 : Int32) dX6_worthFrom_140 q_ci_3 ?_
  refine q_imul (pc := 141) C dX6_worthFrom_141 ?_
  refine q_istore (pc := 142) (lvq := [(5, .int (v5 * (3 : Int32))), (4, .int (v4 / (3 : Int32))), (0, .ref (g 3)), (1, .int v1), (2, .int v2), (3, .int v3), (6, .int v6)]) C dX6_worthFrom_142 (by decide) rfl ?_
  refine q_iinc (pc := 144) (lvq := [(6, .int (v6 + (1 : Int32))), (5, .int (v5 * (3 : Int32))), (4, .int (v4 / (3 : Int32))), (0, .ref (g 3)), (1, .int v1), (2, .int v2), (3, .int v3)]) C (v6 + (1 : Int32)) dX6_worthFrom_144 6 rfl q_ca_1 (by decide) rfl ?_
  refine q_goto (pc := 147) (tgt := 22) C dX6_worthFrom_147 (by decide) ?_
  refine q_sub (lvq := [(0, .ref (g 3)), (1, .int v1), (2, .int v2), (3, .int v3), (4, .int (v4 / (3 : Int32))), (5, .int (v5 * (3 : Int32))), (6, .int (v6 + (1 : Int32)))]) [3, 4, 5, 6, 2, 1, 0] rfl ?_
  exact hk22 v1 v2 v3 (v4 / (3 : Int32)) (v5 * (3 : Int32)) (v6 + (1 : Int32)) hf
set_option maxRecDepth 100000 in
set_option maxHeartbeats 4000000 in
theorem w_X6_worthFrom_131 {p : Program} {l : Launch} {e : Env} {s : State} {m : MethodId} {args : Array Value} {below : List Frame} {meth : Method} {c : Code} {D : va_G} {cc : Nat → ClassId} {N0 : Nat} {g : Nat → Nat} {E : va_W} {S : CS} {k22 : Int32 → Int32 → Int32 → Int32 → Int32 → Int32 → Option Int32} {v : Int32} (C : q_C p s m args meth c cX6_worthFrom 11 (some .int) wsX6_worthFrom RX6 D cc N0) (hk22 : ∀ (v1 : Int32) (v2 : Int32) (v3 : Int32) (v4 : Int32) (v5 : Int32) (v6 : Int32), k22 v1 v2 v3 v4 v5 v6 = some v → q_WA p l e (q_rm 2 43 0 0) s m args below meth c D N0 11 (MQ below (q_Q D N0 (q_p (some (.int v)) (cw cc g S ++ E))) args s 0 0 (q_A N0)) 0 0 (cw cc g S ++ E) 22 [(0, .ref (g 3)), (1, .int v1), (2, .int v2), (3, .int v3), (4, .int v4), (5, .int v5), (6, .int v6)] []) (v1 : Int32) (v2 : Int32) (v4 : Int32) (v5 : Int32) (v6 : Int32) (t0 : Int32) (hf : f_X6_worthFrom_131 S k22 v1 v2 v4 v5 v6 t0 = some v) : q_WA p l e (q_rm 2 43 0 0) s m args below meth c D N0 11 (MQ below (q_Q D N0 (q_p (some (.int v)) (cw cc g S ++ E))) args s 0 0 (q_A N0)) 0 0 (cw cc g S ++ E) 131 [(0, .ref (g 3)), (1, .int v1), (2, .int v2), (4, .int v4), (5, .int v5), (6, .int v6)] [.int t0] := by
  refine q_istore_n (pc := 131) (lvq := [(3, .int t0), (0, .ref (g 3)), (1, .int v1), (2, .int v2), (4, .int v4), (5, .int v5), (6, .int v6)]) C dX6_worthFrom_131 rfl (by decide) rfl ?_
  refine q_sub (lvq := [(0, .ref (g 3)), (1, .int v1), (2, .int v2), (3, .int t0), (4, .int v4), (5, .int v5), (6, .int v6)]) [1, 2, 3, 0, 4, 5, 6] rfl ?_
  exact w_X6_worthFrom_132 C hk22 v1 v2 t0 v4 v5 v6 hf
set_option maxRecDepth 100000 in
set_option maxHeartbeats 4000000 in
theorem w_X6_worthFrom_22 {p : Program} {l : Launch} {e : Env} {s : State} {m : MethodId} {args : Array Value} {below : List Frame} {meth : Method} {c : Code} {D : va_G} {cc : Nat → ClassId} {N0 : Nat} {g : Nat → Nat} {E : va_W} {S : CS} {v : Int32} (C : q_C p s m args meth c cX6_worthFrom 11 (some .int) wsX6_worthFrom RX6 D cc N0)  : ∀ (n : Nat) (v1 : Int32) (v2 : Int32) (v3 : Int32) (v4 : Int32) (v5 : Int32) (v6 : Int32), f_X6_worthFrom_22 S n v1 v2 v3 v4 v5 v6 = some v → q_WA p l e (q_rm 2 43 0 0) s m args below meth c D N0 11 (MQ below (q_Q D N0 (q_p (some (.int v)) (cw cc g S ++ E))) args s 0 0 (q_A N0)) 0 0 (cw cc g S ++ E) 22 [(0, .ref (g 3)), (1, .int v1), (2, .int v2), (3, .int v3), (4, .int v4), (5, .int v5), (6, .int v6)] [] := by
  intro n
  induction n with
  | zero => intro v1 v2 v3 v4 v5 v6 hf; cases hf
  | succ n ih =>
    intro v1 v2 v3 v4 v5 v6 hf
    have hk22 : ∀ (v1 : Int32) (v2 : Int32) (v3 : Int32) (v4 : Int32) (v5 : Int32) (v6 : Int32), f_X6_worthFrom_22 S n v1 v2 v3 v4 v5 v6 = some v → q_WA p l e (q_rm 2 43 0 0) s m args below meth c D N0 11 (MQ below (q_Q D N0 (q_p (some (.int v)) (cw cc g S ++ E))) args s 0 0 (q_A N0)) 0 0 (cw cc g S ++ E) 22 [(0, .ref (g 3)), (1, .int v1), (2, .int v2), (3, .int v3), (4, .int v4), (5, .int v5), (6, .int v6)] [] := ih
    have hf : f_X6_worthFrom_22b S (f_X6_worthFrom_22 S n) v1 v2 v3 v4 v5 v6 = some v := hf
    refine q_iload (pc := 22) C dX6_worthFrom_22 6 rfl ?_
    refine q_aload_n (pc := 24) C dX6_worthFrom_24 rfl 0 rfl ?_
    refine r_g_3_2 (pc := 25) C n_X6_worthFrom_X6 (List.mem_of_getElem? (i := 1) rfl) dX6_worthFrom_25 ?_
    refine q_icmp_ge (pc := 28) (tgt := 150) C dX6_worthFrom_28 (by decide) (fun c2 => ?_) (fun c2 => ?_)
    · have hf := q_iteT hf c2
      refine q_iload_n (pc := 150) C dX6_worthFrom_150 rfl 3 rfl ?_
      obtain rfl := q_some hf
      exact q_iret (pc := 151) C dX6_worthFrom_151 ⟨rfl, rfl⟩
    · have hf := q_iteF hf c2
      refine q_iload_n (pc := 31) C dX6_worthFrom_31 rfl 1 rfl ?_
      refine q_iload (pc := 32) C dX6_worthFrom_32 5 rfl ?_
      refine q_iadd (pc := 34) C dX6_worthFrom_34 ?_
      refine q_istore (pc := 35) (lvq := [(7, .int (v1 + v5)), (0, .ref (g 3)), (1, .int v1), (2, .int v2), (3, .int v3), (4, .int v4), (5, .int v5), (6, .int v6)]) C dX6_worthFrom_35 (by decide) rfl ?_
      refine q_iload (pc := 37) C dX6_worthFrom_37 0 rfl ?_
      refine q_iload (pc := 39) C dX6_worthFrom_39 6 rfl ?_
      refine q_iadd (pc := 41) C dX6_worthFrom_41 ?_
      refine q_istore (pc := 42) (lvq := [(8, .int ((v1 + v5) + v5)), (7, .int (v1 + v5)), (0, .ref (g 3)), (1, .int v1), (2, .int v2), (3, .int v3), (4, .int v4), (5, .int v5), (6, .int v6)]) C dX6_worthFrom_42 (by decide) rfl ?_
      refine q_iload (pc := 44) C dX6_worthFrom_44 6 rfl ?_
      refine q_iconst (pc := 46) C (3 : Int32) dX6_worthFrom_46 q_ci_3 ?_
      refine q_irem (pc := 47) C dX6_worthFrom_47 (by decide +kernel) ?_
      refine q_if_ne (pc := 48) (tgt := 132) C dX6_worthFrom_48 (by decide) (fun c3 => ?_) (fun c3 => ?_)
      · have hf := q_iteF hf c3
        refine q_sub (lvq := [(0, .ref (g 3)), (1, .int v1), (2, .int v2), (3, .int v3), (4, .int v4), (5, .int v5), (6, .int v6)]) [2, 3, 4, 5, 6, 7, 8] rfl ?_
        exact w_X6_worthFrom_132 C hk22 v1 v2 v3 v4 v5 v6 hf
      · have hf := q_iteT hf c3
        refine q_aload_n (pc := 51) C dX6_worthFrom_51 rfl 2 rfl ?_
        refine q_iload (pc := 52) C dX6_worthFrom_52 1 rfl ?_
        refine q_iload (pc := 54) C dX6_worthFrom_54 0 rfl ?_
        refine q_callV (pc := 56) (As := [.int (v1 + v5), .int ((v1 + v5) + v5)]) (rest := []) C (c_X6_splits l D cc N0 g E S (v1 + v5) ((v1 + v5) + v5) _ rfl) gX6_worthFrom_X6_splits rfl rfl z_X6_splits ⟨Nat.le_of_ble_eq_true rfl, Nat.le_of_ble_eq_true rfl⟩ (cw_at_3 cc g E _) rfl rfl rfl (Nat.le_of_ble_eq_true rfl) dX6_worthFrom_56 ⟨Nat.le_of_ble_eq_true rfl, Nat.le_of_ble_eq_true rfl⟩ ?_
        refine q_after (rv := (some (.int (q_b (f_X6_splits S (v1 + v5) ((v1 + v5) + v5)))))) (w0 := (cw cc g S ++ E)) (st2 := [.int (q_b (f_X6_splits S (v1 + v5) ((v1 + v5) + v5)))]) rfl rfl rfl ?_
        refine q_if_eq (pc := 59) (tgt := 132) C dX6_worthFrom_59 (by decide) (fun c4 => ?_) (fun c4 => ?_)
        · have hf := q_iteT hf c4
          refine q_sub (lvq := [(0, .ref (g 3)), (1, .int v1), (2, .int v2), (3, .int v3), (4, .int v4), (5, .int v5), (6, .int v6)]) [2, 3, 4, 5, 6, 7, 8] rfl ?_
          exact w_X6_worthFrom_132 C hk22 v1 v2 v3 v4 v5 v6 hf
        · have hf := q_iteF hf c4
          refine q_aload_n (pc := 62) C dX6_worthFrom_62 rfl 2 rfl ?_
          refine r_g_3_1 (pc := 63) C n_X6_worthFrom_X6 (List.mem_of_getElem? (i := 2) rfl) dX6_worthFrom_63 ?_
          refine q_iload (pc := 66) C dX6_worthFrom_66 1 rfl ?_
          refine q_callSN (pc := 68) (host := "Queryschool") (As := [.ref (g 13), .int (v1 + v5)]) (rest := []) C (c_X8_at l D cc N0 (cw cc g S ++ E) 13 (g 13) 729 (S.1 13) (by decide) (cw_at_13 cc g E S) (v1 + v5)) gX6_worthFrom_X8_at_n54 rfl (List.mem_of_getElem? (i := 11) rfl) (List.mem_of_getElem? (i := 17) rfl) (List.mem_of_getElem? (i := 16) rfl) z_X8_at ⟨Nat.le_of_ble_eq_true rfl, Nat.le_of_ble_eq_true rfl⟩ rfl rfl (Nat.le_of_ble_eq_true rfl) dX6_worthFrom_68 ⟨Nat.le_of_ble_eq_true rfl, Nat.le_of_ble_eq_true rfl⟩ ?_
          refine q_after (rv := (some (.int (q_at 729 (S.1 13) (v1 + v5))))) (w0 := (cw cc g S ++ E)) (st2 := [.int (q_at 729 (S.1 13) (v1 + v5))]) rfl rfl rfl ?_
          refine q_aload_n (pc := 71) C dX6_worthFrom_71 rfl 2 rfl ?_
          refine r_g_3_1 (pc := 72) C n_X6_worthFrom_X6 (List.mem_of_getElem? (i := 2) rfl) dX6_worthFrom_72 ?_
          refine q_iload (pc := 75) C dX6_worthFrom_75 0 rfl ?_
          refine q_callSN (pc := 77) (host := "Queryschool") (As := [.ref (g 13), .int ((v1 + v5) + v5)]) (rest := [.int (q_at 729 (S.1 13) (v1 + v5))]) C (c_X8_at l D cc N0 (cw cc g S ++ E) 13 (g 13) 729 (S.1 13) (by decide) (cw_at_13 cc g E S) ((v1 + v5) + v5)) gX6_worthFrom_X8_at_n54 rfl (List.mem_of_getElem? (i := 11) rfl) (List.mem_of_getElem? (i := 17) rfl) (List.mem_of_getElem? (i := 16) rfl) z_X8_at ⟨Nat.le_of_ble_eq_true rfl, Nat.le_of_ble_eq_true rfl⟩ rfl rfl (Nat.le_of_ble_eq_true rfl) dX6_worthFrom_77 ⟨Nat.le_of_ble_eq_true rfl, Nat.le_of_ble_eq_true rfl⟩ ?_
          refine q_after (rv := (some (.int (q_at 729 (S.1 13) ((v1 + v5) + v5))))) (w0 := (cw cc g S ++ E)) (st2 := [.int (q_at 729 (S.1 13) ((v1 + v5) + v5)), .int (q_at 729 (S.1 13) (v1 + v5))]) rfl rfl rfl ?_
          refine q_mmin (pc := 80) C (List.mem_of_getElem? (i := 3) rfl) (List.mem_of_getElem? (i := 4) rfl) (List.mem_of_getElem? (i := 5) rfl) (List.mem_of_getElem? (i := 6) rfl) (Nat.le_of_ble_eq_true rfl) (Nat.le_of_ble_eq_true rfl) ⟨Nat.le_of_ble_eq_true rfl, Nat.le_of_ble_eq_true rfl⟩ dX6_worthFrom_80 ?_
          refine q_istore (pc := 83) (lvq := [(9, .int (q_min (q_at 729 (S.1 13) (v1 + v5)) (q_at 729 (S.1 13) ((v1 + v5) + v5)))), (8, .int ((v1 + v5) + v5)), (7, .int (v1 + v5)), (0, .ref (g 3)), (1, .int v1), (2, .int v2), (3, .int v3), (4, .int v4), (5, .int v5), (6, .int v6)]) C dX6_worthFrom_83 (by decide) rfl ?_
          refine q_aload_n (pc := 85) C dX6_worthFrom_85 rfl 3 rfl ?_
          refine r_g_3_1 (pc := 86) C n_X6_worthFrom_X6 (List.mem_of_getElem? (i := 2) rfl) dX6_worthFrom_86 ?_
          refine q_iload (pc := 89) C dX6_worthFrom_89 2 rfl ?_
          refine q_callSN (pc := 91) (host := "Queryschool") (As := [.ref (g 13), .int (v1 + v5)]) (rest := []) C (c_X8_at l D cc N0 (cw cc g S ++ E) 13 (g 13) 729 (S.1 13) (by decide) (cw_at_13 cc g E S) (v1 + v5)) gX6_worthFrom_X8_at_n54 rfl (List.mem_of_getElem? (i := 11) rfl) (List.mem_of_getElem? (i := 17) rfl) (List.mem_of_getElem? (i := 16) rfl) z_X8_at ⟨Nat.le_of_ble_eq_true rfl, Nat.le_of_ble_eq_true rfl⟩ rfl rfl (Nat.le_of_ble_eq_true rfl) dX6_worthFrom_91 ⟨Nat.le_of_ble_eq_true rfl, Nat.le_of_ble_eq_true rfl⟩ ?_
          refine q_after (rv := (some (.int (q_at 729 (S.1 13) (v1 + v5))))) (w0 := (cw cc g S ++ E)) (st2 := [.int (q_at 729 (S.1 13) (v1 + v5))]) rfl rfl rfl ?_
          refine q_aload_n (pc := 94) C dX6_worthFrom_94 rfl 3 rfl ?_
          refine r_g_3_1 (pc := 95) C n_X6_worthFrom_X6 (List.mem_of_getElem? (i := 2) rfl) dX6_worthFrom_95 ?_
          refine q_iload (pc := 98) C dX6_worthFrom_98 1 rfl ?_
          refine q_callSN (pc := 100) (host := "Queryschool") (As := [.ref (g 13), .int ((v1 + v5) + v5)]) (rest := [.int (q_at 729 (S.1 13) (v1 + v5))]) C (c_X8_at l D cc N0 (cw cc g S ++ E) 13 (g 13) 729 (S.1 13) (by decide) (cw_at_13 cc g E S) ((v1 + v5) + v5)) gX6_worthFrom_X8_at_n54 rfl (List.mem_of_getElem? (i := 11) rfl) (List.mem_of_getElem? (i := 17) rfl) (List.mem_of_getElem? (i := 16) rfl) z_X8_at ⟨Nat.le_of_ble_eq_true rfl, Nat.le_of_ble_eq_true rfl⟩ rfl rfl (Nat.le_of_ble_eq_true rfl) dX6_worthFrom_100 ⟨Nat.le_of_ble_eq_true rfl, Nat.le_of_ble_eq_true rfl⟩ ?_
          refine q_after (rv := (some (.int (q_at 729 (S.1 13) ((v1 + v5) + v5))))) (w0 := (cw cc g S ++ E)) (st2 := [.int (q_at 729 (S.1 13) ((v1 + v5) + v5)), .int (q_at 729 (S.1 13) (v1 + v5))]) rfl rfl rfl ?_
          refine q_mmax (pc := 103) C (List.mem_of_getElem? (i := 7) rfl) (List.mem_of_getElem? (i := 8) rfl) (List.mem_of_getElem? (i := 5) rfl) (List.mem_of_getElem? (i := 9) rfl) (Nat.le_of_ble_eq_true rfl) (Nat.le_of_ble_eq_true rfl) ⟨Nat.le_of_ble_eq_true rfl, Nat.le_of_ble_eq_true rfl⟩ dX6_worthFrom_103 ?_
          refine q_istore (pc := 106) (lvq := [(10, .int (q_max (q_at 729 (S.1 13) (v1 + v5)) (q_at 729 (S.1 13) ((v1 + v5) + v5)))), (9, .int (q_min (q_at 729 (S.1 13) (v1 + v5)) (q_at 729 (S.1 13) ((v1 + v5) + v5)))), (8, .int ((v1 + v5) + v5)), (7, .int (v1 + v5)), (0, .ref (g 3)), (1, .int v1), (2, .int v2), (3, .int v3), (4, .int v4), (5, .int v5), (6, .int v6)]) C dX6_worthFrom_106 (by decide) rfl ?_
          refine q_iload_n (pc := 108) C dX6_worthFrom_108 rfl 6 rfl ?_
          refine q_if_eq (pc := 109) (tgt := 123) C dX6_worthFrom_109 (by decide) (fun c5 => ?_) (fun c5 => ?_)
          · have hf := q_iteT hf c5
            refine q_iload_n (pc := 123) C dX6_worthFrom_123 rfl 7 rfl ?_
            refine q_iconst (pc := 124) C (1 : Int32) dX6_worthFrom_124 q_ci_1 ?_
            refine q_iload (pc := 125) C dX6_worthFrom_125 0 rfl ?_
            refine q_iadd (pc := 127) C dX6_worthFrom_127 ?_
            refine q_mmin (pc := 128) C (List.mem_of_getElem? (i := 3) rfl) (List.mem_of_getElem? (i := 4) rfl) (List.mem_of_getElem? (i := 5) rfl) (List.mem_of_getElem? (i := 6) rfl) (Nat.le_of_ble_eq_true rfl) (Nat.le_of_ble_eq_true rfl) ⟨Nat.le_of_ble_eq_true rfl, Nat.le_of_ble_eq_true rfl⟩ dX6_worthFrom_128 ?_
            refine q_sub (lvq := [(0, .ref (g 3)), (1, .int v1), (2, .int v2), (4, .int v4), (5, .int v5), (6, .int v6)]) [4, 5, 6, 8, 9, 10] rfl ?_
            exact w_X6_worthFrom_131 C hk22 v1 v2 v4 v5 v6 (q_min v3 ((1 : Int32) + (q_max (q_at 729 (S.1 13) (v1 + v5)) (q_at 729 (S.1 13) ((v1 + v5) + v5))))) hf
          · have hf := q_iteF hf c5
            refine q_iload_n (pc := 112) C dX6_worthFrom_112 rfl 7 rfl ?_
            refine q_iconst (pc := 113) C (1 : Int32) dX6_worthFrom_113 q_ci_1 ?_
            refine q_iload (pc := 114) C dX6_worthFrom_114 1 rfl ?_
            refine q_iadd (pc := 116) C dX6_worthFrom_116 ?_
            refine q_mmax (pc := 117) C (List.mem_of_getElem? (i := 7) rfl) (List.mem_of_getElem? (i := 8) rfl) (List.mem_of_getElem? (i := 5) rfl) (List.mem_of_getElem? (i := 9) rfl) (Nat.le_of_ble_eq_true rfl) (Nat.le_of_ble_eq_true rfl) ⟨Nat.le_of_ble_eq_true rfl, Nat.le_of_ble_eq_true rfl⟩ dX6_worthFrom_117 ?_
            refine q_goto (pc := 120) (tgt := 131) C dX6_worthFrom_120 (by decide) ?_
            refine q_sub (lvq := [(0, .ref (g 3)), (1, .int v1), (2, .int v2), (4, .int v4), (5, .int v5), (6, .int v6)]) [4, 5, 6, 8, 9, 10] rfl ?_
            exact w_X6_worthFrom_131 C hk22 v1 v2 v4 v5 v6 (q_max v3 ((1 : Int32) + (q_min (q_at 729 (S.1 13) (v1 + v5)) (q_at 729 (S.1 13) ((v1 + v5) + v5))))) hf
set_option maxRecDepth 100000 in
set_option maxHeartbeats 4000000 in
theorem w_X6_worthFrom_12 {p : Program} {l : Launch} {e : Env} {s : State} {m : MethodId} {args : Array Value} {below : List Frame} {meth : Method} {c : Code} {D : va_G} {cc : Nat → ClassId} {N0 : Nat} {g : Nat → Nat} {E : va_W} {S : CS} {v : Int32} (C : q_C p s m args meth c cX6_worthFrom 11 (some .int) wsX6_worthFrom RX6 D cc N0)  (v1 : Int32) (v2 : Int32) (t0 : Int32) (hf : f_X6_worthFrom_12 S v1 v2 t0 = some v) : q_WA p l e (q_rm 2 43 0 0) s m args below meth c D N0 11 (MQ below (q_Q D N0 (q_p (some (.int v)) (cw cc g S ++ E))) args s 0 0 (q_A N0)) 0 0 (cw cc g S ++ E) 12 [(0, .ref (g 3)), (1, .int v1), (2, .int v2)] [.int t0] := by
  refine q_istore_n (pc := 12) (lvq := [(3, .int t0), (0, .ref (g 3)), (1, .int v1), (2, .int v2)]) C dX6_worthFrom_12 rfl (by decide) rfl ?_
  refine q_iload_n (pc := 13) C dX6_worthFrom_13 rfl 2 rfl ?_
  refine q_istore (pc := 14) (lvq := [(4, .int v1), (3, .int t0), (0, .ref (g 3)), (1, .int v1), (2, .int v2)]) C dX6_worthFrom_14 (by decide) rfl ?_
  refine q_iconst (pc := 16) C (1 : Int32) dX6_worthFrom_16 q_ci_1 ?_
  refine q_istore (pc := 17) (lvq := [(5, .int (1 : Int32)), (4, .int v1), (3, .int t0), (0, .ref (g 3)), (1, .int v1), (2, .int v2)]) C dX6_worthFrom_17 (by decide) rfl ?_
  refine q_iconst (pc := 19) C (0 : Int32) dX6_worthFrom_19 q_ci_0 ?_
  refine q_istore (pc := 20) (lvq := [(6, .int (0 : Int32)), (5, .int (1 : Int32)), (4, .int v1), (3, .int t0), (0, .ref (g 3)), (1, .int v1), (2, .int v2)]) C dX6_worthFrom_20 (by decide) rfl ?_
  refine q_sub (lvq := [(0, .ref (g 3)), (1, .int v1), (2, .int v2), (3, .int t0), (4, .int v1), (5, .int (1 : Int32)), (6, .int (0 : Int32))]) [4, 5, 6, 3, 2, 1, 0] rfl ?_
  exact w_X6_worthFrom_22 C 1000 v1 v2 t0 v1 (1 : Int32) (0 : Int32) hf
set_option maxRecDepth 100000 in
set_option maxHeartbeats 4000000 in
theorem c_X6_worthFrom (l : Launch) (D : va_G) (cc : Nat → ClassId) (N0 : Nat) (g : Nat → Nat) (E : va_W) (S : CS) (a1 : Int32) (a2 : Int32) (v : Int32) (hf : f_X6_worthFrom S a1 a2 = some v) : q_Met l yX6_worthFrom wsX6_worthFrom 2 43 D cc N0 (cw cc g S ++ E) [.ref (g 3), .int a1, .int a2] (q_p (some (.int v)) (cw cc g S ++ E)) 0 0 := by
  refine q_ofW (code := cX6_worthFrom) (nL := 11) (ret := (some .int)) (by decide +kernel) rfl (Nat.le_of_ble_eq_true rfl) (fun p e s m below meth c C _ => ?_)
  refine q_lv (lv2 := [(0, .ref (g 3)), (1, .int a1), (2, .int a2)]) rfl ?_
  refine q_iload_n (pc := 0) C dX6_worthFrom_0 rfl 2 rfl ?_
  refine q_if_eq (pc := 1) (tgt := 8) C dX6_worthFrom_1 (by decide) (fun c1 => ?_) (fun c1 => ?_)
  · have hf := q_iteT hf c1
    refine q_aload_n (pc := 8) C dX6_worthFrom_8 rfl 0 rfl ?_
    refine r_g_3_2 (pc := 9) C n_X6_worthFrom_X6 (List.mem_of_getElem? (i := 1) rfl) dX6_worthFrom_9 ?_
    refine q_sub (lvq := [(0, .ref (g 3)), (1, .int a1), (2, .int a2)]) [0, 1, 2] rfl ?_
    exact w_X6_worthFrom_12 C a1 a2 (S.1 3 2) hf
  · have hf := q_iteF hf c1
    refine q_iconst (pc := 4) C (0 : Int32) dX6_worthFrom_4 q_ci_0 ?_
    refine q_goto (pc := 5) (tgt := 12) C dX6_worthFrom_5 (by decide) ?_
    refine q_sub (lvq := [(0, .ref (g 3)), (1, .int a1), (2, .int a2)]) [0, 1, 2] rfl ?_
    exact w_X6_worthFrom_12 C a1 a2 (0 : Int32) hf
theorem z_X6_worthFrom : q_dsc yX6_worthFrom 2 := ⟨by decide +kernel, by decide +kernel, by decide +kernel⟩
theorem n_X6_worthOfAll_X6 : ∀ w ∈ wsX60, w ∈ wsX6_worthOfAll := fun _ h => (List.mem_cons_of_mem _ (List.mem_append_left _ (List.mem_append_right _ h)))
def f_X6_worthOfAll_35 (k8 : Int32 → Int32 → CS → Option (Int32 × CS)) (v2 : Int32) (v3 : Int32) (t0 : Int32) (t1 : Int32) (S : CS) : Option (Int32 × CS) := k8 v2 (v3 + (-1 : Int32)) (cfun S 13 (q_pu 729 (S.1 13) t1 t0))
def f_X6_worthOfAll_8b (k8 : Int32 → Int32 → CS → Option (Int32 × CS)) (v2 : Int32) (v3 : Int32) (S : CS) : Option (Int32 × CS) := (if v3 < 0 then some ((q_at 729 (S.1 13) (0 : Int32)), S) else (if (q_b (f_X6_isSettled S v3)) = 0 then ((f_X6_worthFrom S v3 v2).bind fun u5 => f_X6_worthOfAll_35 k8 v2 v3 u5 v3 S) else f_X6_worthOfAll_35 k8 v2 v3 (0 : Int32) v3 S))
def f_X6_worthOfAll_8 : Nat → Int32 → Int32 → CS → Option (Int32 × CS)
  | 0, _, _, _ => none
  | n + 1, v2, v3, S => f_X6_worthOfAll_8b  (f_X6_worthOfAll_8  n) v2 v3 S
def f_X6_worthOfAll (a2 : Int32) (S : CS) : Option (Int32 × CS) := ((f_X6_fillGroups S).bind fun u1 => f_X6_worthOfAll_8 1000 a2 (u1.1 - (1 : Int32)) u1.2)
set_option maxRecDepth 100000 in
set_option maxHeartbeats 4000000 in
theorem w_X6_worthOfAll_35 {p : Program} {l : Launch} {e : Env} {s : State} {m : MethodId} {args : Array Value} {below : List Frame} {meth : Method} {c : Code} {D : va_G} {cc : Nat → ClassId} {N0 : Nat} {g : Nat → Nat} {E : va_W} {k8 : Int32 → Int32 → CS → Option (Int32 × CS)} {v : (Int32 × CS)} (C : q_C p s m args meth c cX6_worthOfAll 4 (some .int) wsX6_worthOfAll RX6 D cc N0) (hk8 : ∀ (v2 : Int32) (v3 : Int32) (S : CS), k8 v2 v3 S = some v → q_WA p l e (q_rm 3 73 0 0) s m args below meth c D N0 4 (MQ below (q_Q D N0 (q_p (some (.int v.1)) (cw cc g v.2 ++ E))) args s 0 0 (q_A N0)) 0 0 (cw cc g S ++ E) 8 [(0, .ref (g 3)), (2, .int v2), (3, .int v3)] []) (v2 : Int32) (v3 : Int32) (t0 : Int32) (t1 : Int32) (S : CS) (hf : f_X6_worthOfAll_35 k8 v2 v3 t0 t1 S = some v) : q_WA p l e (q_rm 3 73 0 0) s m args below meth c D N0 4 (MQ below (q_Q D N0 (q_p (some (.int v.1)) (cw cc g v.2 ++ E))) args s 0 0 (q_A N0)) 0 0 (cw cc g S ++ E) 35 [(0, .ref (g 3)), (2, .int v2), (3, .int v3)] [.int t0, .int t1, .ref (g 13)] := by
  refine q_callSN (pc := 35) (host := "Queryschool") (As := [.ref (g 13), .int t1, .int t0]) (rest := []) C (c_X8_put l D cc N0 (cw cc g S ++ E) 13 (g 13) 729 (S.1 13) (by decide) (cw_at_13 cc g E S) t1 t0) gX6_worthOfAll_X8_put_n48 rfl (List.mem_of_getElem? (i := 10) rfl) (List.mem_of_getElem? (i := 16) rfl) (List.mem_of_getElem? (i := 15) rfl) z_X8_put ⟨Nat.le_of_ble_eq_true rfl, Nat.le_of_ble_eq_true rfl⟩ rfl rfl (Nat.le_of_ble_eq_true rfl) dX6_worthOfAll_35 ⟨Nat.le_of_ble_eq_true rfl, Nat.le_of_ble_eq_true rfl⟩ ?_
  refine q_after (rv := none) (w0 := (cw cc g (cfun S 13 (q_pu 729 (S.1 13) t1 t0)) ++ E)) (st2 := []) (cw_fun_13 cc g E _ _) rfl rfl ?_
  refine q_iinc (pc := 38) (lvq := [(3, .int (v3 + (-1 : Int32))), (0, .ref (g 3)), (2, .int v2)]) C (v3 + (-1 : Int32)) dX6_worthOfAll_38 2 rfl q_ca_m1 (by decide) rfl ?_
  refine q_goto (pc := 41) (tgt := 8) C dX6_worthOfAll_41 (by decide) ?_
  refine q_sub (lvq := [(0, .ref (g 3)), (2, .int v2), (3, .int (v3 + (-1 : Int32)))]) [1, 2, 0] rfl ?_
  exact hk8 v2 (v3 + (-1 : Int32)) (cfun S 13 (q_pu 729 (S.1 13) t1 t0)) hf
set_option maxRecDepth 100000 in
set_option maxHeartbeats 4000000 in
theorem w_X6_worthOfAll_8 {p : Program} {l : Launch} {e : Env} {s : State} {m : MethodId} {args : Array Value} {below : List Frame} {meth : Method} {c : Code} {D : va_G} {cc : Nat → ClassId} {N0 : Nat} {g : Nat → Nat} {E : va_W} {v : (Int32 × CS)} (C : q_C p s m args meth c cX6_worthOfAll 4 (some .int) wsX6_worthOfAll RX6 D cc N0)  : ∀ (n : Nat) (v2 : Int32) (v3 : Int32) (S : CS), f_X6_worthOfAll_8  n v2 v3 S = some v → q_WA p l e (q_rm 3 73 0 0) s m args below meth c D N0 4 (MQ below (q_Q D N0 (q_p (some (.int v.1)) (cw cc g v.2 ++ E))) args s 0 0 (q_A N0)) 0 0 (cw cc g S ++ E) 8 [(0, .ref (g 3)), (2, .int v2), (3, .int v3)] [] := by
  intro n
  induction n with
  | zero => intro v2 v3 S hf; cases hf
  | succ n ih =>
    intro v2 v3 S hf
    have hk8 : ∀ (v2 : Int32) (v3 : Int32) (S : CS), f_X6_worthOfAll_8  n v2 v3 S = some v → q_WA p l e (q_rm 3 73 0 0) s m args below meth c D N0 4 (MQ below (q_Q D N0 (q_p (some (.int v.1)) (cw cc g v.2 ++ E))) args s 0 0 (q_A N0)) 0 0 (cw cc g S ++ E) 8 [(0, .ref (g 3)), (2, .int v2), (3, .int v3)] [] := ih
    have hf : f_X6_worthOfAll_8b  (f_X6_worthOfAll_8  n) v2 v3 S = some v := hf
    refine q_iload_n (pc := 8) C dX6_worthOfAll_8 rfl 2 rfl ?_
    refine q_if_lt (pc := 9) (tgt := 44) C dX6_worthOfAll_9 (by decide) (fun c3 => ?_) (fun c3 => ?_)
    · have hf := q_iteT hf c3
      refine q_aload_n (pc := 44) C dX6_worthOfAll_44 rfl 0 rfl ?_
      refine r_g_3_1 (pc := 45) C n_X6_worthOfAll_X6 (List.mem_of_getElem? (i := 1) rfl) dX6_worthOfAll_45 ?_
      refine q_iconst (pc := 48) C (0 : Int32) dX6_worthOfAll_48 q_ci_0 ?_
      refine q_callSN (pc := 49) (host := "Queryschool") (As := [.ref (g 13), .int (0 : Int32)]) (rest := []) C (c_X8_at l D cc N0 (cw cc g S ++ E) 13 (g 13) 729 (S.1 13) (by decide) (cw_at_13 cc g E S) (0 : Int32)) gX6_worthOfAll_X8_at_n54 rfl (List.mem_of_getElem? (i := 11) rfl) (List.mem_of_getElem? (i := 16) rfl) (List.mem_of_getElem? (i := 18) rfl) z_X8_at ⟨Nat.le_of_ble_eq_true rfl, Nat.le_of_ble_eq_true rfl⟩ rfl rfl (Nat.le_of_ble_eq_true rfl) dX6_worthOfAll_49 ⟨Nat.le_of_ble_eq_true rfl, Nat.le_of_ble_eq_true rfl⟩ ?_
      refine q_after (rv := (some (.int (q_at 729 (S.1 13) (0 : Int32))))) (w0 := (cw cc g S ++ E)) (st2 := [.int (q_at 729 (S.1 13) (0 : Int32))]) rfl rfl rfl ?_
      obtain rfl := q_some hf
      exact q_iret (pc := 52) C dX6_worthOfAll_52 ⟨rfl, rfl⟩
    · have hf := q_iteF hf c3
      refine q_aload_n (pc := 12) C dX6_worthOfAll_12 rfl 0 rfl ?_
      refine r_g_3_1 (pc := 13) C n_X6_worthOfAll_X6 (List.mem_of_getElem? (i := 1) rfl) dX6_worthOfAll_13 ?_
      refine q_iload_n (pc := 16) C dX6_worthOfAll_16 rfl 2 rfl ?_
      refine q_aload_n (pc := 17) C dX6_worthOfAll_17 rfl 0 rfl ?_
      refine q_iload_n (pc := 18) C dX6_worthOfAll_18 rfl 2 rfl ?_
      refine q_callV (pc := 19) (As := [.int v3]) (rest := [.int v3, .ref (g 13)]) C (c_X6_isSettled l D cc N0 g E S v3 _ rfl) gX6_worthOfAll_X6_isSettled rfl rfl z_X6_isSettled ⟨Nat.le_of_ble_eq_true rfl, Nat.le_of_ble_eq_true rfl⟩ (cw_at_3 cc g E _) rfl rfl rfl (Nat.le_of_ble_eq_true rfl) dX6_worthOfAll_19 ⟨Nat.le_of_ble_eq_true rfl, Nat.le_of_ble_eq_true rfl⟩ ?_
      refine q_after (rv := (some (.int (q_b (f_X6_isSettled S v3))))) (w0 := (cw cc g S ++ E)) (st2 := [.int (q_b (f_X6_isSettled S v3)), .int v3, .ref (g 13)]) rfl rfl rfl ?_
      refine q_if_eq (pc := 22) (tgt := 29) C dX6_worthOfAll_22 (by decide) (fun c4 => ?_) (fun c4 => ?_)
      · have hf := q_iteT hf c4
        refine q_aload_n (pc := 29) C dX6_worthOfAll_29 rfl 0 rfl ?_
        refine q_iload_n (pc := 30) C dX6_worthOfAll_30 rfl 2 rfl ?_
        refine q_iload_n (pc := 31) C dX6_worthOfAll_31 rfl 1 rfl ?_
        obtain ⟨u5, e6, hf⟩ := q_bind hf
        refine q_callV (pc := 32) (As := [.int v3, .int v2]) (rest := [.int v3, .ref (g 13)]) C (c_X6_worthFrom l D cc N0 g E S v3 v2 u5 e6) gX6_worthOfAll_X6_worthFrom rfl rfl z_X6_worthFrom ⟨Nat.le_of_ble_eq_true rfl, Nat.le_of_ble_eq_true rfl⟩ (cw_at_3 cc g E _) rfl rfl rfl (Nat.le_of_ble_eq_true rfl) dX6_worthOfAll_32 ⟨Nat.le_of_ble_eq_true rfl, Nat.le_of_ble_eq_true rfl⟩ ?_
        refine q_after (rv := (some (.int u5))) (w0 := (cw cc g S ++ E)) (st2 := [.int u5, .int v3, .ref (g 13)]) rfl rfl rfl ?_
        refine q_sub (lvq := [(0, .ref (g 3)), (2, .int v2), (3, .int v3)]) [0, 1, 2] rfl ?_
        exact w_X6_worthOfAll_35 C hk8 v2 v3 u5 v3 S hf
      · have hf := q_iteF hf c4
        refine q_iconst (pc := 25) C (0 : Int32) dX6_worthOfAll_25 q_ci_0 ?_
        refine q_goto (pc := 26) (tgt := 35) C dX6_worthOfAll_26 (by decide) ?_
        refine q_sub (lvq := [(0, .ref (g 3)), (2, .int v2), (3, .int v3)]) [0, 1, 2] rfl ?_
        exact w_X6_worthOfAll_35 C hk8 v2 v3 (0 : Int32) v3 S hf
set_option maxRecDepth 100000 in
set_option maxHeartbeats 4000000 in
theorem c_X6_worthOfAll (l : Launch) (D : va_G) (cc : Nat → ClassId) (N0 : Nat) (g : Nat → Nat) (E : va_W) (S : CS) (a2 : Int32) (v : (Int32 × CS)) (hf : f_X6_worthOfAll a2 S = some v) : q_Met l yX6_worthOfAll wsX6_worthOfAll 3 73 D cc N0 (cw cc g S ++ E) [.ref (g 3), .ref (g 2), .int a2] (q_p (some (.int v.1)) (cw cc g v.2 ++ E)) 0 0 := by
  refine q_ofW (code := cX6_worthOfAll) (nL := 4) (ret := (some .int)) (by decide +kernel) rfl (Nat.le_of_ble_eq_true rfl) (fun p e s m below meth c C _ => ?_)
  refine q_lv (lv2 := [(0, .ref (g 3)), (1, .ref (g 2)), (2, .int a2)]) rfl ?_
  refine q_aload_n (pc := 0) C dX6_worthOfAll_0 rfl 0 rfl ?_
  refine q_aload_n (pc := 1) C dX6_worthOfAll_1 rfl 1 rfl ?_
  obtain ⟨u1, e2, hf⟩ := q_bind hf
  refine q_callV (pc := 2) (As := [.ref (g 2)]) (rest := []) C (c_X6_fillGroups l D cc N0 g E S u1 e2) gX6_worthOfAll_X6_fillGroups rfl rfl z_X6_fillGroups ⟨Nat.le_of_ble_eq_true rfl, Nat.le_of_ble_eq_true rfl⟩ (cw_at_3 cc g E _) rfl rfl rfl (Nat.le_of_ble_eq_true rfl) dX6_worthOfAll_2 ⟨Nat.le_of_ble_eq_true rfl, Nat.le_of_ble_eq_true rfl⟩ ?_
  refine q_after (rv := (some (.int u1.1))) (w0 := (cw cc g u1.2 ++ E)) (st2 := [.int u1.1]) rfl rfl rfl ?_
  refine q_iconst (pc := 5) C (1 : Int32) dX6_worthOfAll_5 q_ci_1 ?_
  refine q_isub (pc := 6) C dX6_worthOfAll_6 ?_
  refine q_istore_n (pc := 7) (lvq := [(3, .int (u1.1 - (1 : Int32))), (0, .ref (g 3)), (1, .ref (g 2)), (2, .int a2)]) C dX6_worthOfAll_7 rfl (by decide) rfl ?_
  refine q_sub (lvq := [(0, .ref (g 3)), (2, .int a2), (3, .int (u1.1 - (1 : Int32)))]) [1, 3, 0] rfl ?_
  exact w_X6_worthOfAll_8 C 1000 a2 (u1.1 - (1 : Int32)) u1.2 hf
theorem z_X6_worthOfAll : q_dsc yX6_worthOfAll 2 := ⟨by decide +kernel, by decide +kernel, by decide +kernel⟩
def f_X6_forcedMistakes (S : CS) : Option (Int32 × CS) := ((f_X6_worthOfAll (1 : Int32) S).bind fun u1 => some (u1.1, u1.2))
set_option maxRecDepth 100000 in
set_option maxHeartbeats 4000000 in
theorem c_X6_forcedMistakes (l : Launch) (D : va_G) (cc : Nat → ClassId) (N0 : Nat) (g : Nat → Nat) (E : va_W) (S : CS) (v : (Int32 × CS)) (hf : f_X6_forcedMistakes S = some v) : q_Met l yX6_forcedMistakes wsX6_forcedMistakes 4 96 D cc N0 (cw cc g S ++ E) [.ref (g 3), .ref (g 2)] (q_p (some (.int v.1)) (cw cc g v.2 ++ E)) 0 0 := by
  refine q_ofW (code := cX6_forcedMistakes) (nL := 2) (ret := (some .int)) (by decide +kernel) rfl (Nat.le_of_ble_eq_true rfl) (fun p e s m below meth c C _ => ?_)
  refine q_lv (lv2 := [(0, .ref (g 3)), (1, .ref (g 2))]) rfl ?_
  refine q_aload_n (pc := 0) C dX6_forcedMistakes_0 rfl 0 rfl ?_
  refine q_aload_n (pc := 1) C dX6_forcedMistakes_1 rfl 1 rfl ?_
  refine q_iconst (pc := 2) C (1 : Int32) dX6_forcedMistakes_2 q_ci_1 ?_
  obtain ⟨u1, e2, hf⟩ := q_bind hf
  refine q_callV (pc := 3) (As := [.ref (g 2), .int (1 : Int32)]) (rest := []) C (c_X6_worthOfAll l D cc N0 g E S (1 : Int32) u1 e2) gX6_forcedMistakes_X6_worthOfAll rfl rfl z_X6_worthOfAll ⟨Nat.le_of_ble_eq_true rfl, Nat.le_of_ble_eq_true rfl⟩ (cw_at_3 cc g E _) rfl rfl rfl (Nat.le_of_ble_eq_true rfl) dX6_forcedMistakes_3 ⟨Nat.le_of_ble_eq_true rfl, Nat.le_of_ble_eq_true rfl⟩ ?_
  refine q_after (rv := (some (.int u1.1))) (w0 := (cw cc g u1.2 ++ E)) (st2 := [.int u1.1]) rfl rfl rfl ?_
  obtain rfl := q_some hf
  exact q_iret (pc := 6) C dX6_forcedMistakes_6 ⟨rfl, rfl⟩
theorem z_X6_forcedMistakes : q_dsc yX6_forcedMistakes 1 := ⟨by decide +kernel, by decide +kernel, by decide +kernel⟩
def f_X6_leastDepth (S : CS) : Option (Int32 × CS) := ((f_X6_worthOfAll (0 : Int32) S).bind fun u1 => some (u1.1, u1.2))
set_option maxRecDepth 100000 in
set_option maxHeartbeats 4000000 in
theorem c_X6_leastDepth (l : Launch) (D : va_G) (cc : Nat → ClassId) (N0 : Nat) (g : Nat → Nat) (E : va_W) (S : CS) (v : (Int32 × CS)) (hf : f_X6_leastDepth S = some v) : q_Met l yX6_leastDepth wsX6_leastDepth 4 96 D cc N0 (cw cc g S ++ E) [.ref (g 3), .ref (g 2)] (q_p (some (.int v.1)) (cw cc g v.2 ++ E)) 0 0 := by
  refine q_ofW (code := cX6_leastDepth) (nL := 2) (ret := (some .int)) (by decide +kernel) rfl (Nat.le_of_ble_eq_true rfl) (fun p e s m below meth c C _ => ?_)
  refine q_lv (lv2 := [(0, .ref (g 3)), (1, .ref (g 2))]) rfl ?_
  refine q_aload_n (pc := 0) C dX6_leastDepth_0 rfl 0 rfl ?_
  refine q_aload_n (pc := 1) C dX6_leastDepth_1 rfl 1 rfl ?_
  refine q_iconst (pc := 2) C (0 : Int32) dX6_leastDepth_2 q_ci_0 ?_
  obtain ⟨u1, e2, hf⟩ := q_bind hf
  refine q_callV (pc := 3) (As := [.ref (g 2), .int (0 : Int32)]) (rest := []) C (c_X6_worthOfAll l D cc N0 g E S (0 : Int32) u1 e2) gX6_leastDepth_X6_worthOfAll rfl rfl z_X6_worthOfAll ⟨Nat.le_of_ble_eq_true rfl, Nat.le_of_ble_eq_true rfl⟩ (cw_at_3 cc g E _) rfl rfl rfl (Nat.le_of_ble_eq_true rfl) dX6_leastDepth_3 ⟨Nat.le_of_ble_eq_true rfl, Nat.le_of_ble_eq_true rfl⟩ ?_
  refine q_after (rv := (some (.int u1.1))) (w0 := (cw cc g u1.2 ++ E)) (st2 := [.int u1.1]) rfl rfl rfl ?_
  obtain rfl := q_some hf
  exact q_iret (pc := 6) C dX6_leastDepth_6 ⟨rfl, rfl⟩
theorem z_X6_leastDepth : q_dsc yX6_leastDepth 1 := ⟨by decide +kernel, by decide +kernel, by decide +kernel⟩
theorem n_X6_areOrdered_X1 : ∀ w ∈ wsX10, w ∈ wsX6_areOrdered := fun _ h => (List.mem_cons_of_mem _ (List.mem_append_left _ (List.mem_append_right _ h)))
def f_X6_areOrdered (S : CS) : Option (Bool × CS) := (if (2 : Int32) ≤ (S.1 2 3) then ((f_X6_forcedMistakes S).bind fun u2 => ((f_X1_greatestShattered u2.2).bind fun u4 => (if u2.1 < u4 then some (false, u2.2) else ((f_X6_leastDepth u2.2).bind fun u7 => (if u7.1 < u2.1 then some (false, u7.2) else some (true, u7.2)))))) else some (true, S))
set_option maxRecDepth 100000 in
set_option maxHeartbeats 4000000 in
theorem c_X6_areOrdered (l : Launch) (D : va_G) (cc : Nat → ClassId) (N0 : Nat) (g : Nat → Nat) (E : va_W) (S : CS) (v : (Bool × CS)) (hf : f_X6_areOrdered S = some v) : q_Met l yX6_areOrdered wsX6_areOrdered 5 117 D cc N0 (cw cc g S ++ E) [.ref (g 3), .ref (g 2)] (q_p (some (.int (q_b v.1))) (cw cc g v.2 ++ E)) 0 0 := by
  refine q_ofW (code := cX6_areOrdered) (nL := 3) (ret := (some .boolean)) (by decide +kernel) rfl (Nat.le_of_ble_eq_true rfl) (fun p e s m below meth c C _ => ?_)
  refine q_lv (lv2 := [(0, .ref (g 3)), (1, .ref (g 2))]) rfl ?_
  refine q_aload_n (pc := 0) C dX6_areOrdered_0 rfl 1 rfl ?_
  refine r_n_2_3 (pc := 1) C n_X6_areOrdered_X1 (host := "Queryschool") (List.mem_of_getElem? (i := 2) rfl) dX6_areOrdered_1 ?_
  refine q_iconst (pc := 4) C (2 : Int32) dX6_areOrdered_4 q_ci_2 ?_
  refine q_icmp_ge (pc := 5) (tgt := 10) C dX6_areOrdered_5 (by decide) (fun c1 => ?_) (fun c1 => ?_)
  · have hf := q_iteT hf c1
    refine q_aload_n (pc := 10) C dX6_areOrdered_10 rfl 0 rfl ?_
    refine q_aload_n (pc := 11) C dX6_areOrdered_11 rfl 1 rfl ?_
    obtain ⟨u2, e3, hf⟩ := q_bind hf
    refine q_callV (pc := 12) (As := [.ref (g 2)]) (rest := []) C (c_X6_forcedMistakes l D cc N0 g E S u2 e3) gX6_areOrdered_X6_forcedMistakes rfl rfl z_X6_forcedMistakes ⟨Nat.le_of_ble_eq_true rfl, Nat.le_of_ble_eq_true rfl⟩ (cw_at_3 cc g E _) rfl rfl rfl (Nat.le_of_ble_eq_true rfl) dX6_areOrdered_12 ⟨Nat.le_of_ble_eq_true rfl, Nat.le_of_ble_eq_true rfl⟩ ?_
    refine q_after (rv := (some (.int u2.1))) (w0 := (cw cc g u2.2 ++ E)) (st2 := [.int u2.1]) rfl rfl rfl ?_
    refine q_istore_n (pc := 15) (lvq := [(2, .int u2.1), (0, .ref (g 3)), (1, .ref (g 2))]) C dX6_areOrdered_15 rfl (by decide) rfl ?_
    refine q_aload_n (pc := 16) C dX6_areOrdered_16 rfl 2 rfl ?_
    obtain ⟨u4, e5, hf⟩ := q_bind hf
    refine q_callV (pc := 17) (As := []) (rest := []) C (c_X1_greatestShattered l D cc N0 g E u2.2 u4 e5) gX6_areOrdered_X1_greatestShattered rfl rfl z_X1_greatestShattered ⟨Nat.le_of_ble_eq_true rfl, Nat.le_of_ble_eq_true rfl⟩ (cw_at_2 cc g E _) rfl rfl rfl (Nat.le_of_ble_eq_true rfl) dX6_areOrdered_17 ⟨Nat.le_of_ble_eq_true rfl, Nat.le_of_ble_eq_true rfl⟩ ?_
    refine q_after (rv := (some (.int u4))) (w0 := (cw cc g u2.2 ++ E)) (st2 := [.int u4]) rfl rfl rfl ?_
    refine q_iload_n (pc := 20) C dX6_areOrdered_20 rfl 0 rfl ?_
    refine q_icmp_gt (pc := 21) (tgt := 37) C dX6_areOrdered_21 (by decide) (fun c6 => ?_) (fun c6 => ?_)
    · have hf := q_iteT hf c6
      refine q_iconst (pc := 37) C (0 : Int32) dX6_areOrdered_37 q_ci_0 ?_
      obtain rfl := q_some hf
      exact q_zret (pc := 38) C (by decide +kernel) dX6_areOrdered_38 ⟨rfl, rfl⟩
    · have hf := q_iteF hf c6
      refine q_iload_n (pc := 24) C dX6_areOrdered_24 rfl 0 rfl ?_
      refine q_aload_n (pc := 25) C dX6_areOrdered_25 rfl 1 rfl ?_
      refine q_aload_n (pc := 26) C dX6_areOrdered_26 rfl 2 rfl ?_
      obtain ⟨u7, e8, hf⟩ := q_bind hf
      refine q_callV (pc := 27) (As := [.ref (g 2)]) (rest := [.int u2.1]) C (c_X6_leastDepth l D cc N0 g E u2.2 u7 e8) gX6_areOrdered_X6_leastDepth rfl rfl z_X6_leastDepth ⟨Nat.le_of_ble_eq_true rfl, Nat.le_of_ble_eq_true rfl⟩ (cw_at_3 cc g E _) rfl rfl rfl (Nat.le_of_ble_eq_true rfl) dX6_areOrdered_27 ⟨Nat.le_of_ble_eq_true rfl, Nat.le_of_ble_eq_true rfl⟩ ?_
      refine q_after (rv := (some (.int u7.1))) (w0 := (cw cc g u7.2 ++ E)) (st2 := [.int u7.1, .int u2.1]) rfl rfl rfl ?_
      refine q_icmp_gt (pc := 30) (tgt := 37) C dX6_areOrdered_30 (by decide) (fun c9 => ?_) (fun c9 => ?_)
      · have hf := q_iteT hf c9
        refine q_iconst (pc := 37) C (0 : Int32) dX6_areOrdered_37 q_ci_0 ?_
        obtain rfl := q_some hf
        exact q_zret (pc := 38) C (by decide +kernel) dX6_areOrdered_38 ⟨rfl, rfl⟩
      · have hf := q_iteF hf c9
        refine q_iconst (pc := 33) C (1 : Int32) dX6_areOrdered_33 q_ci_1 ?_
        refine q_goto (pc := 34) (tgt := 38) C dX6_areOrdered_34 (by decide) ?_
        obtain rfl := q_some hf
        exact q_zret (pc := 38) C (by decide +kernel) dX6_areOrdered_38 ⟨rfl, rfl⟩
  · have hf := q_iteF hf c1
    refine q_iconst (pc := 8) C (1 : Int32) dX6_areOrdered_8 q_ci_1 ?_
    obtain rfl := q_some hf
    exact q_zret (pc := 9) C (by decide +kernel) dX6_areOrdered_9 ⟨rfl, rfl⟩
theorem z_X6_areOrdered : q_dsc yX6_areOrdered 1 := ⟨by decide +kernel, by decide +kernel, by decide +kernel⟩
def f_X5_isKind_18 : Bool := true
def f_X5_isKind (a1 : Int32) : Bool := (if a1 = (104 : Int32) then f_X5_isKind_18  else (if a1 = (108 : Int32) then f_X5_isKind_18  else (if a1 = (97 : Int32) then f_X5_isKind_18  else false)))
set_option maxRecDepth 100000 in
set_option maxHeartbeats 4000000 in
theorem w_X5_isKind_18 {p : Program} {l : Launch} {e : Env} {s : State} {m : MethodId} {args : Array Value} {below : List Frame} {meth : Method} {c : Code} {D : va_G} {cc : Nat → ClassId} {N0 : Nat} {ws : va_W} {v : Bool} (C : q_C p s m args meth c cX5_isKind 1 (some .boolean) wsX5_isKind RX5 D cc N0)   (hf : f_X5_isKind_18   = v) : q_WA p l e (q_rm 0 0 0 0) s m args below meth c D N0 1 (MQ below (q_Q D N0 (q_p (some (.int (q_b v))) ws)) args s 0 0 (q_A N0)) 0 0 ws 18 [] [] := by
  refine q_iconst (pc := 18) C (1 : Int32) dX5_isKind_18 q_ci_1 ?_
  refine q_goto (pc := 19) (tgt := 23) C dX5_isKind_19 (by decide) ?_
  obtain rfl := hf
  exact q_zret (pc := 23) C (by decide +kernel) dX5_isKind_23 ⟨rfl, rfl⟩
set_option maxRecDepth 100000 in
set_option maxHeartbeats 4000000 in
theorem c_X5_isKind (l : Launch) (D : va_G) (cc : Nat → ClassId) (N0 : Nat) (ws : va_W) (a1 : Int32) (v : Bool) (hf : f_X5_isKind a1 = v) : q_Met l yX5_isKind wsX5_isKind 0 0 D cc N0 ws [.int a1] (q_p (some (.int (q_b v))) ws) 0 0 := by
  refine q_ofW (code := cX5_isKind) (nL := 1) (ret := (some .boolean)) (by decide +kernel) rfl (Nat.le_of_ble_eq_true rfl) (fun p e s m below meth c C _ => ?_)
  refine q_lv (lv2 := [(0, .int a1)]) rfl ?_
  refine q_iload_n (pc := 0) C dX5_isKind_0 rfl 0 rfl ?_
  refine q_bipush (pc := 1) C (104 : Int32) dX5_isKind_1 q_cb_104 ?_
  refine q_icmp_eq (pc := 3) (tgt := 18) C dX5_isKind_3 (by decide) (fun c1 => ?_) (fun c1 => ?_)
  · have hf := q_iteT hf c1
    refine q_sub (lvq := []) [] rfl ?_
    exact w_X5_isKind_18 C hf
  · have hf := q_iteF hf c1
    refine q_iload_n (pc := 6) C dX5_isKind_6 rfl 0 rfl ?_
    refine q_bipush (pc := 7) C (108 : Int32) dX5_isKind_7 q_cb_108 ?_
    refine q_icmp_eq (pc := 9) (tgt := 18) C dX5_isKind_9 (by decide) (fun c2 => ?_) (fun c2 => ?_)
    · have hf := q_iteT hf c2
      refine q_sub (lvq := []) [] rfl ?_
      exact w_X5_isKind_18 C hf
    · have hf := q_iteF hf c2
      refine q_iload_n (pc := 12) C dX5_isKind_12 rfl 0 rfl ?_
      refine q_bipush (pc := 13) C (97 : Int32) dX5_isKind_13 q_cb_97 ?_
      refine q_icmp_ne (pc := 15) (tgt := 22) C dX5_isKind_15 (by decide) (fun c3 => ?_) (fun c3 => ?_)
      · have hf := q_iteF hf c3
        refine q_iconst (pc := 22) C (0 : Int32) dX5_isKind_22 q_ci_0 ?_
        obtain rfl := hf
        exact q_zret (pc := 23) C (by decide +kernel) dX5_isKind_23 ⟨rfl, rfl⟩
      · have hf := q_iteT hf c3
        refine q_sub (lvq := []) [] rfl ?_
        exact w_X5_isKind_18 C hf
theorem z_X5_isKind : q_dsc yX5_isKind 1 := ⟨by decide +kernel, by decide +kernel, by decide +kernel⟩
theorem n_X5_isThere_X5 : ∀ w ∈ wsX50, w ∈ wsX5_isThere := fun _ h => (List.mem_cons_of_mem _ (List.mem_append_right _ h))
def f_X5_isThere (S : CS) : Bool := (if (S.1 1 2) = (45 : Int32) then false else true)
set_option maxRecDepth 100000 in
set_option maxHeartbeats 4000000 in
theorem c_X5_isThere (l : Launch) (D : va_G) (cc : Nat → ClassId) (N0 : Nat) (g : Nat → Nat) (E : va_W) (S : CS) (v : Bool) (hf : f_X5_isThere S = v) : q_Met l yX5_isThere wsX5_isThere 0 0 D cc N0 (cw cc g S ++ E) [.ref (g 1)] (q_p (some (.int (q_b v))) (cw cc g S ++ E)) 0 0 := by
  refine q_ofW (code := cX5_isThere) (nL := 1) (ret := (some .boolean)) (by decide +kernel) rfl (Nat.le_of_ble_eq_true rfl) (fun p e s m below meth c C _ => ?_)
  refine q_lv (lv2 := [(0, .ref (g 1))]) rfl ?_
  refine q_aload_n (pc := 0) C dX5_isThere_0 rfl 0 rfl ?_
  refine r_g_1_2 (pc := 1) C n_X5_isThere_X5 (List.mem_of_getElem? (i := 1) rfl) dX5_isThere_1 ?_
  refine q_bipush (pc := 4) C (45 : Int32) dX5_isThere_4 q_cb_45 ?_
  refine q_icmp_eq (pc := 6) (tgt := 13) C dX5_isThere_6 (by decide) (fun c1 => ?_) (fun c1 => ?_)
  · have hf := q_iteT hf c1
    refine q_iconst (pc := 13) C (0 : Int32) dX5_isThere_13 q_ci_0 ?_
    obtain rfl := hf
    exact q_zret (pc := 14) C (by decide +kernel) dX5_isThere_14 ⟨rfl, rfl⟩
  · have hf := q_iteF hf c1
    refine q_iconst (pc := 9) C (1 : Int32) dX5_isThere_9 q_ci_1 ?_
    refine q_goto (pc := 10) (tgt := 14) C dX5_isThere_10 (by decide) ?_
    obtain rfl := hf
    exact q_zret (pc := 14) C (by decide +kernel) dX5_isThere_14 ⟨rfl, rfl⟩
theorem z_X5_isThere : q_dsc yX5_isThere 0 := ⟨by decide +kernel, by decide +kernel, by decide +kernel⟩
theorem n_X5_come_X5 : ∀ w ∈ wsX50, w ∈ wsX5_come := fun _ h => (List.mem_cons_of_mem _ (List.mem_append_right _ h))
def f_X5_come_38b (k38 : Int32 → CS → Option CS) (v4 : Int32) (S : CS) : Option CS := (if (24 : Int32) ≤ v4 then some S else k38 (v4 + (1 : Int32)) (cfun S 9 (q_pu 24 (S.1 9) v4 (0 : Int32))))
def f_X5_come_38 : Nat → Int32 → CS → Option CS
  | 0, _, _ => none
  | n + 1, v4, S => f_X5_come_38b  (f_X5_come_38  n) v4 S
def f_X5_come_22 (t0 : Int32) (S : CS) : Option CS := f_X5_come_38 1000 (0 : Int32) (cset (cset (cset S 1 4 t0) 1 5 (0 : Int32)) 1 6 (0 : Int32))
def f_X5_come (a1 : Int32) (a2 : Int32) (a3 : Int32) (S : CS) : Option CS := (if q_ch a1 then (if a1 = (108 : Int32) then f_X5_come_22 a3 (cset (cset S 1 2 a1) 1 3 a2) else f_X5_come_22 (0 : Int32) (cset (cset S 1 2 a1) 1 3 a2)) else none)
set_option maxRecDepth 100000 in
set_option maxHeartbeats 4000000 in
theorem w_X5_come_38 {p : Program} {l : Launch} {e : Env} {s : State} {m : MethodId} {args : Array Value} {below : List Frame} {meth : Method} {c : Code} {D : va_G} {cc : Nat → ClassId} {N0 : Nat} {g : Nat → Nat} {E : va_W} {v : CS} (C : q_C p s m args meth c cX5_come 5 none wsX5_come RX5 D cc N0)  : ∀ (n : Nat) (v4 : Int32) (S : CS), f_X5_come_38  n v4 S = some v → q_WA p l e (q_rm 1 22 0 0) s m args below meth c D N0 5 (MQ below (q_Q D N0 (q_p (none) (cw cc g v ++ E))) args s 0 0 (q_A N0)) 0 0 (cw cc g S ++ E) 38 [(0, .ref (g 1)), (4, .int v4)] [] := by
  intro n
  induction n with
  | zero => intro v4 S hf; cases hf
  | succ n ih =>
    intro v4 S hf
    have hk38 : ∀ (v4 : Int32) (S : CS), f_X5_come_38  n v4 S = some v → q_WA p l e (q_rm 1 22 0 0) s m args below meth c D N0 5 (MQ below (q_Q D N0 (q_p (none) (cw cc g v ++ E))) args s 0 0 (q_A N0)) 0 0 (cw cc g S ++ E) 38 [(0, .ref (g 1)), (4, .int v4)] [] := ih
    have hf : f_X5_come_38b  (f_X5_come_38  n) v4 S = some v := hf
    refine q_iload (pc := 38) C dX5_come_38 1 rfl ?_
    refine q_bipush (pc := 40) C (24 : Int32) dX5_come_40 q_cb_24 ?_
    refine q_icmp_ge (pc := 42) (tgt := 61) C dX5_come_42 (by decide) (fun c3 => ?_) (fun c3 => ?_)
    · have hf := q_iteT hf c3
      obtain rfl := q_some hf
      exact q_vret (pc := 61) C dX5_come_61 ⟨rfl, rfl⟩
    · have hf := q_iteF hf c3
      refine q_aload_n (pc := 45) C dX5_come_45 rfl 0 rfl ?_
      refine r_g_1_1 (pc := 46) C n_X5_come_X5 (List.mem_of_getElem? (i := 6) rfl) dX5_come_46 ?_
      refine q_iload (pc := 49) C dX5_come_49 1 rfl ?_
      refine q_iconst (pc := 51) C (0 : Int32) dX5_come_51 q_ci_0 ?_
      refine q_callSN (pc := 52) (host := "Queryschool") (As := [.ref (g 9), .int v4, .int (0 : Int32)]) (rest := []) C (c_X8_put l D cc N0 (cw cc g S ++ E) 9 (g 9) 24 (S.1 9) (by decide) (cw_at_9 cc g E S) v4 (0 : Int32)) gX5_come_X8_put_n46 rfl (List.mem_of_getElem? (i := 16) rfl) (List.mem_of_getElem? (i := 8) rfl) (List.mem_of_getElem? (i := 7) rfl) z_X8_put ⟨Nat.le_of_ble_eq_true rfl, Nat.le_of_ble_eq_true rfl⟩ rfl rfl (Nat.le_of_ble_eq_true rfl) dX5_come_52 ⟨Nat.le_of_ble_eq_true rfl, Nat.le_of_ble_eq_true rfl⟩ ?_
      refine q_after (rv := none) (w0 := (cw cc g (cfun S 9 (q_pu 24 (S.1 9) v4 (0 : Int32))) ++ E)) (st2 := []) (cw_fun_9 cc g E _ _) rfl rfl ?_
      refine q_iinc (pc := 55) (lvq := [(4, .int (v4 + (1 : Int32))), (0, .ref (g 1))]) C (v4 + (1 : Int32)) dX5_come_55 1 rfl q_ca_1 (by decide) rfl ?_
      refine q_goto (pc := 58) (tgt := 38) C dX5_come_58 (by decide) ?_
      refine q_sub (lvq := [(0, .ref (g 1)), (4, .int (v4 + (1 : Int32)))]) [1, 0] rfl ?_
      exact hk38 (v4 + (1 : Int32)) (cfun S 9 (q_pu 24 (S.1 9) v4 (0 : Int32))) hf
set_option maxRecDepth 100000 in
set_option maxHeartbeats 4000000 in
theorem w_X5_come_22 {p : Program} {l : Launch} {e : Env} {s : State} {m : MethodId} {args : Array Value} {below : List Frame} {meth : Method} {c : Code} {D : va_G} {cc : Nat → ClassId} {N0 : Nat} {g : Nat → Nat} {E : va_W} {v : CS} (C : q_C p s m args meth c cX5_come 5 none wsX5_come RX5 D cc N0)  (t0 : Int32) (S : CS) (hf : f_X5_come_22  t0 S = some v) : q_WA p l e (q_rm 1 22 0 0) s m args below meth c D N0 5 (MQ below (q_Q D N0 (q_p (none) (cw cc g v ++ E))) args s 0 0 (q_A N0)) 0 0 (cw cc g S ++ E) 22 [(0, .ref (g 1))] [.int t0, .ref (g 1)] := by
  refine r_p_1_4 (pc := 22) C n_X5_come_X5 (List.mem_of_getElem? (i := 3) rfl) dX5_come_22 ?_
  refine q_aload_n (pc := 25) C dX5_come_25 rfl 0 rfl ?_
  refine q_iconst (pc := 26) C (0 : Int32) dX5_come_26 q_ci_0 ?_
  refine r_p_1_5 (pc := 27) C n_X5_come_X5 (List.mem_of_getElem? (i := 4) rfl) dX5_come_27 ?_
  refine q_aload_n (pc := 30) C dX5_come_30 rfl 0 rfl ?_
  refine q_iconst (pc := 31) C (0 : Int32) dX5_come_31 q_ci_0 ?_
  refine r_p_1_6 (pc := 32) C n_X5_come_X5 (List.mem_of_getElem? (i := 5) rfl) dX5_come_32 ?_
  refine q_iconst (pc := 35) C (0 : Int32) dX5_come_35 q_ci_0 ?_
  refine q_istore (pc := 36) (lvq := [(4, .int (0 : Int32)), (0, .ref (g 1))]) C dX5_come_36 (by decide) rfl ?_
  refine q_sub (lvq := [(0, .ref (g 1)), (4, .int (0 : Int32))]) [1, 0] rfl ?_
  exact w_X5_come_38 C 1000 (0 : Int32) (cset (cset (cset S 1 4 t0) 1 5 (0 : Int32)) 1 6 (0 : Int32)) hf
set_option maxRecDepth 100000 in
set_option maxHeartbeats 4000000 in
theorem c_X5_come (l : Launch) (D : va_G) (cc : Nat → ClassId) (N0 : Nat) (g : Nat → Nat) (E : va_W) (S : CS) (a1 : Int32) (a2 : Int32) (a3 : Int32) (v : CS) (hf : f_X5_come a1 a2 a3 S = some v) : q_Met l yX5_come wsX5_come 1 22 D cc N0 (cw cc g S ++ E) [.ref (g 1), .int a1, .int a2, .int a3] (q_p (none) (cw cc g v ++ E)) 0 0 := by
  refine q_ofW (code := cX5_come) (nL := 5) (ret := none) (by decide +kernel) rfl (Nat.le_of_ble_eq_true rfl) (fun p e s m below meth c C _ => ?_)
  refine q_lv (lv2 := [(0, .ref (g 1)), (1, .int a1), (2, .int a2), (3, .int a3)]) rfl ?_
  refine q_aload_n (pc := 0) C dX5_come_0 rfl 0 rfl ?_
  refine q_iload_n (pc := 1) C dX5_come_1 rfl 1 rfl ?_
  obtain ⟨g1, hf⟩ := q_gd hf
  refine r_p_1_2 (pc := 2) C n_X5_come_X5 (List.mem_of_getElem? (i := 1) rfl) g1.1 g1.2 dX5_come_2 ?_
  refine q_aload_n (pc := 5) C dX5_come_5 rfl 0 rfl ?_
  refine q_iload_n (pc := 6) C dX5_come_6 rfl 2 rfl ?_
  refine r_p_1_3 (pc := 7) C n_X5_come_X5 (List.mem_of_getElem? (i := 2) rfl) dX5_come_7 ?_
  refine q_aload_n (pc := 10) C dX5_come_10 rfl 0 rfl ?_
  refine q_iload_n (pc := 11) C dX5_come_11 rfl 1 rfl ?_
  refine q_bipush (pc := 12) C (108 : Int32) dX5_come_12 q_cb_108 ?_
  refine q_icmp_ne (pc := 14) (tgt := 21) C dX5_come_14 (by decide) (fun c2 => ?_) (fun c2 => ?_)
  · have hf := q_iteF hf c2
    refine q_iconst (pc := 21) C (0 : Int32) dX5_come_21 q_ci_0 ?_
    refine q_sub (lvq := [(0, .ref (g 1))]) [0] rfl ?_
    exact w_X5_come_22 C (0 : Int32) (cset (cset S 1 2 a1) 1 3 a2) hf
  · have hf := q_iteT hf c2
    refine q_iload_n (pc := 17) C dX5_come_17 rfl 3 rfl ?_
    refine q_goto (pc := 18) (tgt := 22) C dX5_come_18 (by decide) ?_
    refine q_sub (lvq := [(0, .ref (g 1))]) [0] rfl ?_
    exact w_X5_come_22 C a3 (cset (cset S 1 2 a1) 1 3 a2) hf
theorem z_X5_come : q_dsc yX5_come 3 := ⟨by decide +kernel, by decide +kernel, by decide +kernel⟩
def f_X5_leave (S : CS) : Option CS := ((f_X5_come (45 : Int32) (0 : Int32) (0 : Int32) S).bind fun u1 => some u1)
set_option maxRecDepth 100000 in
set_option maxHeartbeats 4000000 in
theorem c_X5_leave (l : Launch) (D : va_G) (cc : Nat → ClassId) (N0 : Nat) (g : Nat → Nat) (E : va_W) (S : CS) (v : CS) (hf : f_X5_leave S = some v) : q_Met l yX5_leave wsX5_leave 2 46 D cc N0 (cw cc g S ++ E) [.ref (g 1)] (q_p (none) (cw cc g v ++ E)) 0 0 := by
  refine q_ofW (code := cX5_leave) (nL := 1) (ret := none) (by decide +kernel) rfl (Nat.le_of_ble_eq_true rfl) (fun p e s m below meth c C _ => ?_)
  refine q_lv (lv2 := [(0, .ref (g 1))]) rfl ?_
  refine q_aload_n (pc := 0) C dX5_leave_0 rfl 0 rfl ?_
  refine q_bipush (pc := 1) C (45 : Int32) dX5_leave_1 q_cb_45 ?_
  refine q_iconst (pc := 3) C (0 : Int32) dX5_leave_3 q_ci_0 ?_
  refine q_iconst (pc := 4) C (0 : Int32) dX5_leave_4 q_ci_0 ?_
  obtain ⟨u1, e2, hf⟩ := q_bind hf
  refine q_callV (pc := 5) (As := [.int (45 : Int32), .int (0 : Int32), .int (0 : Int32)]) (rest := []) C (c_X5_come l D cc N0 g E S (45 : Int32) (0 : Int32) (0 : Int32) u1 e2) gX5_leave_X5_come rfl rfl z_X5_come ⟨Nat.le_of_ble_eq_true rfl, Nat.le_of_ble_eq_true rfl⟩ (cw_at_1 cc g E _) rfl rfl rfl (Nat.le_of_ble_eq_true rfl) dX5_leave_5 ⟨Nat.le_of_ble_eq_true rfl, Nat.le_of_ble_eq_true rfl⟩ ?_
  refine q_after (rv := none) (w0 := (cw cc g u1 ++ E)) (st2 := []) rfl rfl rfl ?_
  obtain rfl := q_some hf
  exact q_vret (pc := 8) C dX5_leave_8 ⟨rfl, rfl⟩
theorem z_X5_leave : q_dsc yX5_leave 0 := ⟨by decide +kernel, by decide +kernel, by decide +kernel⟩
theorem n_X5_conflictsOf_X5 : ∀ w ∈ wsX50, w ∈ wsX5_conflictsOf := fun _ h => (List.mem_cons_of_mem _ (List.mem_append_right _ h))
def f_X5_conflictsOf (S : CS) (a1 : Int32) : Int32 := (q_at 24 (S.1 9) a1)
set_option maxRecDepth 100000 in
set_option maxHeartbeats 4000000 in
theorem c_X5_conflictsOf (l : Launch) (D : va_G) (cc : Nat → ClassId) (N0 : Nat) (g : Nat → Nat) (E : va_W) (S : CS) (a1 : Int32) (v : Int32) (hf : f_X5_conflictsOf S a1 = v) : q_Met l yX5_conflictsOf wsX5_conflictsOf 1 21 D cc N0 (cw cc g S ++ E) [.ref (g 1), .int a1] (q_p (some (.int v)) (cw cc g S ++ E)) 0 0 := by
  refine q_ofW (code := cX5_conflictsOf) (nL := 2) (ret := (some .int)) (by decide +kernel) rfl (Nat.le_of_ble_eq_true rfl) (fun p e s m below meth c C _ => ?_)
  refine q_lv (lv2 := [(0, .ref (g 1)), (1, .int a1)]) rfl ?_
  refine q_aload_n (pc := 0) C dX5_conflictsOf_0 rfl 0 rfl ?_
  refine r_g_1_1 (pc := 1) C n_X5_conflictsOf_X5 (List.mem_of_getElem? (i := 1) rfl) dX5_conflictsOf_1 ?_
  refine q_iload_n (pc := 4) C dX5_conflictsOf_4 rfl 1 rfl ?_
  refine q_callSN (pc := 5) (host := "Queryschool") (As := [.ref (g 9), .int a1]) (rest := []) C (c_X8_at l D cc N0 (cw cc g S ++ E) 9 (g 9) 24 (S.1 9) (by decide) (cw_at_9 cc g E S) a1) gX5_conflictsOf_X8_at_n50 rfl (List.mem_of_getElem? (i := 8) rfl) (List.mem_of_getElem? (i := 3) rfl) (List.mem_of_getElem? (i := 2) rfl) z_X8_at ⟨Nat.le_of_ble_eq_true rfl, Nat.le_of_ble_eq_true rfl⟩ rfl rfl (Nat.le_of_ble_eq_true rfl) dX5_conflictsOf_5 ⟨Nat.le_of_ble_eq_true rfl, Nat.le_of_ble_eq_true rfl⟩ ?_
  refine q_after (rv := (some (.int (q_at 24 (S.1 9) a1)))) (w0 := (cw cc g S ++ E)) (st2 := [.int (q_at 24 (S.1 9) a1)]) rfl rfl rfl ?_
  obtain rfl := hf
  exact q_iret (pc := 8) C dX5_conflictsOf_8 ⟨rfl, rfl⟩
theorem z_X5_conflictsOf : q_dsc yX5_conflictsOf 1 := ⟨by decide +kernel, by decide +kernel, by decide +kernel⟩
theorem n_X5_isLiving_X5 : ∀ w ∈ wsX50, w ∈ wsX5_isLiving := fun _ h => (List.mem_cons_of_mem _ (List.mem_append_right _ h))
def f_X5_isLiving (S : CS) (a1 : Int32) : Bool := (if (f_X5_conflictsOf S a1) = (-1 : Int32) then false else (if (S.1 1 4) < (f_X5_conflictsOf S a1) then false else true))
set_option maxRecDepth 100000 in
set_option maxHeartbeats 4000000 in
theorem c_X5_isLiving (l : Launch) (D : va_G) (cc : Nat → ClassId) (N0 : Nat) (g : Nat → Nat) (E : va_W) (S : CS) (a1 : Int32) (v : Bool) (hf : f_X5_isLiving S a1 = v) : q_Met l yX5_isLiving wsX5_isLiving 2 42 D cc N0 (cw cc g S ++ E) [.ref (g 1), .int a1] (q_p (some (.int (q_b v))) (cw cc g S ++ E)) 0 0 := by
  refine q_ofW (code := cX5_isLiving) (nL := 2) (ret := (some .boolean)) (by decide +kernel) rfl (Nat.le_of_ble_eq_true rfl) (fun p e s m below meth c C _ => ?_)
  refine q_lv (lv2 := [(0, .ref (g 1)), (1, .int a1)]) rfl ?_
  refine q_aload_n (pc := 0) C dX5_isLiving_0 rfl 0 rfl ?_
  refine q_iload_n (pc := 1) C dX5_isLiving_1 rfl 1 rfl ?_
  refine q_callV (pc := 2) (As := [.int a1]) (rest := []) C (c_X5_conflictsOf l D cc N0 g E S a1 _ rfl) gX5_isLiving_X5_conflictsOf rfl rfl z_X5_conflictsOf ⟨Nat.le_of_ble_eq_true rfl, Nat.le_of_ble_eq_true rfl⟩ (cw_at_1 cc g E _) rfl rfl rfl (Nat.le_of_ble_eq_true rfl) dX5_isLiving_2 ⟨Nat.le_of_ble_eq_true rfl, Nat.le_of_ble_eq_true rfl⟩ ?_
  refine q_after (rv := (some (.int (f_X5_conflictsOf S a1)))) (w0 := (cw cc g S ++ E)) (st2 := [.int (f_X5_conflictsOf S a1)]) rfl rfl rfl ?_
  refine q_iconst (pc := 5) C (-1 : Int32) dX5_isLiving_5 q_ci_m1 ?_
  refine q_icmp_eq (pc := 6) (tgt := 25) C dX5_isLiving_6 (by decide) (fun c1 => ?_) (fun c1 => ?_)
  · have hf := q_iteT hf c1
    refine q_iconst (pc := 25) C (0 : Int32) dX5_isLiving_25 q_ci_0 ?_
    obtain rfl := hf
    exact q_zret (pc := 26) C (by decide +kernel) dX5_isLiving_26 ⟨rfl, rfl⟩
  · have hf := q_iteF hf c1
    refine q_aload_n (pc := 9) C dX5_isLiving_9 rfl 0 rfl ?_
    refine q_iload_n (pc := 10) C dX5_isLiving_10 rfl 1 rfl ?_
    refine q_callV (pc := 11) (As := [.int a1]) (rest := []) C (c_X5_conflictsOf l D cc N0 g E S a1 _ rfl) gX5_isLiving_X5_conflictsOf rfl rfl z_X5_conflictsOf ⟨Nat.le_of_ble_eq_true rfl, Nat.le_of_ble_eq_true rfl⟩ (cw_at_1 cc g E _) rfl rfl rfl (Nat.le_of_ble_eq_true rfl) dX5_isLiving_11 ⟨Nat.le_of_ble_eq_true rfl, Nat.le_of_ble_eq_true rfl⟩ ?_
    refine q_after (rv := (some (.int (f_X5_conflictsOf S a1)))) (w0 := (cw cc g S ++ E)) (st2 := [.int (f_X5_conflictsOf S a1)]) rfl rfl rfl ?_
    refine q_aload_n (pc := 14) C dX5_isLiving_14 rfl 0 rfl ?_
    refine r_g_1_4 (pc := 15) C n_X5_isLiving_X5 (List.mem_of_getElem? (i := 1) rfl) dX5_isLiving_15 ?_
    refine q_icmp_gt (pc := 18) (tgt := 25) C dX5_isLiving_18 (by decide) (fun c2 => ?_) (fun c2 => ?_)
    · have hf := q_iteT hf c2
      refine q_iconst (pc := 25) C (0 : Int32) dX5_isLiving_25 q_ci_0 ?_
      obtain rfl := hf
      exact q_zret (pc := 26) C (by decide +kernel) dX5_isLiving_26 ⟨rfl, rfl⟩
    · have hf := q_iteF hf c2
      refine q_iconst (pc := 21) C (1 : Int32) dX5_isLiving_21 q_ci_1 ?_
      refine q_goto (pc := 22) (tgt := 26) C dX5_isLiving_22 (by decide) ?_
      obtain rfl := hf
      exact q_zret (pc := 26) C (by decide +kernel) dX5_isLiving_26 ⟨rfl, rfl⟩
theorem z_X5_isLiving : q_dsc yX5_isLiving 1 := ⟨by decide +kernel, by decide +kernel, by decide +kernel⟩
theorem n_X5_living_X1 : ∀ w ∈ wsX10, w ∈ wsX5_living := fun _ h => (List.mem_cons_of_mem _ (List.mem_append_right _ h))
theorem n_X5_living_X5 : ∀ w ∈ wsX50, w ∈ wsX5_living := fun _ h => (List.mem_cons_of_mem _ (List.mem_append_left _ (List.mem_append_right _ h)))
def f_X5_living_29 (S : CS) (k4 : Int32 → Int32 → Option Int32) (v1 : Int32) (v2 : Int32) : Option Int32 := k4 v1 (v2 + (1 : Int32))
def f_X5_living_4b (S : CS) (k4 : Int32 → Int32 → Option Int32) (v1 : Int32) (v2 : Int32) : Option Int32 := (if (S.1 2 3) ≤ v2 then some v1 else (if (q_b (f_X5_isLiving S v2)) = 0 then f_X5_living_29 S k4 v1 v2 else f_X5_living_29 S k4 (v1 ||| ((1 : Int32) <<< (v2 &&& 31))) v2))
def f_X5_living_4 (S : CS) : Nat → Int32 → Int32 → Option Int32
  | 0, _, _ => none
  | n + 1, v1, v2 => f_X5_living_4b S (f_X5_living_4 S n) v1 v2
def f_X5_living (S : CS) : Option Int32 := f_X5_living_4 S 1000 (0 : Int32) (0 : Int32)
set_option maxRecDepth 100000 in
set_option maxHeartbeats 4000000 in
theorem w_X5_living_29 {p : Program} {l : Launch} {e : Env} {s : State} {m : MethodId} {args : Array Value} {below : List Frame} {meth : Method} {c : Code} {D : va_G} {cc : Nat → ClassId} {N0 : Nat} {g : Nat → Nat} {E : va_W} {S : CS} {k4 : Int32 → Int32 → Option Int32} {v : Int32} (C : q_C p s m args meth c cX5_living 3 (some .int) wsX5_living RX5 D cc N0) (hk4 : ∀ (v1 : Int32) (v2 : Int32), k4 v1 v2 = some v → q_WA p l e (q_rm 3 63 0 0) s m args below meth c D N0 3 (MQ below (q_Q D N0 (q_p (some (.int v)) (cw cc g S ++ E))) args s 0 0 (q_A N0)) 0 0 (cw cc g S ++ E) 4 [(0, .ref (g 1)), (1, .int v1), (2, .int v2)] []) (v1 : Int32) (v2 : Int32) (hf : f_X5_living_29 S k4 v1 v2 = some v) : q_WA p l e (q_rm 3 63 0 0) s m args below meth c D N0 3 (MQ below (q_Q D N0 (q_p (some (.int v)) (cw cc g S ++ E))) args s 0 0 (q_A N0)) 0 0 (cw cc g S ++ E) 29 [(0, .ref (g 1)), (1, .int v1), (2, .int v2)] [] := by
  refine q_iinc (pc := 29) (lvq := [(2, .int (v2 + (1 : Int32))), (0, .ref (g 1)), (1, .int v1)]) C (v2 + (1 : Int32)) dX5_living_29 2 rfl q_ca_1 (by decide) rfl ?_
  refine q_goto (pc := 32) (tgt := 4) C dX5_living_32 (by decide) ?_
  refine q_sub (lvq := [(0, .ref (g 1)), (1, .int v1), (2, .int (v2 + (1 : Int32)))]) [1, 2, 0] rfl ?_
  exact hk4 v1 (v2 + (1 : Int32)) hf
set_option maxRecDepth 100000 in
set_option maxHeartbeats 4000000 in
theorem w_X5_living_4 {p : Program} {l : Launch} {e : Env} {s : State} {m : MethodId} {args : Array Value} {below : List Frame} {meth : Method} {c : Code} {D : va_G} {cc : Nat → ClassId} {N0 : Nat} {g : Nat → Nat} {E : va_W} {S : CS} {v : Int32} (C : q_C p s m args meth c cX5_living 3 (some .int) wsX5_living RX5 D cc N0)  : ∀ (n : Nat) (v1 : Int32) (v2 : Int32), f_X5_living_4 S n v1 v2 = some v → q_WA p l e (q_rm 3 63 0 0) s m args below meth c D N0 3 (MQ below (q_Q D N0 (q_p (some (.int v)) (cw cc g S ++ E))) args s 0 0 (q_A N0)) 0 0 (cw cc g S ++ E) 4 [(0, .ref (g 1)), (1, .int v1), (2, .int v2)] [] := by
  intro n
  induction n with
  | zero => intro v1 v2 hf; cases hf
  | succ n ih =>
    intro v1 v2 hf
    have hk4 : ∀ (v1 : Int32) (v2 : Int32), f_X5_living_4 S n v1 v2 = some v → q_WA p l e (q_rm 3 63 0 0) s m args below meth c D N0 3 (MQ below (q_Q D N0 (q_p (some (.int v)) (cw cc g S ++ E))) args s 0 0 (q_A N0)) 0 0 (cw cc g S ++ E) 4 [(0, .ref (g 1)), (1, .int v1), (2, .int v2)] [] := ih
    have hf : f_X5_living_4b S (f_X5_living_4 S n) v1 v2 = some v := hf
    refine q_iload_n (pc := 4) C dX5_living_4 rfl 2 rfl ?_
    refine q_aload_n (pc := 5) C dX5_living_5 rfl 0 rfl ?_
    refine r_g_1_0 (pc := 6) C n_X5_living_X5 (List.mem_of_getElem? (i := 1) rfl) dX5_living_6 ?_
    refine r_n_2_3 (pc := 9) C n_X5_living_X1 (host := "Queryschool") (List.mem_of_getElem? (i := 4) rfl) dX5_living_9 ?_
    refine q_icmp_ge (pc := 12) (tgt := 35) C dX5_living_12 (by decide) (fun c1 => ?_) (fun c1 => ?_)
    · have hf := q_iteT hf c1
      refine q_iload_n (pc := 35) C dX5_living_35 rfl 1 rfl ?_
      obtain rfl := q_some hf
      exact q_iret (pc := 36) C dX5_living_36 ⟨rfl, rfl⟩
    · have hf := q_iteF hf c1
      refine q_aload_n (pc := 15) C dX5_living_15 rfl 0 rfl ?_
      refine q_iload_n (pc := 16) C dX5_living_16 rfl 2 rfl ?_
      refine q_callV (pc := 17) (As := [.int v2]) (rest := []) C (c_X5_isLiving l D cc N0 g E S v2 _ rfl) gX5_living_X5_isLiving rfl rfl z_X5_isLiving ⟨Nat.le_of_ble_eq_true rfl, Nat.le_of_ble_eq_true rfl⟩ (cw_at_1 cc g E _) rfl rfl rfl (Nat.le_of_ble_eq_true rfl) dX5_living_17 ⟨Nat.le_of_ble_eq_true rfl, Nat.le_of_ble_eq_true rfl⟩ ?_
      refine q_after (rv := (some (.int (q_b (f_X5_isLiving S v2))))) (w0 := (cw cc g S ++ E)) (st2 := [.int (q_b (f_X5_isLiving S v2))]) rfl rfl rfl ?_
      refine q_if_eq (pc := 20) (tgt := 29) C dX5_living_20 (by decide) (fun c2 => ?_) (fun c2 => ?_)
      · have hf := q_iteT hf c2
        refine q_sub (lvq := [(0, .ref (g 1)), (1, .int v1), (2, .int v2)]) [0, 1, 2] rfl ?_
        exact w_X5_living_29 C hk4 v1 v2 hf
      · have hf := q_iteF hf c2
        refine q_iload_n (pc := 23) C dX5_living_23 rfl 1 rfl ?_
        refine q_iconst (pc := 24) C (1 : Int32) dX5_living_24 q_ci_1 ?_
        refine q_iload_n (pc := 25) C dX5_living_25 rfl 2 rfl ?_
        refine q_ishl (pc := 26) C dX5_living_26 ?_
        refine q_ior (pc := 27) C dX5_living_27 ?_
        refine q_istore_n (pc := 28) (lvq := [(1, .int (v1 ||| ((1 : Int32) <<< (v2 &&& 31)))), (0, .ref (g 1)), (2, .int v2)]) C dX5_living_28 rfl (by decide) rfl ?_
        refine q_sub (lvq := [(0, .ref (g 1)), (1, .int (v1 ||| ((1 : Int32) <<< (v2 &&& 31)))), (2, .int v2)]) [1, 0, 2] rfl ?_
        exact w_X5_living_29 C hk4 (v1 ||| ((1 : Int32) <<< (v2 &&& 31))) v2 hf
set_option maxRecDepth 100000 in
set_option maxHeartbeats 4000000 in
theorem c_X5_living (l : Launch) (D : va_G) (cc : Nat → ClassId) (N0 : Nat) (g : Nat → Nat) (E : va_W) (S : CS) (v : Int32) (hf : f_X5_living S = some v) : q_Met l yX5_living wsX5_living 3 63 D cc N0 (cw cc g S ++ E) [.ref (g 1)] (q_p (some (.int v)) (cw cc g S ++ E)) 0 0 := by
  refine q_ofW (code := cX5_living) (nL := 3) (ret := (some .int)) (by decide +kernel) rfl (Nat.le_of_ble_eq_true rfl) (fun p e s m below meth c C _ => ?_)
  refine q_lv (lv2 := [(0, .ref (g 1))]) rfl ?_
  refine q_iconst (pc := 0) C (0 : Int32) dX5_living_0 q_ci_0 ?_
  refine q_istore_n (pc := 1) (lvq := [(1, .int (0 : Int32)), (0, .ref (g 1))]) C dX5_living_1 rfl (by decide) rfl ?_
  refine q_iconst (pc := 2) C (0 : Int32) dX5_living_2 q_ci_0 ?_
  refine q_istore_n (pc := 3) (lvq := [(2, .int (0 : Int32)), (1, .int (0 : Int32)), (0, .ref (g 1))]) C dX5_living_3 rfl (by decide) rfl ?_
  refine q_sub (lvq := [(0, .ref (g 1)), (1, .int (0 : Int32)), (2, .int (0 : Int32))]) [2, 1, 0] rfl ?_
  exact w_X5_living_4 C 1000 (0 : Int32) (0 : Int32) hf
theorem z_X5_living : q_dsc yX5_living 0 := ⟨by decide +kernel, by decide +kernel, by decide +kernel⟩
theorem n_X5_isHonoured_X5 : ∀ w ∈ wsX50, w ∈ wsX5_isHonoured := fun _ h => (List.mem_cons_of_mem _ (List.mem_append_right _ h))
def f_X5_isHonoured_29 (S : CS) : Bool := true
def f_X5_isHonoured (S : CS) : Bool := (if (S.1 1 2) = (45 : Int32) then f_X5_isHonoured_29 S else (if (S.1 1 2) = (97 : Int32) then f_X5_isHonoured_29 S else (if (q_b (f_X5_isLiving S (S.1 1 3))) = 0 then false else f_X5_isHonoured_29 S)))
set_option maxRecDepth 100000 in
set_option maxHeartbeats 4000000 in
theorem w_X5_isHonoured_29 {p : Program} {l : Launch} {e : Env} {s : State} {m : MethodId} {args : Array Value} {below : List Frame} {meth : Method} {c : Code} {D : va_G} {cc : Nat → ClassId} {N0 : Nat} {g : Nat → Nat} {E : va_W} {S : CS} {v : Bool} (C : q_C p s m args meth c cX5_isHonoured 1 (some .boolean) wsX5_isHonoured RX5 D cc N0)   (hf : f_X5_isHonoured_29 S  = v) : q_WA p l e (q_rm 3 63 0 0) s m args below meth c D N0 1 (MQ below (q_Q D N0 (q_p (some (.int (q_b v))) (cw cc g S ++ E))) args s 0 0 (q_A N0)) 0 0 (cw cc g S ++ E) 29 [] [] := by
  refine q_iconst (pc := 29) C (1 : Int32) dX5_isHonoured_29 q_ci_1 ?_
  refine q_goto (pc := 30) (tgt := 34) C dX5_isHonoured_30 (by decide) ?_
  obtain rfl := hf
  exact q_zret (pc := 34) C (by decide +kernel) dX5_isHonoured_34 ⟨rfl, rfl⟩
set_option maxRecDepth 100000 in
set_option maxHeartbeats 4000000 in
theorem c_X5_isHonoured (l : Launch) (D : va_G) (cc : Nat → ClassId) (N0 : Nat) (g : Nat → Nat) (E : va_W) (S : CS) (v : Bool) (hf : f_X5_isHonoured S = v) : q_Met l yX5_isHonoured wsX5_isHonoured 3 63 D cc N0 (cw cc g S ++ E) [.ref (g 1)] (q_p (some (.int (q_b v))) (cw cc g S ++ E)) 0 0 := by
  refine q_ofW (code := cX5_isHonoured) (nL := 1) (ret := (some .boolean)) (by decide +kernel) rfl (Nat.le_of_ble_eq_true rfl) (fun p e s m below meth c C _ => ?_)
  refine q_lv (lv2 := [(0, .ref (g 1))]) rfl ?_
  refine q_aload_n (pc := 0) C dX5_isHonoured_0 rfl 0 rfl ?_
  refine r_g_1_2 (pc := 1) C n_X5_isHonoured_X5 (List.mem_of_getElem? (i := 1) rfl) dX5_isHonoured_1 ?_
  refine q_bipush (pc := 4) C (45 : Int32) dX5_isHonoured_4 q_cb_45 ?_
  refine q_icmp_eq (pc := 6) (tgt := 29) C dX5_isHonoured_6 (by decide) (fun c1 => ?_) (fun c1 => ?_)
  · have hf := q_iteT hf c1
    refine q_sub (lvq := []) [] rfl ?_
    exact w_X5_isHonoured_29 C hf
  · have hf := q_iteF hf c1
    refine q_aload_n (pc := 9) C dX5_isHonoured_9 rfl 0 rfl ?_
    refine r_g_1_2 (pc := 10) C n_X5_isHonoured_X5 (List.mem_of_getElem? (i := 1) rfl) dX5_isHonoured_10 ?_
    refine q_bipush (pc := 13) C (97 : Int32) dX5_isHonoured_13 q_cb_97 ?_
    refine q_icmp_eq (pc := 15) (tgt := 29) C dX5_isHonoured_15 (by decide) (fun c2 => ?_) (fun c2 => ?_)
    · have hf := q_iteT hf c2
      refine q_sub (lvq := []) [] rfl ?_
      exact w_X5_isHonoured_29 C hf
    · have hf := q_iteF hf c2
      refine q_aload_n (pc := 18) C dX5_isHonoured_18 rfl 0 rfl ?_
      refine q_aload_n (pc := 19) C dX5_isHonoured_19 rfl 0 rfl ?_
      refine r_g_1_3 (pc := 20) C n_X5_isHonoured_X5 (List.mem_of_getElem? (i := 2) rfl) dX5_isHonoured_20 ?_
      refine q_callV (pc := 23) (As := [.int (S.1 1 3)]) (rest := []) C (c_X5_isLiving l D cc N0 g E S (S.1 1 3) _ rfl) gX5_isHonoured_X5_isLiving rfl rfl z_X5_isLiving ⟨Nat.le_of_ble_eq_true rfl, Nat.le_of_ble_eq_true rfl⟩ (cw_at_1 cc g E _) rfl rfl rfl (Nat.le_of_ble_eq_true rfl) dX5_isHonoured_23 ⟨Nat.le_of_ble_eq_true rfl, Nat.le_of_ble_eq_true rfl⟩ ?_
      refine q_after (rv := (some (.int (q_b (f_X5_isLiving S (S.1 1 3)))))) (w0 := (cw cc g S ++ E)) (st2 := [.int (q_b (f_X5_isLiving S (S.1 1 3)))]) rfl rfl rfl ?_
      refine q_if_eq (pc := 26) (tgt := 33) C dX5_isHonoured_26 (by decide) (fun c3 => ?_) (fun c3 => ?_)
      · have hf := q_iteT hf c3
        refine q_iconst (pc := 33) C (0 : Int32) dX5_isHonoured_33 q_ci_0 ?_
        obtain rfl := hf
        exact q_zret (pc := 34) C (by decide +kernel) dX5_isHonoured_34 ⟨rfl, rfl⟩
      · have hf := q_iteF hf c3
        refine q_sub (lvq := []) [] rfl ?_
        exact w_X5_isHonoured_29 C hf
theorem z_X5_isHonoured : q_dsc yX5_isHonoured 0 := ⟨by decide +kernel, by decide +kernel, by decide +kernel⟩
theorem n_X5_hasHidden_X5 : ∀ w ∈ wsX50, w ∈ wsX5_hasHidden := fun _ h => (List.mem_cons_of_mem _ (List.mem_append_left _ (List.mem_append_right _ h)))
def f_X5_hasHidden (S : CS) (a1 : Int32) : Bool := (f_X8_hasBit (f_X1_setAt S (S.1 1 3)) a1)
set_option maxRecDepth 100000 in
set_option maxHeartbeats 4000000 in
theorem c_X5_hasHidden (l : Launch) (D : va_G) (cc : Nat → ClassId) (N0 : Nat) (g : Nat → Nat) (E : va_W) (S : CS) (a1 : Int32) (v : Bool) (hf : f_X5_hasHidden S a1 = v) : q_Met l yX5_hasHidden wsX5_hasHidden 2 42 D cc N0 (cw cc g S ++ E) [.ref (g 1), .int a1] (q_p (some (.int (q_b v))) (cw cc g S ++ E)) 0 0 := by
  refine q_ofW (code := cX5_hasHidden) (nL := 2) (ret := (some .boolean)) (by decide +kernel) rfl (Nat.le_of_ble_eq_true rfl) (fun p e s m below meth c C _ => ?_)
  refine q_lv (lv2 := [(0, .ref (g 1)), (1, .int a1)]) rfl ?_
  refine q_aload_n (pc := 0) C dX5_hasHidden_0 rfl 0 rfl ?_
  refine r_g_1_0 (pc := 1) C n_X5_hasHidden_X5 (List.mem_of_getElem? (i := 1) rfl) dX5_hasHidden_1 ?_
  refine q_aload_n (pc := 4) C dX5_hasHidden_4 rfl 0 rfl ?_
  refine r_g_1_3 (pc := 5) C n_X5_hasHidden_X5 (List.mem_of_getElem? (i := 2) rfl) dX5_hasHidden_5 ?_
  refine q_callV (pc := 8) (As := [.int (S.1 1 3)]) (rest := []) C (c_X1_setAt l D cc N0 g E S (S.1 1 3) _ rfl) gX5_hasHidden_X1_setAt rfl rfl z_X1_setAt ⟨Nat.le_of_ble_eq_true rfl, Nat.le_of_ble_eq_true rfl⟩ (cw_at_2 cc g E _) rfl rfl rfl (Nat.le_of_ble_eq_true rfl) dX5_hasHidden_8 ⟨Nat.le_of_ble_eq_true rfl, Nat.le_of_ble_eq_true rfl⟩ ?_
  refine q_after (rv := (some (.int (f_X1_setAt S (S.1 1 3))))) (w0 := (cw cc g S ++ E)) (st2 := [.int (f_X1_setAt S (S.1 1 3))]) rfl rfl rfl ?_
  refine q_iload_n (pc := 11) C dX5_hasHidden_11 rfl 1 rfl ?_
  refine q_callSN (pc := 12) (host := "Queryschool") (As := [.int (f_X1_setAt S (S.1 1 3)), .int a1]) (rest := []) C (c_X8_hasBit l D cc N0 (cw cc g S ++ E) (f_X1_setAt S (S.1 1 3)) a1 _ rfl) gX5_hasHidden_X8_hasBit_n104 rfl (List.mem_of_getElem? (i := 18) rfl) (List.mem_of_getElem? (i := 10) rfl) (List.mem_of_getElem? (i := 12) rfl) z_X8_hasBit ⟨Nat.le_of_ble_eq_true rfl, Nat.le_of_ble_eq_true rfl⟩ rfl rfl (Nat.le_of_ble_eq_true rfl) dX5_hasHidden_12 ⟨Nat.le_of_ble_eq_true rfl, Nat.le_of_ble_eq_true rfl⟩ ?_
  refine q_after (rv := (some (.int (q_b (f_X8_hasBit (f_X1_setAt S (S.1 1 3)) a1))))) (w0 := (cw cc g S ++ E)) (st2 := [.int (q_b (f_X8_hasBit (f_X1_setAt S (S.1 1 3)) a1))]) rfl rfl rfl ?_
  obtain rfl := hf
  exact q_zret (pc := 15) C (q_b_nar _) dX5_hasHidden_15 ⟨rfl, rfl⟩
theorem z_X5_hasHidden : q_dsc yX5_hasHidden 1 := ⟨by decide +kernel, by decide +kernel, by decide +kernel⟩
theorem n_X5_drawsLie_X5 : ∀ w ∈ wsX50, w ∈ wsX5_drawsLie := fun _ h => (List.mem_cons_of_mem _ (List.mem_append_right _ h))
def f_X5_drawsLie (S : CS) : (Bool × CS) := (if (S.1 1 2) = (108 : Int32) then (if (S.1 1 5) < (S.1 1 4) then (if (((cset S 1 7 ((((S.1 1 7).toInt64 * (48271 : Int64)) - ((S.1 1 7).toInt64 * (48271 : Int64)) / (2147483647 : Int64) * (2147483647 : Int64)).toInt32)).1 1 7) - ((cset S 1 7 ((((S.1 1 7).toInt64 * (48271 : Int64)) - ((S.1 1 7).toInt64 * (48271 : Int64)) / (2147483647 : Int64) * (2147483647 : Int64)).toInt32)).1 1 7) / (3 : Int32) * (3 : Int32)) = 0 then (true, (cset (cset S 1 7 ((((S.1 1 7).toInt64 * (48271 : Int64)) - ((S.1 1 7).toInt64 * (48271 : Int64)) / (2147483647 : Int64) * (2147483647 : Int64)).toInt32)) 1 5 (((cset S 1 7 ((((S.1 1 7).toInt64 * (48271 : Int64)) - ((S.1 1 7).toInt64 * (48271 : Int64)) / (2147483647 : Int64) * (2147483647 : Int64)).toInt32)).1 1 5) + (1 : Int32)))) else (false, (cset S 1 7 ((((S.1 1 7).toInt64 * (48271 : Int64)) - ((S.1 1 7).toInt64 * (48271 : Int64)) / (2147483647 : Int64) * (2147483647 : Int64)).toInt32)))) else (false, S)) else (false, S))
set_option maxRecDepth 100000 in
set_option maxHeartbeats 4000000 in
theorem c_X5_drawsLie (l : Launch) (D : va_G) (cc : Nat → ClassId) (N0 : Nat) (g : Nat → Nat) (E : va_W) (S : CS) (v : (Bool × CS)) (hf : f_X5_drawsLie S = v) : q_Met l yX5_drawsLie wsX5_drawsLie 0 0 D cc N0 (cw cc g S ++ E) [.ref (g 1)] (q_p (some (.int (q_b v.1))) (cw cc g v.2 ++ E)) 0 0 := by
  refine q_ofW (code := cX5_drawsLie) (nL := 1) (ret := (some .boolean)) (by decide +kernel) rfl (Nat.le_of_ble_eq_true rfl) (fun p e s m below meth c C _ => ?_)
  refine q_lv (lv2 := [(0, .ref (g 1))]) rfl ?_
  refine q_aload_n (pc := 0) C dX5_drawsLie_0 rfl 0 rfl ?_
  refine r_g_1_2 (pc := 1) C n_X5_drawsLie_X5 (List.mem_of_getElem? (i := 1) rfl) dX5_drawsLie_1 ?_
  refine q_bipush (pc := 4) C (108 : Int32) dX5_drawsLie_4 q_cb_108 ?_
  refine q_icmp_ne (pc := 6) (tgt := 20) C dX5_drawsLie_6 (by decide) (fun c1 => ?_) (fun c1 => ?_)
  · have hf := q_iteF hf c1
    refine q_iconst (pc := 20) C (0 : Int32) dX5_drawsLie_20 q_ci_0 ?_
    obtain rfl := hf
    exact q_zret (pc := 21) C (by decide +kernel) dX5_drawsLie_21 ⟨rfl, rfl⟩
  · have hf := q_iteT hf c1
    refine q_aload_n (pc := 9) C dX5_drawsLie_9 rfl 0 rfl ?_
    refine r_g_1_5 (pc := 10) C n_X5_drawsLie_X5 (List.mem_of_getElem? (i := 2) rfl) dX5_drawsLie_10 ?_
    refine q_aload_n (pc := 13) C dX5_drawsLie_13 rfl 0 rfl ?_
    refine r_g_1_4 (pc := 14) C n_X5_drawsLie_X5 (List.mem_of_getElem? (i := 3) rfl) dX5_drawsLie_14 ?_
    refine q_icmp_lt (pc := 17) (tgt := 22) C dX5_drawsLie_17 (by decide) (fun c2 => ?_) (fun c2 => ?_)
    · have hf := q_iteT hf c2
      refine q_aload_n (pc := 22) C dX5_drawsLie_22 rfl 0 rfl ?_
      refine q_aload_n (pc := 23) C dX5_drawsLie_23 rfl 0 rfl ?_
      refine r_g_1_7 (pc := 24) C n_X5_drawsLie_X5 (List.mem_of_getElem? (i := 4) rfl) dX5_drawsLie_24 ?_
      refine q_i2l (pc := 27) C dX5_drawsLie_27 rfl ?_
      refine q_ldc2 (pc := 28) (v := (48271 : Int64)) C (List.mem_of_getElem? (i := 5) rfl) dX5_drawsLie_28 ?_
      refine q_lmul (pc := 31) C dX5_drawsLie_31 ?_
      refine q_ldc2 (pc := 32) (v := (2147483647 : Int64)) C (List.mem_of_getElem? (i := 6) rfl) dX5_drawsLie_32 ?_
      refine q_lrem (pc := 35) C dX5_drawsLie_35 (by decide +kernel) ?_
      refine q_l2i (pc := 36) C dX5_drawsLie_36 rfl ?_
      refine r_p_1_7 (pc := 37) C n_X5_drawsLie_X5 (List.mem_of_getElem? (i := 4) rfl) dX5_drawsLie_37 ?_
      refine q_aload_n (pc := 40) C dX5_drawsLie_40 rfl 0 rfl ?_
      refine r_g_1_7 (pc := 41) C n_X5_drawsLie_X5 (List.mem_of_getElem? (i := 4) rfl) dX5_drawsLie_41 ?_
      refine q_iconst (pc := 44) C (3 : Int32) dX5_drawsLie_44 q_ci_3 ?_
      refine q_irem (pc := 45) C dX5_drawsLie_45 (by decide +kernel) ?_
      refine q_if_eq (pc := 46) (tgt := 51) C dX5_drawsLie_46 (by decide) (fun c3 => ?_) (fun c3 => ?_)
      · have hf := q_iteT hf c3
        refine q_aload_n (pc := 51) C dX5_drawsLie_51 rfl 0 rfl ?_
        refine q_dup (pc := 52) C dX5_drawsLie_52 rfl ?_
        refine r_g_1_5 (pc := 53) C n_X5_drawsLie_X5 (List.mem_of_getElem? (i := 2) rfl) dX5_drawsLie_53 ?_
        refine q_iconst (pc := 56) C (1 : Int32) dX5_drawsLie_56 q_ci_1 ?_
        refine q_iadd (pc := 57) C dX5_drawsLie_57 ?_
        refine r_p_1_5 (pc := 58) C n_X5_drawsLie_X5 (List.mem_of_getElem? (i := 2) rfl) dX5_drawsLie_58 ?_
        refine q_iconst (pc := 61) C (1 : Int32) dX5_drawsLie_61 q_ci_1 ?_
        obtain rfl := hf
        exact q_zret (pc := 62) C (by decide +kernel) dX5_drawsLie_62 ⟨rfl, rfl⟩
      · have hf := q_iteF hf c3
        refine q_iconst (pc := 49) C (0 : Int32) dX5_drawsLie_49 q_ci_0 ?_
        obtain rfl := hf
        exact q_zret (pc := 50) C (by decide +kernel) dX5_drawsLie_50 ⟨rfl, rfl⟩
    · have hf := q_iteF hf c2
      refine q_iconst (pc := 20) C (0 : Int32) dX5_drawsLie_20 q_ci_0 ?_
      obtain rfl := hf
      exact q_zret (pc := 21) C (by decide +kernel) dX5_drawsLie_21 ⟨rfl, rfl⟩
theorem z_X5_drawsLie : q_dsc yX5_drawsLie 0 := ⟨by decide +kernel, by decide +kernel, by decide +kernel⟩
theorem n_X5_noteAgainst_X1 : ∀ w ∈ wsX10, w ∈ wsX5_noteAgainst := fun _ h => (List.mem_cons_of_mem _ (List.mem_append_right _ h))
theorem n_X5_noteAgainst_X5 : ∀ w ∈ wsX50, w ∈ wsX5_noteAgainst := fun _ h => (List.mem_cons_of_mem _ (List.mem_append_left _ (List.mem_append_right _ h)))
def f_X5_noteAgainst_43 (k2 : Int32 → Int32 → CS → Option CS) (v1 : Int32) (v2 : Int32) (S : CS) : Option CS := k2 v1 (v2 + (1 : Int32)) S
def f_X5_noteAgainst_2b (k2 : Int32 → Int32 → CS → Option CS) (v1 : Int32) (v2 : Int32) (S : CS) : Option CS := (if (S.1 2 3) ≤ v2 then some S else (if (q_b (f_X8_hasBit v1 v2)) = 0 then f_X5_noteAgainst_43 k2 v1 v2 S else (if (f_X5_conflictsOf S v2) = (-1 : Int32) then f_X5_noteAgainst_43 k2 v1 v2 S else f_X5_noteAgainst_43 k2 v1 v2 (cfun S 9 (q_pu 24 (S.1 9) v2 ((f_X5_conflictsOf S v2) + (1 : Int32)))))))
def f_X5_noteAgainst_2 : Nat → Int32 → Int32 → CS → Option CS
  | 0, _, _, _ => none
  | n + 1, v1, v2, S => f_X5_noteAgainst_2b  (f_X5_noteAgainst_2  n) v1 v2 S
def f_X5_noteAgainst (a1 : Int32) (S : CS) : Option CS := f_X5_noteAgainst_2 1000 a1 (0 : Int32) S
set_option maxRecDepth 100000 in
set_option maxHeartbeats 4000000 in
theorem w_X5_noteAgainst_43 {p : Program} {l : Launch} {e : Env} {s : State} {m : MethodId} {args : Array Value} {below : List Frame} {meth : Method} {c : Code} {D : va_G} {cc : Nat → ClassId} {N0 : Nat} {g : Nat → Nat} {E : va_W} {k2 : Int32 → Int32 → CS → Option CS} {v : CS} (C : q_C p s m args meth c cX5_noteAgainst 4 none wsX5_noteAgainst RX5 D cc N0) (hk2 : ∀ (v1 : Int32) (v2 : Int32) (S : CS), k2 v1 v2 S = some v → q_WA p l e (q_rm 2 42 0 0) s m args below meth c D N0 4 (MQ below (q_Q D N0 (q_p (none) (cw cc g v ++ E))) args s 0 0 (q_A N0)) 0 0 (cw cc g S ++ E) 2 [(0, .ref (g 1)), (1, .int v1), (2, .int v2)] []) (v1 : Int32) (v2 : Int32) (S : CS) (hf : f_X5_noteAgainst_43 k2 v1 v2 S = some v) : q_WA p l e (q_rm 2 42 0 0) s m args below meth c D N0 4 (MQ below (q_Q D N0 (q_p (none) (cw cc g v ++ E))) args s 0 0 (q_A N0)) 0 0 (cw cc g S ++ E) 43 [(0, .ref (g 1)), (1, .int v1), (2, .int v2)] [] := by
  refine q_iinc (pc := 43) (lvq := [(2, .int (v2 + (1 : Int32))), (0, .ref (g 1)), (1, .int v1)]) C (v2 + (1 : Int32)) dX5_noteAgainst_43 2 rfl q_ca_1 (by decide) rfl ?_
  refine q_goto (pc := 46) (tgt := 2) C dX5_noteAgainst_46 (by decide) ?_
  refine q_sub (lvq := [(0, .ref (g 1)), (1, .int v1), (2, .int (v2 + (1 : Int32)))]) [1, 2, 0] rfl ?_
  exact hk2 v1 (v2 + (1 : Int32)) S hf
set_option maxRecDepth 100000 in
set_option maxHeartbeats 4000000 in
theorem w_X5_noteAgainst_2 {p : Program} {l : Launch} {e : Env} {s : State} {m : MethodId} {args : Array Value} {below : List Frame} {meth : Method} {c : Code} {D : va_G} {cc : Nat → ClassId} {N0 : Nat} {g : Nat → Nat} {E : va_W} {v : CS} (C : q_C p s m args meth c cX5_noteAgainst 4 none wsX5_noteAgainst RX5 D cc N0)  : ∀ (n : Nat) (v1 : Int32) (v2 : Int32) (S : CS), f_X5_noteAgainst_2  n v1 v2 S = some v → q_WA p l e (q_rm 2 42 0 0) s m args below meth c D N0 4 (MQ below (q_Q D N0 (q_p (none) (cw cc g v ++ E))) args s 0 0 (q_A N0)) 0 0 (cw cc g S ++ E) 2 [(0, .ref (g 1)), (1, .int v1), (2, .int v2)] [] := by
  intro n
  induction n with
  | zero => intro v1 v2 S hf; cases hf
  | succ n ih =>
    intro v1 v2 S hf
    have hk2 : ∀ (v1 : Int32) (v2 : Int32) (S : CS), f_X5_noteAgainst_2  n v1 v2 S = some v → q_WA p l e (q_rm 2 42 0 0) s m args below meth c D N0 4 (MQ below (q_Q D N0 (q_p (none) (cw cc g v ++ E))) args s 0 0 (q_A N0)) 0 0 (cw cc g S ++ E) 2 [(0, .ref (g 1)), (1, .int v1), (2, .int v2)] [] := ih
    have hf : f_X5_noteAgainst_2b  (f_X5_noteAgainst_2  n) v1 v2 S = some v := hf
    refine q_iload_n (pc := 2) C dX5_noteAgainst_2 rfl 2 rfl ?_
    refine q_aload_n (pc := 3) C dX5_noteAgainst_3 rfl 0 rfl ?_
    refine r_g_1_0 (pc := 4) C n_X5_noteAgainst_X5 (List.mem_of_getElem? (i := 1) rfl) dX5_noteAgainst_4 ?_
    refine r_n_2_3 (pc := 7) C n_X5_noteAgainst_X1 (host := "Queryschool") (List.mem_of_getElem? (i := 4) rfl) dX5_noteAgainst_7 ?_
    refine q_icmp_ge (pc := 10) (tgt := 49) C dX5_noteAgainst_10 (by decide) (fun c1 => ?_) (fun c1 => ?_)
    · have hf := q_iteT hf c1
      obtain rfl := q_some hf
      exact q_vret (pc := 49) C dX5_noteAgainst_49 ⟨rfl, rfl⟩
    · have hf := q_iteF hf c1
      refine q_aload_n (pc := 13) C dX5_noteAgainst_13 rfl 0 rfl ?_
      refine q_iload_n (pc := 14) C dX5_noteAgainst_14 rfl 2 rfl ?_
      refine q_callV (pc := 15) (As := [.int v2]) (rest := []) C (c_X5_conflictsOf l D cc N0 g E S v2 _ rfl) gX5_noteAgainst_X5_conflictsOf rfl rfl z_X5_conflictsOf ⟨Nat.le_of_ble_eq_true rfl, Nat.le_of_ble_eq_true rfl⟩ (cw_at_1 cc g E _) rfl rfl rfl (Nat.le_of_ble_eq_true rfl) dX5_noteAgainst_15 ⟨Nat.le_of_ble_eq_true rfl, Nat.le_of_ble_eq_true rfl⟩ ?_
      refine q_after (rv := (some (.int (f_X5_conflictsOf S v2)))) (w0 := (cw cc g S ++ E)) (st2 := [.int (f_X5_conflictsOf S v2)]) rfl rfl rfl ?_
      refine q_istore_n (pc := 18) (lvq := [(3, .int (f_X5_conflictsOf S v2)), (0, .ref (g 1)), (1, .int v1), (2, .int v2)]) C dX5_noteAgainst_18 rfl (by decide) rfl ?_
      refine q_iload_n (pc := 19) C dX5_noteAgainst_19 rfl 2 rfl ?_
      refine q_iload_n (pc := 20) C dX5_noteAgainst_20 rfl 3 rfl ?_
      refine q_callSN (pc := 21) (host := "Queryschool") (As := [.int v1, .int v2]) (rest := []) C (c_X8_hasBit l D cc N0 (cw cc g S ++ E) v1 v2 _ rfl) gX5_noteAgainst_X8_hasBit_n104 rfl (List.mem_of_getElem? (i := 18) rfl) (List.mem_of_getElem? (i := 9) rfl) (List.mem_of_getElem? (i := 11) rfl) z_X8_hasBit ⟨Nat.le_of_ble_eq_true rfl, Nat.le_of_ble_eq_true rfl⟩ rfl rfl (Nat.le_of_ble_eq_true rfl) dX5_noteAgainst_21 ⟨Nat.le_of_ble_eq_true rfl, Nat.le_of_ble_eq_true rfl⟩ ?_
      refine q_after (rv := (some (.int (q_b (f_X8_hasBit v1 v2))))) (w0 := (cw cc g S ++ E)) (st2 := [.int (q_b (f_X8_hasBit v1 v2))]) rfl rfl rfl ?_
      refine q_if_eq (pc := 24) (tgt := 43) C dX5_noteAgainst_24 (by decide) (fun c2 => ?_) (fun c2 => ?_)
      · have hf := q_iteT hf c2
        refine q_sub (lvq := [(0, .ref (g 1)), (1, .int v1), (2, .int v2)]) [1, 2, 3] rfl ?_
        exact w_X5_noteAgainst_43 C hk2 v1 v2 S hf
      · have hf := q_iteF hf c2
        refine q_iload_n (pc := 27) C dX5_noteAgainst_27 rfl 0 rfl ?_
        refine q_iconst (pc := 28) C (-1 : Int32) dX5_noteAgainst_28 q_ci_m1 ?_
        refine q_icmp_eq (pc := 29) (tgt := 43) C dX5_noteAgainst_29 (by decide) (fun c3 => ?_) (fun c3 => ?_)
        · have hf := q_iteT hf c3
          refine q_sub (lvq := [(0, .ref (g 1)), (1, .int v1), (2, .int v2)]) [1, 2, 3] rfl ?_
          exact w_X5_noteAgainst_43 C hk2 v1 v2 S hf
        · have hf := q_iteF hf c3
          refine q_aload_n (pc := 32) C dX5_noteAgainst_32 rfl 1 rfl ?_
          refine r_g_1_1 (pc := 33) C n_X5_noteAgainst_X5 (List.mem_of_getElem? (i := 2) rfl) dX5_noteAgainst_33 ?_
          refine q_iload_n (pc := 36) C dX5_noteAgainst_36 rfl 3 rfl ?_
          refine q_iload_n (pc := 37) C dX5_noteAgainst_37 rfl 0 rfl ?_
          refine q_iconst (pc := 38) C (1 : Int32) dX5_noteAgainst_38 q_ci_1 ?_
          refine q_iadd (pc := 39) C dX5_noteAgainst_39 ?_
          refine q_callSN (pc := 40) (host := "Queryschool") (As := [.ref (g 9), .int v2, .int ((f_X5_conflictsOf S v2) + (1 : Int32))]) (rest := []) C (c_X8_put l D cc N0 (cw cc g S ++ E) 9 (g 9) 24 (S.1 9) (by decide) (cw_at_9 cc g E S) v2 ((f_X5_conflictsOf S v2) + (1 : Int32))) gX5_noteAgainst_X8_put_n46 rfl (List.mem_of_getElem? (i := 16) rfl) (List.mem_of_getElem? (i := 9) rfl) (List.mem_of_getElem? (i := 13) rfl) z_X8_put ⟨Nat.le_of_ble_eq_true rfl, Nat.le_of_ble_eq_true rfl⟩ rfl rfl (Nat.le_of_ble_eq_true rfl) dX5_noteAgainst_40 ⟨Nat.le_of_ble_eq_true rfl, Nat.le_of_ble_eq_true rfl⟩ ?_
          refine q_after (rv := none) (w0 := (cw cc g (cfun S 9 (q_pu 24 (S.1 9) v2 ((f_X5_conflictsOf S v2) + (1 : Int32)))) ++ E)) (st2 := []) (cw_fun_9 cc g E _ _) rfl rfl ?_
          refine q_sub (lvq := [(0, .ref (g 1)), (1, .int v1), (2, .int v2)]) [1, 2, 3] rfl ?_
          exact w_X5_noteAgainst_43 C hk2 v1 v2 (cfun S 9 (q_pu 24 (S.1 9) v2 ((f_X5_conflictsOf S v2) + (1 : Int32)))) hf
set_option maxRecDepth 100000 in
set_option maxHeartbeats 4000000 in
theorem c_X5_noteAgainst (l : Launch) (D : va_G) (cc : Nat → ClassId) (N0 : Nat) (g : Nat → Nat) (E : va_W) (S : CS) (a1 : Int32) (v : CS) (hf : f_X5_noteAgainst a1 S = some v) : q_Met l yX5_noteAgainst wsX5_noteAgainst 2 42 D cc N0 (cw cc g S ++ E) [.ref (g 1), .int a1] (q_p (none) (cw cc g v ++ E)) 0 0 := by
  refine q_ofW (code := cX5_noteAgainst) (nL := 4) (ret := none) (by decide +kernel) rfl (Nat.le_of_ble_eq_true rfl) (fun p e s m below meth c C _ => ?_)
  refine q_lv (lv2 := [(0, .ref (g 1)), (1, .int a1)]) rfl ?_
  refine q_iconst (pc := 0) C (0 : Int32) dX5_noteAgainst_0 q_ci_0 ?_
  refine q_istore_n (pc := 1) (lvq := [(2, .int (0 : Int32)), (0, .ref (g 1)), (1, .int a1)]) C dX5_noteAgainst_1 rfl (by decide) rfl ?_
  refine q_sub (lvq := [(0, .ref (g 1)), (1, .int a1), (2, .int (0 : Int32))]) [1, 2, 0] rfl ?_
  exact w_X5_noteAgainst_2 C 1000 a1 (0 : Int32) S hf
theorem z_X5_noteAgainst : q_dsc yX5_noteAgainst 1 := ⟨by decide +kernel, by decide +kernel, by decide +kernel⟩
theorem n_X5_answer_X5 : ∀ w ∈ wsX50, w ∈ wsX5_answer := fun _ h => (List.mem_cons_of_mem _ (List.mem_append_left _ (List.mem_append_right _ h)))
def f_X5_answer_66 (v2 : Int32) (t0 : Int32) (S : CS) : Option (Bool × CS) := ((f_X5_noteAgainst t0 S).bind fun u4 => (if v2 = 0 then some (false, (cset u4 1 6 ((u4.1 1 6) + (1 : Int32)))) else if v2 = 1 then some (true, (cset u4 1 6 ((u4.1 1 6) + (1 : Int32)))) else none))
def f_X5_answer_41 (v1 : Int32) (t0 : Int32) (S : CS) : Option (Bool × CS) := (if t0 = 0 then f_X5_answer_66 t0 (f_X1_holding S v1) S else f_X5_answer_66 t0 (f_X1_lacking S v1) S)
def f_X5_answer (a1 : Int32) (S : CS) : Option (Bool × CS) := (if (S.1 1 2) = (97 : Int32) then ((f_X5_living S).bind fun u7 => f_X5_answer_41 a1 (q_b (f_X1_isMostlyIn S a1 u7)) S) else (if (q_b (f_X5_hasHidden S a1)) = (q_b ((f_X5_drawsLie S).1)) then f_X5_answer_41 a1 (0 : Int32) ((f_X5_drawsLie S).2) else f_X5_answer_41 a1 (1 : Int32) ((f_X5_drawsLie S).2)))
set_option maxRecDepth 100000 in
set_option maxHeartbeats 4000000 in
theorem w_X5_answer_66 {p : Program} {l : Launch} {e : Env} {s : State} {m : MethodId} {args : Array Value} {below : List Frame} {meth : Method} {c : Code} {D : va_G} {cc : Nat → ClassId} {N0 : Nat} {g : Nat → Nat} {E : va_W} {v : (Bool × CS)} (C : q_C p s m args meth c cX5_answer 3 (some .boolean) wsX5_answer RX5 D cc N0)  (v2 : Int32) (t0 : Int32) (S : CS) (hf : f_X5_answer_66  v2 t0 S = some v) : q_WA p l e (q_rm 4 85 0 0) s m args below meth c D N0 3 (MQ below (q_Q D N0 (q_p (some (.int (q_b v.1))) (cw cc g v.2 ++ E))) args s 0 0 (q_A N0)) 0 0 (cw cc g S ++ E) 66 [(0, .ref (g 1)), (2, .int v2)] [.int t0, .ref (g 1)] := by
  obtain ⟨u4, e5, hf⟩ := q_bind hf
  refine q_callV (pc := 66) (As := [.int t0]) (rest := []) C (c_X5_noteAgainst l D cc N0 g E S t0 u4 e5) gX5_answer_X5_noteAgainst rfl rfl z_X5_noteAgainst ⟨Nat.le_of_ble_eq_true rfl, Nat.le_of_ble_eq_true rfl⟩ (cw_at_1 cc g E _) rfl rfl rfl (Nat.le_of_ble_eq_true rfl) dX5_answer_66 ⟨Nat.le_of_ble_eq_true rfl, Nat.le_of_ble_eq_true rfl⟩ ?_
  refine q_after (rv := none) (w0 := (cw cc g u4 ++ E)) (st2 := []) rfl rfl rfl ?_
  refine q_aload_n (pc := 69) C dX5_answer_69 rfl 0 rfl ?_
  refine q_dup (pc := 70) C dX5_answer_70 rfl ?_
  refine r_g_1_6 (pc := 71) C n_X5_answer_X5 (List.mem_of_getElem? (i := 3) rfl) dX5_answer_71 ?_
  refine q_iconst (pc := 74) C (1 : Int32) dX5_answer_74 q_ci_1 ?_
  refine q_iadd (pc := 75) C dX5_answer_75 ?_
  refine r_p_1_6 (pc := 76) C n_X5_answer_X5 (List.mem_of_getElem? (i := 3) rfl) dX5_answer_76 ?_
  refine q_iload_n (pc := 79) C dX5_answer_79 rfl 1 rfl ?_
  have hz := q_z01 hf
  rcases hz with ⟨c6, hf⟩ | ⟨c6, hf⟩
  · obtain rfl := q_some hf
    rw [c6]
    exact q_zret (pc := 80) C (by decide +kernel) dX5_answer_80 ⟨rfl, rfl⟩
  · obtain rfl := q_some hf
    rw [c6]
    exact q_zret (pc := 80) C (by decide +kernel) dX5_answer_80 ⟨rfl, rfl⟩
set_option maxRecDepth 100000 in
set_option maxHeartbeats 4000000 in
theorem w_X5_answer_41 {p : Program} {l : Launch} {e : Env} {s : State} {m : MethodId} {args : Array Value} {below : List Frame} {meth : Method} {c : Code} {D : va_G} {cc : Nat → ClassId} {N0 : Nat} {g : Nat → Nat} {E : va_W} {v : (Bool × CS)} (C : q_C p s m args meth c cX5_answer 3 (some .boolean) wsX5_answer RX5 D cc N0)  (v1 : Int32) (t0 : Int32) (S : CS) (hf : f_X5_answer_41  v1 t0 S = some v) : q_WA p l e (q_rm 4 85 0 0) s m args below meth c D N0 3 (MQ below (q_Q D N0 (q_p (some (.int (q_b v.1))) (cw cc g v.2 ++ E))) args s 0 0 (q_A N0)) 0 0 (cw cc g S ++ E) 41 [(0, .ref (g 1)), (1, .int v1)] [.int t0] := by
  refine q_istore_n (pc := 41) (lvq := [(2, .int t0), (0, .ref (g 1)), (1, .int v1)]) C dX5_answer_41 rfl (by decide) rfl ?_
  refine q_aload_n (pc := 42) C dX5_answer_42 rfl 1 rfl ?_
  refine q_iload_n (pc := 43) C dX5_answer_43 rfl 0 rfl ?_
  refine q_if_eq (pc := 44) (tgt := 58) C dX5_answer_44 (by decide) (fun c3 => ?_) (fun c3 => ?_)
  · have hf := q_iteT hf c3
    refine q_aload_n (pc := 58) C dX5_answer_58 rfl 1 rfl ?_
    refine r_g_1_0 (pc := 59) C n_X5_answer_X5 (List.mem_of_getElem? (i := 2) rfl) dX5_answer_59 ?_
    refine q_iload_n (pc := 62) C dX5_answer_62 rfl 2 rfl ?_
    refine q_callV (pc := 63) (As := [.int v1]) (rest := [.ref (g 1)]) C (c_X1_holding l D cc N0 g E S v1 _ rfl) gX5_answer_X1_holding rfl rfl z_X1_holding ⟨Nat.le_of_ble_eq_true rfl, Nat.le_of_ble_eq_true rfl⟩ (cw_at_2 cc g E _) rfl rfl rfl (Nat.le_of_ble_eq_true rfl) dX5_answer_63 ⟨Nat.le_of_ble_eq_true rfl, Nat.le_of_ble_eq_true rfl⟩ ?_
    refine q_after (rv := (some (.int (f_X1_holding S v1)))) (w0 := (cw cc g S ++ E)) (st2 := [.int (f_X1_holding S v1), .ref (g 1)]) rfl rfl rfl ?_
    refine q_sub (lvq := [(0, .ref (g 1)), (2, .int t0)]) [1, 0] rfl ?_
    exact w_X5_answer_66 C t0 (f_X1_holding S v1) S hf
  · have hf := q_iteF hf c3
    refine q_aload_n (pc := 47) C dX5_answer_47 rfl 1 rfl ?_
    refine r_g_1_0 (pc := 48) C n_X5_answer_X5 (List.mem_of_getElem? (i := 2) rfl) dX5_answer_48 ?_
    refine q_iload_n (pc := 51) C dX5_answer_51 rfl 2 rfl ?_
    refine q_callV (pc := 52) (As := [.int v1]) (rest := [.ref (g 1)]) C (c_X1_lacking l D cc N0 g E S v1 _ rfl) gX5_answer_X1_lacking rfl rfl z_X1_lacking ⟨Nat.le_of_ble_eq_true rfl, Nat.le_of_ble_eq_true rfl⟩ (cw_at_2 cc g E _) rfl rfl rfl (Nat.le_of_ble_eq_true rfl) dX5_answer_52 ⟨Nat.le_of_ble_eq_true rfl, Nat.le_of_ble_eq_true rfl⟩ ?_
    refine q_after (rv := (some (.int (f_X1_lacking S v1)))) (w0 := (cw cc g S ++ E)) (st2 := [.int (f_X1_lacking S v1), .ref (g 1)]) rfl rfl rfl ?_
    refine q_goto (pc := 55) (tgt := 66) C dX5_answer_55 (by decide) ?_
    refine q_sub (lvq := [(0, .ref (g 1)), (2, .int t0)]) [1, 0] rfl ?_
    exact w_X5_answer_66 C t0 (f_X1_lacking S v1) S hf
set_option maxRecDepth 100000 in
set_option maxHeartbeats 4000000 in
theorem c_X5_answer (l : Launch) (D : va_G) (cc : Nat → ClassId) (N0 : Nat) (g : Nat → Nat) (E : va_W) (S : CS) (a1 : Int32) (v : (Bool × CS)) (hf : f_X5_answer a1 S = some v) : q_Met l yX5_answer wsX5_answer 4 85 D cc N0 (cw cc g S ++ E) [.ref (g 1), .int a1] (q_p (some (.int (q_b v.1))) (cw cc g v.2 ++ E)) 0 0 := by
  refine q_ofW (code := cX5_answer) (nL := 3) (ret := (some .boolean)) (by decide +kernel) rfl (Nat.le_of_ble_eq_true rfl) (fun p e s m below meth c C _ => ?_)
  refine q_lv (lv2 := [(0, .ref (g 1)), (1, .int a1)]) rfl ?_
  refine q_aload_n (pc := 0) C dX5_answer_0 rfl 0 rfl ?_
  refine r_g_1_2 (pc := 1) C n_X5_answer_X5 (List.mem_of_getElem? (i := 1) rfl) dX5_answer_1 ?_
  refine q_bipush (pc := 4) C (97 : Int32) dX5_answer_4 q_cb_97 ?_
  refine q_icmp_ne (pc := 6) (tgt := 24) C dX5_answer_6 (by decide) (fun c1 => ?_) (fun c1 => ?_)
  · have hf := q_iteF hf c1
    refine q_aload_n (pc := 24) C dX5_answer_24 rfl 0 rfl ?_
    refine q_iload_n (pc := 25) C dX5_answer_25 rfl 1 rfl ?_
    refine q_callV (pc := 26) (As := [.int a1]) (rest := []) C (c_X5_hasHidden l D cc N0 g E S a1 _ rfl) gX5_answer_X5_hasHidden rfl rfl z_X5_hasHidden ⟨Nat.le_of_ble_eq_true rfl, Nat.le_of_ble_eq_true rfl⟩ (cw_at_1 cc g E _) rfl rfl rfl (Nat.le_of_ble_eq_true rfl) dX5_answer_26 ⟨Nat.le_of_ble_eq_true rfl, Nat.le_of_ble_eq_true rfl⟩ ?_
    refine q_after (rv := (some (.int (q_b (f_X5_hasHidden S a1))))) (w0 := (cw cc g S ++ E)) (st2 := [.int (q_b (f_X5_hasHidden S a1))]) rfl rfl rfl ?_
    refine q_aload_n (pc := 29) C dX5_answer_29 rfl 0 rfl ?_
    refine q_callV (pc := 30) (As := []) (rest := [.int (q_b (f_X5_hasHidden S a1))]) C (c_X5_drawsLie l D cc N0 g E S _ rfl) gX5_answer_X5_drawsLie rfl rfl z_X5_drawsLie ⟨Nat.le_of_ble_eq_true rfl, Nat.le_of_ble_eq_true rfl⟩ (cw_at_1 cc g E _) rfl rfl rfl (Nat.le_of_ble_eq_true rfl) dX5_answer_30 ⟨Nat.le_of_ble_eq_true rfl, Nat.le_of_ble_eq_true rfl⟩ ?_
    refine q_after (rv := (some (.int (q_b ((f_X5_drawsLie S).1))))) (w0 := (cw cc g ((f_X5_drawsLie S).2) ++ E)) (st2 := [.int (q_b ((f_X5_drawsLie S).1)), .int (q_b (f_X5_hasHidden S a1))]) rfl rfl rfl ?_
    refine q_icmp_eq (pc := 33) (tgt := 40) C dX5_answer_33 (by decide) (fun c2 => ?_) (fun c2 => ?_)
    · have hf := q_iteT hf c2
      refine q_iconst (pc := 40) C (0 : Int32) dX5_answer_40 q_ci_0 ?_
      refine q_sub (lvq := [(0, .ref (g 1)), (1, .int a1)]) [0, 1] rfl ?_
      exact w_X5_answer_41 C a1 (0 : Int32) ((f_X5_drawsLie S).2) hf
    · have hf := q_iteF hf c2
      refine q_iconst (pc := 36) C (1 : Int32) dX5_answer_36 q_ci_1 ?_
      refine q_goto (pc := 37) (tgt := 41) C dX5_answer_37 (by decide) ?_
      refine q_sub (lvq := [(0, .ref (g 1)), (1, .int a1)]) [0, 1] rfl ?_
      exact w_X5_answer_41 C a1 (1 : Int32) ((f_X5_drawsLie S).2) hf
  · have hf := q_iteT hf c1
    refine q_aload_n (pc := 9) C dX5_answer_9 rfl 0 rfl ?_
    refine r_g_1_0 (pc := 10) C n_X5_answer_X5 (List.mem_of_getElem? (i := 2) rfl) dX5_answer_10 ?_
    refine q_iload_n (pc := 13) C dX5_answer_13 rfl 1 rfl ?_
    refine q_aload_n (pc := 14) C dX5_answer_14 rfl 0 rfl ?_
    obtain ⟨u7, e8, hf⟩ := q_bind hf
    refine q_callV (pc := 15) (As := []) (rest := [.int a1, .ref (g 2)]) C (c_X5_living l D cc N0 g E S u7 e8) gX5_answer_X5_living rfl rfl z_X5_living ⟨Nat.le_of_ble_eq_true rfl, Nat.le_of_ble_eq_true rfl⟩ (cw_at_1 cc g E _) rfl rfl rfl (Nat.le_of_ble_eq_true rfl) dX5_answer_15 ⟨Nat.le_of_ble_eq_true rfl, Nat.le_of_ble_eq_true rfl⟩ ?_
    refine q_after (rv := (some (.int u7))) (w0 := (cw cc g S ++ E)) (st2 := [.int u7, .int a1, .ref (g 2)]) rfl rfl rfl ?_
    refine q_callV (pc := 18) (As := [.int a1, .int u7]) (rest := []) C (c_X1_isMostlyIn l D cc N0 g E S a1 u7 _ rfl) gX5_answer_X1_isMostlyIn rfl rfl z_X1_isMostlyIn ⟨Nat.le_of_ble_eq_true rfl, Nat.le_of_ble_eq_true rfl⟩ (cw_at_2 cc g E _) rfl rfl rfl (Nat.le_of_ble_eq_true rfl) dX5_answer_18 ⟨Nat.le_of_ble_eq_true rfl, Nat.le_of_ble_eq_true rfl⟩ ?_
    refine q_after (rv := (some (.int (q_b (f_X1_isMostlyIn S a1 u7))))) (w0 := (cw cc g S ++ E)) (st2 := [.int (q_b (f_X1_isMostlyIn S a1 u7))]) rfl rfl rfl ?_
    refine q_goto (pc := 21) (tgt := 41) C dX5_answer_21 (by decide) ?_
    refine q_sub (lvq := [(0, .ref (g 1)), (1, .int a1)]) [0, 1] rfl ?_
    exact w_X5_answer_41 C a1 (q_b (f_X1_isMostlyIn S a1 u7)) S hf
theorem z_X5_answer : q_dsc yX5_answer 1 := ⟨by decide +kernel, by decide +kernel, by decide +kernel⟩
theorem n_X5_askOn_X5 : ∀ w ∈ wsX50, w ∈ wsX5_askOn := fun _ h => (List.mem_cons_of_mem _ (List.mem_append_left _ (List.mem_append_right _ h)))
def f_X5_askOn_46 (v1 : Int32) (S : CS) : Option (Int32 × CS) := some (((S.1 1 6) - v1), S)
def f_X5_askOn_7b (k7 : Int32 → Int32 → CS → Option (Int32 × CS)) (v1 : Int32) (v2 : Int32) (S : CS) : Option (Int32 × CS) := (if (40 : Int32) ≤ v2 then f_X5_askOn_46 v1 S else ((f_X5_living S).bind fun u2 => (if (f_J6_bitCount_0f7a4 u2) ≤ (1 : Int32) then f_X5_askOn_46 v1 S else ((f_X5_living S).bind fun u5 => ((f_X1_bestQuestion S u5).bind fun u7 => ((f_X5_answer u7 S).bind fun u9 => k7 v1 (v2 + (1 : Int32)) u9.2))))))
def f_X5_askOn_7 : Nat → Int32 → Int32 → CS → Option (Int32 × CS)
  | 0, _, _, _ => none
  | n + 1, v1, v2, S => f_X5_askOn_7b  (f_X5_askOn_7  n) v1 v2 S
def f_X5_askOn (S : CS) : Option (Int32 × CS) := f_X5_askOn_7 1000 (S.1 1 6) (S.1 1 6) S
set_option maxRecDepth 100000 in
set_option maxHeartbeats 4000000 in
theorem w_X5_askOn_46 {p : Program} {l : Launch} {e : Env} {s : State} {m : MethodId} {args : Array Value} {below : List Frame} {meth : Method} {c : Code} {D : va_G} {cc : Nat → ClassId} {N0 : Nat} {g : Nat → Nat} {E : va_W} {v : (Int32 × CS)} (C : q_C p s m args meth c cX5_askOn 3 (some .int) wsX5_askOn RX5 D cc N0)  (v1 : Int32) (S : CS) (hf : f_X5_askOn_46  v1 S = some v) : q_WA p l e (q_rm 5 107 0 0) s m args below meth c D N0 3 (MQ below (q_Q D N0 (q_p (some (.int v.1)) (cw cc g v.2 ++ E))) args s 0 0 (q_A N0)) 0 0 (cw cc g S ++ E) 46 [(0, .ref (g 1)), (1, .int v1)] [] := by
  refine q_aload_n (pc := 46) C dX5_askOn_46 rfl 0 rfl ?_
  refine r_g_1_6 (pc := 47) C n_X5_askOn_X5 (List.mem_of_getElem? (i := 1) rfl) dX5_askOn_47 ?_
  refine q_iload_n (pc := 50) C dX5_askOn_50 rfl 1 rfl ?_
  refine q_isub (pc := 51) C dX5_askOn_51 ?_
  obtain rfl := q_some hf
  exact q_iret (pc := 52) C dX5_askOn_52 ⟨rfl, rfl⟩
set_option maxRecDepth 100000 in
set_option maxHeartbeats 4000000 in
theorem w_X5_askOn_7 {p : Program} {l : Launch} {e : Env} {s : State} {m : MethodId} {args : Array Value} {below : List Frame} {meth : Method} {c : Code} {D : va_G} {cc : Nat → ClassId} {N0 : Nat} {g : Nat → Nat} {E : va_W} {v : (Int32 × CS)} (C : q_C p s m args meth c cX5_askOn 3 (some .int) wsX5_askOn RX5 D cc N0)  : ∀ (n : Nat) (v1 : Int32) (v2 : Int32) (S : CS), f_X5_askOn_7  n v1 v2 S = some v → q_WA p l e (q_rm 5 107 0 0) s m args below meth c D N0 3 (MQ below (q_Q D N0 (q_p (some (.int v.1)) (cw cc g v.2 ++ E))) args s 0 0 (q_A N0)) 0 0 (cw cc g S ++ E) 7 [(0, .ref (g 1)), (1, .int v1), (2, .int v2)] [] := by
  intro n
  induction n with
  | zero => intro v1 v2 S hf; cases hf
  | succ n ih =>
    intro v1 v2 S hf
    have hk7 : ∀ (v1 : Int32) (v2 : Int32) (S : CS), f_X5_askOn_7  n v1 v2 S = some v → q_WA p l e (q_rm 5 107 0 0) s m args below meth c D N0 3 (MQ below (q_Q D N0 (q_p (some (.int v.1)) (cw cc g v.2 ++ E))) args s 0 0 (q_A N0)) 0 0 (cw cc g S ++ E) 7 [(0, .ref (g 1)), (1, .int v1), (2, .int v2)] [] := ih
    have hf : f_X5_askOn_7b  (f_X5_askOn_7  n) v1 v2 S = some v := hf
    refine q_iload_n (pc := 7) C dX5_askOn_7 rfl 2 rfl ?_
    refine q_bipush (pc := 8) C (40 : Int32) dX5_askOn_8 q_cb_40 ?_
    refine q_icmp_ge (pc := 10) (tgt := 46) C dX5_askOn_10 (by decide) (fun c1 => ?_) (fun c1 => ?_)
    · have hf := q_iteT hf c1
      refine q_sub (lvq := [(0, .ref (g 1)), (1, .int v1)]) [0, 1] rfl ?_
      exact w_X5_askOn_46 C v1 S hf
    · have hf := q_iteF hf c1
      refine q_aload_n (pc := 13) C dX5_askOn_13 rfl 0 rfl ?_
      obtain ⟨u2, e3, hf⟩ := q_bind hf
      refine q_callV (pc := 14) (As := []) (rest := []) C (c_X5_living l D cc N0 g E S u2 e3) gX5_askOn_X5_living rfl rfl z_X5_living ⟨Nat.le_of_ble_eq_true rfl, Nat.le_of_ble_eq_true rfl⟩ (cw_at_1 cc g E _) rfl rfl rfl (Nat.le_of_ble_eq_true rfl) dX5_askOn_14 ⟨Nat.le_of_ble_eq_true rfl, Nat.le_of_ble_eq_true rfl⟩ ?_
      refine q_after (rv := (some (.int u2))) (w0 := (cw cc g S ++ E)) (st2 := [.int u2]) rfl rfl rfl ?_
      refine q_callS (pc := 17) (As := [.int u2]) (rest := []) C (c_J6_bitCount_0f7a4 l D cc N0 (cw cc g S ++ E) u2 _ rfl) gX5_askOn_J6_bitCount_0f7a4 rfl z_J6_bitCount_0f7a4 ⟨Nat.le_of_ble_eq_true rfl, Nat.le_of_ble_eq_true rfl⟩ rfl rfl (Nat.le_of_ble_eq_true rfl) dX5_askOn_17 ⟨Nat.le_of_ble_eq_true rfl, Nat.le_of_ble_eq_true rfl⟩ ?_
      refine q_after (rv := (some (.int (f_J6_bitCount_0f7a4 u2)))) (w0 := (cw cc g S ++ E)) (st2 := [.int (f_J6_bitCount_0f7a4 u2)]) rfl rfl rfl ?_
      refine q_iconst (pc := 20) C (1 : Int32) dX5_askOn_20 q_ci_1 ?_
      refine q_icmp_le (pc := 21) (tgt := 46) C dX5_askOn_21 (by decide) (fun c4 => ?_) (fun c4 => ?_)
      · have hf := q_iteT hf c4
        refine q_sub (lvq := [(0, .ref (g 1)), (1, .int v1)]) [0, 1] rfl ?_
        exact w_X5_askOn_46 C v1 S hf
      · have hf := q_iteF hf c4
        refine q_aload_n (pc := 24) C dX5_askOn_24 rfl 0 rfl ?_
        refine q_aload_n (pc := 25) C dX5_askOn_25 rfl 0 rfl ?_
        refine r_g_1_0 (pc := 26) C n_X5_askOn_X5 (List.mem_of_getElem? (i := 2) rfl) dX5_askOn_26 ?_
        refine q_aload_n (pc := 29) C dX5_askOn_29 rfl 0 rfl ?_
        obtain ⟨u5, e6, hf⟩ := q_bind hf
        refine q_callV (pc := 30) (As := []) (rest := [.ref (g 2), .ref (g 1)]) C (c_X5_living l D cc N0 g E S u5 e6) gX5_askOn_X5_living rfl rfl z_X5_living ⟨Nat.le_of_ble_eq_true rfl, Nat.le_of_ble_eq_true rfl⟩ (cw_at_1 cc g E _) rfl rfl rfl (Nat.le_of_ble_eq_true rfl) dX5_askOn_30 ⟨Nat.le_of_ble_eq_true rfl, Nat.le_of_ble_eq_true rfl⟩ ?_
        refine q_after (rv := (some (.int u5))) (w0 := (cw cc g S ++ E)) (st2 := [.int u5, .ref (g 2), .ref (g 1)]) rfl rfl rfl ?_
        obtain ⟨u7, e8, hf⟩ := q_bind hf
        refine q_callV (pc := 33) (As := [.int u5]) (rest := [.ref (g 1)]) C (c_X1_bestQuestion l D cc N0 g E S u5 u7 e8) gX5_askOn_X1_bestQuestion rfl rfl z_X1_bestQuestion ⟨Nat.le_of_ble_eq_true rfl, Nat.le_of_ble_eq_true rfl⟩ (cw_at_2 cc g E _) rfl rfl rfl (Nat.le_of_ble_eq_true rfl) dX5_askOn_33 ⟨Nat.le_of_ble_eq_true rfl, Nat.le_of_ble_eq_true rfl⟩ ?_
        refine q_after (rv := (some (.int u7))) (w0 := (cw cc g S ++ E)) (st2 := [.int u7, .ref (g 1)]) rfl rfl rfl ?_
        obtain ⟨u9, e10, hf⟩ := q_bind hf
        refine q_callV (pc := 36) (As := [.int u7]) (rest := []) C (c_X5_answer l D cc N0 g E S u7 u9 e10) gX5_askOn_X5_answer rfl rfl z_X5_answer ⟨Nat.le_of_ble_eq_true rfl, Nat.le_of_ble_eq_true rfl⟩ (cw_at_1 cc g E _) rfl rfl rfl (Nat.le_of_ble_eq_true rfl) dX5_askOn_36 ⟨Nat.le_of_ble_eq_true rfl, Nat.le_of_ble_eq_true rfl⟩ ?_
        refine q_after (rv := (some (.int (q_b u9.1)))) (w0 := (cw cc g u9.2 ++ E)) (st2 := [.int (q_b u9.1)]) rfl rfl rfl ?_
        refine q_pop (pc := 39) C dX5_askOn_39 rfl ?_
        refine q_iinc (pc := 40) (lvq := [(2, .int (v2 + (1 : Int32))), (0, .ref (g 1)), (1, .int v1)]) C (v2 + (1 : Int32)) dX5_askOn_40 2 rfl q_ca_1 (by decide) rfl ?_
        refine q_goto (pc := 43) (tgt := 7) C dX5_askOn_43 (by decide) ?_
        refine q_sub (lvq := [(0, .ref (g 1)), (1, .int v1), (2, .int (v2 + (1 : Int32)))]) [1, 2, 0] rfl ?_
        exact hk7 v1 (v2 + (1 : Int32)) u9.2 hf
set_option maxRecDepth 100000 in
set_option maxHeartbeats 4000000 in
theorem c_X5_askOn (l : Launch) (D : va_G) (cc : Nat → ClassId) (N0 : Nat) (g : Nat → Nat) (E : va_W) (S : CS) (v : (Int32 × CS)) (hf : f_X5_askOn S = some v) : q_Met l yX5_askOn wsX5_askOn 5 107 D cc N0 (cw cc g S ++ E) [.ref (g 1)] (q_p (some (.int v.1)) (cw cc g v.2 ++ E)) 0 0 := by
  refine q_ofW (code := cX5_askOn) (nL := 3) (ret := (some .int)) (by decide +kernel) rfl (Nat.le_of_ble_eq_true rfl) (fun p e s m below meth c C _ => ?_)
  refine q_lv (lv2 := [(0, .ref (g 1))]) rfl ?_
  refine q_aload_n (pc := 0) C dX5_askOn_0 rfl 0 rfl ?_
  refine r_g_1_6 (pc := 1) C n_X5_askOn_X5 (List.mem_of_getElem? (i := 1) rfl) dX5_askOn_1 ?_
  refine q_istore_n (pc := 4) (lvq := [(1, .int (S.1 1 6)), (0, .ref (g 1))]) C dX5_askOn_4 rfl (by decide) rfl ?_
  refine q_iload_n (pc := 5) C dX5_askOn_5 rfl 0 rfl ?_
  refine q_istore_n (pc := 6) (lvq := [(2, .int (S.1 1 6)), (1, .int (S.1 1 6)), (0, .ref (g 1))]) C dX5_askOn_6 rfl (by decide) rfl ?_
  refine q_sub (lvq := [(0, .ref (g 1)), (1, .int (S.1 1 6)), (2, .int (S.1 1 6))]) [2, 1, 0] rfl ?_
  exact w_X5_askOn_7 C 1000 (S.1 1 6) (S.1 1 6) S hf
theorem z_X5_askOn : q_dsc yX5_askOn 0 := ⟨by decide +kernel, by decide +kernel, by decide +kernel⟩
theorem n_X5_bury_X1 : ∀ w ∈ wsX10, w ∈ wsX5_bury := fun _ h => (List.mem_cons_of_mem _ (List.mem_append_right _ h))
theorem n_X5_bury_X5 : ∀ w ∈ wsX50, w ∈ wsX5_bury := fun _ h => (List.mem_cons_of_mem _ (List.mem_append_left _ (List.mem_append_right _ h)))
def f_X5_bury_30 (k2 : Int32 → Int32 → CS → Option CS) (v1 : Int32) (v2 : Int32) (S : CS) : Option CS := k2 v1 (v2 + (1 : Int32)) S
def f_X5_bury_2b (k2 : Int32 → Int32 → CS → Option CS) (v1 : Int32) (v2 : Int32) (S : CS) : Option CS := (if (S.1 2 3) ≤ v2 then some S else (if (q_b (f_X8_hasBit v1 v2)) = 0 then f_X5_bury_30 k2 v1 v2 S else f_X5_bury_30 k2 v1 v2 (cfun S 9 (q_pu 24 (S.1 9) v2 (-1 : Int32)))))
def f_X5_bury_2 : Nat → Int32 → Int32 → CS → Option CS
  | 0, _, _, _ => none
  | n + 1, v1, v2, S => f_X5_bury_2b  (f_X5_bury_2  n) v1 v2 S
def f_X5_bury (a1 : Int32) (S : CS) : Option CS := f_X5_bury_2 1000 a1 (0 : Int32) S
set_option maxRecDepth 100000 in
set_option maxHeartbeats 4000000 in
theorem w_X5_bury_30 {p : Program} {l : Launch} {e : Env} {s : State} {m : MethodId} {args : Array Value} {below : List Frame} {meth : Method} {c : Code} {D : va_G} {cc : Nat → ClassId} {N0 : Nat} {g : Nat → Nat} {E : va_W} {k2 : Int32 → Int32 → CS → Option CS} {v : CS} (C : q_C p s m args meth c cX5_bury 3 none wsX5_bury RX5 D cc N0) (hk2 : ∀ (v1 : Int32) (v2 : Int32) (S : CS), k2 v1 v2 S = some v → q_WA p l e (q_rm 1 22 0 0) s m args below meth c D N0 3 (MQ below (q_Q D N0 (q_p (none) (cw cc g v ++ E))) args s 0 0 (q_A N0)) 0 0 (cw cc g S ++ E) 2 [(0, .ref (g 1)), (1, .int v1), (2, .int v2)] []) (v1 : Int32) (v2 : Int32) (S : CS) (hf : f_X5_bury_30 k2 v1 v2 S = some v) : q_WA p l e (q_rm 1 22 0 0) s m args below meth c D N0 3 (MQ below (q_Q D N0 (q_p (none) (cw cc g v ++ E))) args s 0 0 (q_A N0)) 0 0 (cw cc g S ++ E) 30 [(0, .ref (g 1)), (1, .int v1), (2, .int v2)] [] := by
  refine q_iinc (pc := 30) (lvq := [(2, .int (v2 + (1 : Int32))), (0, .ref (g 1)), (1, .int v1)]) C (v2 + (1 : Int32)) dX5_bury_30 2 rfl q_ca_1 (by decide) rfl ?_
  refine q_goto (pc := 33) (tgt := 2) C dX5_bury_33 (by decide) ?_
  refine q_sub (lvq := [(0, .ref (g 1)), (1, .int v1), (2, .int (v2 + (1 : Int32)))]) [1, 2, 0] rfl ?_
  exact hk2 v1 (v2 + (1 : Int32)) S hf
set_option maxRecDepth 100000 in
set_option maxHeartbeats 4000000 in
theorem w_X5_bury_2 {p : Program} {l : Launch} {e : Env} {s : State} {m : MethodId} {args : Array Value} {below : List Frame} {meth : Method} {c : Code} {D : va_G} {cc : Nat → ClassId} {N0 : Nat} {g : Nat → Nat} {E : va_W} {v : CS} (C : q_C p s m args meth c cX5_bury 3 none wsX5_bury RX5 D cc N0)  : ∀ (n : Nat) (v1 : Int32) (v2 : Int32) (S : CS), f_X5_bury_2  n v1 v2 S = some v → q_WA p l e (q_rm 1 22 0 0) s m args below meth c D N0 3 (MQ below (q_Q D N0 (q_p (none) (cw cc g v ++ E))) args s 0 0 (q_A N0)) 0 0 (cw cc g S ++ E) 2 [(0, .ref (g 1)), (1, .int v1), (2, .int v2)] [] := by
  intro n
  induction n with
  | zero => intro v1 v2 S hf; cases hf
  | succ n ih =>
    intro v1 v2 S hf
    have hk2 : ∀ (v1 : Int32) (v2 : Int32) (S : CS), f_X5_bury_2  n v1 v2 S = some v → q_WA p l e (q_rm 1 22 0 0) s m args below meth c D N0 3 (MQ below (q_Q D N0 (q_p (none) (cw cc g v ++ E))) args s 0 0 (q_A N0)) 0 0 (cw cc g S ++ E) 2 [(0, .ref (g 1)), (1, .int v1), (2, .int v2)] [] := ih
    have hf : f_X5_bury_2b  (f_X5_bury_2  n) v1 v2 S = some v := hf
    refine q_iload_n (pc := 2) C dX5_bury_2 rfl 2 rfl ?_
    refine q_aload_n (pc := 3) C dX5_bury_3 rfl 0 rfl ?_
    refine r_g_1_0 (pc := 4) C n_X5_bury_X5 (List.mem_of_getElem? (i := 1) rfl) dX5_bury_4 ?_
    refine r_n_2_3 (pc := 7) C n_X5_bury_X1 (host := "Queryschool") (List.mem_of_getElem? (i := 4) rfl) dX5_bury_7 ?_
    refine q_icmp_ge (pc := 10) (tgt := 36) C dX5_bury_10 (by decide) (fun c1 => ?_) (fun c1 => ?_)
    · have hf := q_iteT hf c1
      obtain rfl := q_some hf
      exact q_vret (pc := 36) C dX5_bury_36 ⟨rfl, rfl⟩
    · have hf := q_iteF hf c1
      refine q_iload_n (pc := 13) C dX5_bury_13 rfl 1 rfl ?_
      refine q_iload_n (pc := 14) C dX5_bury_14 rfl 2 rfl ?_
      refine q_callSN (pc := 15) (host := "Queryschool") (As := [.int v1, .int v2]) (rest := []) C (c_X8_hasBit l D cc N0 (cw cc g S ++ E) v1 v2 _ rfl) gX5_bury_X8_hasBit_n104 rfl (List.mem_of_getElem? (i := 18) rfl) (List.mem_of_getElem? (i := 4) rfl) (List.mem_of_getElem? (i := 3) rfl) z_X8_hasBit ⟨Nat.le_of_ble_eq_true rfl, Nat.le_of_ble_eq_true rfl⟩ rfl rfl (Nat.le_of_ble_eq_true rfl) dX5_bury_15 ⟨Nat.le_of_ble_eq_true rfl, Nat.le_of_ble_eq_true rfl⟩ ?_
      refine q_after (rv := (some (.int (q_b (f_X8_hasBit v1 v2))))) (w0 := (cw cc g S ++ E)) (st2 := [.int (q_b (f_X8_hasBit v1 v2))]) rfl rfl rfl ?_
      refine q_if_eq (pc := 18) (tgt := 30) C dX5_bury_18 (by decide) (fun c2 => ?_) (fun c2 => ?_)
      · have hf := q_iteT hf c2
        refine q_sub (lvq := [(0, .ref (g 1)), (1, .int v1), (2, .int v2)]) [0, 1, 2] rfl ?_
        exact w_X5_bury_30 C hk2 v1 v2 S hf
      · have hf := q_iteF hf c2
        refine q_aload_n (pc := 21) C dX5_bury_21 rfl 0 rfl ?_
        refine r_g_1_1 (pc := 22) C n_X5_bury_X5 (List.mem_of_getElem? (i := 2) rfl) dX5_bury_22 ?_
        refine q_iload_n (pc := 25) C dX5_bury_25 rfl 2 rfl ?_
        refine q_iconst (pc := 26) C (-1 : Int32) dX5_bury_26 q_ci_m1 ?_
        refine q_callSN (pc := 27) (host := "Queryschool") (As := [.ref (g 9), .int v2, .int (-1 : Int32)]) (rest := []) C (c_X8_put l D cc N0 (cw cc g S ++ E) 9 (g 9) 24 (S.1 9) (by decide) (cw_at_9 cc g E S) v2 (-1 : Int32)) gX5_bury_X8_put_n46 rfl (List.mem_of_getElem? (i := 16) rfl) (List.mem_of_getElem? (i := 4) rfl) (List.mem_of_getElem? (i := 6) rfl) z_X8_put ⟨Nat.le_of_ble_eq_true rfl, Nat.le_of_ble_eq_true rfl⟩ rfl rfl (Nat.le_of_ble_eq_true rfl) dX5_bury_27 ⟨Nat.le_of_ble_eq_true rfl, Nat.le_of_ble_eq_true rfl⟩ ?_
        refine q_after (rv := none) (w0 := (cw cc g (cfun S 9 (q_pu 24 (S.1 9) v2 (-1 : Int32))) ++ E)) (st2 := []) (cw_fun_9 cc g E _ _) rfl rfl ?_
        refine q_sub (lvq := [(0, .ref (g 1)), (1, .int v1), (2, .int v2)]) [0, 1, 2] rfl ?_
        exact w_X5_bury_30 C hk2 v1 v2 (cfun S 9 (q_pu 24 (S.1 9) v2 (-1 : Int32))) hf
set_option maxRecDepth 100000 in
set_option maxHeartbeats 4000000 in
theorem c_X5_bury (l : Launch) (D : va_G) (cc : Nat → ClassId) (N0 : Nat) (g : Nat → Nat) (E : va_W) (S : CS) (a1 : Int32) (v : CS) (hf : f_X5_bury a1 S = some v) : q_Met l yX5_bury wsX5_bury 1 22 D cc N0 (cw cc g S ++ E) [.ref (g 1), .int a1] (q_p (none) (cw cc g v ++ E)) 0 0 := by
  refine q_ofW (code := cX5_bury) (nL := 3) (ret := none) (by decide +kernel) rfl (Nat.le_of_ble_eq_true rfl) (fun p e s m below meth c C _ => ?_)
  refine q_lv (lv2 := [(0, .ref (g 1)), (1, .int a1)]) rfl ?_
  refine q_iconst (pc := 0) C (0 : Int32) dX5_bury_0 q_ci_0 ?_
  refine q_istore_n (pc := 1) (lvq := [(2, .int (0 : Int32)), (0, .ref (g 1)), (1, .int a1)]) C dX5_bury_1 rfl (by decide) rfl ?_
  refine q_sub (lvq := [(0, .ref (g 1)), (1, .int a1), (2, .int (0 : Int32))]) [1, 2, 0] rfl ?_
  exact w_X5_bury_2 C 1000 a1 (0 : Int32) S hf
theorem z_X5_bury : q_dsc yX5_bury 1 := ⟨by decide +kernel, by decide +kernel, by decide +kernel⟩
theorem n_X5_keepingCounter_X1 : ∀ w ∈ wsX10, w ∈ wsX5_keepingCounter := fun _ h => (List.mem_cons_of_mem _ (List.mem_append_right _ h))
theorem n_X5_keepingCounter_X5 : ∀ w ∈ wsX50, w ∈ wsX5_keepingCounter := fun _ h => (List.mem_cons_of_mem _ (List.mem_append_left _ (List.mem_append_right _ h)))
def f_X5_keepingCounter_57 (S : CS) (k13 : Int32 → Int32 → Int32 → Int32 → Int32 → Option Int32) (v1 : Int32) (v2 : Int32) (v3 : Int32) (v4 : Int32) (v5 : Int32) : Option Int32 := k13 v1 v2 v3 v4 (v5 + (1 : Int32))
def f_X5_keepingCounter_13b (S : CS) (k13 : Int32 → Int32 → Int32 → Int32 → Int32 → Option Int32) (v1 : Int32) (v2 : Int32) (v3 : Int32) (v4 : Int32) (v5 : Int32) : Option Int32 := (if (S.1 2 2) ≤ v5 then some v4 else (if (f_J6_bitCount_0f7a4 (v2 &&& ((f_X1_agreeing S v1 v5) ^^^ (-1 : Int32)))) ≤ v3 then f_X5_keepingCounter_57 S k13 v1 v2 v3 v4 v5 else f_X5_keepingCounter_57 S k13 v1 v2 (f_J6_bitCount_0f7a4 (v2 &&& ((f_X1_agreeing S v1 v5) ^^^ (-1 : Int32)))) v5 v5))
def f_X5_keepingCounter_13 (S : CS) : Nat → Int32 → Int32 → Int32 → Int32 → Int32 → Option Int32
  | 0, _, _, _, _, _ => none
  | n + 1, v1, v2, v3, v4, v5 => f_X5_keepingCounter_13b S (f_X5_keepingCounter_13 S n) v1 v2 v3 v4 v5
def f_X5_keepingCounter (S : CS) (a1 : Int32) : Option Int32 := ((f_X5_living S).bind fun u1 => f_X5_keepingCounter_13 S 1000 a1 u1 (0 : Int32) (-1 : Int32) (0 : Int32))
set_option maxRecDepth 100000 in
set_option maxHeartbeats 4000000 in
theorem w_X5_keepingCounter_57 {p : Program} {l : Launch} {e : Env} {s : State} {m : MethodId} {args : Array Value} {below : List Frame} {meth : Method} {c : Code} {D : va_G} {cc : Nat → ClassId} {N0 : Nat} {g : Nat → Nat} {E : va_W} {S : CS} {k13 : Int32 → Int32 → Int32 → Int32 → Int32 → Option Int32} {v : Int32} (C : q_C p s m args meth c cX5_keepingCounter 7 (some .int) wsX5_keepingCounter RX5 D cc N0) (hk13 : ∀ (v1 : Int32) (v2 : Int32) (v3 : Int32) (v4 : Int32) (v5 : Int32), k13 v1 v2 v3 v4 v5 = some v → q_WA p l e (q_rm 4 85 0 0) s m args below meth c D N0 7 (MQ below (q_Q D N0 (q_p (some (.int v)) (cw cc g S ++ E))) args s 0 0 (q_A N0)) 0 0 (cw cc g S ++ E) 13 [(0, .ref (g 1)), (1, .int v1), (2, .int v2), (3, .int v3), (4, .int v4), (5, .int v5)] []) (v1 : Int32) (v2 : Int32) (v3 : Int32) (v4 : Int32) (v5 : Int32) (hf : f_X5_keepingCounter_57 S k13 v1 v2 v3 v4 v5 = some v) : q_WA p l e (q_rm 4 85 0 0) s m args below meth c D N0 7 (MQ below (q_Q D N0 (q_p (some (.int v)) (cw cc g S ++ E))) args s 0 0 (q_A N0)) 0 0 (cw cc g S ++ E) 57 [(0, .ref (g 1)), (1, .int v1), (2, .int v2), (3, .int v3), (4, .int v4), (5, .int v5)] [] := by
  refine q_iinc (pc := 57) (lvq := [(5, .int (v5 + (1 : Int32))), (0, .ref (g 1)), (1, .int v1), (2, .int v2), (3, .int v3), (4, .int v4)]) C (v5 + (1 : Int32)) dX5_keepingCounter_57 5 rfl q_ca_1 (by decide) rfl ?_
  refine q_goto (pc := 60) (tgt := 13) C dX5_keepingCounter_60 (by decide) ?_
  refine q_sub (lvq := [(0, .ref (g 1)), (1, .int v1), (2, .int v2), (3, .int v3), (4, .int v4), (5, .int (v5 + (1 : Int32)))]) [1, 2, 3, 4, 5, 0] rfl ?_
  exact hk13 v1 v2 v3 v4 (v5 + (1 : Int32)) hf
set_option maxRecDepth 100000 in
set_option maxHeartbeats 4000000 in
theorem w_X5_keepingCounter_13 {p : Program} {l : Launch} {e : Env} {s : State} {m : MethodId} {args : Array Value} {below : List Frame} {meth : Method} {c : Code} {D : va_G} {cc : Nat → ClassId} {N0 : Nat} {g : Nat → Nat} {E : va_W} {S : CS} {v : Int32} (C : q_C p s m args meth c cX5_keepingCounter 7 (some .int) wsX5_keepingCounter RX5 D cc N0)  : ∀ (n : Nat) (v1 : Int32) (v2 : Int32) (v3 : Int32) (v4 : Int32) (v5 : Int32), f_X5_keepingCounter_13 S n v1 v2 v3 v4 v5 = some v → q_WA p l e (q_rm 4 85 0 0) s m args below meth c D N0 7 (MQ below (q_Q D N0 (q_p (some (.int v)) (cw cc g S ++ E))) args s 0 0 (q_A N0)) 0 0 (cw cc g S ++ E) 13 [(0, .ref (g 1)), (1, .int v1), (2, .int v2), (3, .int v3), (4, .int v4), (5, .int v5)] [] := by
  intro n
  induction n with
  | zero => intro v1 v2 v3 v4 v5 hf; cases hf
  | succ n ih =>
    intro v1 v2 v3 v4 v5 hf
    have hk13 : ∀ (v1 : Int32) (v2 : Int32) (v3 : Int32) (v4 : Int32) (v5 : Int32), f_X5_keepingCounter_13 S n v1 v2 v3 v4 v5 = some v → q_WA p l e (q_rm 4 85 0 0) s m args below meth c D N0 7 (MQ below (q_Q D N0 (q_p (some (.int v)) (cw cc g S ++ E))) args s 0 0 (q_A N0)) 0 0 (cw cc g S ++ E) 13 [(0, .ref (g 1)), (1, .int v1), (2, .int v2), (3, .int v3), (4, .int v4), (5, .int v5)] [] := ih
    have hf : f_X5_keepingCounter_13b S (f_X5_keepingCounter_13 S n) v1 v2 v3 v4 v5 = some v := hf
    refine q_iload (pc := 13) C dX5_keepingCounter_13 5 rfl ?_
    refine q_aload_n (pc := 15) C dX5_keepingCounter_15 rfl 0 rfl ?_
    refine r_g_1_0 (pc := 16) C n_X5_keepingCounter_X5 (List.mem_of_getElem? (i := 1) rfl) dX5_keepingCounter_16 ?_
    refine r_n_2_2 (pc := 19) C n_X5_keepingCounter_X1 (host := "Queryschool") (List.mem_of_getElem? (i := 1) rfl) dX5_keepingCounter_19 ?_
    refine q_icmp_ge (pc := 22) (tgt := 63) C dX5_keepingCounter_22 (by decide) (fun c3 => ?_) (fun c3 => ?_)
    · have hf := q_iteT hf c3
      refine q_iload (pc := 63) C dX5_keepingCounter_63 4 rfl ?_
      obtain rfl := q_some hf
      exact q_iret (pc := 65) C dX5_keepingCounter_65 ⟨rfl, rfl⟩
    · have hf := q_iteF hf c3
      refine q_iload_n (pc := 25) C dX5_keepingCounter_25 rfl 2 rfl ?_
      refine q_aload_n (pc := 26) C dX5_keepingCounter_26 rfl 0 rfl ?_
      refine r_g_1_0 (pc := 27) C n_X5_keepingCounter_X5 (List.mem_of_getElem? (i := 1) rfl) dX5_keepingCounter_27 ?_
      refine q_iload_n (pc := 30) C dX5_keepingCounter_30 rfl 1 rfl ?_
      refine q_iload (pc := 31) C dX5_keepingCounter_31 5 rfl ?_
      refine q_callV (pc := 33) (As := [.int v1, .int v5]) (rest := [.int v2]) C (c_X1_agreeing l D cc N0 g E S v1 v5 _ rfl) gX5_keepingCounter_X1_agreeing rfl rfl z_X1_agreeing ⟨Nat.le_of_ble_eq_true rfl, Nat.le_of_ble_eq_true rfl⟩ (cw_at_2 cc g E _) rfl rfl rfl (Nat.le_of_ble_eq_true rfl) dX5_keepingCounter_33 ⟨Nat.le_of_ble_eq_true rfl, Nat.le_of_ble_eq_true rfl⟩ ?_
      refine q_after (rv := (some (.int (f_X1_agreeing S v1 v5)))) (w0 := (cw cc g S ++ E)) (st2 := [.int (f_X1_agreeing S v1 v5), .int v2]) rfl rfl rfl ?_
      refine q_iconst (pc := 36) C (-1 : Int32) dX5_keepingCounter_36 q_ci_m1 ?_
      refine q_ixor (pc := 37) C dX5_keepingCounter_37 ?_
      refine q_iand (pc := 38) C dX5_keepingCounter_38 ?_
      refine q_callS (pc := 39) (As := [.int (v2 &&& ((f_X1_agreeing S v1 v5) ^^^ (-1 : Int32)))]) (rest := []) C (c_J6_bitCount_0f7a4 l D cc N0 (cw cc g S ++ E) (v2 &&& ((f_X1_agreeing S v1 v5) ^^^ (-1 : Int32))) _ rfl) gX5_keepingCounter_J6_bitCount_0f7a4 rfl z_J6_bitCount_0f7a4 ⟨Nat.le_of_ble_eq_true rfl, Nat.le_of_ble_eq_true rfl⟩ rfl rfl (Nat.le_of_ble_eq_true rfl) dX5_keepingCounter_39 ⟨Nat.le_of_ble_eq_true rfl, Nat.le_of_ble_eq_true rfl⟩ ?_
      refine q_after (rv := (some (.int (f_J6_bitCount_0f7a4 (v2 &&& ((f_X1_agreeing S v1 v5) ^^^ (-1 : Int32))))))) (w0 := (cw cc g S ++ E)) (st2 := [.int (f_J6_bitCount_0f7a4 (v2 &&& ((f_X1_agreeing S v1 v5) ^^^ (-1 : Int32))))]) rfl rfl rfl ?_
      refine q_istore (pc := 42) (lvq := [(6, .int (f_J6_bitCount_0f7a4 (v2 &&& ((f_X1_agreeing S v1 v5) ^^^ (-1 : Int32))))), (0, .ref (g 1)), (1, .int v1), (2, .int v2), (3, .int v3), (4, .int v4), (5, .int v5)]) C dX5_keepingCounter_42 (by decide) rfl ?_
      refine q_iload (pc := 44) C dX5_keepingCounter_44 0 rfl ?_
      refine q_iload_n (pc := 46) C dX5_keepingCounter_46 rfl 4 rfl ?_
      refine q_icmp_le (pc := 47) (tgt := 57) C dX5_keepingCounter_47 (by decide) (fun c4 => ?_) (fun c4 => ?_)
      · have hf := q_iteT hf c4
        refine q_sub (lvq := [(0, .ref (g 1)), (1, .int v1), (2, .int v2), (3, .int v3), (4, .int v4), (5, .int v5)]) [1, 2, 3, 4, 5, 6] rfl ?_
        exact w_X5_keepingCounter_57 C hk13 v1 v2 v3 v4 v5 hf
      · have hf := q_iteF hf c4
        refine q_iload (pc := 50) C dX5_keepingCounter_50 0 rfl ?_
        refine q_istore_n (pc := 52) (lvq := [(3, .int (f_J6_bitCount_0f7a4 (v2 &&& ((f_X1_agreeing S v1 v5) ^^^ (-1 : Int32))))), (6, .int (f_J6_bitCount_0f7a4 (v2 &&& ((f_X1_agreeing S v1 v5) ^^^ (-1 : Int32))))), (0, .ref (g 1)), (1, .int v1), (2, .int v2), (4, .int v4), (5, .int v5)]) C dX5_keepingCounter_52 rfl (by decide) rfl ?_
        refine q_iload (pc := 53) C dX5_keepingCounter_53 6 rfl ?_
        refine q_istore (pc := 55) (lvq := [(4, .int v5), (3, .int (f_J6_bitCount_0f7a4 (v2 &&& ((f_X1_agreeing S v1 v5) ^^^ (-1 : Int32))))), (6, .int (f_J6_bitCount_0f7a4 (v2 &&& ((f_X1_agreeing S v1 v5) ^^^ (-1 : Int32))))), (0, .ref (g 1)), (1, .int v1), (2, .int v2), (5, .int v5)]) C dX5_keepingCounter_55 (by decide) rfl ?_
        refine q_sub (lvq := [(0, .ref (g 1)), (1, .int v1), (2, .int v2), (3, .int (f_J6_bitCount_0f7a4 (v2 &&& ((f_X1_agreeing S v1 v5) ^^^ (-1 : Int32))))), (4, .int v5), (5, .int v5)]) [3, 4, 5, 1, 0, 6] rfl ?_
        exact w_X5_keepingCounter_57 C hk13 v1 v2 (f_J6_bitCount_0f7a4 (v2 &&& ((f_X1_agreeing S v1 v5) ^^^ (-1 : Int32)))) v5 v5 hf
set_option maxRecDepth 100000 in
set_option maxHeartbeats 4000000 in
theorem c_X5_keepingCounter (l : Launch) (D : va_G) (cc : Nat → ClassId) (N0 : Nat) (g : Nat → Nat) (E : va_W) (S : CS) (a1 : Int32) (v : Int32) (hf : f_X5_keepingCounter S a1 = some v) : q_Met l yX5_keepingCounter wsX5_keepingCounter 4 85 D cc N0 (cw cc g S ++ E) [.ref (g 1), .int a1] (q_p (some (.int v)) (cw cc g S ++ E)) 0 0 := by
  refine q_ofW (code := cX5_keepingCounter) (nL := 7) (ret := (some .int)) (by decide +kernel) rfl (Nat.le_of_ble_eq_true rfl) (fun p e s m below meth c C _ => ?_)
  refine q_lv (lv2 := [(0, .ref (g 1)), (1, .int a1)]) rfl ?_
  refine q_aload_n (pc := 0) C dX5_keepingCounter_0 rfl 0 rfl ?_
  obtain ⟨u1, e2, hf⟩ := q_bind hf
  refine q_callV (pc := 1) (As := []) (rest := []) C (c_X5_living l D cc N0 g E S u1 e2) gX5_keepingCounter_X5_living rfl rfl z_X5_living ⟨Nat.le_of_ble_eq_true rfl, Nat.le_of_ble_eq_true rfl⟩ (cw_at_1 cc g E _) rfl rfl rfl (Nat.le_of_ble_eq_true rfl) dX5_keepingCounter_1 ⟨Nat.le_of_ble_eq_true rfl, Nat.le_of_ble_eq_true rfl⟩ ?_
  refine q_after (rv := (some (.int u1))) (w0 := (cw cc g S ++ E)) (st2 := [.int u1]) rfl rfl rfl ?_
  refine q_istore_n (pc := 4) (lvq := [(2, .int u1), (0, .ref (g 1)), (1, .int a1)]) C dX5_keepingCounter_4 rfl (by decide) rfl ?_
  refine q_iconst (pc := 5) C (0 : Int32) dX5_keepingCounter_5 q_ci_0 ?_
  refine q_istore_n (pc := 6) (lvq := [(3, .int (0 : Int32)), (2, .int u1), (0, .ref (g 1)), (1, .int a1)]) C dX5_keepingCounter_6 rfl (by decide) rfl ?_
  refine q_iconst (pc := 7) C (-1 : Int32) dX5_keepingCounter_7 q_ci_m1 ?_
  refine q_istore (pc := 8) (lvq := [(4, .int (-1 : Int32)), (3, .int (0 : Int32)), (2, .int u1), (0, .ref (g 1)), (1, .int a1)]) C dX5_keepingCounter_8 (by decide) rfl ?_
  refine q_iconst (pc := 10) C (0 : Int32) dX5_keepingCounter_10 q_ci_0 ?_
  refine q_istore (pc := 11) (lvq := [(5, .int (0 : Int32)), (4, .int (-1 : Int32)), (3, .int (0 : Int32)), (2, .int u1), (0, .ref (g 1)), (1, .int a1)]) C dX5_keepingCounter_11 (by decide) rfl ?_
  refine q_sub (lvq := [(0, .ref (g 1)), (1, .int a1), (2, .int u1), (3, .int (0 : Int32)), (4, .int (-1 : Int32)), (5, .int (0 : Int32))]) [4, 5, 3, 2, 1, 0] rfl ?_
  exact w_X5_keepingCounter_13 C 1000 a1 u1 (0 : Int32) (-1 : Int32) (0 : Int32) hf
theorem z_X5_keepingCounter : q_dsc yX5_keepingCounter 1 := ⟨by decide +kernel, by decide +kernel, by decide +kernel⟩
theorem n_X5_others_X5 : ∀ w ∈ wsX50, w ∈ wsX5_others := fun _ h => (List.mem_cons_of_mem _ (List.mem_append_left _ (List.mem_append_right _ h)))
def f_X5_others (S : CS) (a1 : Int32) : Option Int32 := ((f_X1_numberOf S a1).bind fun u1 => (if 0 ≤ u1 then some ((f_X1_everyone S) &&& (((1 : Int32) <<< (u1 &&& 31)) ^^^ (-1 : Int32))) else some (f_X1_everyone S)))
set_option maxRecDepth 100000 in
set_option maxHeartbeats 4000000 in
theorem c_X5_others (l : Launch) (D : va_G) (cc : Nat → ClassId) (N0 : Nat) (g : Nat → Nat) (E : va_W) (S : CS) (a1 : Int32) (v : Int32) (hf : f_X5_others S a1 = some v) : q_Met l yX5_others wsX5_others 3 64 D cc N0 (cw cc g S ++ E) [.ref (g 1), .int a1] (q_p (some (.int v)) (cw cc g S ++ E)) 0 0 := by
  refine q_ofW (code := cX5_others) (nL := 3) (ret := (some .int)) (by decide +kernel) rfl (Nat.le_of_ble_eq_true rfl) (fun p e s m below meth c C _ => ?_)
  refine q_lv (lv2 := [(0, .ref (g 1)), (1, .int a1)]) rfl ?_
  refine q_aload_n (pc := 0) C dX5_others_0 rfl 0 rfl ?_
  refine r_g_1_0 (pc := 1) C n_X5_others_X5 (List.mem_of_getElem? (i := 1) rfl) dX5_others_1 ?_
  refine q_iload_n (pc := 4) C dX5_others_4 rfl 1 rfl ?_
  obtain ⟨u1, e2, hf⟩ := q_bind hf
  refine q_callV (pc := 5) (As := [.int a1]) (rest := []) C (c_X1_numberOf l D cc N0 g E S a1 u1 e2) gX5_others_X1_numberOf rfl rfl z_X1_numberOf ⟨Nat.le_of_ble_eq_true rfl, Nat.le_of_ble_eq_true rfl⟩ (cw_at_2 cc g E _) rfl rfl rfl (Nat.le_of_ble_eq_true rfl) dX5_others_5 ⟨Nat.le_of_ble_eq_true rfl, Nat.le_of_ble_eq_true rfl⟩ ?_
  refine q_after (rv := (some (.int u1))) (w0 := (cw cc g S ++ E)) (st2 := [.int u1]) rfl rfl rfl ?_
  refine q_istore_n (pc := 8) (lvq := [(2, .int u1), (0, .ref (g 1)), (1, .int a1)]) C dX5_others_8 rfl (by decide) rfl ?_
  refine q_iload_n (pc := 9) C dX5_others_9 rfl 0 rfl ?_
  refine q_if_ge (pc := 10) (tgt := 23) C dX5_others_10 (by decide) (fun c3 => ?_) (fun c3 => ?_)
  · have hf := q_iteT hf c3
    refine q_aload_n (pc := 23) C dX5_others_23 rfl 1 rfl ?_
    refine r_g_1_0 (pc := 24) C n_X5_others_X5 (List.mem_of_getElem? (i := 1) rfl) dX5_others_24 ?_
    refine q_callV (pc := 27) (As := []) (rest := []) C (c_X1_everyone l D cc N0 g E S _ rfl) gX5_others_X1_everyone rfl rfl z_X1_everyone ⟨Nat.le_of_ble_eq_true rfl, Nat.le_of_ble_eq_true rfl⟩ (cw_at_2 cc g E _) rfl rfl rfl (Nat.le_of_ble_eq_true rfl) dX5_others_27 ⟨Nat.le_of_ble_eq_true rfl, Nat.le_of_ble_eq_true rfl⟩ ?_
    refine q_after (rv := (some (.int (f_X1_everyone S)))) (w0 := (cw cc g S ++ E)) (st2 := [.int (f_X1_everyone S)]) rfl rfl rfl ?_
    refine q_iconst (pc := 30) C (1 : Int32) dX5_others_30 q_ci_1 ?_
    refine q_iload_n (pc := 31) C dX5_others_31 rfl 0 rfl ?_
    refine q_ishl (pc := 32) C dX5_others_32 ?_
    refine q_iconst (pc := 33) C (-1 : Int32) dX5_others_33 q_ci_m1 ?_
    refine q_ixor (pc := 34) C dX5_others_34 ?_
    refine q_iand (pc := 35) C dX5_others_35 ?_
    obtain rfl := q_some hf
    exact q_iret (pc := 36) C dX5_others_36 ⟨rfl, rfl⟩
  · have hf := q_iteF hf c3
    refine q_aload_n (pc := 13) C dX5_others_13 rfl 1 rfl ?_
    refine r_g_1_0 (pc := 14) C n_X5_others_X5 (List.mem_of_getElem? (i := 1) rfl) dX5_others_14 ?_
    refine q_callV (pc := 17) (As := []) (rest := []) C (c_X1_everyone l D cc N0 g E S _ rfl) gX5_others_X1_everyone rfl rfl z_X1_everyone ⟨Nat.le_of_ble_eq_true rfl, Nat.le_of_ble_eq_true rfl⟩ (cw_at_2 cc g E _) rfl rfl rfl (Nat.le_of_ble_eq_true rfl) dX5_others_17 ⟨Nat.le_of_ble_eq_true rfl, Nat.le_of_ble_eq_true rfl⟩ ?_
    refine q_after (rv := (some (.int (f_X1_everyone S)))) (w0 := (cw cc g S ++ E)) (st2 := [.int (f_X1_everyone S)]) rfl rfl rfl ?_
    refine q_goto (pc := 20) (tgt := 36) C dX5_others_20 (by decide) ?_
    obtain rfl := q_some hf
    exact q_iret (pc := 36) C dX5_others_36 ⟨rfl, rfl⟩
theorem z_X5_others : q_dsc yX5_others 1 := ⟨by decide +kernel, by decide +kernel, by decide +kernel⟩
theorem n_X5_compare_X5 : ∀ w ∈ wsX50, w ∈ wsX5_compare := fun _ h => (List.mem_cons_of_mem _ (List.mem_append_left _ (List.mem_append_right _ h)))
def f_X5_compare_56 (v2 : Int32) (t0 : Int32) (S : CS) : Option (Int32 × CS) := ((f_X5_bury t0 S).bind fun u5 => some (v2, (cset u5 1 6 ((u5.1 1 6) + (1 : Int32)))))
def f_X5_compare_33 (v1 : Int32) (t0 : Int32) (S : CS) : Option (Int32 × CS) := (if 0 ≤ t0 then f_X5_compare_56 t0 (f_X1_agreeing S v1 t0) S else ((f_X5_others S v1).bind fun u7 => f_X5_compare_56 t0 u7 S))
def f_X5_compare (a1 : Int32) (S : CS) : Option (Int32 × CS) := (if (S.1 1 2) = (97 : Int32) then ((f_X5_keepingCounter S a1).bind fun u9 => f_X5_compare_33 a1 u9 S) else ((f_X8_lowestBit (a1 ^^^ (f_X1_setAt S (S.1 1 3)))).bind fun u2 => f_X5_compare_33 a1 u2 S))
set_option maxRecDepth 100000 in
set_option maxHeartbeats 4000000 in
theorem w_X5_compare_56 {p : Program} {l : Launch} {e : Env} {s : State} {m : MethodId} {args : Array Value} {below : List Frame} {meth : Method} {c : Code} {D : va_G} {cc : Nat → ClassId} {N0 : Nat} {g : Nat → Nat} {E : va_W} {v : (Int32 × CS)} (C : q_C p s m args meth c cX5_compare 3 (some .int) wsX5_compare RX5 D cc N0)  (v2 : Int32) (t0 : Int32) (S : CS) (hf : f_X5_compare_56  v2 t0 S = some v) : q_WA p l e (q_rm 5 111 0 0) s m args below meth c D N0 3 (MQ below (q_Q D N0 (q_p (some (.int v.1)) (cw cc g v.2 ++ E))) args s 0 0 (q_A N0)) 0 0 (cw cc g S ++ E) 56 [(0, .ref (g 1)), (2, .int v2)] [.int t0, .ref (g 1)] := by
  obtain ⟨u5, e6, hf⟩ := q_bind hf
  refine q_callV (pc := 56) (As := [.int t0]) (rest := []) C (c_X5_bury l D cc N0 g E S t0 u5 e6) gX5_compare_X5_bury rfl rfl z_X5_bury ⟨Nat.le_of_ble_eq_true rfl, Nat.le_of_ble_eq_true rfl⟩ (cw_at_1 cc g E _) rfl rfl rfl (Nat.le_of_ble_eq_true rfl) dX5_compare_56 ⟨Nat.le_of_ble_eq_true rfl, Nat.le_of_ble_eq_true rfl⟩ ?_
  refine q_after (rv := none) (w0 := (cw cc g u5 ++ E)) (st2 := []) rfl rfl rfl ?_
  refine q_aload_n (pc := 59) C dX5_compare_59 rfl 0 rfl ?_
  refine q_dup (pc := 60) C dX5_compare_60 rfl ?_
  refine r_g_1_6 (pc := 61) C n_X5_compare_X5 (List.mem_of_getElem? (i := 4) rfl) dX5_compare_61 ?_
  refine q_iconst (pc := 64) C (1 : Int32) dX5_compare_64 q_ci_1 ?_
  refine q_iadd (pc := 65) C dX5_compare_65 ?_
  refine r_p_1_6 (pc := 66) C n_X5_compare_X5 (List.mem_of_getElem? (i := 4) rfl) dX5_compare_66 ?_
  refine q_iload_n (pc := 69) C dX5_compare_69 rfl 1 rfl ?_
  obtain rfl := q_some hf
  exact q_iret (pc := 70) C dX5_compare_70 ⟨rfl, rfl⟩
set_option maxRecDepth 100000 in
set_option maxHeartbeats 4000000 in
theorem w_X5_compare_33 {p : Program} {l : Launch} {e : Env} {s : State} {m : MethodId} {args : Array Value} {below : List Frame} {meth : Method} {c : Code} {D : va_G} {cc : Nat → ClassId} {N0 : Nat} {g : Nat → Nat} {E : va_W} {v : (Int32 × CS)} (C : q_C p s m args meth c cX5_compare 3 (some .int) wsX5_compare RX5 D cc N0)  (v1 : Int32) (t0 : Int32) (S : CS) (hf : f_X5_compare_33  v1 t0 S = some v) : q_WA p l e (q_rm 5 111 0 0) s m args below meth c D N0 3 (MQ below (q_Q D N0 (q_p (some (.int v.1)) (cw cc g v.2 ++ E))) args s 0 0 (q_A N0)) 0 0 (cw cc g S ++ E) 33 [(0, .ref (g 1)), (1, .int v1)] [.int t0] := by
  refine q_istore_n (pc := 33) (lvq := [(2, .int t0), (0, .ref (g 1)), (1, .int v1)]) C dX5_compare_33 rfl (by decide) rfl ?_
  refine q_aload_n (pc := 34) C dX5_compare_34 rfl 1 rfl ?_
  refine q_iload_n (pc := 35) C dX5_compare_35 rfl 0 rfl ?_
  refine q_if_ge (pc := 36) (tgt := 47) C dX5_compare_36 (by decide) (fun c4 => ?_) (fun c4 => ?_)
  · have hf := q_iteT hf c4
    refine q_aload_n (pc := 47) C dX5_compare_47 rfl 1 rfl ?_
    refine r_g_1_0 (pc := 48) C n_X5_compare_X5 (List.mem_of_getElem? (i := 2) rfl) dX5_compare_48 ?_
    refine q_iload_n (pc := 51) C dX5_compare_51 rfl 2 rfl ?_
    refine q_iload_n (pc := 52) C dX5_compare_52 rfl 0 rfl ?_
    refine q_callV (pc := 53) (As := [.int v1, .int t0]) (rest := [.ref (g 1)]) C (c_X1_agreeing l D cc N0 g E S v1 t0 _ rfl) gX5_compare_X1_agreeing rfl rfl z_X1_agreeing ⟨Nat.le_of_ble_eq_true rfl, Nat.le_of_ble_eq_true rfl⟩ (cw_at_2 cc g E _) rfl rfl rfl (Nat.le_of_ble_eq_true rfl) dX5_compare_53 ⟨Nat.le_of_ble_eq_true rfl, Nat.le_of_ble_eq_true rfl⟩ ?_
    refine q_after (rv := (some (.int (f_X1_agreeing S v1 t0)))) (w0 := (cw cc g S ++ E)) (st2 := [.int (f_X1_agreeing S v1 t0), .ref (g 1)]) rfl rfl rfl ?_
    refine q_sub (lvq := [(0, .ref (g 1)), (2, .int t0)]) [1, 0] rfl ?_
    exact w_X5_compare_56 C t0 (f_X1_agreeing S v1 t0) S hf
  · have hf := q_iteF hf c4
    refine q_aload_n (pc := 39) C dX5_compare_39 rfl 1 rfl ?_
    refine q_iload_n (pc := 40) C dX5_compare_40 rfl 2 rfl ?_
    obtain ⟨u7, e8, hf⟩ := q_bind hf
    refine q_callV (pc := 41) (As := [.int v1]) (rest := [.ref (g 1)]) C (c_X5_others l D cc N0 g E S v1 u7 e8) gX5_compare_X5_others rfl rfl z_X5_others ⟨Nat.le_of_ble_eq_true rfl, Nat.le_of_ble_eq_true rfl⟩ (cw_at_1 cc g E _) rfl rfl rfl (Nat.le_of_ble_eq_true rfl) dX5_compare_41 ⟨Nat.le_of_ble_eq_true rfl, Nat.le_of_ble_eq_true rfl⟩ ?_
    refine q_after (rv := (some (.int u7))) (w0 := (cw cc g S ++ E)) (st2 := [.int u7, .ref (g 1)]) rfl rfl rfl ?_
    refine q_goto (pc := 44) (tgt := 56) C dX5_compare_44 (by decide) ?_
    refine q_sub (lvq := [(0, .ref (g 1)), (2, .int t0)]) [1, 0] rfl ?_
    exact w_X5_compare_56 C t0 u7 S hf
set_option maxRecDepth 100000 in
set_option maxHeartbeats 4000000 in
theorem c_X5_compare (l : Launch) (D : va_G) (cc : Nat → ClassId) (N0 : Nat) (g : Nat → Nat) (E : va_W) (S : CS) (a1 : Int32) (v : (Int32 × CS)) (hf : f_X5_compare a1 S = some v) : q_Met l yX5_compare wsX5_compare 5 111 D cc N0 (cw cc g S ++ E) [.ref (g 1), .int a1] (q_p (some (.int v.1)) (cw cc g v.2 ++ E)) 0 0 := by
  refine q_ofW (code := cX5_compare) (nL := 3) (ret := (some .int)) (by decide +kernel) rfl (Nat.le_of_ble_eq_true rfl) (fun p e s m below meth c C _ => ?_)
  refine q_lv (lv2 := [(0, .ref (g 1)), (1, .int a1)]) rfl ?_
  refine q_aload_n (pc := 0) C dX5_compare_0 rfl 0 rfl ?_
  refine r_g_1_2 (pc := 1) C n_X5_compare_X5 (List.mem_of_getElem? (i := 1) rfl) dX5_compare_1 ?_
  refine q_bipush (pc := 4) C (97 : Int32) dX5_compare_4 q_cb_97 ?_
  refine q_icmp_ne (pc := 6) (tgt := 17) C dX5_compare_6 (by decide) (fun c1 => ?_) (fun c1 => ?_)
  · have hf := q_iteF hf c1
    refine q_iload_n (pc := 17) C dX5_compare_17 rfl 1 rfl ?_
    refine q_aload_n (pc := 18) C dX5_compare_18 rfl 0 rfl ?_
    refine r_g_1_0 (pc := 19) C n_X5_compare_X5 (List.mem_of_getElem? (i := 2) rfl) dX5_compare_19 ?_
    refine q_aload_n (pc := 22) C dX5_compare_22 rfl 0 rfl ?_
    refine r_g_1_3 (pc := 23) C n_X5_compare_X5 (List.mem_of_getElem? (i := 3) rfl) dX5_compare_23 ?_
    refine q_callV (pc := 26) (As := [.int (S.1 1 3)]) (rest := [.int a1]) C (c_X1_setAt l D cc N0 g E S (S.1 1 3) _ rfl) gX5_compare_X1_setAt rfl rfl z_X1_setAt ⟨Nat.le_of_ble_eq_true rfl, Nat.le_of_ble_eq_true rfl⟩ (cw_at_2 cc g E _) rfl rfl rfl (Nat.le_of_ble_eq_true rfl) dX5_compare_26 ⟨Nat.le_of_ble_eq_true rfl, Nat.le_of_ble_eq_true rfl⟩ ?_
    refine q_after (rv := (some (.int (f_X1_setAt S (S.1 1 3))))) (w0 := (cw cc g S ++ E)) (st2 := [.int (f_X1_setAt S (S.1 1 3)), .int a1]) rfl rfl rfl ?_
    refine q_ixor (pc := 29) C dX5_compare_29 ?_
    obtain ⟨u2, e3, hf⟩ := q_bind hf
    refine q_callSN (pc := 30) (host := "Queryschool") (As := [.int (a1 ^^^ (f_X1_setAt S (S.1 1 3)))]) (rest := []) C (c_X8_lowestBit l D cc N0 (cw cc g S ++ E) (a1 ^^^ (f_X1_setAt S (S.1 1 3))) u2 e3) gX5_compare_X8_lowestBit_n114 rfl (List.mem_of_getElem? (i := 19) rfl) (List.mem_of_getElem? (i := 25) rfl) (List.mem_of_getElem? (i := 60) rfl) z_X8_lowestBit ⟨Nat.le_of_ble_eq_true rfl, Nat.le_of_ble_eq_true rfl⟩ rfl rfl (Nat.le_of_ble_eq_true rfl) dX5_compare_30 ⟨Nat.le_of_ble_eq_true rfl, Nat.le_of_ble_eq_true rfl⟩ ?_
    refine q_after (rv := (some (.int u2))) (w0 := (cw cc g S ++ E)) (st2 := [.int u2]) rfl rfl rfl ?_
    refine q_sub (lvq := [(0, .ref (g 1)), (1, .int a1)]) [0, 1] rfl ?_
    exact w_X5_compare_33 C a1 u2 S hf
  · have hf := q_iteT hf c1
    refine q_aload_n (pc := 9) C dX5_compare_9 rfl 0 rfl ?_
    refine q_iload_n (pc := 10) C dX5_compare_10 rfl 1 rfl ?_
    obtain ⟨u9, e10, hf⟩ := q_bind hf
    refine q_callV (pc := 11) (As := [.int a1]) (rest := []) C (c_X5_keepingCounter l D cc N0 g E S a1 u9 e10) gX5_compare_X5_keepingCounter rfl rfl z_X5_keepingCounter ⟨Nat.le_of_ble_eq_true rfl, Nat.le_of_ble_eq_true rfl⟩ (cw_at_1 cc g E _) rfl rfl rfl (Nat.le_of_ble_eq_true rfl) dX5_compare_11 ⟨Nat.le_of_ble_eq_true rfl, Nat.le_of_ble_eq_true rfl⟩ ?_
    refine q_after (rv := (some (.int u9))) (w0 := (cw cc g S ++ E)) (st2 := [.int u9]) rfl rfl rfl ?_
    refine q_goto (pc := 14) (tgt := 33) C dX5_compare_14 (by decide) ?_
    refine q_sub (lvq := [(0, .ref (g 1)), (1, .int a1)]) [0, 1] rfl ?_
    exact w_X5_compare_33 C a1 u9 S hf
theorem z_X5_compare : q_dsc yX5_compare 1 := ⟨by decide +kernel, by decide +kernel, by decide +kernel⟩
