theorem z_X9_familW : q_dsc yX9_family 1 := ⟨by decide +kernel, by decide +kernel, by decide +kernel⟩
theorem n_X9_familW_Jx4a65c : ∀ w ∈ wsJx4a65c0, w ∈ wsX9_family := fun _ h => (List.mem_cons_of_mem _ (List.mem_append_left _ (List.mem_append_left _ (List.mem_append_right _ h))))
theorem n_X9_familW_X9 : ∀ w ∈ wsX90, w ∈ wsX9_family := fun _ h => (List.mem_cons_of_mem _ (List.mem_append_left _ (List.mem_append_left _ (List.mem_append_left _ (List.mem_append_right _ h)))))
def f_X9_familW_129b (k129 : Int32 → Int32 → Nat → (Nat → Nat) → Int32 → MS → Option (Int32 × MS)) (u3 : Int32) (x3 : Int32) (mx129 : Nat) (hx129 : Nat → Nat) (jx129 : Int32) (S : MS) : Option (Int32 × MS) := (if (q_b (!decide (u3 = nI mx129))) = 0 then some ((nI (S.2.1 0)), S) else (if q_in u3 mx129 ∧ x3 = jx129 then (if S.2.1 0 < 64 then k129 (u3 + (1 : Int32)) x3 mx129 hx129 jx129 (madd S 0 (upd (upd (upd (fun _ => 0) 0 (vb_c (hx129 u3.toNatClampNeg))) 1 (0 : Int32)) 2 (0 : Int32))) else none) else none))
def f_X9_familW_129 : Nat → Int32 → Int32 → Nat → (Nat → Nat) → Int32 → MS → Option (Int32 × MS)
  | 0, _, _, _, _, _, _ => none
  | n + 1, u3, x3, mx129, hx129, jx129, S => f_X9_familW_129b  (f_X9_familW_129  n) u3 x3 mx129 hx129 jx129 S
def f_X9_familW_114 (vt0 : Int32) (m2 : Nat) (h2 : Nat → Nat) (j2 : Int32) (S : MS) : Option (Int32 × MS) := ((f_X9_isWrong vt0 S).bind fun u11 => (if (q_b u11.1) = 0 then f_X9_familW_129 25 (0 : Int32) j2 m2 h2 j2 u11.2 else some ((0 : Int32), u11.2)))
def f_X9_familW_81 (k44 : Int32 → Int32 → Nat → (Nat → Nat) → Int32 → MS → Option (Int32 × MS)) (v1 : Int32) (v3 : Int32) (m2 : Nat) (h2 : Nat → Nat) (j2 : Int32) (S : MS) : Option (Int32 × MS) := k44 v1 (v3 + (1 : Int32)) m2 h2 j2 S
def f_X9_familW_44b (k44 : Int32 → Int32 → Nat → (Nat → Nat) → Int32 → MS → Option (Int32 × MS)) (v1 : Int32) (v3 : Int32) (m2 : Nat) (h2 : Nat → Nat) (j2 : Int32) (S : MS) : Option (Int32 × MS) := (if ((1 : Int32) <<< ((S.1 2) &&& 31)) ≤ v3 then (if ((nI (S.2.1 0)) + (nI m2)) ≤ (24 : Int32) then f_X9_familW_114 (0 : Int32) m2 h2 j2 S else f_X9_familW_114 (3 : Int32) m2 h2 j2 S) else ((f_X9_isIn v1 v3).bind fun u24 => (if (q_b u24) = 0 then f_X9_familW_81 k44 v1 v3 m2 h2 j2 S else ((f_X9_has S v3).bind fun u27 => (if (q_b u27) = 0 then (if ¬ v3 < -128 ∧ ¬ 127 < v3 ∧ q_in (v3 + 128) 256 then (if m2 < 64 then f_X9_familW_81 k44 v1 v3 (m2 + 1) (nup h2 m2 ((v3 + 128).toNatClampNeg)) (j2 + 1) S else none) else none) else f_X9_familW_81 k44 v1 v3 m2 h2 j2 S)))))
def f_X9_familW_44 : Nat → Int32 → Int32 → Nat → (Nat → Nat) → Int32 → MS → Option (Int32 × MS)
  | 0, _, _, _, _, _, _ => none
  | n + 1, v1, v3, m2, h2, j2, S => f_X9_familW_44b  (f_X9_familW_44  n) v1 v3 m2 h2 j2 S
def f_X9_familW_26 (v1 : Int32) (vt0 : Int32) (S : MS) : Option (Int32 × MS) := ((f_X9_isWrong vt0 S).bind fun u5 => (if (q_b u5.1) = 0 then f_X9_familW_44 65 v1 (0 : Int32) 0 (fun _ => 0) (0 : Int32) u5.2 else some ((0 : Int32), u5.2)))
def f_X9_familW (a1 : Int32) (S : MS) : Option (Int32 × MS) := ((f_J0_indexOf_0f7a4 S a1).bind fun u1 => (if 0 ≤ u1 then (if (S.1 3) ≤ 0 then f_X9_familW_26 a1 (0 : Int32) S else f_X9_familW_26 a1 (2 : Int32) S) else f_X9_familW_26 a1 (1 : Int32) S))
set_option maxRecDepth 100000 in
set_option maxHeartbeats 8000000 in
theorem w_X9_familW_129 {p : Program} {l : Launch} {e : Env} {s : State} {m : MethodId} {args : Array Value} {below : List Frame} {meth : Method} {c : Code} {D : va_G} {cc : Nat → ClassId} {N0 : Nat} {ga : Nat → Nat} {E : va_W} {v : (Int32 × MS)} (C : q_C p s m args meth c cX9_family 5 (some .int) wsX9_family RX9 D cc N0)  : ∀ (n : Nat) (kc : Nat) (ks : Nat) (u3 : Int32) (x3 : Int32) (mx129 : Nat) (hx129 : Nat → Nat) (jx129 : Int32) (S : MS) (q3 : Nat) (z3 : Int32) (qx129 : Nat) (yx129 : LY) (ad : Nat → Nat → Nat) (ws : va_W), f_X9_familW_129  n u3 x3 mx129 hx129 jx129 S = some v → mW cc ga ad S ((q3, q_it u3 z3 x3 qx129) :: (iB cc qx129 mx129 yx129 ++ E)) ws → ik cc jx129 hx129 mx129 yx129 → kc + 0 + n * 2 ≤ 190 → ks + 0 + n * 103 ≤ 10300 → q_WA p l e (q_rm (10) (400) 190 10300) s m args below meth c D N0 5 (MQ below (q_Q D N0 (fun rv w1 => rv = some (.int v.1) ∧ ∃ ad : Nat → Nat → Nat, mW cc ga ad v.2 E w1)) args s 190 10300 (q_A N0)) kc ks ws 129 [(0, .ref (ga 0)), (3, .ref q3)] [] := by
  intro n
  induction n with
  | zero => intro kc ks u3 x3 mx129 hx129 jx129 S q3 z3 qx129 yx129 ad ws hf; cases hf
  | succ n ih =>
    intro kc ks u3 x3 mx129 hx129 jx129 S q3 z3 qx129 yx129 ad ws hf hW ix129 b1 b2
    have hk129 : ∀ (kc : Nat) (ks : Nat) (u3 : Int32) (x3 : Int32) (mx129 : Nat) (hx129 : Nat → Nat) (jx129 : Int32) (S : MS) (q3 : Nat) (z3 : Int32) (qx129 : Nat) (yx129 : LY) (ad : Nat → Nat → Nat) (ws : va_W), f_X9_familW_129  n u3 x3 mx129 hx129 jx129 S = some v → mW cc ga ad S ((q3, q_it u3 z3 x3 qx129) :: (iB cc qx129 mx129 yx129 ++ E)) ws → ik cc jx129 hx129 mx129 yx129 → kc + 0 + n * 2 ≤ 190 → ks + 0 + n * 103 ≤ 10300 → q_WA p l e (q_rm (10) (400) 190 10300) s m args below meth c D N0 5 (MQ below (q_Q D N0 (fun rv w1 => rv = some (.int v.1) ∧ ∃ ad : Nat → Nat → Nat, mW cc ga ad v.2 E w1)) args s 190 10300 (q_A N0)) kc ks ws 129 [(0, .ref (ga 0)), (3, .ref q3)] [] := ih
    have hf : f_X9_familW_129b  (f_X9_familW_129  n) u3 x3 mx129 hx129 jx129 S = some v := hf
    simp only [Nat.succ_mul, Nat.add_mul] at b1 b2
    refine q_aload_n (pc := 129) C dX9_family_129 rfl 1 rfl ?_
    refine m_ihas (pc := 130) C hW ix129 gX9_family_Jx35411_hasNext_aae02_f76Jx35411 ⟨Nat.le_of_ble_eq_true rfl, Nat.le_of_ble_eq_true rfl⟩ (Nat.le_of_ble_eq_true rfl) dX9_family_130 ⟨(show (kc) ≤ 190 by omega), (show (ks) ≤ 10300 by omega)⟩ ?_
    refine q_if_eq (pc := 135) (tgt := 181) C dX9_family_135 (by decide) (fun c17 => ?_) (fun c17 => ?_)
    · have hf := q_iteT hf c17
      refine q_aload_n (pc := 181) C dX9_family_181 rfl 0 rfl ?_
      refine m_g_1 (pc := 182) C hW n_X9_familW_X9 (List.mem_of_getElem? (i := 6) rfl) dX9_family_182 ?_
      refine m_size_0 (pc := 185) C hW gX9_family_Jx4a65c_size_8abf5_f50Jx4a65c ⟨Nat.le_of_ble_eq_true rfl, Nat.le_of_ble_eq_true rfl⟩ (Nat.le_of_ble_eq_true rfl) dX9_family_185 ⟨(show (kc) ≤ 190 by omega), (show (ks) ≤ 10300 by omega)⟩ ?_
      refine q_wid (show kc ≤ 190 by omega) (show ks ≤ 10300 by omega) ?_
      refine t_drop hW (fun ws hW => ?_)
      refine t_gdrop hW (fun ws hW => ?_)
      obtain rfl := q_some hf
      exact q_iret (pc := 190) C dX9_family_190 ⟨rfl, ad, hW⟩
    · have hf := q_iteF hf c17
      refine q_aload_n (pc := 138) C dX9_family_138 rfl 1 rfl ?_
      obtain ⟨g21, hf⟩ := q_gd hf
      refine m_inext (pc := 139) C hW ix129 g21 gX9_family_Jx35411_next_0502b_f82Jx35411 ⟨Nat.le_of_ble_eq_true rfl, Nat.le_of_ble_eq_true rfl⟩ (Nat.le_of_ble_eq_true rfl) dX9_family_139 ⟨(show (kc) ≤ 190 by omega), (show (ks) ≤ 10300 by omega)⟩ (fun y18 ws hW hy19 hv20 => ?_)
      refine q_ncast (pc := 144) C hv20 (List.mem_of_getElem? (i := 7) rfl) dX9_family_144 ?_
      refine q_callN (pc := 147) (As := []) (rest := []) C hv20 (c_intValue l D cc N0 ws (hx129 u3.toNatClampNeg) hv20) gX9_family_J6_intValue_8abf5 rfl rfl z_J6_intValue_8abf5 ⟨Nat.le_of_ble_eq_true rfl, Nat.le_of_ble_eq_true rfl⟩ rfl rfl (Nat.le_of_ble_eq_true rfl) dX9_family_147 ⟨(show (kc) ≤ 190 by omega), (show (ks) ≤ 10300 by omega)⟩ ?_
      refine q_after (rv := (some (.int (vb_c (hx129 u3.toNatClampNeg))))) (w0 := ws) (st2 := [.int (vb_c (hx129 u3.toNatClampNeg))]) rfl rfl rfl ?_
      refine q_istore (pc := 150) (lvq := [(4, .int (vb_c (hx129 u3.toNatClampNeg))), (0, .ref (ga 0)), (3, .ref q3)]) C dX9_family_150 (by decide) rfl ?_
      refine q_aload_n (pc := 152) C dX9_family_152 rfl 1 rfl ?_
      refine m_g_1 (pc := 153) C hW n_X9_familW_X9 (List.mem_of_getElem? (i := 6) rfl) dX9_family_153 ?_
      refine q_iconst (pc := 156) C (3 : Int32) dX9_family_156 q_ci_3 ?_
      refine t_new (pc := 157) C hW (ty := .int) 0 rfl (fun _ h => by cases h) (List.mem_of_getElem? (i := 8) rfl) rfl (N' := 3) (3, .inl fun _ => 0) (fun _ => rfl) (by decide) (by decide) (by decide) (show (kc) + 1 ≤ 190 by omega) (show (ks) + 3 ≤ 10300 by omega) dX9_family_157 (fun qa22 ws hW => ?_)
      refine q_nm (wz := ws) (ka := kc + 1) (kb := ks + 3) (sz := [.ref qa22, .ref (ga 1)]) rfl rfl rfl rfl ?_
      refine q_dup (pc := 159) C dX9_family_159 rfl ?_
      refine q_iconst (pc := 160) C (0 : Int32) dX9_family_160 q_ci_0 ?_
      refine q_iload (pc := 161) C dX9_family_161 0 rfl ?_
      refine t_iast (pc := 163) C hW ⟨by decide, by decide⟩ dX9_family_163 (fun ws hW => ?_)
      have hW : mW cc ga ad S ((qa22, .inl (cc 0, 3, .inl (upd (fun _ => 0) 0 (vb_c (hx129 u3.toNatClampNeg))))) :: ((q3, q_it (u3 + (1 : Int32)) u3 x3 qx129) :: (iB cc qx129 mx129 y18 ++ E))) ws := hW
      refine q_dup (pc := 164) C dX9_family_164 rfl ?_
      refine q_iconst (pc := 165) C (1 : Int32) dX9_family_165 q_ci_1 ?_
      refine q_iconst (pc := 166) C (0 : Int32) dX9_family_166 q_ci_0 ?_
      refine t_iast (pc := 167) C hW ⟨by decide, by decide⟩ dX9_family_167 (fun ws hW => ?_)
      have hW : mW cc ga ad S ((qa22, .inl (cc 0, 3, .inl (upd (upd (fun _ => 0) 0 (vb_c (hx129 u3.toNatClampNeg))) 1 (0 : Int32)))) :: ((q3, q_it (u3 + (1 : Int32)) u3 x3 qx129) :: (iB cc qx129 mx129 y18 ++ E))) ws := hW
      refine q_dup (pc := 168) C dX9_family_168 rfl ?_
      refine q_iconst (pc := 169) C (2 : Int32) dX9_family_169 q_ci_2 ?_
      refine q_iconst (pc := 170) C (0 : Int32) dX9_family_170 q_ci_0 ?_
      refine t_iast (pc := 171) C hW ⟨by decide, by decide⟩ dX9_family_171 (fun ws hW => ?_)
      have hW : mW cc ga ad S ((qa22, .inl (cc 0, 3, .inl (upd (upd (upd (fun _ => 0) 0 (vb_c (hx129 u3.toNatClampNeg))) 1 (0 : Int32)) 2 (0 : Int32)))) :: ((q3, q_it (u3 + (1 : Int32)) u3 x3 qx129) :: (iB cc qx129 mx129 y18 ++ E))) ws := hW
      obtain ⟨g23, hf⟩ := q_gd hf
      refine m_add_0 (pc := 172) C hW g23 gX9_family_Jx4a65c_add_9ea2d_f94Jx4a65c ⟨Nat.le_of_ble_eq_true rfl, Nat.le_of_ble_eq_true rfl⟩ (Nat.le_of_ble_eq_true rfl) dX9_family_172 ⟨(show (kc + 1) + 1 ≤ 190 by omega), (show (ks + 3) + 100 ≤ 10300 by omega)⟩ (fun ad ws hW => ?_)
      refine q_nm (wz := ws) (ka := kc + 2) (kb := ks + 103) (sz := [.int (1 : Int32)]) rfl rfl rfl rfl ?_
      refine q_pop (pc := 177) C dX9_family_177 rfl ?_
      refine q_goto (pc := 178) (tgt := 129) C dX9_family_178 (by decide) ?_
      have hW := hW.out (List.Perm.swap _ _ _)
      have hW := hW.out (List.Perm.swap _ _ _)
      refine q_sub (lvq := [(0, .ref (ga 0)), (3, .ref q3)]) [1, 2] rfl ?_
      exact hk129 (kc + 2) (ks + 103) (u3 + (1 : Int32)) x3 mx129 hx129 jx129 (madd S 0 (upd (upd (upd (fun _ => 0) 0 (vb_c (hx129 u3.toNatClampNeg))) 1 (0 : Int32)) 2 (0 : Int32))) q3 u3 qx129 y18 ad ws hf hW hy19 (by omega) (by omega)
set_option maxRecDepth 100000 in
set_option maxHeartbeats 8000000 in
theorem w_X9_familW_114 {p : Program} {l : Launch} {e : Env} {s : State} {m : MethodId} {args : Array Value} {below : List Frame} {meth : Method} {c : Code} {D : va_G} {cc : Nat → ClassId} {N0 : Nat} {ga : Nat → Nat} {E : va_W} {v : (Int32 × MS)} (C : q_C p s m args meth c cX9_family 5 (some .int) wsX9_family RX9 D cc N0)  (kc : Nat) (ks : Nat) (vt0 : Int32) (m2 : Nat) (h2 : Nat → Nat) (j2 : Int32) (S : MS) (q2 : Nat) (y2 : LY) (ad : Nat → Nat → Nat) (ws : va_W) : f_X9_familW_114  vt0 m2 h2 j2 S = some v → mW cc ga ad S (iB cc q2 m2 y2 ++ E) ws → ik cc j2 h2 m2 y2 → kc + 51 ≤ 190 → ks + 2579 ≤ 10300 → q_WA p l e (q_rm (10) (400) 190 10300) s m args below meth c D N0 5 (MQ below (q_Q D N0 (fun rv w1 => rv = some (.int v.1) ∧ ∃ ad : Nat → Nat → Nat, mW cc ga ad v.2 E w1)) args s 190 10300 (q_A N0)) kc ks ws 114 [(0, .ref (ga 0)), (2, .ref q2)] [.int vt0, .ref (ga 0)] := by
  intro hf hW i2 b1 b2
  obtain ⟨u11, e12, hf⟩ := q_bind hf
  obtain ⟨_, he⟩ := hW.obj
  refine q_callV (pc := 114) (As := [.int vt0]) (rest := []) C (c_X9_isWrong l D cc N0 ga ad  (iB cc q2 m2 y2 ++ E) S vt0 u11 e12 ws hW) gX9_family_X9_isWrong rfl rfl z_X9_isWrong ⟨Nat.le_of_ble_eq_true rfl, Nat.le_of_ble_eq_true rfl⟩ he rfl rfl rfl (Nat.le_of_ble_eq_true rfl) dX9_family_114 ⟨(show (kc) + 0 ≤ 190 by omega), (show (ks) + 0 ≤ 10300 by omega)⟩ ?_
  rintro _ ws ⟨rfl, hW⟩
  refine q_nm (wz := ws) (ka := kc) (kb := ks) (sz := [.int (q_b u11.1)]) rfl rfl rfl rfl ?_
  refine q_if_eq (pc := 117) (tgt := 122) C dX9_family_117 (by decide) (fun c13 => ?_) (fun c13 => ?_)
  · have hf := q_iteT hf c13
    refine q_aload_n (pc := 122) C dX9_family_122 rfl 1 rfl ?_
    refine m_iiter (pc := 123) C hW i2 gX9_family_Jx4a65c_iterator_32c93_f72Jx4a65c ⟨Nat.le_of_ble_eq_true rfl, Nat.le_of_ble_eq_true rfl⟩ (Nat.le_of_ble_eq_true rfl) dX9_family_123 ⟨(show (kc) + 1 ≤ 190 by omega), (show (ks) + 4 ≤ 10300 by omega)⟩ (fun it14 y15 ws hW hy16 => ?_)
    refine q_nm (wz := ws) (ka := kc + 1) (kb := ks + 4) (sz := [.ref it14]) rfl rfl rfl rfl ?_
    refine q_astore_n (pc := 128) (lvq := [(3, .ref it14), (0, .ref (ga 0)), (2, .ref q2)]) C dX9_family_128 rfl (by decide) rfl ?_
    have hW := hW.out (List.Perm.swap _ _ _)
    have hW := hW.out (List.Perm.swap _ _ _)
    refine q_sub (lvq := [(0, .ref (ga 0)), (3, .ref it14)]) [1, 0] rfl ?_
    exact w_X9_familW_129 C 25 (kc + 1) (ks + 4) (0 : Int32) j2 m2 h2 j2 u11.2 it14 (-1 : Int32) q2 y15 ad ws hf hW hy16 (by omega) (by omega)
  · have hf := q_iteF hf c13
    refine q_iconst (pc := 120) C (0 : Int32) dX9_family_120 q_ci_0 ?_
    refine q_wid (show kc ≤ 190 by omega) (show ks ≤ 10300 by omega) ?_
    refine t_gdrop hW (fun ws hW => ?_)
    obtain rfl := q_some hf
    exact q_iret (pc := 121) C dX9_family_121 ⟨rfl, ad, hW⟩
set_option maxRecDepth 100000 in
set_option maxHeartbeats 8000000 in
theorem w_X9_familW_81 {p : Program} {l : Launch} {e : Env} {s : State} {m : MethodId} {args : Array Value} {below : List Frame} {meth : Method} {c : Code} {D : va_G} {cc : Nat → ClassId} {N0 : Nat} {ga : Nat → Nat} {E : va_W} {k44 : Int32 → Int32 → Nat → (Nat → Nat) → Int32 → MS → Option (Int32 × MS)} {n44 : Nat} {v : (Int32 × MS)} (C : q_C p s m args meth c cX9_family 5 (some .int) wsX9_family RX9 D cc N0) (hk44 : ∀ (kc : Nat) (ks : Nat) (v1 : Int32) (v3 : Int32) (m2 : Nat) (h2 : Nat → Nat) (j2 : Int32) (S : MS) (q2 : Nat) (y2 : LY) (ad : Nat → Nat → Nat) (ws : va_W), k44 v1 v3 m2 h2 j2 S = some v → mW cc ga ad S (iB cc q2 m2 y2 ++ E) ws → ik cc j2 h2 m2 y2 → kc + 51 + n44 * 2 ≤ 190 → ks + 2579 + n44 * 104 ≤ 10300 → q_WA p l e (q_rm (10) (400) 190 10300) s m args below meth c D N0 5 (MQ below (q_Q D N0 (fun rv w1 => rv = some (.int v.1) ∧ ∃ ad : Nat → Nat → Nat, mW cc ga ad v.2 E w1)) args s 190 10300 (q_A N0)) kc ks ws 44 [(0, .ref (ga 0)), (1, .int v1), (2, .ref q2), (3, .int v3)] []) (kc : Nat) (ks : Nat) (v1 : Int32) (v3 : Int32) (m2 : Nat) (h2 : Nat → Nat) (j2 : Int32) (S : MS) (q2 : Nat) (y2 : LY) (ad : Nat → Nat → Nat) (ws : va_W) : f_X9_familW_81 k44 v1 v3 m2 h2 j2 S = some v → mW cc ga ad S (iB cc q2 m2 y2 ++ E) ws → ik cc j2 h2 m2 y2 → kc + 51 + n44 * 2 ≤ 190 → ks + 2579 + n44 * 104 ≤ 10300 → q_WA p l e (q_rm (10) (400) 190 10300) s m args below meth c D N0 5 (MQ below (q_Q D N0 (fun rv w1 => rv = some (.int v.1) ∧ ∃ ad : Nat → Nat → Nat, mW cc ga ad v.2 E w1)) args s 190 10300 (q_A N0)) kc ks ws 81 [(0, .ref (ga 0)), (1, .int v1), (2, .ref q2), (3, .int v3)] [] := by
  intro hf hW i2 b1 b2
  refine q_iinc (pc := 81) (lvq := [(3, .int (v3 + (1 : Int32))), (0, .ref (ga 0)), (1, .int v1), (2, .ref q2)]) C (v3 + (1 : Int32)) dX9_family_81 3 rfl q_ca_1 (by decide) rfl ?_
  refine q_goto (pc := 84) (tgt := 44) C dX9_family_84 (by decide) ?_
  refine q_sub (lvq := [(0, .ref (ga 0)), (1, .int v1), (2, .ref q2), (3, .int (v3 + (1 : Int32)))]) [1, 2, 3, 0] rfl ?_
  exact hk44 (kc) (ks) v1 (v3 + (1 : Int32)) m2 h2 j2 S q2 y2 ad ws hf hW i2 (by omega) (by omega)
set_option maxRecDepth 100000 in
set_option maxHeartbeats 8000000 in
theorem w_X9_familW_44 {p : Program} {l : Launch} {e : Env} {s : State} {m : MethodId} {args : Array Value} {below : List Frame} {meth : Method} {c : Code} {D : va_G} {cc : Nat → ClassId} {N0 : Nat} {ga : Nat → Nat} {E : va_W} {v : (Int32 × MS)} (C : q_C p s m args meth c cX9_family 5 (some .int) wsX9_family RX9 D cc N0)  : ∀ (n : Nat) (kc : Nat) (ks : Nat) (v1 : Int32) (v3 : Int32) (m2 : Nat) (h2 : Nat → Nat) (j2 : Int32) (S : MS) (q2 : Nat) (y2 : LY) (ad : Nat → Nat → Nat) (ws : va_W), f_X9_familW_44  n v1 v3 m2 h2 j2 S = some v → mW cc ga ad S (iB cc q2 m2 y2 ++ E) ws → ik cc j2 h2 m2 y2 → kc + 51 + n * 2 ≤ 190 → ks + 2579 + n * 104 ≤ 10300 → q_WA p l e (q_rm (10) (400) 190 10300) s m args below meth c D N0 5 (MQ below (q_Q D N0 (fun rv w1 => rv = some (.int v.1) ∧ ∃ ad : Nat → Nat → Nat, mW cc ga ad v.2 E w1)) args s 190 10300 (q_A N0)) kc ks ws 44 [(0, .ref (ga 0)), (1, .int v1), (2, .ref q2), (3, .int v3)] [] := by
  intro n
  induction n with
  | zero => intro kc ks v1 v3 m2 h2 j2 S q2 y2 ad ws hf; cases hf
  | succ n ih =>
    intro kc ks v1 v3 m2 h2 j2 S q2 y2 ad ws hf hW i2 b1 b2
    have hk44 : ∀ (kc : Nat) (ks : Nat) (v1 : Int32) (v3 : Int32) (m2 : Nat) (h2 : Nat → Nat) (j2 : Int32) (S : MS) (q2 : Nat) (y2 : LY) (ad : Nat → Nat → Nat) (ws : va_W), f_X9_familW_44  n v1 v3 m2 h2 j2 S = some v → mW cc ga ad S (iB cc q2 m2 y2 ++ E) ws → ik cc j2 h2 m2 y2 → kc + 51 + n * 2 ≤ 190 → ks + 2579 + n * 104 ≤ 10300 → q_WA p l e (q_rm (10) (400) 190 10300) s m args below meth c D N0 5 (MQ below (q_Q D N0 (fun rv w1 => rv = some (.int v.1) ∧ ∃ ad : Nat → Nat → Nat, mW cc ga ad v.2 E w1)) args s 190 10300 (q_A N0)) kc ks ws 44 [(0, .ref (ga 0)), (1, .int v1), (2, .ref q2), (3, .int v3)] [] := ih
    have hf : f_X9_familW_44b  (f_X9_familW_44  n) v1 v3 m2 h2 j2 S = some v := hf
    simp only [Nat.succ_mul, Nat.add_mul] at b1 b2
    refine q_iload_n (pc := 44) C dX9_family_44 rfl 3 rfl ?_
    refine q_iconst (pc := 45) C (1 : Int32) dX9_family_45 q_ci_1 ?_
    refine q_aload_n (pc := 46) C dX9_family_46 rfl 0 rfl ?_
    refine m_g_2 (pc := 47) C hW n_X9_familW_X9 (List.mem_of_getElem? (i := 5) rfl) dX9_family_47 ?_
    refine q_ishl (pc := 50) C dX9_family_50 ?_
    refine q_icmp_ge (pc := 51) (tgt := 87) C dX9_family_51 (by decide) (fun c9 => ?_) (fun c9 => ?_)
    · have hf := q_iteT hf c9
      refine q_aload_n (pc := 87) C dX9_family_87 rfl 0 rfl ?_
      refine q_aload_n (pc := 88) C dX9_family_88 rfl 0 rfl ?_
      refine m_g_1 (pc := 89) C hW n_X9_familW_X9 (List.mem_of_getElem? (i := 6) rfl) dX9_family_89 ?_
      refine m_size_0 (pc := 92) C hW gX9_family_Jx4a65c_size_8abf5_f50Jx4a65c ⟨Nat.le_of_ble_eq_true rfl, Nat.le_of_ble_eq_true rfl⟩ (Nat.le_of_ble_eq_true rfl) dX9_family_92 ⟨(show (kc) ≤ 190 by omega), (show (ks) ≤ 10300 by omega)⟩ ?_
      refine q_aload_n (pc := 97) C dX9_family_97 rfl 2 rfl ?_
      refine m_isize (pc := 98) C hW i2 gX9_family_Jx4a65c_size_8abf5_f50Jx4a65c ⟨Nat.le_of_ble_eq_true rfl, Nat.le_of_ble_eq_true rfl⟩ (Nat.le_of_ble_eq_true rfl) dX9_family_98 ⟨(show (kc) ≤ 190 by omega), (show (ks) ≤ 10300 by omega)⟩ ?_
      refine q_iadd (pc := 103) C dX9_family_103 ?_
      refine q_bipush (pc := 104) C (24 : Int32) dX9_family_104 q_cb_24 ?_
      refine q_icmp_le (pc := 106) (tgt := 113) C dX9_family_106 (by decide) (fun c10 => ?_) (fun c10 => ?_)
      · have hf := q_iteT hf c10
        refine q_iconst (pc := 113) C (0 : Int32) dX9_family_113 q_ci_0 ?_
        refine q_sub (lvq := [(0, .ref (ga 0)), (2, .ref q2)]) [0, 2] rfl ?_
        exact w_X9_familW_114 C (kc) (ks) (0 : Int32) m2 h2 j2 S q2 y2 ad ws hf hW i2 (by omega) (by omega)
      · have hf := q_iteF hf c10
        refine q_iconst (pc := 109) C (3 : Int32) dX9_family_109 q_ci_3 ?_
        refine q_goto (pc := 110) (tgt := 114) C dX9_family_110 (by decide) ?_
        refine q_sub (lvq := [(0, .ref (ga 0)), (2, .ref q2)]) [0, 2] rfl ?_
        exact w_X9_familW_114 C (kc) (ks) (3 : Int32) m2 h2 j2 S q2 y2 ad ws hf hW i2 (by omega) (by omega)
    · have hf := q_iteF hf c9
      refine q_iload_n (pc := 54) C dX9_family_54 rfl 1 rfl ?_
      refine q_iload_n (pc := 55) C dX9_family_55 rfl 3 rfl ?_
      obtain ⟨u24, e25, hf⟩ := q_bind hf
      refine q_callS (pc := 56) (As := [.int v1, .int v3]) (rest := []) C (c_X9_isIn l D cc N0 ws v1 v3 u24 e25) gX9_family_X9_isIn rfl z_X9_isIn ⟨Nat.le_of_ble_eq_true rfl, Nat.le_of_ble_eq_true rfl⟩ rfl rfl (Nat.le_of_ble_eq_true rfl) dX9_family_56 ⟨(show (kc) ≤ 190 by omega), (show (ks) ≤ 10300 by omega)⟩ ?_
      refine q_after (rv := (some (.int (q_b u24)))) (w0 := ws) (st2 := [.int (q_b u24)]) rfl rfl rfl ?_
      refine q_if_eq (pc := 59) (tgt := 81) C dX9_family_59 (by decide) (fun c26 => ?_) (fun c26 => ?_)
      · have hf := q_iteT hf c26
        refine q_sub (lvq := [(0, .ref (ga 0)), (1, .int v1), (2, .ref q2), (3, .int v3)]) [0, 1, 2, 3] rfl ?_
        exact w_X9_familW_81 C hk44 (kc) (ks) v1 v3 m2 h2 j2 S q2 y2 ad ws hf hW i2 (by omega) (by omega)
      · have hf := q_iteF hf c26
        refine q_aload_n (pc := 62) C dX9_family_62 rfl 0 rfl ?_
        refine q_iload_n (pc := 63) C dX9_family_63 rfl 3 rfl ?_
        obtain ⟨u27, e28, hf⟩ := q_bind hf
        obtain ⟨_, he⟩ := hW.obj
        refine q_callV (pc := 64) (As := [.int v3]) (rest := []) C (c_X9_has l D cc N0 ga ad  (iB cc q2 m2 y2 ++ E) S v3 u27 e28 ws hW) gX9_family_X9_has rfl rfl z_X9_has ⟨Nat.le_of_ble_eq_true rfl, Nat.le_of_ble_eq_true rfl⟩ he rfl rfl rfl (Nat.le_of_ble_eq_true rfl) dX9_family_64 ⟨(show (kc) + 1 ≤ 190 by omega), (show (ks) + 4 ≤ 10300 by omega)⟩ ?_
        rintro _ ws ⟨rfl, hW⟩
        refine q_nm (wz := ws) (ka := kc + 1) (kb := ks + 4) (sz := [.int (q_b u27)]) rfl rfl rfl rfl ?_
        refine q_if_ne (pc := 67) (tgt := 81) C dX9_family_67 (by decide) (fun c29 => ?_) (fun c29 => ?_)
        · have hf := q_iteF hf c29
          refine q_sub (lvq := [(0, .ref (ga 0)), (1, .int v1), (2, .ref q2), (3, .int v3)]) [0, 1, 2, 3] rfl ?_
          exact w_X9_familW_81 C hk44 (kc + 1) (ks + 4) v1 v3 m2 h2 j2 S q2 y2 ad ws hf hW i2 (by omega) (by omega)
        · have hf := q_iteT hf c29
          refine q_aload_n (pc := 70) C dX9_family_70 rfl 2 rfl ?_
          refine q_iload_n (pc := 71) C dX9_family_71 rfl 3 rfl ?_
          obtain ⟨g30, hf⟩ := q_gd hf
          refine q_callS (pc := 72) (As := [.int v3]) (rest := [.ref q2]) C (c_valueOf l D cc N0 ws v3 g30.1 g30.2.1 g30.2.2) gX9_family_J6_valueOf_2dffe rfl z_J6_valueOf_2dffe ⟨Nat.le_of_ble_eq_true rfl, Nat.le_of_ble_eq_true rfl⟩ rfl rfl (Nat.le_of_ble_eq_true rfl) dX9_family_72 ⟨(show (kc + 1) ≤ 190 by omega), (show (ks + 4) ≤ 10300 by omega)⟩ ?_
          refine q_after (rv := (some (.ref (cc (1000 + (v3 + 128).toNatClampNeg))))) (w0 := ws) (st2 := [.ref (cc (1000 + (v3 + 128).toNatClampNeg)), .ref q2]) rfl rfl rfl ?_
          obtain ⟨g33, hf⟩ := q_gd hf
          refine m_iadd (pc := 75) (k := (v3 + 128).toNatClampNeg) C hW i2 g33 g30.2.2.2 gX9_family_Jx4a65c_add_9ea2d_f94Jx4a65c ⟨Nat.le_of_ble_eq_true rfl, Nat.le_of_ble_eq_true rfl⟩ (Nat.le_of_ble_eq_true rfl) dX9_family_75 ⟨(show (kc + 1) + 1 ≤ 190 by omega), (show (ks + 4) + 100 ≤ 10300 by omega)⟩ (fun y31 ws hW hy32 => ?_)
          refine q_nm (wz := ws) (ka := kc + 2) (kb := ks + 104) (sz := [.int (1 : Int32)]) rfl rfl rfl rfl ?_
          refine q_pop (pc := 80) C dX9_family_80 rfl ?_
          refine q_sub (lvq := [(0, .ref (ga 0)), (1, .int v1), (2, .ref q2), (3, .int v3)]) [0, 1, 2, 3] rfl ?_
          exact w_X9_familW_81 C hk44 (kc + 2) (ks + 104) v1 v3 (m2 + 1) (nup h2 m2 ((v3 + 128).toNatClampNeg)) (j2 + 1) S q2 y31 ad ws hf hW hy32 (by omega) (by omega)
set_option maxRecDepth 100000 in
set_option maxHeartbeats 8000000 in
theorem w_X9_familW_26 {p : Program} {l : Launch} {e : Env} {s : State} {m : MethodId} {args : Array Value} {below : List Frame} {meth : Method} {c : Code} {D : va_G} {cc : Nat → ClassId} {N0 : Nat} {ga : Nat → Nat} {E : va_W} {v : (Int32 × MS)} (C : q_C p s m args meth c cX9_family 5 (some .int) wsX9_family RX9 D cc N0)  (kc : Nat) (ks : Nat) (v1 : Int32) (vt0 : Int32) (S : MS) (ad : Nat → Nat → Nat) (ws : va_W) : f_X9_familW_26  v1 vt0 S = some v → mW cc ga ad S E ws → kc + 182 ≤ 190 → ks + 9342 ≤ 10300 → q_WA p l e (q_rm (10) (400) 190 10300) s m args below meth c D N0 5 (MQ below (q_Q D N0 (fun rv w1 => rv = some (.int v.1) ∧ ∃ ad : Nat → Nat → Nat, mW cc ga ad v.2 E w1)) args s 190 10300 (q_A N0)) kc ks ws 26 [(0, .ref (ga 0)), (1, .int v1)] [.int vt0, .ref (ga 0)] := by
  intro hf hW b1 b2
  obtain ⟨u5, e6, hf⟩ := q_bind hf
  obtain ⟨_, he⟩ := hW.obj
  refine q_callV (pc := 26) (As := [.int vt0]) (rest := []) C (c_X9_isWrong l D cc N0 ga ad  E S vt0 u5 e6 ws hW) gX9_family_X9_isWrong rfl rfl z_X9_isWrong ⟨Nat.le_of_ble_eq_true rfl, Nat.le_of_ble_eq_true rfl⟩ he rfl rfl rfl (Nat.le_of_ble_eq_true rfl) dX9_family_26 ⟨(show (kc) + 0 ≤ 190 by omega), (show (ks) + 0 ≤ 10300 by omega)⟩ ?_
  rintro _ ws ⟨rfl, hW⟩
  refine q_nm (wz := ws) (ka := kc) (kb := ks) (sz := [.int (q_b u5.1)]) rfl rfl rfl rfl ?_
  refine q_if_eq (pc := 29) (tgt := 34) C dX9_family_29 (by decide) (fun c7 => ?_) (fun c7 => ?_)
  · have hf := q_iteT hf c7
    refine q_new (pc := 34) C n_X9_familW_Jx4a65c tyJx4a65c tyJx4a65c_ok (List.mem_of_getElem? (i := 2) rfl) (List.mem_of_getElem? (i := 3) rfl) (List.mem_of_getElem? (i := 4) rfl) (ci := 2) rfl [.int 0, .null, .int 0] (by intro j hj; match j, hj with | 0, _ => rfl | 1, _ => rfl | 2, _ => rfl | n + 3, hj => exact absurd hj (by omega)) (show (kc) + 1 ≤ 190 by omega) (show (ks) + 3 ≤ 10300 by omega) dX9_family_34 (fun ql8 => ?_)
    refine q_dup (pc := 37) C dX9_family_37 rfl ?_
    refine q_callI (pc := 38) (As := []) (rest := [.ref ql8]) C (c_al_init l D cc N0 ws ql8) gX9_family_Jx4a65c_init_da8c8 rfl (List.mem_of_getElem? (i := 104) rfl) (List.mem_of_getElem? (i := 4) rfl) (List.mem_of_getElem? (i := 105) rfl) rfl z_Jx4a65c_init_da8c8 ⟨Nat.le_of_ble_eq_true rfl, Nat.le_of_ble_eq_true rfl⟩ rfl rfl (Nat.le_of_ble_eq_true rfl) dX9_family_38 ⟨(show (kc + 1) ≤ 190 by omega), (show (ks + 3) ≤ 10300 by omega)⟩ ?_
    rintro _ _ ⟨rfl, rfl⟩
    have hW := hW.apps (iB cc ql8 0 ((0 : Int32), cc 8, 0, fun _ => none))
    have hyql8 : ik cc 0 (fun _ => 0) 0 ((0 : Int32), cc 8, 0, fun _ => none) := ik_new
    refine q_nm (wz := iB cc ql8 0 ((0 : Int32), cc 8, 0, fun _ => none) ++ ws) (ka := kc + 1) (kb := ks + 3) (sz := [.ref ql8]) rfl rfl rfl rfl ?_
    refine t_ren hW (fun ws hW => ?_)
    refine q_astore_n (pc := 41) (lvq := [(2, .ref ql8), (0, .ref (ga 0)), (1, .int v1)]) C dX9_family_41 rfl (by decide) rfl ?_
    refine q_iconst (pc := 42) C (0 : Int32) dX9_family_42 q_ci_0 ?_
    refine q_istore_n (pc := 43) (lvq := [(3, .int (0 : Int32)), (2, .ref ql8), (0, .ref (ga 0)), (1, .int v1)]) C dX9_family_43 rfl (by decide) rfl ?_
    refine q_sub (lvq := [(0, .ref (ga 0)), (1, .int v1), (2, .ref ql8), (3, .int (0 : Int32))]) [2, 3, 1, 0] rfl ?_
    exact w_X9_familW_44 C 65 (kc + 1) (ks + 3) v1 (0 : Int32) 0 (fun _ => 0) (0 : Int32) u5.2 ql8 ((0 : Int32), cc 8, 0, fun _ => none) ad ws hf hW hyql8 (by omega) (by omega)
  · have hf := q_iteF hf c7
    refine q_iconst (pc := 32) C (0 : Int32) dX9_family_32 q_ci_0 ?_
    refine q_wid (show kc ≤ 190 by omega) (show ks ≤ 10300 by omega) ?_
    obtain rfl := q_some hf
    exact q_iret (pc := 33) C dX9_family_33 ⟨rfl, ad, hW⟩
set_option maxRecDepth 100000 in
set_option maxHeartbeats 8000000 in
theorem c_X9_familW (l : Launch) (D : va_G) (cc : Nat → ClassId) (N0 : Nat) (ga : Nat → Nat) (ad : Nat → Nat → Nat) (E : va_W) (S : MS) (a1 : Int32) (v : (Int32 × MS)) (hf : f_X9_familW a1 S = some v) (ws : va_W) (hW : mW cc ga ad S E ws) : q_Met l yX9_family wsX9_family 10 400 D cc N0 ws [.ref (ga 0), .int a1] (fun rv w1 => rv = some (.int v.1) ∧ ∃ ad : Nat → Nat → Nat, mW cc ga ad v.2 E w1) 190 10300 := by
  refine q_ofW (code := cX9_family) (nL := 5) (ret := (some .int)) (by decide +kernel) rfl (Nat.le_of_ble_eq_true rfl) (fun p e s m below meth c C _ => ?_)
  refine q_lv (lv2 := [(0, .ref (ga 0)), (1, .int a1)]) rfl ?_
  obtain ⟨kc, hkc⟩ : ∃ z, z = 0 := ⟨_, rfl⟩
  obtain ⟨ks, hks⟩ : ∃ z, z = 0 := ⟨_, rfl⟩
  refine q_nm (wz := ws) (ka := kc) (kb := ks) (sz := []) rfl hkc.symm hks.symm rfl ?_
  refine q_aload_n (pc := 0) C dX9_family_0 rfl 0 rfl ?_
  refine q_tldc (pc := 1) C rfl dX9_family_1 ?_
  refine q_iload_n (pc := 3) C dX9_family_3 rfl 1 rfl ?_
  obtain ⟨u1, e2, hf⟩ := q_bind hf
  refine q_callT (pc := 4) (As := [.int a1]) (rest := [.ref (ga 0)]) C (c_J0_indexOf_0f7a4 l D cc N0 ga ad  E S a1 u1 e2 ws hW) gX9_family_J0_indexOf_0f7a4 rfl rfl z_J0_indexOf_0f7a4 ⟨Nat.le_of_ble_eq_true rfl, Nat.le_of_ble_eq_true rfl⟩ rfl rfl (Nat.le_of_ble_eq_true rfl) dX9_family_4 ⟨(show (kc) + 0 ≤ 190 by omega), (show (ks) + 0 ≤ 10300 by omega)⟩ ?_
  rintro _ ws ⟨rfl, hW⟩
  refine q_nm (wz := ws) (ka := kc) (kb := ks) (sz := [.int u1, .ref (ga 0)]) rfl rfl rfl rfl ?_
  refine q_if_ge (pc := 7) (tgt := 14) C dX9_family_7 (by decide) (fun c3 => ?_) (fun c3 => ?_)
  · have hf := q_iteT hf c3
    refine q_aload_n (pc := 14) C dX9_family_14 rfl 0 rfl ?_
    refine m_g_3 (pc := 15) C hW n_X9_familW_X9 (List.mem_of_getElem? (i := 1) rfl) dX9_family_15 ?_
    refine q_if_le (pc := 18) (tgt := 25) C dX9_family_18 (by decide) (fun c4 => ?_) (fun c4 => ?_)
    · have hf := q_iteT hf c4
      refine q_iconst (pc := 25) C (0 : Int32) dX9_family_25 q_ci_0 ?_
      refine q_sub (lvq := [(0, .ref (ga 0)), (1, .int a1)]) [0, 1] rfl ?_
      exact w_X9_familW_26 C (kc) (ks) a1 (0 : Int32) S ad ws hf hW (by omega) (by omega)
    · have hf := q_iteF hf c4
      refine q_iconst (pc := 21) C (2 : Int32) dX9_family_21 q_ci_2 ?_
      refine q_goto (pc := 22) (tgt := 26) C dX9_family_22 (by decide) ?_
      refine q_sub (lvq := [(0, .ref (ga 0)), (1, .int a1)]) [0, 1] rfl ?_
      exact w_X9_familW_26 C (kc) (ks) a1 (2 : Int32) S ad ws hf hW (by omega) (by omega)
  · have hf := q_iteF hf c3
    refine q_iconst (pc := 10) C (1 : Int32) dX9_family_10 q_ci_1 ?_
    refine q_goto (pc := 11) (tgt := 26) C dX9_family_11 (by decide) ?_
    refine q_sub (lvq := [(0, .ref (ga 0)), (1, .int a1)]) [0, 1] rfl ?_
    exact w_X9_familW_26 C (kc) (ks) a1 (1 : Int32) S ad ws hf hW (by omega) (by omega)
