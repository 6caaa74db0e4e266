/-- the bytes of the text -/
def tb (j : Nat) : Int32 := (([[116, 115, 105, 112]] : List (List Int32)).getD 0 []).getD j 0
section QTX
variable {p : Program} {l : Launch} {e : Env} {R : Room} {s : State} {m : MethodId} {args : Array Value} {below : List Frame} {meth : Method} {c : Code} {D : va_G} {cc : Nat → ClassId} {N0 nL : Nat} {Q : State → Prop} {kc ks : Nat} {ws : va_W} {pc : Nat} {lv : List (Nat × Value)} {st : List Value} {code : ByteArray} {ret : Option FieldType} {Ts : List Cond} {own : String}
theorem q_HSof (C : q_C p s m args meth c code nL ret Ts own D cc N0) : q_HS cc N0 s := C.2.2.2.2.2.2.2.2.2.2.2.2.2.2.2.2
theorem q_HIof (C : q_C p s m args meth c code nL ret Ts own D cc N0) : q_HI cc N0 s := C.2.2.2.2.2.2.2.2.2.2.2.2
theorem q_tldc (C : q_C p s m args meth c code nL ret Ts own D cc N0) (ho : own = RX9) (hd : decode code pc = .ok (.ldc 104, 2)) (K : q_WA p l e R s m args below meth c D N0 nL Q kc ks ws (pc + 2) lv (.ref (cc 11) :: st)) : q_WA p l e R s m args below meth c D N0 nL Q kc ks ws pc lv st := by
  subst ho
  exact fun H lo ls hP hD hS hl => va_ldcS C.1 C.2.1 C.2.2.2.2.1 (q_HSof C).2.1 hd (K H lo ls hP hD hS hl)
theorem q_tval (C : q_C p s m args meth c code nL ret Ts own D cc N0) {idx : Nat} (hk : Cond.fieldLink own idx "java/lang/String" "value" "[B" ∈ Ts) (hd : decode code pc = .ok (.getfield idx, 3)) (K : q_WA p l e R s m args below meth c D N0 nL Q kc ks ws (pc + 3) lv (.ref (cc 12) :: st)) : q_WA p l e R s m args below meth c D N0 nL Q kc ks ws pc lv (.ref (cc 11) :: st) :=
  fun H lo ls hP hD hS hl => vk_getf C.1 C.2.1 ((q_HSof C).2.2.1.1 0 (by decide)).2.2.1 hS C.2.2.2.2.1 (C.2.2.2.2.2.1 _ hk) (fun _ h => h) hd (K H lo ls hP hD hS hl)
theorem q_tcod (C : q_C p s m args meth c code nL ret Ts own D cc N0) {idx : Nat} (hk : Cond.fieldLink own idx "java/lang/String" "coder" "B" ∈ Ts) (hd : decode code pc = .ok (.getfield idx, 3)) (K : q_WA p l e R s m args below meth c D N0 nL Q kc ks ws (pc + 3) lv (.int 0 :: st)) : q_WA p l e R s m args below meth c D N0 nL Q kc ks ws pc lv (.ref (cc 11) :: st) :=
  fun H lo ls hP hD hS hl => vk_getf C.1 C.2.1 ((q_HSof C).2.2.1.1 0 (by decide)).2.1 hS C.2.2.2.2.1 (C.2.2.2.2.2.1 _ hk) (fun _ h => h) hd (K H lo ls hP hD hS hl)
theorem q_tcmp (C : q_C p s m args meth c code nL ret Ts own D cc N0) {idx : Nat} (hk : Cond.fieldLink own idx "java/lang/String" "COMPACT_STRINGS" "Z" ∈ Ts) (hd : decode code pc = .ok (.getstatic idx, 3)) (K : q_WA p l e R s m args below meth c D N0 nL Q kc ks ws (pc + 3) lv (.int 1 :: st)) : q_WA p l e R s m args below meth c D N0 nL Q kc ks ws pc lv st :=
  q_gets C (q_HSof C).1 hk hd K
theorem q_tln (C : q_C p s m args meth c code nL ret Ts own D cc N0) (hd : decode code pc = .ok (.arraylength, 1)) (K : q_WA p l e R s m args below meth c D N0 nL Q kc ks ws (pc + 1) lv (.int 4 :: st)) : q_WA p l e R s m args below meth c D N0 nL Q kc ks ws pc lv (.ref (cc 12) :: st) :=
  q_tlen C ((q_HSof C).2.2.1.1 0 (by decide)).2.2.2 (v := 4) rfl hd K
theorem q_tbld (C : q_C p s m args meth c code nL ret Ts own D cc N0) {i : Int32} (hi : q_in i 4) (hd : decode code pc = .ok (.baload, 1)) (K : q_WA p l e R s m args below meth c D N0 nL Q kc ks ws (pc + 1) lv (.int (tb i.toNatClampNeg) :: st)) : q_WA p l e R s m args below meth c D N0 nL Q kc ks ws pc lv (.int i :: .ref (cc 12) :: st) :=
  fun H lo ls hP hD hS hl => va_tb C.1 C.2.1 ((q_HSof C).2.2.1.1 0 (by decide)).2.2.2 hS (N := 4) (q_in_vp hi) (v := .int (tb i.toNatClampNeg)) rfl hd (K H lo ls hP hD hS hl)
theorem q_callT {y : MethodName} {w2 w2' : List Cond} {code2 : ByteArray} {nL2 : Nat} {ret2 : Option FieldType} {fr lo2 mc ms n idx : Nat} {As rest : List Value} {post : Option Value → va_W → Prop} (C : q_C p s m args meth c code nL ret Ts own D cc N0) (hM : q_Met l y w2 fr lo2 D cc N0 ws (.ref (cc 11) :: As) post mc ms) (hG : GoodIn Ts (wsV own idx RJ0 y w2)) (hw : w2 = .code y code2 nL2 ret2 :: w2') (hy : y.cls = RJ0) (hds : q_dsc y n)
    (hR : fr + 1 ≤ R.frames ∧ 8 + (nL2 + 11) + lo2 ≤ R.locals) (hn : As.length = n) (hst : st = As.reverse ++ .ref (cc 11) :: rest) (hW : (rest.map fun v => v.category).sum ≤ 8) (hd : decode code pc = .ok (.invokevirtual idx, 3)) (hf : kc + mc ≤ R.cells ∧ ks + ms ≤ R.slots)
    (K : ∀ (rv : Option Value) (w1 : va_W), post rv w1 → q_WA p l e R s m args below meth c D N0 nL Q (kc + mc) (ks + ms) w1 (pc + 3) lv (rv.toList ++ rest)) : q_WA p l e R s m args below meth c D N0 nL Q kc ks ws pc lv st := by
  intro H lo ls hP hD hS hl
  have hT := (q_HSof C).2.2.1
  obtain ⟨hx, hb, hr, hml, hown, hts, hlocks, hK, hN, hH⟩ := C
  subst hst
  exact q_back (va_runV ⟨hx, hb, hml, hown, hts⟩ hM (cwV n hts hG hw rfl rfl ⟨hy, hds⟩ hR) ⟨q_blind, vk_recv hT (i := 0) (by decide) hS, q_pre hK hN hH hP hD hS⟩ rfl hn hl.1 rfl (lv_room hW) hd hf) hN hS hl K
theorem q_callN {y : MethodName} {w2 w2' : List Cond} {code2 : ByteArray} {nL2 : Nat} {ret2 : Option FieldType} {fr lo2 mc ms n idx k : Nat} {As rest : List Value} {post : Option Value → va_W → Prop} (C : q_C p s m args meth c code nL ret Ts own D cc N0) (hk : k < 256) (hM : q_Met l y w2 fr lo2 D cc N0 ws (.ref (cc (1000 + k)) :: As) post mc ms) (hG : GoodIn Ts (wsV own idx RJ6 y w2)) (hw : w2 = .code y code2 nL2 ret2 :: w2') (hy : y.cls = RJ6) (hds : q_dsc y n)
    (hR : fr + 1 ≤ R.frames ∧ 8 + (nL2 + 11) + lo2 ≤ R.locals) (hn : As.length = n) (hst : st = As.reverse ++ .ref (cc (1000 + k)) :: rest) (hW : (rest.map fun v => v.category).sum ≤ 8) (hd : decode code pc = .ok (.invokevirtual idx, 3)) (hf : kc + mc ≤ R.cells ∧ ks + ms ≤ R.slots)
    (K : ∀ (rv : Option Value) (w1 : va_W), post rv w1 → q_WA p l e R s m args below meth c D N0 nL Q (kc + mc) (ks + ms) w1 (pc + 3) lv (rv.toList ++ rest)) : q_WA p l e R s m args below meth c D N0 nL Q kc ks ws pc lv st := by
  intro H lo ls hP hD hS hl
  have hT := (q_HIof C).2.2.2.1.1 k hk
  obtain ⟨hx, hb, hr, hml, hown, hts, hlocks, hK, hN, hH⟩ := C
  subst hst
  have hrc : ∃ cell : Cell, H[cc (1000 + k)]? = some cell ∧ cell.vm.isStatics = false ∧ s.vm.findClass RJ6 = some cell.cls := by
    obtain ⟨cell, h1, h2, h3, -⟩ := hT.kept hS.2.1
    exact ⟨cell, h1, h2, h3⟩
  exact q_back (va_runV ⟨hx, hb, hml, hown, hts⟩ hM (cwV n hts hG hw rfl rfl ⟨hy, hds⟩ hR) ⟨q_blind, hrc, q_pre hK hN hH hP hD hS⟩ rfl hn hl.1 rfl (lv_room hW) hd hf) hN hS hl K
theorem q_nval (C : q_C p s m args meth c code nL ret Ts own D cc N0) {idx k : Nat} (hk : k < 256) (hl2 : Cond.fieldLink own idx "java/lang/Integer" "value" "I" ∈ Ts) (hd : decode code pc = .ok (.getfield idx, 3)) (K : q_WA p l e R s m args below meth c D N0 nL Q kc ks ws (pc + 3) lv (.int (vb_c k) :: st)) : q_WA p l e R s m args below meth c D N0 nL Q kc ks ws pc lv (.ref (cc (1000 + k)) :: st) :=
  fun H lo ls hP hD hS hl => va_getX (v := fun k => .int (vb_c k)) (ad := fun k => cc (1000 + k)) C.1 C.2.1 (q_HIof C).2.2.2.1.2 hk hS C.2.2.2.2.1 (C.2.2.2.2.2.1 _ hl2) (fun _ h => h) hd (K H lo ls hP hD hS hl)
theorem q_ncast (C : q_C p s m args meth c code nL ret Ts own D cc N0) {idx k : Nat} (hk : k < 256) (hl2 : Cond.classLink own idx "java/lang/Integer" ∈ Ts) (hd : decode code pc = .ok (.checkcast idx, 3)) (K : q_WA p l e R s m args below meth c D N0 nL Q kc ks ws (pc + 3) lv (.ref (cc (1000 + k)) :: st)) : q_WA p l e R s m args below meth c D N0 nL Q kc ks ws pc lv (.ref (cc (1000 + k)) :: st) := by
  intro H lo ls hP hD hS hl
  have hT := (q_HIof C).2.2.2.1.1 k hk
  refine va_castE C.1 C.2.1 C.2.2.2.2.1 (C.2.2.2.2.2.1 _ hl2) ?_ hd (K H lo ls hP hD hS hl)
  obtain ⟨cell, h1, h2, h3, -⟩ := hT.kept hS.2.1
  exact ⟨cell, h1, h2, h3⟩
theorem q_nald (C : q_C p s m args meth c code nL ret Ts own D cc N0) {i : Int32} (hi : q_in i 256) (hd : decode code pc = .ok (.aaload, 1)) (K : q_WA p l e R s m args below meth c D N0 nL Q kc ks ws (pc + 1) lv (.ref (cc (1000 + i.toNatClampNeg)) :: st)) : q_WA p l e R s m args below meth c D N0 nL Q kc ks ws pc lv (.int i :: .ref (cc 10) :: st) :=
  fun H lo ls hP hD hS hl => vb_tq C.1 C.2.1 (q_HIof C).2.2.1 hS (q_in_vp hi) rfl hd (K H lo ls hP hD hS hl)
theorem q_nAny {k : Nat} (hk : k < 256) : q_Any D cc N0 ws (cc (1000 + k)) := by
  intro s H lo hK hH hP hS
  obtain ⟨cell, h1, h2, h3, -⟩ := (hH.2.2.2.2.2.2.1.1 k hk).kept hS.2.1
  obtain ⟨kC, hkC, -⟩ := Vm.findClass_spec h3
  exact ⟨cell, h1, h2, ⟨kC, hkC⟩, fun comp h => q_castable (hK.2.2.2.1 ("java/lang/Integer", "java/lang/Object") (by decide)) comp _ h h3⟩
end QTX
theorem z_J0_coder_7d493 : q_dsc yJ0_coder_7d493 0 := ⟨by decide +kernel, by decide +kernel, by decide +kernel⟩
set_option maxRecDepth 100000 in
set_option maxHeartbeats 4000000 in
theorem c_s_coder (l : Launch) (D : va_G) (cc : Nat → ClassId) (N0 : Nat) (E : va_W) : q_Met l yJ0_coder_7d493 wsJ0_coder_7d493 0 0 D cc N0 E [.ref (cc 11)] (q_p (some (.int 0)) E) 0 0 := by
  refine q_ofW (code := cJ0_coder_7d493) (nL := 1) (ret := (some .byte)) (by decide +kernel) rfl (Nat.le_of_ble_eq_true rfl) (fun p e s m below meth c C _ => ?_)
  refine q_lv (lv2 := [(0, .ref (cc 11))]) rfl ?_
  refine q_tcmp (pc := 0) C (List.mem_of_getElem? (i := 1) rfl) dJ0_coder_7d493_0 ?_
  refine q_if_eq (pc := 3) (tgt := 13) C dJ0_coder_7d493_3 (by decide) (fun c1 => absurd c1 (by decide)) (fun c1 => ?_)
  refine q_aload_n (pc := 6) C dJ0_coder_7d493_6 rfl 0 rfl ?_
  refine q_tcod (pc := 7) C (List.mem_of_getElem? (i := 2) rfl) dJ0_coder_7d493_7 ?_
  refine q_goto (pc := 10) (tgt := 14) C dJ0_coder_7d493_10 (by decide) ?_
  exact q_zret (pc := 14) C (by decide +kernel) dJ0_coder_7d493_14 ⟨rfl, rfl⟩
theorem z_J0_isLatin1_aae02 : q_dsc yJ0_isLatin1_aae02 0 := ⟨by decide +kernel, by decide +kernel, by decide +kernel⟩
set_option maxRecDepth 100000 in
set_option maxHeartbeats 4000000 in
theorem c_s_latin (l : Launch) (D : va_G) (cc : Nat → ClassId) (N0 : Nat) (E : va_W) : q_Met l yJ0_isLatin1_aae02 wsJ0_isLatin1_aae02 0 0 D cc N0 E [.ref (cc 11)] (q_p (some (.int 1)) E) 0 0 := by
  refine q_ofW (code := cJ0_isLatin1_aae02) (nL := 1) (ret := (some .boolean)) (by decide +kernel) rfl (Nat.le_of_ble_eq_true rfl) (fun p e s m below meth c C _ => ?_)
  refine q_lv (lv2 := [(0, .ref (cc 11))]) rfl ?_
  refine q_tcmp (pc := 0) C (List.mem_of_getElem? (i := 1) rfl) dJ0_isLatin1_aae02_0 ?_
  refine q_if_eq (pc := 3) (tgt := 17) C dJ0_isLatin1_aae02_3 (by decide) (fun c1 => absurd c1 (by decide)) (fun c1 => ?_)
  refine q_aload_n (pc := 6) C dJ0_isLatin1_aae02_6 rfl 0 rfl ?_
  refine q_tcod (pc := 7) C (List.mem_of_getElem? (i := 2) rfl) dJ0_isLatin1_aae02_7 ?_
  refine q_if_ne (pc := 10) (tgt := 17) C dJ0_isLatin1_aae02_10 (by decide) (fun c2 => absurd rfl c2) (fun c2 => ?_)
  refine q_iconst (pc := 13) C 1 dJ0_isLatin1_aae02_13 q_ci_1 ?_
  refine q_goto (pc := 14) (tgt := 18) C dJ0_isLatin1_aae02_14 (by decide) ?_
  exact q_zret (pc := 18) C (by decide +kernel) dJ0_isLatin1_aae02_18 ⟨rfl, rfl⟩
theorem z_J0_length_8abf5 : q_dsc yJ0_length_8abf5 0 := ⟨by decide +kernel, by decide +kernel, by decide +kernel⟩
set_option maxRecDepth 100000 in
set_option maxHeartbeats 4000000 in
theorem c_s_length (l : Launch) (D : va_G) (cc : Nat → ClassId) (N0 : Nat) (E : va_W) : q_Met l yJ0_length_8abf5 wsJ0_length_8abf5 1 20 D cc N0 E [.ref (cc 11)] (q_p (some (.int 4)) E) 0 0 := by
  refine q_ofW (code := cJ0_length_8abf5) (nL := 1) (ret := (some .int)) (by decide +kernel) rfl (Nat.le_of_ble_eq_true rfl) (fun p e s m below meth c C _ => ?_)
  refine q_lv (lv2 := [(0, .ref (cc 11))]) rfl ?_
  refine q_aload_n (pc := 0) C dJ0_length_8abf5_0 rfl 0 rfl ?_
  refine q_tval (pc := 1) C (List.mem_of_getElem? (i := 1) rfl) dJ0_length_8abf5_1 ?_
  refine q_tln (pc := 4) C dJ0_length_8abf5_4 ?_
  refine q_aload_n (pc := 5) C dJ0_length_8abf5_5 rfl 0 rfl ?_
  refine q_callT (pc := 6) (As := []) (rest := [.int 4]) C (c_s_coder l D cc N0 E) gJ0_length_8abf5_J0_coder_7d493 rfl rfl z_J0_coder_7d493 ⟨(Nat.le_of_ble_eq_true rfl), (Nat.le_of_ble_eq_true rfl)⟩ rfl rfl (Nat.le_of_ble_eq_true rfl) dJ0_length_8abf5_6 ⟨(Nat.le_of_ble_eq_true rfl), (Nat.le_of_ble_eq_true rfl)⟩ ?_
  refine q_after (rv := some (.int 0)) (st2 := [.int 0, .int 4]) rfl rfl rfl ?_
  refine q_ishr (pc := 9) C dJ0_length_8abf5_9 ?_
  exact q_iret (pc := 10) C dJ0_length_8abf5_10 ⟨rfl, rfl⟩
theorem z_J6_valueOf_2dffe : q_dsc yJ6_valueOf_2dffe 1 := ⟨by decide +kernel, by decide +kernel, by decide +kernel⟩
set_option maxRecDepth 100000 in
set_option maxHeartbeats 4000000 in
theorem c_valueOf (l : Launch) (D : va_G) (cc : Nat → ClassId) (N0 : Nat) (E : va_W) (i : Int32) (h0 : ¬ i < -128) (h1 : ¬ 127 < i) (h2 : q_in (i + 128) 256) : q_Met l yJ6_valueOf_2dffe wsJ6_valueOf_2dffe 0 0 D cc N0 E [.int i] (q_p (some (.ref (cc (1000 + (i + 128).toNatClampNeg)))) E) 0 0 := by
  refine q_ofW (code := cJ6_valueOf_2dffe) (nL := 1) (ret := (some (.object "java/lang/Integer"))) (by decide +kernel) rfl (Nat.le_of_ble_eq_true rfl) (fun p e s m below meth c C _ => ?_)
  refine q_lv (lv2 := [(0, .int i)]) rfl ?_
  refine q_iload_n (pc := 0) C dJ6_valueOf_2dffe_0 rfl 0 rfl ?_
  refine q_bipush (pc := 1) C (-128) dJ6_valueOf_2dffe_1 q_cb_m128 ?_
  refine q_icmp_lt (pc := 3) (tgt := 23) C dJ6_valueOf_2dffe_3 (by decide) (fun c1 => absurd c1 h0) (fun c1 => ?_)
  refine q_iload_n (pc := 6) C dJ6_valueOf_2dffe_6 rfl 0 rfl ?_
  refine q_gets (pc := 7) C (q_HIof C).1 (List.mem_of_getElem? (i := 1) rfl) dJ6_valueOf_2dffe_7 ?_
  refine q_icmp_gt (pc := 10) (tgt := 23) C dJ6_valueOf_2dffe_10 (by decide) (fun c2 => absurd c2 h1) (fun c2 => ?_)
  refine q_gets (pc := 13) C (q_HIof C).2.1 (List.mem_of_getElem? (i := 2) rfl) dJ6_valueOf_2dffe_13 ?_
  refine q_iload_n (pc := 16) C dJ6_valueOf_2dffe_16 rfl 0 rfl ?_
  refine q_sipush (pc := 17) C 128 dJ6_valueOf_2dffe_17 q_cs_128 ?_
  refine q_iadd (pc := 20) C dJ6_valueOf_2dffe_20 ?_
  refine q_nald (pc := 21) C h2 dJ6_valueOf_2dffe_21 ?_
  exact q_aret (pc := 22) C (Or.inl ⟨_, rfl⟩) (Or.inr ⟨_, rfl⟩) dJ6_valueOf_2dffe_22 ⟨rfl, rfl⟩
theorem z_J6_intValue_8abf5 : q_dsc yJ6_intValue_8abf5 0 := ⟨by decide +kernel, by decide +kernel, by decide +kernel⟩
set_option maxRecDepth 100000 in
set_option maxHeartbeats 4000000 in
theorem c_intValue (l : Launch) (D : va_G) (cc : Nat → ClassId) (N0 : Nat) (E : va_W) (k : Nat) (hk : k < 256) : q_Met l yJ6_intValue_8abf5 wsJ6_intValue_8abf5 0 0 D cc N0 E [.ref (cc (1000 + k))] (q_p (some (.int (vb_c k))) E) 0 0 := by
  refine q_ofW (code := cJ6_intValue_8abf5) (nL := 1) (ret := (some .int)) (by decide +kernel) rfl (Nat.le_of_ble_eq_true rfl) (fun p e s m below meth c C _ => ?_)
  refine q_lv (lv2 := [(0, .ref (cc (1000 + k)))]) rfl ?_
  refine q_aload_n (pc := 0) C dJ6_intValue_8abf5_0 rfl 0 rfl ?_
  refine q_nval (pc := 1) C hk (List.mem_of_getElem? (i := 1) rfl) dJ6_intValue_8abf5_1 ?_
  exact q_iret (pc := 4) C dJ6_intValue_8abf5_4 ⟨rfl, rfl⟩
