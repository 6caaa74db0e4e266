/-! a method that throws: what it needs of the tables, its contract, its rows -/
def q_XX (D : va_G) (N0 : Nat) (px : String → va_W → Prop) : String → State → State → Prop := fun E st t => ∃ w1 : va_W, px E w1 ∧ va_P D vwCl w1 t.heap ∧ va_D (q_A N0) w1 ∧ va_F (q_A N0) st t
def q_MetX (l : Launch) (y : MethodName) (w : List Cond) (fr lo : Nat) (D : va_G) (cc : Nat → ClassId) (N0 : Nat) (ws : va_W) (av : List Value) (post : Option Value → va_W → Prop) (px : String → va_W → Prop) (mc ms : Nat) : Prop :=
  vx_Met l y w (q_rm fr lo mc ms) (q_Pc D cc N0 ws av) (q_Q D N0 post) (q_XX D N0 px) mc ms (q_A N0)
/-- the answer of a method that may throw: k is 0 where it returns, else the number of what it throws -/
def q_px (k : Nat) (rv : Option Value) (w : va_W) : Option Value → va_W → Prop := fun a b => k = 0 ∧ a = rv ∧ b = w
def q_xp (k : Nat) (w : va_W) : String → va_W → Prop := fun E b => E = q_exn k ∧ 0 < k ∧ b = w
theorem qx_good_67 : ∀ w ∈ Cond.classLink RX8 63 "java/lang/IllegalArgumentException" :: Cond.initialized "java/lang/IllegalArgumentException" :: vx_atS RX8 67 "java/lang/IllegalArgumentException" ["java/lang/RuntimeException", "java/lang/Exception"], vx_ot w = true := by decide +kernel
theorem qx_bad_67 : ∀ w ∈ (vx_atS RX8 67 "java/lang/IllegalArgumentException" ["java/lang/RuntimeException", "java/lang/Exception"]).filter (fun w => !goodWord w), w ∈ q_XB "java/lang/IllegalArgumentException" := by decide +kernel
theorem qx_good_100 : ∀ w ∈ Cond.classLink RX8 96 "java/lang/UnsupportedOperationException" :: Cond.initialized "java/lang/UnsupportedOperationException" :: vx_atS RX8 100 "java/lang/UnsupportedOperationException" ["java/lang/RuntimeException", "java/lang/Exception"], vx_ot w = true := by decide +kernel
theorem qx_bad_100 : ∀ w ∈ (vx_atS RX8 100 "java/lang/UnsupportedOperationException" ["java/lang/RuntimeException", "java/lang/Exception"]).filter (fun w => !goodWord w), w ∈ q_XB "java/lang/UnsupportedOperationException" := by decide +kernel
theorem qx_good_105 : ∀ w ∈ Cond.classLink RX8 101 "java/lang/IllegalStateException" :: Cond.initialized "java/lang/IllegalStateException" :: vx_atS RX8 105 "java/lang/IllegalStateException" ["java/lang/RuntimeException", "java/lang/Exception"], vx_ot w = true := by decide +kernel
theorem qx_bad_105 : ∀ w ∈ (vx_atS RX8 105 "java/lang/IllegalStateException" ["java/lang/RuntimeException", "java/lang/Exception"]).filter (fun w => !goodWord w), w ∈ q_XB "java/lang/IllegalStateException" := by decide +kernel
theorem qx_good_134 : ∀ w ∈ Cond.classLink RX8 130 "java/lang/IndexOutOfBoundsException" :: Cond.initialized "java/lang/IndexOutOfBoundsException" :: vx_atS RX8 134 "java/lang/IndexOutOfBoundsException" ["java/lang/RuntimeException", "java/lang/Exception"], vx_ot w = true := by decide +kernel
theorem qx_bad_134 : ∀ w ∈ (vx_atS RX8 134 "java/lang/IndexOutOfBoundsException" ["java/lang/RuntimeException", "java/lang/Exception"]).filter (fun w => !goodWord w), w ∈ q_XB "java/lang/IndexOutOfBoundsException" := by decide +kernel
theorem qx_good_199 : ∀ w ∈ Cond.classLink RX8 195 "java/util/NoSuchElementException" :: Cond.initialized "java/util/NoSuchElementException" :: vy_atS, vx_ot w = true := by decide +kernel
theorem qx_bad_199 : ∀ w ∈ (vy_atS).filter (fun w => !goodWord w), w ∈ q_XB "java/util/NoSuchElementException" := by decide +kernel
section QX
variable {p : Program} {l : Launch} {e : Env} {R : Room} {s : State} {m : MethodId} {args : Array Value} {below : List Frame} {meth : Method} {c : Code} {D : va_G} {cc : Nat → ClassId} {N0 nL : Nat} {kc ks mc ms : Nat} {ws : va_W} {pc : Nat} {lv : List (Nat × Value)} {st : List Value} {code : ByteArray} {ret : Option FieldType} {Ts : List Cond} {post : Option Value → va_W → Prop} {px : String → va_W → Prop}
theorem q_throw (C : q_C p s m args meth c code nL ret Ts RX8 D cc N0) (CX : q_KX N0 s) (hfl : l.stackTraces = false) (hex : ∀ x ∈ c.exceptionTable.toList, False) {cls text : String} {ik is ic : Nat} (h1 : Cond.classLink RX8 ik cls ∈ Ts) (h2 : Cond.initialized cls ∈ Ts) (hcls : cls ∈ q_XC ∧ Bundle.fit cls = true) (hstr : (is, text) ∈ q_XS)
    (hat : ∀ w ∈ (vx_atS RX8 ic cls ["java/lang/RuntimeException", "java/lang/Exception"]).filter goodWord, w ∈ Ts) (hgood : ∀ w ∈ Cond.classLink RX8 ik cls :: Cond.initialized cls :: vx_atS RX8 ic cls ["java/lang/RuntimeException", "java/lang/Exception"], vx_ot w = true) (hbad : ∀ w ∈ (vx_atS RX8 ic cls ["java/lang/RuntimeException", "java/lang/Exception"]).filter (fun w => !goodWord w), w ∈ q_XB cls)
    (d0 : decode code pc = .ok (.new ik, 3)) (d3 : decode code (pc + 3) = .ok (.dup, 1)) (d4 : decode code (pc + 4) = .ok (.ldc is, 2)) (d6 : decode code (pc + 6) = .ok (.invokespecial ic, 3)) (d9 : decode code (pc + 9) = .ok (.athrow, 1))
    (hf : 5 < R.frames) (hl : (st.map fun v => v.category).sum + 82 ≤ R.locals) (hc : kc + 1 ≤ R.cells) (hs : ks + 6 ≤ R.slots) (hmc : kc + 1 ≤ mc) (hms : ks + 6 ≤ ms) (hpx : px cls ws) : q_WA p l e R s m args below meth c D N0 nL (vx_MQ below (q_Q D N0 post) (q_XX D N0 px) args s mc ms (q_A N0)) kc ks ws pc lv st := by
  intro H lo ls hP hD hS hlv
  obtain ⟨sa, hsa⟩ := CX.2.2.1 _ hstr
  refine vx_throwS (A := q_A N0) C.1 C.2.1 hfl C.2.2.2.2.1 hcls.2 (fun n hn => ?_) (C.2.2.2.2.2.1 _ h1) (C.2.2.2.2.2.1 _ h2) hsa (vx_hat (B := q_XB cls) (fun w hw => C.2.2.2.2.2.1 _ (hat w hw)) hbad ?_) hgood CX.2.2.2.1 CX.2.2.2.2 hS (hlv.1.trans C.2.2.2.1.symm) d0 d3 d4 d6 d9 (fun x hx => (hex x hx).elim) hf hl hc hs C.2.2.2.2.2.2.1 (fun t hA hz hk => ⟨ws, hpx, fun k q hq => va_at.kept ((hP k q hq)) (hk q.1 ((hP k q hq).lt)), hD, ⟨Nat.le_trans hS.1 hz, fun q h1 h2 => (hk q (Nat.lt_of_lt_of_le h1 hS.1)).trans (hS.2.1 q h1 h2)⟩⟩) hS.2.2 hmc hms
  · rcases List.mem_cons.mp hn with rfl | hn
    · decide +kernel
    · rcases List.mem_cons.mp hn with rfl | hn
      · decide +kernel
      · cases hn
  · intro w hw
    rcases List.mem_cons.mp hw with rfl | hw
    · exact va_Nw.use rfl (CX.1 _ hcls.1)
    · rcases List.mem_cons.mp hw with rfl | hw
      · exact va_Nw.use rfl (CX.2.1 _ (by decide))
      · rcases List.mem_cons.mp hw with rfl | hw
        · exact va_Nw.use rfl (CX.2.1 _ (by decide))
        · rcases List.mem_cons.mp hw with rfl | hw
          · exact va_Nw.use rfl (CX.2.1 _ (by decide))
          · cases hw
theorem q_throwW (C : q_C p s m args meth c code nL ret Ts RX8 D cc N0) (CX : q_KX N0 s) (hfl : l.stackTraces = false) (hex : ∀ x ∈ c.exceptionTable.toList, False) {cls text : String} {ik is ic : Nat} (h1 : Cond.classLink RX8 ik cls ∈ Ts) (h2 : Cond.initialized cls ∈ Ts) (hcls : cls ∈ q_XC ∧ Bundle.fit cls = true) (hstr : (is, text) ∈ q_XS)
    (hat : ∀ w ∈ (vx_atS RX8 ic cls ["java/lang/RuntimeException", "java/lang/Exception"]).filter goodWord, w ∈ Ts) (hgood : ∀ w ∈ Cond.classLink RX8 ik cls :: Cond.initialized cls :: vx_atS RX8 ic cls ["java/lang/RuntimeException", "java/lang/Exception"], vx_ot w = true) (hbad : ∀ w ∈ (vx_atS RX8 ic cls ["java/lang/RuntimeException", "java/lang/Exception"]).filter (fun w => !goodWord w), w ∈ q_XB cls)
    (d0 : decode code pc = .ok (.new ik, 3)) (d3 : decode code (pc + 3) = .ok (.dup, 1)) (d4 : decode code (pc + 4) = .ok (.ldc_w is, 3)) (d6 : decode code (pc + 7) = .ok (.invokespecial ic, 3)) (d9 : decode code (pc + 10) = .ok (.athrow, 1))
    (hf : 5 < R.frames) (hl : (st.map fun v => v.category).sum + 82 ≤ R.locals) (hc : kc + 1 ≤ R.cells) (hs : ks + 6 ≤ R.slots) (hmc : kc + 1 ≤ mc) (hms : ks + 6 ≤ ms) (hpx : px cls ws) : q_WA p l e R s m args below meth c D N0 nL (vx_MQ below (q_Q D N0 post) (q_XX D N0 px) args s mc ms (q_A N0)) kc ks ws pc lv st := by
  intro H lo ls hP hD hS hlv
  obtain ⟨sa, hsa⟩ := CX.2.2.1 _ hstr
  refine vx_throwSW (A := q_A N0) C.1 C.2.1 hfl C.2.2.2.2.1 hcls.2 (fun n hn => ?_) (C.2.2.2.2.2.1 _ h1) (C.2.2.2.2.2.1 _ h2) hsa (vx_hat (B := q_XB cls) (fun w hw => C.2.2.2.2.2.1 _ (hat w hw)) hbad ?_) hgood CX.2.2.2.1 CX.2.2.2.2 hS (hlv.1.trans C.2.2.2.1.symm) d0 d3 d4 d6 d9 (fun x hx => (hex x hx).elim) hf hl hc hs C.2.2.2.2.2.2.1 (fun t hA hz hk => ⟨ws, hpx, fun k q hq => va_at.kept ((hP k q hq)) (hk q.1 ((hP k q hq).lt)), hD, ⟨Nat.le_trans hS.1 hz, fun q h1 h2 => (hk q (Nat.lt_of_lt_of_le h1 hS.1)).trans (hS.2.1 q h1 h2)⟩⟩) hS.2.2 hmc hms
  · rcases List.mem_cons.mp hn with rfl | hn
    · decide +kernel
    · rcases List.mem_cons.mp hn with rfl | hn
      · decide +kernel
      · cases hn
  · intro w hw
    rcases List.mem_cons.mp hw with rfl | hw
    · exact va_Nw.use rfl (CX.1 _ hcls.1)
    · rcases List.mem_cons.mp hw with rfl | hw
      · exact va_Nw.use rfl (CX.2.1 _ (by decide))
      · rcases List.mem_cons.mp hw with rfl | hw
        · exact va_Nw.use rfl (CX.2.1 _ (by decide))
        · rcases List.mem_cons.mp hw with rfl | hw
          · exact va_Nw.use rfl (CX.2.1 _ (by decide))
          · cases hw
theorem q_throwN (C : q_C p s m args meth c code nL ret Ts RX8 D cc N0) (CX : q_KX N0 s) (hfl : l.stackTraces = false) (hex : ∀ x ∈ c.exceptionTable.toList, False) {text : String} {is : Nat} (h1 : Cond.classLink RX8 195 "java/util/NoSuchElementException" ∈ Ts) (h2 : Cond.initialized "java/util/NoSuchElementException" ∈ Ts) (hstr : (is, text) ∈ q_XS)
    (hat : ∀ w ∈ (vy_atS).filter goodWord, w ∈ Ts)
    (d0 : decode code pc = .ok (.new 195, 3)) (d3 : decode code (pc + 3) = .ok (.dup, 1)) (d4 : decode code (pc + 4) = .ok (.ldc is, 2)) (d6 : decode code (pc + 6) = .ok (.invokespecial 199, 3)) (d9 : decode code (pc + 9) = .ok (.athrow, 1))
    (hf : 5 < R.frames) (hl : (st.map fun v => v.category).sum + 82 ≤ R.locals) (hc : kc + 1 ≤ R.cells) (hs : ks + 6 ≤ R.slots) (hmc : kc + 1 ≤ mc) (hms : ks + 6 ≤ ms) (hpx : px "java/util/NoSuchElementException" ws) : q_WA p l e R s m args below meth c D N0 nL (vx_MQ below (q_Q D N0 post) (q_XX D N0 px) args s mc ms (q_A N0)) kc ks ws pc lv st := by
  intro H lo ls hP hD hS hlv
  obtain ⟨sa, hsa⟩ := CX.2.2.1 _ hstr
  refine yx_throw (A := q_A N0) C.1 C.2.1 hfl C.2.2.2.2.1 (C.2.2.2.2.2.1 _ h1) (C.2.2.2.2.2.1 _ h2) hsa (vx_hat (B := q_XB "java/util/NoSuchElementException") (fun w hw => C.2.2.2.2.2.1 _ (hat w hw)) qx_bad_199 ?_) qx_good_199 CX.2.2.2.1 CX.2.2.2.2 hS (hlv.1.trans C.2.2.2.1.symm) d0 d3 d4 d6 d9 (fun x hx => (hex x hx).elim) hf hl hc hs C.2.2.2.2.2.2.1 (fun t hA hz hk => ⟨ws, hpx, fun k q hq => va_at.kept ((hP k q hq)) (hk q.1 ((hP k q hq).lt)), hD, ⟨Nat.le_trans hS.1 hz, fun q h1 h2 => (hk q (Nat.lt_of_lt_of_le h1 hS.1)).trans (hS.2.1 q h1 h2)⟩⟩) hS.2.2 hmc hms
  intro w hw
  rcases List.mem_cons.mp hw with rfl | hw
  · exact va_Nw.use rfl (CX.1 _ (by decide))
  · rcases List.mem_cons.mp hw with rfl | hw
    · exact va_Nw.use rfl (CX.2.1 _ (by decide))
    · rcases List.mem_cons.mp hw with rfl | hw
      · exact va_Nw.use rfl (CX.2.1 _ (by decide))
      · rcases List.mem_cons.mp hw with rfl | hw
        · exact va_Nw.use rfl (CX.2.1 _ (by decide))
        · cases hw
theorem q_throwNW (C : q_C p s m args meth c code nL ret Ts RX8 D cc N0) (CX : q_KX N0 s) (hfl : l.stackTraces = false) (hex : ∀ x ∈ c.exceptionTable.toList, False) {text : String} {is : Nat} (h1 : Cond.classLink RX8 195 "java/util/NoSuchElementException" ∈ Ts) (h2 : Cond.initialized "java/util/NoSuchElementException" ∈ Ts) (hstr : (is, text) ∈ q_XS)
    (hat : ∀ w ∈ (vy_atS).filter goodWord, w ∈ Ts)
    (d0 : decode code pc = .ok (.new 195, 3)) (d3 : decode code (pc + 3) = .ok (.dup, 1)) (d4 : decode code (pc + 4) = .ok (.ldc_w is, 3)) (d6 : decode code (pc + 7) = .ok (.invokespecial 199, 3)) (d9 : decode code (pc + 10) = .ok (.athrow, 1))
    (hf : 5 < R.frames) (hl : (st.map fun v => v.category).sum + 82 ≤ R.locals) (hc : kc + 1 ≤ R.cells) (hs : ks + 6 ≤ R.slots) (hmc : kc + 1 ≤ mc) (hms : ks + 6 ≤ ms) (hpx : px "java/util/NoSuchElementException" ws) : q_WA p l e R s m args below meth c D N0 nL (vx_MQ below (q_Q D N0 post) (q_XX D N0 px) args s mc ms (q_A N0)) kc ks ws pc lv st := by
  intro H lo ls hP hD hS hlv
  obtain ⟨sa, hsa⟩ := CX.2.2.1 _ hstr
  refine yx_throwW (A := q_A N0) C.1 C.2.1 hfl C.2.2.2.2.1 (C.2.2.2.2.2.1 _ h1) (C.2.2.2.2.2.1 _ h2) hsa (vx_hat (B := q_XB "java/util/NoSuchElementException") (fun w hw => C.2.2.2.2.2.1 _ (hat w hw)) qx_bad_199 ?_) qx_good_199 CX.2.2.2.1 CX.2.2.2.2 hS (hlv.1.trans C.2.2.2.1.symm) d0 d3 d4 d6 d9 (fun x hx => (hex x hx).elim) hf hl hc hs C.2.2.2.2.2.2.1 (fun t hA hz hk => ⟨ws, hpx, fun k q hq => va_at.kept ((hP k q hq)) (hk q.1 ((hP k q hq).lt)), hD, ⟨Nat.le_trans hS.1 hz, fun q h1 h2 => (hk q (Nat.lt_of_lt_of_le h1 hS.1)).trans (hS.2.1 q h1 h2)⟩⟩) hS.2.2 hmc hms
  intro w hw
  rcases List.mem_cons.mp hw with rfl | hw
  · exact va_Nw.use rfl (CX.1 _ (by decide))
  · rcases List.mem_cons.mp hw with rfl | hw
    · exact va_Nw.use rfl (CX.2.1 _ (by decide))
    · rcases List.mem_cons.mp hw with rfl | hw
      · exact va_Nw.use rfl (CX.2.1 _ (by decide))
      · rcases List.mem_cons.mp hw with rfl | hw
        · exact va_Nw.use rfl (CX.2.1 _ (by decide))
        · cases hw
theorem q_retx {Q0 : Array Value → State → Outcome → State → Prop} {XC : String → State → State → Prop} (K : q_WA p l e R s m args below meth c D N0 nL (MQ below Q0 args s mc ms (q_A N0)) kc ks ws pc lv st) : q_WA p l e R s m args below meth c D N0 nL (vx_MQ below Q0 XC args s mc ms (q_A N0)) kc ks ws pc lv st :=
  fun H lo ls hP hD hS hl => vx_ret (K H lo ls hP hD hS hl)
theorem q_ofWX {y : MethodName} {w w' : List Cond} {fr lo : Nat} {av : List Value} (hy : plainName y.cls = true) (hw : w = .code y code nL ret :: w') (hlen : (lg_sl av).length ≤ nL)
    (body : ∀ (p : Program) (e : Env) (s : State) (m : MethodId) (below : List Frame) (meth : Method) (c : Code), q_C p s m av.toArray meth c code nL ret w y.cls D cc N0 → q_KX N0 s → (∀ x ∈ c.exceptionTable.toList, False) →
      q_WA p l e (q_rm fr lo mc ms) s m av.toArray below meth c D N0 nL (vx_MQ below (q_Q D N0 post) (q_XX D N0 px) av.toArray s mc ms (q_A N0)) 0 0 ws 0 (lv_args 0 av) []) : q_MetX l y w fr lo D cc N0 ws av post px mc ms := by
  refine vx_ofW (cc := code) (maxL := nL) (ret := ret) hy hw ?_
  intro p e s m args below meth c s₁ B hml hex hv
  obtain ⟨rfl, hN, hP, hD, hK, hH⟩ := hv
  rw [lg_entry_eq]
  exact body p e s m below meth c ⟨B.exec, B.bytes, B.returns, hml, findClass_of_methodNamed B.named, atoms_spec (ws := w) B.pre, B.notSynchronized, hK, hN, hH⟩ hH.1 hex s.heap [] _ hP hD va_S.rf (lv_entry av hlen)
end QX
