section QL
variable {p : Program} {l : Launch} {e : Env} {R : Room} {s : State} {m : MethodId} {args : Array Value} {below : List Frame} {meth : Method} {c : Code} {D : va_G} {cc : Nat → ClassId} {N0 nL : Nat} {Q : State → Prop} {kc ks : Nat} {ws : va_W} {pc : Nat} {lv : List (Nat × Value)} {st : List Value} {code : ByteArray} {ret : Option FieldType} {Ts : List Cond} {own : String}
theorem q_getS (C : q_C p s m args meth c code nL ret Ts own D cc N0) {C0 ref : String} {T : u_T} {N ci index a : Nat} (q0 : Nat) {fs : List Value} (he : ws[q0]? = some (a, .inr (ci, fs))) (hc : vwCl[ci]? = some (C0, T, N)) (hin : ∀ w ∈ u_ws C0 T N, w ∈ Ts) (k : Nat) (hk : k < N) (hlink : Cond.fieldLink own index ref (T k).2.1 (T k).2.2.1 ∈ Ts) (hsm : Cond.sameField ref (T k).1 (T k).2.1 (T k).2.2.1 ∈ Ts) {v : Value} (hv : fs[k]? = some v) (hd : decode code pc = .ok (.getfield index, 3))
    (K : q_WA p l e R s m args below meth c D N0 nL Q kc ks ws (pc + 3) lv (v :: st)) : q_WA p l e R s m args below meth c D N0 nL Q kc ks ws pc lv (.ref a :: st) :=
  fun H lo ls hP hD hS hl => va_get C.1 C.2.1 C.2.2.2.2.2.1 hin C.2.2.2.2.1 C.2.2.2.2.2.2.2.1.1 hP q0 he hc k hk (C.2.2.2.2.2.1 _ hlink) (fun x hx => u_same (C.2.2.2.2.2.1 _ hsm) x hx) hv hd (K H lo ls hP hD hS hl)
theorem q_putS (C : q_C p s m args meth c code nL ret Ts own D cc N0) {C0 ref : String} {T : u_T} {N ci index a : Nat} (q0 : Nat) {fs : List Value} (he : ws[q0]? = some (a, .inr (ci, fs))) (hc : vwCl[ci]? = some (C0, T, N)) (hin : ∀ w ∈ u_ws C0 T N, w ∈ Ts) (ty0 : Nat → FieldType) (hty : ∀ k, k < N → parseFieldDescriptor (T k).2.2.1 = some (ty0 k)) (hnm : ∀ a, a < N → ∀ b, b < N → a ≠ b → (T a).2.1 ≠ (T b).2.1) (k : Nat) (hk : k < N) (hlink : Cond.fieldLink own index ref (T k).2.1 (T k).2.2.1 ∈ Ts) (hsm : Cond.sameField ref (T k).1 (T k).2.1 (T k).2.2.1 ∈ Ts)
    (hfin : (T k).2.2.2 = false) {v : Value} (hn : narrow (ty0 k) v = v) (hfit : fits (ty0 k) v = true) (hl2 : k < fs.length) (hd : decode code pc = .ok (.putfield index, 3)) {ws1 : va_W} (hw : ws.set q0 (a, .inr (ci, fs.set k v)) = ws1)
    (K : q_WA p l e R s m args below meth c D N0 nL Q kc ks ws1 (pc + 3) lv st) : q_WA p l e R s m args below meth c D N0 nL Q kc ks ws pc lv (v :: .ref a :: st) :=
  fun H lo ls hP hD hS hl => va_put C.1 C.2.1 C.2.2.2.2.2.1 hin ty0 hty hnm C.2.2.2.2.1 C.2.2.2.2.2.2.2.1.1 hP hD hS q0 he hc k hk (C.2.2.2.2.2.1 _ hlink) (fun x hx => u_same (C.2.2.2.2.2.1 _ hsm) x hx) hfin (hty k hk) hn hfit hl2 hd (fun H1 lo1 hP1 hD1 hS1 => K H1 lo1 ls (hw ▸ hP1) (hw ▸ hD1) hS1 hl)
theorem q_aald (C : q_C p s m args meth c code nL ret Ts own D cc N0) {a n : Nat} (q0 : Nat) {f : Nat → Option Nat} (he : ws[q0]? = some (a, .inl (cc 2, n, .inr (.inr (.inr (.inr f)))))) {i : Int32} (hin : q_in i n) {v : Nat} (hv : f i.toNatClampNeg = some v) (hd : decode code pc = .ok (.aaload, 1))
    (K : q_WA p l e R s m args below meth c D N0 nL Q kc ks ws (pc + 1) lv (.ref v :: st)) : q_WA p l e R s m args below meth c D N0 nL Q kc ks ws pc lv (.int i :: .ref a :: st) :=
  fun H lo ls hP hD hS hl => va_aldq C.1 C.2.1 C.2.2.2.2.2.2.2.1.1 hP q0 2 he rfl (q_in_vp hin) hd (by rw [hv]; exact K H lo ls hP hD hS hl)
/-- an object that goes for an Object, in every heap of the world -/
def q_Any (D : va_G) (cc : Nat → ClassId) (N0 : Nat) (ws : va_W) (v : Nat) : Prop := ∀ (s : State) (H : Heap) (lo : List Loc), q_K D cc s → q_H cc N0 s → va_P D vwCl ws H → va_S (q_A N0) s.heap H lo → va_Any "java/lang/Object" s H v
theorem q_castable {s : State} {a b : String} (h : va_Nw (.castable a b) s) : ∀ comp c0 : ClassId, s.vm.findClass b = some comp → s.vm.findClass a = some c0 → s.vm.assignable c0 comp = true := by
  obtain ⟨c0, t1, f1, f2, f3⟩ := Cond.castable_spec (va_Nw.use (A := #[]) rfl h)
  intro comp c1 h1 h2
  cases f1.symm.trans h2
  cases f2.symm.trans h1
  exact f3
theorem q_anyI {v n q0 : Nat} {f : Nat → Int32} (he : ws[q0]? = some (v, .inl (cc 0, n, .inl f))) : q_Any D cc N0 ws v := by
  intro s H lo hK hH hP hS
  have h1 : H[v]? = some (vp_cell (cc 0) (n, .inl f)) := hP q0 _ he
  have h2 : s.vm.findClass ("[" ++ FieldType.int.toString) = some (cc 0) := (hK.1.2 0 _ rfl).2
  obtain ⟨kC, hkC, -⟩ := Vm.findClass_spec h2
  exact ⟨_, h1, rfl, ⟨kC, hkC⟩, fun comp h => q_castable (hK.2.2.2.1 ("[I", "java/lang/Object") (by decide)) comp _ h h2⟩
theorem q_Any.mono {ws' : va_W} {v : Nat} (h : q_Any D cc N0 ws' v) (hs : ∀ x ∈ ws', x ∈ ws) : q_Any D cc N0 ws v := fun s H lo hK hH hP hS => h s H lo hK hH (va_P_sub hs hP) hS
theorem q_aast (C : q_C p s m args meth c code nL ret Ts own D cc N0) {a n v : Nat} (q0 : Nat) {f : Nat → Option Nat} (he : ws[q0]? = some (a, .inl (cc 2, n, .inr (.inr (.inr (.inr f)))))) (hv : q_Any D cc N0 ws v) {i : Int32} (hin : q_in i n) (hd : decode code pc = .ok (.aastore, 1)) {ws1 : va_W} (hw : ws.set q0 (a, .inl (cc 2, n, .inr (.inr (.inr (.inr (va_up f i.toNatClampNeg (some v))))))) = ws1)
    (K : q_WA p l e R s m args below meth c D N0 nL Q kc ks ws1 (pc + 1) lv st) : q_WA p l e R s m args below meth c D N0 nL Q kc ks ws pc lv (.ref v :: .int i :: .ref a :: st) :=
  fun H lo ls hP hD hS hl => va_astqM C.1 C.2.1 C.2.2.2.2.2.2.2.1.1 hP hD hS q0 2 he rfl (hv s H lo C.2.2.2.2.2.2.2.1 C.2.2.2.2.2.2.2.2.2 hP hS) (q_in_vp hin) hd (fun H1 lo1 hP1 hD1 hS1 => K H1 lo1 ls (hw ▸ hP1) (hw ▸ hD1) hS1 hl)
theorem q_aastN (C : q_C p s m args meth c code nL ret Ts own D cc N0) {a n : Nat} (q0 : Nat) {f : Nat → Option Nat} (he : ws[q0]? = some (a, .inl (cc 2, n, .inr (.inr (.inr (.inr f)))))) {i : Int32} (hin : q_in i n) (hd : decode code pc = .ok (.aastore, 1)) {ws1 : va_W} (hw : ws.set q0 (a, .inl (cc 2, n, .inr (.inr (.inr (.inr (va_up f i.toNatClampNeg none)))))) = ws1)
    (K : q_WA p l e R s m args below meth c D N0 nL Q kc ks ws1 (pc + 1) lv st) : q_WA p l e R s m args below meth c D N0 nL Q kc ks ws pc lv (.null :: .int i :: .ref a :: st) :=
  fun H lo ls hP hD hS hl => va_astqN C.1 C.2.1 C.2.2.2.2.2.2.2.1.1 hP hD hS q0 2 he rfl (q_in_vp hin) hd (fun H1 lo1 hP1 hD1 hS1 => K H1 lo1 ls (hw ▸ hP1) (hw ▸ hD1) hS1 hl)
theorem q_null (C : q_C p s m args meth c code nL ret Ts own D cc N0) (hd : decode code pc = .ok (.aconst_null, 1)) (K : q_WA p l e R s m args below meth c D N0 nL Q kc ks ws (pc + 1) lv (.null :: st)) : q_WA p l e R s m args below meth c D N0 nL Q kc ks ws pc lv st :=
  fun H lo ls hP hD hS hl => lv_null C.1 C.2.1 hd (K H lo ls hP hD hS hl)
theorem q_acmp_eq (C : q_C p s m args meth c code nL ret Ts own D cc N0) {x y : Nat} {off : Int} {tgt : Nat} (hd : decode code pc = .ok (.if_acmp .eq off, 3)) (ht : (pc : Int) + off = (tgt : Int)) (kt : x = y → q_WA p l e R s m args below meth c D N0 nL Q kc ks ws tgt lv st) (kf : ¬ x = y → q_WA p l e R s m args below meth c D N0 nL Q kc ks ws (pc + 3) lv st) : q_WA p l e R s m args below meth c D N0 nL Q kc ks ws pc lv (.ref y :: .ref x :: st) :=
  fun H lo ls hP hD hS hl => lv_acmp_eq (rx := some x) (ry := some y) C.1 C.2.1 hd ht (fun h => kt (Option.some.inj h) H lo ls hP hD hS hl) (fun h => kf (fun e => h (congrArg some e)) H lo ls hP hD hS hl)
theorem q_acmp_ne (C : q_C p s m args meth c code nL ret Ts own D cc N0) {x y : Nat} {off : Int} {tgt : Nat} (hd : decode code pc = .ok (.if_acmp .ne off, 3)) (ht : (pc : Int) + off = (tgt : Int)) (kt : ¬ x = y → q_WA p l e R s m args below meth c D N0 nL Q kc ks ws tgt lv st) (kf : x = y → q_WA p l e R s m args below meth c D N0 nL Q kc ks ws (pc + 3) lv st) : q_WA p l e R s m args below meth c D N0 nL Q kc ks ws pc lv (.ref y :: .ref x :: st) :=
  fun H lo ls hP hD hS hl => lv_acmp_ne (rx := some x) (ry := some y) C.1 C.2.1 hd ht (fun h => kt (fun e => h (congrArg some e)) H lo ls hP hD hS hl) (fun h => kf (Option.some.inj h) H lo ls hP hD hS hl)
theorem q_anew (C : q_C p s m args meth c code nL ret Ts own D cc N0) {index : Nat} (hcl : Cond.classLink own index "java/lang/Object" ∈ Ts) {n : Int32} {N' : Nat} (hn : ¬ n < 0) (hN : n.toNatClampNeg = N') (hbytes : N' * 4 ≤ 536870912) (hcells : kc + 1 ≤ R.cells) (hslots : ks + N' ≤ R.slots) (hd : decode code pc = .ok (.anewarray index, 3))
    (K : ∀ q : Nat, q_WA p l e R s m args below meth c D N0 nL Q (kc + 1) (ks + N') ((q, .inl (cc 2, N', .inr (.inr (.inr (.inr (fun _ => none)))))) :: ws) (pc + 3) lv (.ref q :: st)) : q_WA p l e R s m args below meth c D N0 nL Q kc ks ws pc lv (.int n :: st) := by
  intro H lo ls hP hD hS hl
  have hK := C.2.2.2.2.2.2.2.1.1
  refine va_newq C.1 C.2.1 C.2.2.2.2.1 (C.2.2.2.2.2.1 _ hcl) C.2.2.2.2.2.2.2.1.2.2.2.2.1 hK hP hD hS (fun q hq => Nat.le_trans C.2.2.2.2.2.2.2.2.1 hq) hn hN hbytes hcells hslots hd (fun q cB H1 hK1 hP1 hD1 hS1 => ?_)
  obtain ⟨kA, comp, h1, h2, h3, h4⟩ := (hK.2 2 _ rfl).2
  obtain ⟨kB, comp', g1, g2, g3, g4⟩ := (hK1.2 (q_T cc).length (cB, _) (by rw [List.getElem?_append_right (Nat.le_refl _), Nat.sub_self]; rfl)).2
  have e : cB = cc 2 := Option.some.inj (g4.symm.trans h4)
  subst e
  exact K q H1 lo ls (va_P.swap (a := []) hP1) (va_D.swap (a := []) hD1) hS1 hl
theorem q_gets (C : q_C p s m args meth c code nL ret Ts own D cc N0) {C0 n d : String} {v : Value} {index : Nat} (hZ : va_Z C0 n d v (q_A N0) s s.heap) (hlink : Cond.fieldLink own index C0 n d ∈ Ts) (hd : decode code pc = .ok (.getstatic index, 3)) (K : q_WA p l e R s m args below meth c D N0 nL Q kc ks ws (pc + 3) lv (v :: st)) : q_WA p l e R s m args below meth c D N0 nL Q kc ks ws pc lv st :=
  fun H lo ls hP hD hS hl => va_gets C.1 C.2.1 hZ hS C.2.2.2.2.1 (C.2.2.2.2.2.1 _ hlink) (fun _ h => h) hd (K H lo ls hP hD hS hl)
theorem q_tlen (C : q_C p s m args meth c code nL ret Ts own D cc N0) {ty : FieldType} {t N : Nat} {f : Nat → Value} (hT : va_T ty t N f (q_A N0) s s.heap) {v : Int32} (hv : Int32.ofNat N = v) (hd : decode code pc = .ok (.arraylength, 1)) (K : q_WA p l e R s m args below meth c D N0 nL Q kc ks ws (pc + 1) lv (.int v :: st)) : q_WA p l e R s m args below meth c D N0 nL Q kc ks ws pc lv (.ref t :: st) :=
  fun H lo ls hP hD hS hl => va_tlen C.1 C.2.1 hT hS hv hd (K H lo ls hP hD hS hl)
theorem q_getC (C : q_C p s m args meth c code nL ret Ts own D cc N0) {index a n q0 : Nat} {f : Nat → Option Nat} (h1 : Cond.methodLink own index ⟨"java/lang/Object", "getClass", "()Ljava/lang/Class;"⟩ ∈ Ts) (h2 : Cond.selects "[Ljava/lang/Object;" ⟨"java/lang/Object", "getClass", "()Ljava/lang/Class;"⟩ ⟨"java/lang/Object", "getClass", "()Ljava/lang/Class;"⟩ ∈ Ts) (h3 : Cond.instanceMethod ⟨"java/lang/Object", "getClass", "()Ljava/lang/Class;"⟩ ∈ Ts) (h4 : Cond.native ⟨"java/lang/Object", "getClass", "()Ljava/lang/Class;"⟩ ∈ Ts) (he : ws[q0]? = some (a, .inl (cc 2, n, .inr (.inr (.inr (.inr f)))))) (hf : 1 ≤ R.frames) (hlo : (st.map fun v => v.category).sum + 14 ≤ R.locals) (hd : decode code pc = .ok (.invokevirtual index, 3))
    (K : q_WA p l e R s m args below meth c D N0 nL Q kc ks ws (pc + 3) lv (.ref (cc 9) :: st)) : q_WA p l e R s m args below meth c D N0 nL Q kc ks ws pc lv (.ref a :: st) := by
  intro H lo ls hP hD hS hl
  have hK := C.2.2.2.2.2.2.2.1
  obtain ⟨kA, comp, g1, g2, g3, g4⟩ := (hK.1.2 2 _ rfl).2
  exact va_getC C.1 C.2.1 (C.2.2.2.1.trans hl.1.symm) C.2.2.2.2.1 (C.2.2.2.2.2.1 _ h1) hK.2.2.2.2.2.2.2.use (C.2.2.2.2.2.1 _ h2) (C.2.2.2.2.2.1 _ h3) (C.2.2.2.2.2.1 _ h4) hK.2.2.2.2.2.2.1 ⟨_, hP q0 _ he, rfl, g4⟩ hf hlo hd (K H lo ls hP hD hS hl)
theorem q_ldcM (C : q_C p s m args meth c code nL ret Ts own D cc N0) {index : Nat} (h1 : Cond.classLink own index "[Ljava/lang/Object;" ∈ Ts) (hd : decode code pc = .ok (.ldc index, 2)) (K : q_WA p l e R s m args below meth c D N0 nL Q kc ks ws (pc + 2) lv (.ref (cc 9) :: st)) : q_WA p l e R s m args below meth c D N0 nL Q kc ks ws pc lv st :=
  fun H lo ls hP hD hS hl => va_ldcM C.1 C.2.1 C.2.2.2.2.1 (C.2.2.2.2.2.1 _ h1) C.2.2.2.2.2.2.2.1.2.2.2.2.2.2.1 hd (K H lo ls hP hD hS hl)
theorem q_copy (C : q_C p s m args meth c code nL ret Ts own D cc N0) {index : Nat} (h1 : Cond.methodLink own index arraycopyName ∈ Ts) (h2 : Cond.native arraycopyName ∈ Ts) (h3 : Cond.static arraycopyName ∈ Ts) (h4 : Cond.initialized "java/lang/System" ∈ Ts) {a a0 n0 n1 : Nat} (q0 q1 : Nat) {f g : Nat → Option Nat} (he0 : ws[q0]? = some (a0, .inl (cc 2, n0, .inr (.inr (.inr (.inr f)))))) (he1 : ws[q1]? = some (a, .inl (cc 2, n1, .inr (.inr (.inr (.inr g)))))) {n : Int32} (h5 : ¬ n < 0) (h6 : n.toNatClampNeg ≤ n0) (h7 : n.toNatClampNeg ≤ n1) (hel : ∀ i : Nat, i < n.toNatClampNeg → ∀ y : Nat, f i = some y → q_Any D cc N0 ws y)
    (hf : 1 ≤ R.frames) (hlo : (st.map fun v => v.category).sum + (nativeFrameWords "java/lang/System" "arraycopy" 5 + 11) ≤ R.locals) (hd : decode code pc = .ok (.invokestatic index, 3)) {ws1 : va_W} (hw : ws.set q1 (a, .inl (cc 2, n1, .inr (.inr (.inr (.inr (va_cpy f g 0 0 n.toNatClampNeg)))))) = ws1)
    (K : q_WA p l e R s m args below meth c D N0 nL Q kc ks ws1 (pc + 3) lv st) : q_WA p l e R s m args below meth c D N0 nL Q kc ks ws pc lv (.int n :: .int 0 :: .ref a :: .int 0 :: .ref a0 :: st) := by
  intro H lo ls hP hD hS hl
  refine va_copyM C.1 C.2.1 (C.2.2.2.1.trans hl.1.symm) C.2.2.2.2.1 (C.2.2.2.2.2.1 _ h1) (C.2.2.2.2.2.1 _ h2) (C.2.2.2.2.2.1 _ h3) (C.2.2.2.2.2.1 _ h4) C.2.2.2.2.2.2.2.1.1 hP hD hS q0 q1 2 2 he0 he1 rfl rfl (by decide) (by decide) h5 ?_ ?_ ?_ hf hlo hd ?_
  · show 0 + _ ≤ _
    omega
  · show 0 + _ ≤ _
    omega
  · intro i hi y hy
    exact hel i hi y (by simpa using hy) s H lo C.2.2.2.2.2.2.2.1 C.2.2.2.2.2.2.2.2.2 hP hS
  · intro H1 lo1 hP1 hD1 hS1
    exact K H1 lo1 ls (hw ▸ hP1) (hw ▸ hD1) hS1 hl
end QL
