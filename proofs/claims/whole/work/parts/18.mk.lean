section QM
variable {p : Program} {l : Launch} {e : Env} {R : Room} {s : State} {m : MethodId} {args : Array Value} {below : List Frame} {meth : Method} {c : Code} {D : va_G} {cc : Nat → ClassId} {N0 nL : Nat} {Q : State → Prop} {kc ks : Nat} {ws : va_W} {pc : Nat} {lv : List (Nat × Value)} {st : List Value} {code : ByteArray} {ret : Option FieldType} {Ts : List Cond} {own : String}
theorem q_new (C : q_C p s m args meth c code nL ret Ts own D cc N0) {C0 : String} {T : u_T} {N ci index : Nat} (hin : ∀ w ∈ u_ws C0 T N, w ∈ Ts) (ty0 : Nat → FieldType) (hty : ∀ k, k < N → parseFieldDescriptor (T k).2.2.1 = some (ty0 k)) (hcl : Cond.classLink own index C0 ∈ Ts) (hinst : Cond.instantiable C0 N ∈ Ts) (hini : Cond.initialized C0 ∈ Ts) (hc : vwCl[ci]? = some (C0, T, N)) (fs : List Value) (hfs : ∀ j, j < N → defaultValue (ty0 j) = vp_V fs j)
    (hcells : kc + 1 ≤ R.cells) (hslots : ks + N ≤ R.slots) (hd : decode code pc = .ok (.new index, 3)) (K : ∀ q : Nat, q_WA p l e R s m args below meth c D N0 nL Q (kc + 1) (ks + N) ((q, .inr (ci, fs)) :: ws) (pc + 3) lv (.ref q :: st)) : q_WA p l e R s m args below meth c D N0 nL Q kc ks ws pc lv st :=
  fun H lo ls hP hD hS hl => va_new C.1 C.2.1 C.2.2.2.2.2.1 hin ty0 hty C.2.2.2.2.1 (C.2.2.2.2.2.1 _ hcl) (C.2.2.2.2.2.1 _ hinst) (C.2.2.2.2.2.1 _ hini) C.2.2.2.2.2.2.2.1.1 hP hD hS (fun q hq => Nat.le_trans C.2.2.2.2.2.2.2.2.1 hq) hc hfs hcells hslots hd (fun q H1 hP1 hD1 hS1 => K q H1 lo ls (va_P.swap (a := []) hP1) (va_D.swap (a := []) hD1) hS1 hl)
theorem q_newa (C : q_C p s m args meth c code nL ret Ts own D cc N0) {atype : ArrayType} {ty : FieldType} (t0 : Nat) {cA : ClassId} (ht : (q_T cc)[t0]? = some (cA, ty)) (hno : ∀ n, ty ≠ .object n) (harr : Cond.arrayClass (newarray.typeOf atype) ∈ Ts) (hty : newarray.typeOf atype = ty) {n : Int32} {N' : Nat} (a0 : vp_A) (ha : ∀ cA : ClassId, vp_cell cA a0 = arrV cA N' (fun _ => defaultValue ty)) (hn : ¬ n < 0) (hN : n.toNatClampNeg = N') (hbytes : N' * componentBytes ty ≤ 536870912) (hcells : kc + 1 ≤ R.cells) (hslots : ks + N' ≤ R.slots) (hd : decode code pc = .ok (.newarray atype, 2))
    (K : ∀ q : Nat, q_WA p l e R s m args below meth c D N0 nL Q (kc + 1) (ks + N') ((q, .inl (cA, a0)) :: ws) (pc + 2) lv (.ref q :: st)) : q_WA p l e R s m args below meth c D N0 nL Q kc ks ws pc lv (.int n :: st) := by
  intro H lo ls hP hD hS hl
  have hK := C.2.2.2.2.2.2.2.1.1
  refine va_newa C.1 C.2.1 (C.2.2.2.2.2.1 _ harr) hty hK hP hD hS (fun q hq => Nat.le_trans C.2.2.2.2.2.2.2.2.1 hq) ha hn hN hbytes hcells hslots hd (fun q cB H1 hK1 hP1 hD1 hS1 => ?_)
  have h1 : va_RA s cA ty := (hK.2 t0 _ ht).2
  have h2 : va_RA s cB ty := (hK1.2 (q_T cc).length (cB, ty) (by rw [List.getElem?_append_right (Nat.le_refl _), Nat.sub_self]; rfl)).2
  have e : cB = cA := by
    cases ty with
    | object n => exact absurd rfl (hno n)
    | _ => exact Option.some.inj (h2.symm.trans h1)
  subst e
  exact K q H1 lo ls (va_P.swap (a := []) hP1) (va_D.swap (a := []) hD1) hS1 hl
theorem q_objInit (C : q_C p s m args meth c code nL ret Ts own D cc N0) {idx a : Nat} (hl : Cond.methodLink own idx Lib.objectInit ∈ Ts) (hi : Cond.instanceMethod Lib.objectInit ∈ Ts) (hc : Cond.code Lib.objectInit ⟨#[0xb1]⟩ 1 none ∈ Ts) (hd : decode code pc = .ok (.invokespecial idx, 3)) (hf : 1 ≤ R.frames) (hlo : (st.map fun v => v.category).sum + 12 ≤ R.locals)
    (K : q_WA p l e R s m args below meth c D N0 nL Q kc ks ws (pc + 3) lv st) : q_WA p l e R s m args below meth c D N0 nL Q kc ks ws pc lv (.ref a :: st) :=
  fun H lo ls hP hD hS hlv => W.objInit C.1 C.2.1 C.2.2.2.2.1 (C.2.2.2.2.2.1 _ hl) (C.2.2.2.2.2.1 _ hi) (C.2.2.2.2.2.1 _ hc) rfl (hlv.1.trans C.2.2.2.1.symm) rfl hd hf (by show 2 * 0 + _ + 12 ≤ _; omega) (K H lo ls hP hD hS hlv)
end QM
theorem q_nodup_sub {α : Type} {L L' : List α} {is : List Nat} (h : is.filterMap (fun i => L[i]?) = L') : ∀ x ∈ L', x ∈ L := by
  intro x hx
  rw [← h] at hx
  obtain ⟨i, -, hi⟩ := List.mem_filterMap.mp hx
  exact List.mem_of_getElem? hi
theorem va_P_mem {D : va_G} {ws : va_W} {H : Heap} : va_P D vwCl ws H ↔ ∀ q ∈ ws, va_at D vwCl q H := by
  constructor
  · intro h q hq
    obtain ⟨k, hk⟩ := List.getElem?_of_mem hq
    exact h k q hk
  · intro h k q hk
    exact h q (List.mem_of_getElem? hk)
theorem va_P_sub {D : va_G} {ws ws' : va_W} {H : Heap} (h : ∀ q ∈ ws', q ∈ ws) (hP : va_P D vwCl ws H) : va_P D vwCl ws' H := va_P_mem.mpr (fun q hq => va_P_mem.mp hP q (h q hq))
theorem va_D_mem {A : Nat → Prop} {ws : va_W} : va_D A ws ↔ (ws.map Prod.fst).Nodup ∧ ∀ q ∈ ws, A q.1 := by
  constructor
  · intro h
    refine ⟨?_, fun q hq => ?_⟩
    · rw [List.nodup_iff_pairwise_ne] 
      rw [List.pairwise_iff_getElem]
      intro i j hi hj hij e
      have hi' : i < ws.length := by simpa using hi
      have hj' : j < ws.length := by simpa using hj
      have := h.1 i j ws[i] ws[j] (List.getElem?_eq_getElem hi') (List.getElem?_eq_getElem hj') (by simpa using e)
      omega
    · obtain ⟨k, hk⟩ := List.getElem?_of_mem hq
      exact h.2 k q hk
  · rintro ⟨h1, h2⟩
    refine ⟨fun i j p q hi hj e => ?_, fun k q hk => h2 q (List.mem_of_getElem? hk)⟩
    rw [List.nodup_iff_pairwise_ne, List.pairwise_iff_getElem] at h1
    obtain ⟨hi', ei⟩ := List.getElem?_eq_some_iff.mp hi
    obtain ⟨hj', ej⟩ := List.getElem?_eq_some_iff.mp hj
    rcases Nat.lt_trichotomy i j with g | g | g
    · exact (h1 i j (by simpa using hi') (by simpa using hj') g (by simp [ei, ej, e])).elim
    · exact g
    · exact (h1 j i (by simpa using hj') (by simpa using hi') g (by simp [ei, ej, e])).elim
theorem va_D_perm {A : Nat → Prop} {ws ws' : va_W} (h : ws.Perm ws') (hD : va_D A ws) : va_D A ws' := by
  rw [va_D_mem] at hD ⊢
  exact ⟨(h.map Prod.fst).nodup_iff.mp hD.1, fun q hq => hD.2 q (h.mem_iff.mpr hq)⟩
theorem va_P_perm {D : va_G} {ws ws' : va_W} {H : Heap} (h : ws.Perm ws') (hP : va_P D vwCl ws H) : va_P D vwCl ws' H := va_P_sub (fun _ hq => h.mem_iff.mpr hq) hP
section QP
variable {p : Program} {l : Launch} {e : Env} {R : Room} {s : State} {m : MethodId} {args : Array Value} {below : List Frame} {meth : Method} {c : Code} {D : va_G} {N0 nL : Nat} {Q : State → Prop} {kc ks : Nat} {ws : va_W} {pc : Nat} {lv : List (Nat × Value)} {st : List Value}
theorem q_perm {ws' : va_W} (h : ws.Perm ws') (K : q_WA p l e R s m args below meth c D N0 nL Q kc ks ws' pc lv st) : q_WA p l e R s m args below meth c D N0 nL Q kc ks ws pc lv st :=
  fun H lo ls hP hD hS hl => K H lo ls (va_P_perm h hP) (va_D_perm h hD) hS hl
theorem q_tail {x : Nat × va_E} (K : q_WA p l e R s m args below meth c D N0 nL Q kc ks ws pc lv st) : q_WA p l e R s m args below meth c D N0 nL Q kc ks (x :: ws) pc lv st :=
  fun H lo ls hP hD hS hl => K H lo ls (va_P_sub (fun _ h => List.mem_cons_of_mem _ h) hP) (by rw [va_D_mem] at hD ⊢; exact ⟨(List.nodup_cons.mp hD.1).2, fun q h => hD.2 q (List.mem_cons_of_mem _ h)⟩) hS hl
end QP
