section QHH
variable {p : Program} {l : Launch} {e : Env} {R : Room} {s : State} {m : MethodId} {args : Array Value} {below : List Frame} {meth : Method} {c : Code} {D : va_G} {cc : Nat → ClassId} {N0 nL : Nat} {Q : State → Prop} {kc ks : Nat} {ws : va_W} {pc : Nat} {lv : List (Nat × Value)} {st : List Value} {code : ByteArray} {ret : Option FieldType} {Ts : List Cond} {own : String}
theorem q_ofH {y : MethodName} {w w' : List Cond} {fr lo : Nat} {av : List Value} {post : Option Value → va_W → Prop} {mc ms : Nat} {hh : List (Nat × Nat × Nat × Nat)} (hy : plainName y.cls = true) (hw : w = .codeWith y code nL ret hh :: w') (hlen : (lg_sl av).length ≤ nL)
    (body : ∀ (p : Program) (e : Env) (s : State) (m : MethodId) (below : List Frame) (meth : Method) (c : Code), q_C p s m av.toArray meth c code nL ret w y.cls D cc N0 → c.exceptionTable.toList = tableOf hh →
      q_WA p l e (q_rm fr lo mc ms) s m av.toArray below meth c D N0 nL (MQ below (q_Q D N0 post) av.toArray s mc ms (q_A N0)) 0 0 ws 0 (lv_args 0 av) []) : q_Met l y w fr lo D cc N0 ws av post mc ms := by
  refine va_MetW (cc := code) (maxL := nL) (ret := ret) (hh := hh) hy hw ?_
  intro p e s m args below meth c s₁ B hml hv
  obtain ⟨rfl, hN, hP, hD, hK, hH⟩ := hv
  rw [lg_entry_eq]
  have ht := vx_table (x := y) B (atoms_spec (ws := w) B.pre _ (by rw [hw]; exact List.mem_cons_self))
  exact body p e s m below meth c ⟨B.exec, B.bytes, B.returns, hml, findClass_of_methodNamed B.named, atoms_spec (ws := w) B.pre, B.notSynchronized, hK, hN, hH⟩ ht s.heap [] _ hP hD va_S.rf (lv_entry av hlen)
theorem q_backX {mc ms : Nat} {rest : List Value} {ls : Array Slot} {H : Heap} {lo : List Loc} {a : Array Value} {post : Option Value → va_W → Prop} {px : String → va_W → Prop} (hr : vx_Run p l e R s m args below meth c H lo kc ks mc ms (F0 m pc ls st) rest (q_Q D N0 post a) (q_XX D N0 px) (q_A N0)) (hN : N0 ≤ s.heap.size) (hS : va_S (q_A N0) s.heap H lo) (hl : lv_has ls nL lv)
    (K : ∀ (rv : Option Value) (w1 : va_W), post rv w1 → q_WA p l e R s m args below meth c D N0 nL Q (kc + mc) (ks + ms) w1 (pc + 3) lv (rv.toList ++ rest))
    (KX : ∀ (E : String) (w1 : va_W) (q : Addr) (ce : Cell) (H1 : Heap) (lo1 : List Loc), px E w1 → va_P D vwCl w1 H1 → va_D (q_A N0) w1 → va_S (q_A N0) s.heap H1 lo1 → H1[q]? = some ce → ce.vm = .none → s.vm.findClass E = some ce.cls → vx_W p l e R s m args below meth c H1 lo1 (kc + mc) (ks + ms) Q (F0 m pc ls rest) q) : W p l e R s m args below meth c H lo kc ks Q (F0 m pc ls st) := by
  intro T hT X
  have hA : ∀ q, H.size ≤ q → q_A N0 q := fun q hq => Nat.le_trans hN (Nat.le_trans hS.1 hq)
  rcases hr T hT X with ⟨v, st₀, t, T', L, h0, X', hL, e1, e2, ⟨⟨rv, w1, hv, hp, hP1, hD1⟩, hz, hk⟩, st⟩ | ⟨q, st₀, t, T', L, E, ce, h0, X', hL, e1, e2, ⟨w1, hp, hP1, hD1, hz, hk⟩, hce, hcv, hcl, st⟩
  · cases hv
    rw [h0] at hz hk
    obtain ⟨t2, a1, b1⟩ := K v w1 hp T'.heap (lo ++ L) ls (e1 ▸ hP1) hD1 ⟨Nat.le_trans hS.1 (by rw [e1]; exact hz), fun q h1 h2 => by rw [e1, hk q (Nat.lt_of_lt_of_le h1 hS.1) h2]; exact hS.2.1 q h1 h2, fun q hq => by
      rcases List.mem_append.mp hq with h | h
      · exact hS.2.2 q h
      · exact hL q h⟩ hl T' rfl X'
    exact ⟨t2, st t2 a1, b1⟩
  · rw [h0] at hz hk
    obtain ⟨t2, a1, b1⟩ := KX E w1 q ce T'.heap (lo ++ L) hp (e1 ▸ hP1) hD1 ⟨Nat.le_trans hS.1 (by rw [e1]; exact hz), fun q h1 h2 => by rw [e1, hk q (Nat.lt_of_lt_of_le h1 hS.1) h2]; exact hS.2.1 q h1 h2, fun q hq => by
      rcases List.mem_append.mp hq with h | h
      · exact hS.2.2 q h
      · exact hL q h⟩ (by rw [e1]; exact hce) hcv hcl T' rfl X'
    exact ⟨t2, st.trans a1, b1⟩
/-- what the table of handlers says of a mistake E: where it is caught -/
def q_hd (tb : List ExceptionTableEntry) (own : String) (Ts : List Cond) (pc : Nat) (E : String) (h : Nat) : Prop := ∃ (pre : List ExceptionTableEntry) (x : ExceptionTableEntry) (suf : List ExceptionTableEntry), tb = pre ++ x :: suf ∧ (∀ z ∈ pre, covers z pc = false ∨ (z.catchType ≠ 0 ∧ ∃ nm : String, Cond.classLink own z.catchType nm ∈ Ts ∧ (E, nm) ∈ q_XN)) ∧ covers x pc = true ∧ x.catchType ≠ 0 ∧ Cond.classLink own x.catchType E ∈ Ts ∧ E ∈ q_XC ∧ x.handlerPc = h
theorem q_callVC {y : MethodName} {w2 w2' : List Cond} {code2 : ByteArray} {nL2 : Nat} {ret2 : Option FieldType} {fr lo2 mc ms n idx b ci N q0 : Nat} {Cn : String} {T : u_T} {fs As rest : List Value} {post : Option Value → va_W → Prop} {px : String → va_W → Prop} (C : q_C p s m args meth c code nL ret Ts own D cc N0) (hM : q_MetX l y w2 fr lo2 D cc N0 ws (.ref b :: As) post px mc ms) (hG : GoodIn Ts (wsV own idx Cn y w2)) (hw : w2 = .code y code2 nL2 ret2 :: w2') (hy : y.cls = Cn) (hds : q_dsc y n)
    (hR : fr + 1 ≤ R.frames ∧ 8 + (nL2 + 11) + lo2 ≤ R.locals) (he : ws[q0]? = some (b, .inr (ci, fs))) (hc : vwCl[ci]? = some (Cn, T, N)) (hn : As.length = n) (hst : st = As.reverse ++ .ref b :: rest) (hW : (rest.map fun v => v.category).sum ≤ 8) (hd : decode code pc = .ok (.invokevirtual idx, 3)) (hf : kc + mc ≤ R.cells ∧ ks + ms ≤ R.slots)
    (K : ∀ (rv : Option Value) (w1 : va_W), post rv w1 → q_WA p l e R s m args below meth c D N0 nL Q (kc + mc) (ks + ms) w1 (pc + 3) lv (rv.toList ++ rest))
    (KX : ∀ (E : String) (w1 : va_W), px E w1 → ∃ h : Nat, q_hd c.exceptionTable.toList own Ts pc E h ∧ ∀ a : Nat, q_WA p l e R s m args below meth c D N0 nL Q (kc + mc) (ks + ms) w1 h lv [.ref a]) : q_WA p l e R s m args below meth c D N0 nL Q kc ks ws pc lv st := by
  intro H lo ls hP hD hS hl
  have hXN := (q_HSof C).2.2.2
  obtain ⟨hx, hb, hr, hml, hown, hts, hlocks, hK, hN, hH⟩ := C
  subst hst
  refine q_backX (vx_runV ⟨hx, hb, hml, hown, hts⟩ hM (cwV n hts hG hw rfl rfl ⟨hy, hds⟩ hR) ⟨q_blind, va_recv hK.1 hP hc he, q_pre hK hN hH hP hD hS⟩ rfl hn hl.1 rfl (lv_room hW) hd hf) hN hS hl K ?_
  intro E w1 q ce H1 lo1 hp hP1 hD1 hS1 hce hcv hcl
  obtain ⟨h, ⟨pre, x, suf, t1, t2, t3, t4, t5, t6, t7⟩, K2⟩ := KX E w1 hp
  refine vx_catch (name := E) (E := E) hown pre x suf t1 (fun z hz => ?_) t3 t4 (hts _ t5) (va_Nw.use rfl (hH.1.1 E t6)) hce hcv hcl ?_
  · rcases t2 z hz with h | ⟨h1, nm, h2, h3⟩
    · exact Or.inl h
    · exact Or.inr ⟨h1, nm, hts _ h2, hXN _ h3⟩
  · rw [t7]
    exact K2 q H1 lo1 ls hP1 hD1 hS1 hl
theorem q_last (C : q_C p s m args meth c code nL ret Ts own D cc N0) {a n : Nat} (q0 : Nat) {f : Nat → Int64} (he : ws[q0]? = some (a, .inl (cc 4, n, .inr (.inl f)))) {i : Int32} {x : Int64} (hi : q_in i n) (hd : decode code pc = .ok (.lastore, 1)) {ws1 : va_W} (hw : ws.set q0 (a, .inl (cc 4, n, .inr (.inl (vp_updL f i.toNatClampNeg x)))) = ws1) (K : q_WA p l e R s m args below meth c D N0 nL Q kc ks ws1 (pc + 1) lv st) : q_WA p l e R s m args below meth c D N0 nL Q kc ks ws pc lv (.long x :: .int i :: .ref a :: st) :=
  fun H lo ls hP hD hS hl => va_last C.1 C.2.1 C.2.2.2.2.2.2.2.1.1 hP hD hS q0 4 he rfl (q_in_vp hi) hd (fun H1 lo1 hP1 hD1 hS1 => K H1 lo1 ls (hw ▸ hP1) (hw ▸ hD1) hS1 hl)
theorem q_dast (C : q_C p s m args meth c code nL ret Ts own D cc N0) {a n : Nat} (q0 : Nat) {f : Nat → UInt64} (he : ws[q0]? = some (a, .inl (cc 5, n, .inr (.inr (.inr (.inl f)))))) {i : Int32} {x : UInt64} (hi : q_in i n) (hd : decode code pc = .ok (.dastore, 1)) {ws1 : va_W} (hw : ws.set q0 (a, .inl (cc 5, n, .inr (.inr (.inr (.inl (vf_upd f i.toNatClampNeg x)))))) = ws1) (K : q_WA p l e R s m args below meth c D N0 nL Q kc ks ws1 (pc + 1) lv st) : q_WA p l e R s m args below meth c D N0 nL Q kc ks ws pc lv (.double x :: .int i :: .ref a :: st) :=
  fun H lo ls hP hD hS hl => va_dast C.1 C.2.1 C.2.2.2.2.2.2.2.1.1 hP hD hS q0 5 he rfl (q_in_vp hi) hd (fun H1 lo1 hP1 hD1 hS1 => K H1 lo1 ls (hw ▸ hP1) (hw ▸ hD1) hS1 hl)
end QHH
