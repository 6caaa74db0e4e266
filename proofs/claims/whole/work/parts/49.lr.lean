/-! rows of the law -/
section QLR
variable {p : Program} {l : Launch} {e : Env} {R : Room} {s : State} {m : MethodId} {args : Array Value} {below : List Frame} {meth : Method} {c : Code} {D : va_G} {cc : Nat → ClassId} {N0 nL : Nat} {Q : State → Prop} {kc ks : Nat} {ws : va_W} {pc : Nat} {lv : List (Nat × Value)} {st : List Value} {code : ByteArray} {ret : Option FieldType} {Ts : List Cond} {own : String} {g ga : Nat → Nat} {ad : Nat → Nat → Nat} {xo xd : Nat} {S : LSt} {E : va_W}
theorem q_callSH {y : MethodName} {w2 w2' : List Cond} {code2 : ByteArray} {nL2 : Nat} {ret2 : Option FieldType} {hh : List (Nat × Nat × Nat × Nat)} {fr lo2 mc ms n idx : Nat} {As rest : List Value} {post : Option Value → va_W → Prop} (C : q_C p s m args meth c code nL ret Ts own D cc N0) (hM : q_Met l y w2 fr lo2 D cc N0 ws As post mc ms) (hG : GoodIn Ts (va_wsS own idx y w2)) (hw : w2 = .codeWith y code2 nL2 ret2 hh :: w2') (hds : q_dsc y n)
    (hR : fr + 1 ≤ R.frames ∧ 8 + (nL2 + 11) + lo2 ≤ R.locals) (hn : As.length = n) (hst : st = As.reverse ++ rest) (hW : (rest.map fun v => v.category).sum ≤ 8) (hd : decode code pc = .ok (.invokestatic idx, 3)) (hf : kc + mc ≤ R.cells ∧ ks + ms ≤ R.slots)
    (K : ∀ (rv : Option Value) (w1 : va_W), post rv w1 → q_WA p l e R s m args below meth c D N0 nL Q (kc + mc) (ks + ms) w1 (pc + 3) lv (rv.toList ++ rest)) : q_WA p l e R s m args below meth c D N0 nL Q kc ks ws pc lv st := by
  intro H lo ls hP hD hS hl
  obtain ⟨hx, hb, hr, hml, hown, hts, hlocks, hK, hN, hH⟩ := C
  subst hst
  exact q_back (vx_runSW ⟨hx, hb, hml, hown, hts⟩ hM (vx_cwSW n hts hG hw rfl rfl hds hR) ⟨q_blind, q_pre hK hN hH hP hD hS⟩ rfl hn hl.1 rfl (lv_room hW) hd hf) hN hS hl K
theorem q_tabIn (C : q_C p s m args meth c code nL ret Ts own D cc N0) {dflt lo hi : Int} {offs : Array Int} {len : Nat} {x y : Int32} {off : Int} {tgt : Nat} (hxy : x = y) (hd : decode code pc = .ok (.tableswitch dflt lo hi offs, len)) (h1 : ¬ y.toInt < lo) (h2 : ¬ hi < y.toInt) (ho : offs[(y.toInt - lo).toNat]? = some off) (ht : (pc : Int) + off = (tgt : Int)) (K : q_WA p l e R s m args below meth c D N0 nL Q kc ks ws tgt lv st) : q_WA p l e R s m args below meth c D N0 nL Q kc ks ws pc lv (.int x :: st) := by
  subst hxy
  exact fun H lo ls hP hD hS hl => lv_tableIn C.1 C.2.1 hd h1 h2 ho ht (K H lo ls hP hD hS hl)
theorem q_tabOut (C : q_C p s m args meth c code nL ret Ts own D cc N0) {dflt lo hi : Int} {offs : Array Int} {len : Nat} {x : Int32} {tgt : Nat} (hd : decode code pc = .ok (.tableswitch dflt lo hi offs, len)) (h : x.toInt < lo ∨ hi < x.toInt) (ht : (pc : Int) + dflt = (tgt : Int)) (K : q_WA p l e R s m args below meth c D N0 nL Q kc ks ws tgt lv st) : q_WA p l e R s m args below meth c D N0 nL Q kc ks ws pc lv (.int x :: st) :=
  fun H lo ls hP hD hS hl => lv_tableOut C.1 C.2.1 hd h ht (K H lo ls hP hD hS hl)
theorem q_sld (C : q_C p s m args meth c code nL ret Ts own D cc N0) {b L : Nat} {xs : Nat → Int32} (hX : va_X b L xs s s.heap) (hbl : b < s.heap.size) (hbA : ¬ q_A N0 b) {i : Int32} (hin : q_in i L) (hd : decode code pc = .ok (.iaload, 1)) (K : q_WA p l e R s m args below meth c D N0 nL Q kc ks ws (pc + 1) lv (.int (xs i.toNatClampNeg) :: st)) : q_WA p l e R s m args below meth c D N0 nL Q kc ks ws pc lv (.int i :: .ref b :: st) :=
  fun H lo ls hP hD hS hl => va_sld C.1 C.2.1 hX hbl hbA hS (q_in_vp hin) hd (K H lo ls hP hD hS hl)
theorem q_slen (C : q_C p s m args meth c code nL ret Ts own D cc N0) {b L : Nat} {xs : Nat → Int32} (hX : va_X b L xs s s.heap) (hbl : b < s.heap.size) (hbA : ¬ q_A N0 b) (hd : decode code pc = .ok (.arraylength, 1)) (K : q_WA p l e R s m args below meth c D N0 nL Q kc ks ws (pc + 1) lv (.int (Int32.ofNat L) :: st)) : q_WA p l e R s m args below meth c D N0 nL Q kc ks ws pc lv (.ref b :: st) :=
  fun H lo ls hP hD hS hl => va_slen C.1 C.2.1 hX hbl hbA hS hd (K H lo ls hP hD hS hl)
theorem q_lald (C : q_C p s m args meth c code nL ret Ts own D cc N0) {a n : Nat} (q0 : Nat) {f : Nat → Int64} (he : ws[q0]? = some (a, .inl (cc 4, n, .inr (.inl f)))) {i : Int32} (hi : q_in i n) (hd : decode code pc = .ok (.laload, 1)) (K : q_WA p l e R s m args below meth c D N0 nL Q kc ks ws (pc + 1) lv (.long (f i.toNatClampNeg) :: st)) : q_WA p l e R s m args below meth c D N0 nL Q kc ks ws pc lv (.int i :: .ref a :: st) :=
  fun H lo ls hP hD hS hl => va_lald C.1 C.2.1 C.2.2.2.2.2.2.2.1.1 hP q0 4 he rfl (q_in_vp hi) hd (K H lo ls hP hD hS hl)
theorem q_dald (C : q_C p s m args meth c code nL ret Ts own D cc N0) {a n : Nat} (q0 : Nat) {f : Nat → UInt64} (he : ws[q0]? = some (a, .inl (cc 5, n, .inr (.inr (.inr (.inl f)))))) {i : Int32} (hi : q_in i n) (hd : decode code pc = .ok (.daload, 1)) (K : q_WA p l e R s m args below meth c D N0 nL Q kc ks ws (pc + 1) lv (.double (f i.toNatClampNeg) :: st)) : q_WA p l e R s m args below meth c D N0 nL Q kc ks ws pc lv (.int i :: .ref a :: st) :=
  fun H lo ls hP hD hS hl => va_dald C.1 C.2.1 C.2.2.2.2.2.2.2.1.1 hP q0 5 he rfl (q_in_vp hi) hd (K H lo ls hP hD hS hl)
theorem LW.lald (hW : LW cc g ga xo xd ad S E ws) (C : q_C p s m args meth c code nL ret Ts own D cc N0) (hd : decode code pc = .ok (.laload, 1)) (K : q_WA p l e R s m args below meth c D N0 nL Q kc ks ws (pc + 1) lv (.long (S.2.2.1 0) :: st)) : q_WA p l e R s m args below meth c D N0 nL Q kc ks ws pc lv (.int (0 : Int32) :: .ref xo :: st) := by
  obtain ⟨T, hp, -⟩ := hW.cls
  exact q_perm hp (q_lald C 22 (f := S.2.2.1) rfl ⟨by decide, by decide⟩ hd (q_perm hp.symm K))
theorem LW.dald (hW : LW cc g ga xo xd ad S E ws) (C : q_C p s m args meth c code nL ret Ts own D cc N0) (hd : decode code pc = .ok (.daload, 1)) (K : q_WA p l e R s m args below meth c D N0 nL Q kc ks ws (pc + 1) lv (.double (S.2.2.2 0) :: st)) : q_WA p l e R s m args below meth c D N0 nL Q kc ks ws pc lv (.int (0 : Int32) :: .ref xd :: st) := by
  obtain ⟨T, hp, -⟩ := hW.cls
  exact q_perm hp (q_dald C 23 (f := S.2.2.2) rfl ⟨by decide, by decide⟩ hd (q_perm hp.symm K))
/-- the double's row first -/
theorem LW.clsd (h : LW cc g ga xo xd ad S E ws) : ∃ T, ws.Perm (cw cc g S.2.1 ++ (ld5 cc xd S.2.2.2 :: T)) ∧ ∀ S' : LSt, S'.1 = S.1 → S'.2.2.1 = S.2.2.1 → LW cc g ga xo xd ad S' E (cw cc g S'.2.1 ++ (ld5 cc xd S'.2.2.2 :: T)) := by
  obtain ⟨T, hp, hb⟩ := h.cls
  refine ⟨lo4 cc xo S.2.2.1 :: T, hp.trans (List.Perm.append_left _ (List.Perm.swap _ _ _)), fun S' e1 e2 => ?_⟩
  obtain ⟨y, h1, h2⟩ := hb S' e1
  rw [← e2]
  exact ⟨y, h1, (List.Perm.append_left _ (List.Perm.swap _ _ _)).trans h2⟩
end QLR
/-- what leastStates may make -/
def lstK (M : MS) : Nat := if M.2.1 2 = 5 then 1620 else 972
