section QL5
variable {p : Program} {l : Launch} {e : Env} {R : Room} {s : State} {m : MethodId} {args : Array Value} {below : List Frame} {meth : Method} {c : Code} {D : va_G} {cc : Nat → ClassId} {N0 nL : Nat} {Q : State → Prop} {kc ks : Nat} {ws : va_W} {pc : Nat} {lv : List (Nat × Value)} {st : List Value} {code : ByteArray} {ret : Option FieldType} {Ts : List Cond} {own : String}
theorem q_back5 {mc ms : Nat} {rest : List Value} {ls : Array Slot} {H : Heap} {lo : List Loc} {a : Array Value} {post : Option Value → va_W → Prop} (hr : va_Run5 p l e R s m args below meth c H lo kc ks mc ms (F0 m pc ls st) rest (q_Q D N0 post a) (q_A N0)) (hN : N0 ≤ s.heap.size) (hS : va_S (q_A N0) s.heap H lo) (hl : lv_has ls nL lv)
    (K : ∀ (rv : Option Value) (w1 : va_W), post rv w1 → q_WA p l e R s m args below meth c D N0 nL Q (kc + mc) (ks + ms) w1 (pc + 5) lv (rv.toList ++ rest)) : W p l e R s m args below meth c H lo kc ks Q (F0 m pc ls st) := by
  intro T hT X
  obtain ⟨v, st₀, t, T', L, h0, X', hL, e1, e2, ⟨⟨rv, w1, hv, hp, hP1, hD1⟩, hz, hk⟩, st⟩ := hr T hT X
  cases hv
  rw [h0] at hz hk
  obtain ⟨t2, a1, b1⟩ := K v w1 hp T'.heap (lo ++ L) ls (e1 ▸ hP1) hD1 ⟨Nat.le_trans hS.1 (by rw [e1]; exact hz), fun q h1 h2 => by rw [e1, hk q (Nat.lt_of_lt_of_le h1 hS.1) h2]; exact hS.2.1 q h1 h2, fun q hq => by
      rcases List.mem_append.mp hq with h | h
      · exact hS.2.2 q h
      · exact hL q h⟩ hl T' rfl X'
  exact ⟨t2, st t2 a1, b1⟩
theorem q_callF {x y : MethodName} {w2 w2' : List Cond} {code2 : ByteArray} {nL2 : Nat} {ret2 : Option FieldType} {fr lo2 mc ms n idx count b ci N q0 : Nat} {Cn : String} {T : u_T} {fs As rest : List Value} {post : Option Value → va_W → Prop} (C : q_C p s m args meth c code nL ret Ts own D cc N0) (hM : q_Met l y w2 fr lo2 D cc N0 ws (.ref b :: As) post mc ms) (hG : GoodIn Ts (va_wsF own idx Cn x y w2)) (hw : w2 = .code y code2 nL2 ret2 :: w2') (hF : (Cn, x, y) ∈ q_FL) (hds : q_dsc x n)
    (hR : fr + 1 ≤ R.frames ∧ 8 + (nL2 + 11) + lo2 ≤ R.locals) (he : ws[q0]? = some (b, .inr (ci, fs))) (hc : vwCl[ci]? = some (Cn, T, N)) (hn : As.length = n) (hst : st = As.reverse ++ .ref b :: rest) (hW : (rest.map fun v => v.category).sum ≤ 8) (hd : decode code pc = .ok (.invokeinterface idx count, 5)) (hf : kc + mc ≤ R.cells ∧ ks + ms ≤ R.slots)
    (K : ∀ (rv : Option Value) (w1 : va_W), post rv w1 → q_WA p l e R s m args below meth c D N0 nL Q (kc + mc) (ks + ms) w1 (pc + 5) lv (rv.toList ++ rest)) : q_WA p l e R s m args below meth c D N0 nL Q kc ks ws pc lv st := by
  intro H lo ls hP hD hS hl
  obtain ⟨hx, hb, hr, hml, hown, hts, hlocks, hK, hN, hH⟩ := C
  subst hst
  exact q_back5 (va_runF (hK.1.1 ci _ hc).2 ⟨hx, hb, hml, hown, hts⟩ hM (va_cwF n hts hG hw rfl rfl (hK.2.2.1 _ hF) hds hR) ⟨q_blind, va_recv hK.1 hP hc he, q_pre hK hN hH hP hD hS⟩ rfl hn hl.1 rfl (lv_room hW) hd hf) hN hS hl K
theorem q_aaldZ (C : q_C p s m args meth c code nL ret Ts own D cc N0) {a n : Nat} (q0 : Nat) {f : Nat → Option Nat} (he : ws[q0]? = some (a, .inl (cc 3, n, .inr (.inr (.inr (.inr f)))))) {i : Int32} (hin : q_in i n) {v : Nat} (hv : f i.toNatClampNeg = some v) (hd : decode code pc = .ok (.aaload, 1)) (K : q_WA p l e R s m args below meth c D N0 nL Q kc ks ws (pc + 1) lv (.ref v :: st)) : q_WA p l e R s m args below meth c D N0 nL Q kc ks ws pc lv (.int i :: .ref a :: st) := by
  intro H lo ls hP hD hS hl
  have hlt : i.toNatClampNeg < n := hin.2
  refine W.aald (v := va_rf (f i.toNatClampNeg)) (ty := .array .boolean) C.1 C.2.1 (hP q0 _ he) ((C.2.2.2.2.2.2.2.1.1.2 3 _ rfl).1 n (fun j => va_rf (f j))) rfl (fun q => by cases q) (by show ¬ (i < 0 ∨ (arrV _ _ _).slots.size ≤ _); rw [arrV_size]; exact q_in_vp hin) (by show (arrV _ _ _).slots[_]? = _; rw [arrV_read _ _ hlt]) rfl rfl hd (by rw [hv]; exact K H lo ls hP hD hS hl)
theorem q_castI (C : q_C p s m args meth c code nL ret Ts own D cc N0) {index a n : Nat} (q0 : Nat) {f : Nat → Int32} (he : ws[q0]? = some (a, .inl (cc 0, n, .inl f))) (hl2 : Cond.classLink own index "[I" ∈ Ts) (hd : decode code pc = .ok (.checkcast index, 3)) (K : q_WA p l e R s m args below meth c D N0 nL Q kc ks ws (pc + 3) lv (.ref a :: st)) : q_WA p l e R s m args below meth c D N0 nL Q kc ks ws pc lv (.ref a :: st) :=
  fun H lo ls hP hD hS hl => va_castA C.1 C.2.1 C.2.2.2.2.1 (C.2.2.2.2.2.1 _ hl2) hP q0 he (C.2.2.2.2.2.2.2.1.1.2 0 _ rfl).2 hd (K H lo ls hP hD hS hl)
end QL5
/-! one list of rows of ints: y: how often changed, its row of references, how long that is, what it holds -/
abbrev LY : Type := Int32 × Nat × Nat × (Nat → Option Nat)
def lr (cc : Nat → ClassId) (ad : Nat → Nat) (w n : Nat) (R : Nat → Nat → Int32) : va_W := (List.range n).map (fun k => (ad k, .inl (cc 0, w, .inl (R k))))
def la (cc : Nat → ClassId) (y : LY) : va_W := if y.2.2.1 = 0 then [] else [(y.2.1, q_ar cc y.2.2.1 y.2.2.2)]
def lp (cc : Nat → ClassId) (a : Nat) (ad : Nat → Nat) (w n : Nat) (R : Nat → Nat → Int32) (y : LY) : va_W := (a, q_al y.1 y.2.1 (nI n)) :: (la cc y ++ lr cc ad w n R)
def lok (cc : Nat → ClassId) (ad : Nat → Nat) (n : Nat) (y : LY) : Prop := (y.2.2.1 = 0 → y.2.1 = cc 8) ∧ n ≤ y.2.2.1 ∧ (y.2.2.1 = 0 ∨ 2 ≤ y.2.2.1) ∧ y.2.2.1 ≤ 100 ∧ ∀ k, k < n → y.2.2.2 k = some (ad k)
def lW (cc : Nat → ClassId) (a : Nat) (ad : Nat → Nat) (w n : Nat) (R : Nat → Nat → Int32) (mo : Int32) (E ws : va_W) : Prop := ∃ y : LY, y.1 = mo ∧ lok cc ad n y ∧ ws.Perm (lp cc a ad w n R y ++ E)
theorem lr_mem {cc : Nat → ClassId} {ad : Nat → Nat} {w n : Nat} {R : Nat → Nat → Int32} {k : Nat} (hk : k < n) : (ad k, (.inl (cc 0, w, .inl (R k)) : va_E)) ∈ lr cc ad w n R := List.mem_map.mpr ⟨k, List.mem_range.mpr hk, rfl⟩
section QL6
variable {p : Program} {l : Launch} {e : Env} {R : Room} {s : State} {m : MethodId} {args : Array Value} {below : List Frame} {meth : Method} {c : Code} {D : va_G} {cc : Nat → ClassId} {N0 nL : Nat} {Q : State → Prop} {kc ks : Nat} {ws : va_W} {pc : Nat} {lv : List (Nat × Value)} {st : List Value} {code : ByteArray} {ret : Option FieldType} {Ts : List Cond} {own : String}
variable {a w n : Nat} {ad : Nat → Nat} {RR : Nat → Nat → Int32} {mo : Int32} {E : va_W}
theorem lW.lt (h : lW cc a ad w n RR mo E ws) : n ≤ 100 := by
  obtain ⟨y, -, ⟨-, h2, -, h4, -⟩, -⟩ := h
  omega
/-- the list's cell in front -/
theorem lW.front (h : lW cc a ad w n RR mo E ws) : ∃ (ev : Nat) (E2 : va_W), ws.Perm ((a, q_al mo ev (nI n)) :: E2) := by
  obtain ⟨y, rfl, hk, hp⟩ := h
  exact ⟨_, _, hp⟩
/-- the list's cell and its row in front -/
theorem lW.front2 (h : lW cc a ad w n RR mo E ws) (hn : 0 < n) : ∃ (ev cap : Nat) (el : Nat → Option Nat) (E2 : va_W), ws.Perm ((a, q_al mo ev (nI n)) :: (ev, q_ar cc cap el) :: E2) ∧ n ≤ cap ∧ cap ≤ 100 ∧ ∀ k, k < n → el k = some (ad k) := by
  obtain ⟨y, rfl, ⟨h1, h2, h3, h4, h5⟩, hp⟩ := h
  refine ⟨y.2.1, y.2.2.1, y.2.2.2, lr cc ad w n RR ++ E, ?_, h2, h4, h5⟩
  have : la cc y = [(y.2.1, q_ar cc y.2.2.1 y.2.2.2)] := if_neg (by omega)
  rw [lp, this] at hp
  exact hp
theorem lW.row (h : lW cc a ad w n RR mo E ws) {k : Nat} (hk : k < n) : (ad k, (.inl (cc 0, w, .inl (RR k)) : va_E)) ∈ ws := by
  obtain ⟨y, -, -, hp⟩ := h
  exact hp.mem_iff.mpr (List.mem_append_left _ (List.mem_cons_of_mem _ (List.mem_append_right _ (lr_mem hk))))
theorem lW.perm {ws' : va_W} (h : lW cc a ad w n RR mo E ws) (hp : ws'.Perm ws) : lW cc a ad w n RR mo E ws' := by
  obtain ⟨y, h1, h2, h3⟩ := h
  exact ⟨y, h1, h2, hp.trans h3⟩
theorem lW.out {E' : va_W} (h : lW cc a ad w n RR mo E ws) (hp : E.Perm E') : lW cc a ad w n RR mo E' ws := by
  obtain ⟨y, h1, h2, h3⟩ := h
  exact ⟨y, h1, h2, h3.trans (List.Perm.append_left _ hp)⟩
theorem q_pm {ws' : va_W} (hp : ws.Perm ws') (K : q_WA p l e R s m args below meth c D N0 nL Q kc ks ws' pc lv st) : q_WA p l e R s m args below meth c D N0 nL Q kc ks ws pc lv st := q_perm hp K
/-- a list's calls -/
theorem l_size (C : q_C p s m args meth c code nL ret Ts own D cc N0) {idx count fr lo : Nat} (hW : lW cc a ad w n RR mo E ws) (hG : GoodIn Ts (va_wsF own idx RJx4a65c ⟨"java/util/List", "size", "()I"⟩ yJx4a65c_size_8abf5 wsJx4a65c_size_8abf5)) (hR : 1 ≤ R.frames ∧ 30 ≤ R.locals) (hs : (st.map fun v => v.category).sum ≤ 8) (hd : decode code pc = .ok (.invokeinterface idx count, 5)) (hf : kc ≤ R.cells ∧ ks ≤ R.slots) (K : q_WA p l e R s m args below meth c D N0 nL Q kc ks ws (pc + 5) lv (.int (nI n) :: st)) : q_WA p l e R s m args below meth c D N0 nL Q kc ks ws pc lv (.ref a :: st) := by
  obtain ⟨ev, E2, hp⟩ := hW.front
  refine q_perm hp ?_
  refine q_callF (As := []) (rest := st) C (c_al_size l D cc N0 E2 a ev mo (nI n)) hG rfl (by decide +kernel) ⟨by decide, by decide, by decide +kernel⟩ ⟨hR.1, by have := hR.2; show 8 + (1 + 11) + 0 ≤ _; omega⟩ (show ((a, q_al mo ev (nI n)) :: E2)[0]? = some (a, q_al mo ev (nI n)) from rfl) rfl rfl rfl hs hd hf ?_
  refine q_after (rv := some (.int (nI n))) rfl rfl rfl ?_
  exact q_perm hp.symm K
theorem l_isEmpty (C : q_C p s m args meth c code nL ret Ts own D cc N0) {idx count : Nat} (hW : lW cc a ad w n RR mo E ws) (hG : GoodIn Ts (va_wsF own idx RJx4a65c ⟨"java/util/List", "isEmpty", "()Z"⟩ yJx4a65c_isEmpty_aae02 wsJx4a65c_isEmpty_aae02)) (hR : 1 ≤ R.frames ∧ 30 ≤ R.locals) (hs : (st.map fun v => v.category).sum ≤ 8) (hd : decode code pc = .ok (.invokeinterface idx count, 5)) (hf : kc ≤ R.cells ∧ ks ≤ R.slots) (K : q_WA p l e R s m args below meth c D N0 nL Q kc ks ws (pc + 5) lv (.int (q_b (decide (n = 0))) :: st)) : q_WA p l e R s m args below meth c D N0 nL Q kc ks ws pc lv (.ref a :: st) := by
  obtain ⟨ev, E2, hp⟩ := hW.front
  have hlt := hW.lt
  have hb : decide (nI n = 0) = decide (n = 0) := by
    rw [decide_eq_decide]
    exact nI_eq (a := n) (b := 0) (by omega) (by omega)
  refine q_perm hp ?_
  refine q_callF (As := []) (rest := st) C (c_al_isEmpty l D cc N0 E2 a ev mo (nI n)) hG rfl (by decide +kernel) ⟨by decide, by decide, by decide +kernel⟩ ⟨hR.1, by have := hR.2; show 8 + (1 + 11) + 0 ≤ _; omega⟩ (show ((a, q_al mo ev (nI n)) :: E2)[0]? = some (a, q_al mo ev (nI n)) from rfl) rfl rfl rfl hs hd hf ?_
  refine q_after (rv := some (.int (q_b (decide (n = 0))))) rfl (by rw [hb]) rfl ?_
  exact q_perm hp.symm K
theorem l_get (C : q_C p s m args meth c code nL ret Ts own D cc N0) {idx count : Nat} {i : Int32} (hW : lW cc a ad w n RR mo E ws) (hi : q_in i n) (hG : GoodIn Ts (va_wsF own idx RJx4a65c ⟨"java/util/List", "get", "(I)Ljava/lang/Object;"⟩ yJx4a65c_get_915e3 wsJx4a65c_get_915e3)) (hR : 4 ≤ R.frames ∧ 100 ≤ R.locals) (hs : (st.map fun v => v.category).sum ≤ 8) (hd : decode code pc = .ok (.invokeinterface idx count, 5)) (hf : kc ≤ R.cells ∧ ks ≤ R.slots) (K : q_WA p l e R s m args below meth c D N0 nL Q kc ks ws (pc + 5) lv (.ref (ad i.toNatClampNeg) :: st)) : q_WA p l e R s m args below meth c D N0 nL Q kc ks ws pc lv (.int i :: .ref a :: st) := by
  obtain ⟨ev, cap, el, E2, hp, h1, h2, h3⟩ := hW.front2 (Nat.lt_of_le_of_lt (Nat.zero_le _) hi.2)
  refine q_perm hp ?_
  have hlt : i < nI n := by
    obtain ⟨j, hj, e⟩ := nI_of hi.1
    have h6 := hi.2
    rw [e, nI_clamp hj] at h6
    rw [e]
    exact nI_lt h6 (by omega)
  refine q_callF (n := 1) (As := [.int i]) (rest := st) C (c_al_get l D cc N0 E2 a ev (ad i.toNatClampNeg) cap mo (nI n) i el hi.1 hlt ⟨hi.1, Nat.lt_of_lt_of_le hi.2 h1⟩ (h3 _ hi.2)) hG rfl (by decide +kernel) ⟨by decide, by decide, by decide +kernel⟩ ⟨Nat.le_trans (Nat.le_of_ble_eq_true rfl) hR.1, Nat.le_trans (Nat.le_of_ble_eq_true rfl) hR.2⟩ (show ((a, q_al mo ev (nI n)) :: (ev, q_ar cc cap el) :: E2)[0]? = some (a, q_al mo ev (nI n)) from rfl) rfl rfl rfl hs hd hf ?_
  refine q_after (rv := some (.ref (ad i.toNatClampNeg))) rfl rfl rfl ?_
  exact q_perm hp.symm K
theorem l_iter (C : q_C p s m args meth c code nL ret Ts own D cc N0) {idx count : Nat} (hW : lW cc a ad w n RR mo E ws) (hG : GoodIn Ts (va_wsF own idx RJx4a65c ⟨"java/util/List", "iterator", "()Ljava/util/Iterator;"⟩ yJx4a65c_iterator_32c93 wsJx4a65c_iterator_32c93)) (hR : 3 ≤ R.frames ∧ 90 ≤ R.locals) (hs : (st.map fun v => v.category).sum ≤ 8) (hd : decode code pc = .ok (.invokeinterface idx count, 5)) (hf : kc + 1 ≤ R.cells ∧ ks + 4 ≤ R.slots) (K : ∀ (it : Nat) (ws' : va_W), lW cc a ad w n RR mo ((it, q_it 0 (-1) mo a) :: E) ws' → q_WA p l e R s m args below meth c D N0 nL Q (kc + 1) (ks + 4) ws' (pc + 5) lv (.ref it :: st)) : q_WA p l e R s m args below meth c D N0 nL Q kc ks ws pc lv (.ref a :: st) := by
  obtain ⟨y, rfl, hk, hp⟩ := hW
  refine q_perm hp ?_
  refine q_callF (As := []) (rest := st) C (c_al_iter l D cc N0 ((la cc y ++ lr cc ad w n RR) ++ E) a y.2.1 y.1 (nI n)) hG rfl (by decide +kernel) ⟨by decide, by decide, by decide +kernel⟩ ⟨Nat.le_trans (Nat.le_of_ble_eq_true rfl) hR.1, Nat.le_trans (Nat.le_of_ble_eq_true rfl) hR.2⟩ (show (lp cc a ad w n RR y ++ E)[0]? = some (a, q_al y.1 y.2.1 (nI n)) from rfl) rfl rfl rfl hs hd hf ?_
  rintro _ _ ⟨it, rfl, rfl⟩
  exact K it _ ⟨y, rfl, hk, (List.perm_middle (l₁ := lp cc a ad w n RR y)).symm⟩
theorem l_has (C : q_C p s m args meth c code nL ret Ts own D cc N0) {idx count it : Nat} {cur last xp : Int32} (hW : lW cc a ad w n RR mo ((it, q_it cur last xp a) :: E) ws) (hG : GoodIn Ts (va_wsF own idx RJx35411 ⟨"java/util/Iterator", "hasNext", "()Z"⟩ yJx35411_hasNext_aae02 wsJx35411_hasNext_aae02)) (hR : 1 ≤ R.frames ∧ 30 ≤ R.locals) (hs : (st.map fun v => v.category).sum ≤ 8) (hd : decode code pc = .ok (.invokeinterface idx count, 5)) (hf : kc ≤ R.cells ∧ ks ≤ R.slots) (K : q_WA p l e R s m args below meth c D N0 nL Q kc ks ws (pc + 5) lv (.int (q_b (!decide (cur = nI n))) :: st)) : q_WA p l e R s m args below meth c D N0 nL Q kc ks ws pc lv (.ref it :: st) := by
  obtain ⟨y, rfl, hk, hp⟩ := hW
  have hp2 := hp.trans (List.perm_middle (l₁ := lp cc a ad w n RR y))
  refine q_perm hp2 ?_
  refine q_callF (As := []) (rest := st) C (c_it_has l D cc N0 ((la cc y ++ lr cc ad w n RR) ++ E) it a y.2.1 cur last xp y.1 (nI n)) hG rfl (by decide +kernel) ⟨by decide, by decide, by decide +kernel⟩ ⟨hR.1, by have := hR.2; show 8 + (1 + 11) + 0 ≤ _; omega⟩ (show ((it, q_it cur last xp a) :: (lp cc a ad w n RR y ++ E))[0]? = some (it, q_it cur last xp a) from rfl) rfl rfl rfl hs hd hf ?_
  refine q_after (rv := some (.int (q_b (!decide (cur = nI n))))) rfl rfl rfl ?_
  exact q_perm hp2.symm K
theorem l_next (C : q_C p s m args meth c code nL ret Ts own D cc N0) {idx count it : Nat} {cur last : Int32} (hW : lW cc a ad w n RR mo ((it, q_it cur last mo a) :: E) ws) (hi : q_in cur n) (hG : GoodIn Ts (va_wsF own idx RJx35411 ⟨"java/util/Iterator", "next", "()Ljava/lang/Object;"⟩ yJx35411_next_0502b wsJx35411_next_0502b)) (hR : 3 ≤ R.frames ∧ 90 ≤ R.locals) (hs : (st.map fun v => v.category).sum ≤ 8) (hd : decode code pc = .ok (.invokeinterface idx count, 5)) (hf : kc ≤ R.cells ∧ ks ≤ R.slots) (K : ∀ ws' : va_W, lW cc a ad w n RR mo ((it, q_it (cur + 1) cur mo a) :: E) ws' → q_WA p l e R s m args below meth c D N0 nL Q kc ks ws' (pc + 5) lv (.ref (ad cur.toNatClampNeg) :: st)) : q_WA p l e R s m args below meth c D N0 nL Q kc ks ws pc lv (.ref it :: st) := by
  obtain ⟨y, rfl, hk, hp⟩ := hW
  have hk2 := hk
  obtain ⟨h1, h2, h3, h4, h5⟩ := hk2
  have hp2 := hp.trans (List.perm_middle (l₁ := lp cc a ad w n RR y))
  have hla : la cc y = [(y.2.1, q_ar cc y.2.2.1 y.2.2.2)] := if_neg (by have := hi.2; omega)
  have hlp : lp cc a ad w n RR y = (a, q_al y.1 y.2.1 (nI n)) :: (y.2.1, q_ar cc y.2.2.1 y.2.2.2) :: lr cc ad w n RR := by rw [lp, hla]; rfl
  rw [hlp] at hp2
  refine q_perm hp2 ?_
  have hlt : cur < nI n ∧ cur < nI y.2.2.1 := by
    obtain ⟨j, hj, e⟩ := nI_of hi.1
    have h6 := hi.2
    rw [e, nI_clamp hj] at h6
    rw [e]
    exact ⟨nI_lt h6 (by omega), nI_lt (by omega) (by omega)⟩
  refine q_callF (As := []) (rest := st) C (c_it_next l D cc N0 (lr cc ad w n RR ++ E) it a y.2.1 (ad cur.toNatClampNeg) y.2.2.1 cur last y.1 (nI n) y.2.2.2 hlt.1 hlt.2 ⟨hi.1, Nat.lt_of_lt_of_le hi.2 h2⟩ (h5 _ hi.2)) hG rfl (by decide +kernel) ⟨by decide, by decide, by decide +kernel⟩ ⟨Nat.le_trans (Nat.le_of_ble_eq_true rfl) hR.1, Nat.le_trans (Nat.le_of_ble_eq_true rfl) hR.2⟩ (show ((it, q_it cur last y.1 a) :: (a, q_al y.1 y.2.1 (nI n)) :: (y.2.1, q_ar cc y.2.2.1 y.2.2.2) :: (lr cc ad w n RR ++ E))[0]? = some (it, q_it cur last y.1 a) from rfl) rfl rfl rfl hs hd hf ?_
  refine q_after (rv := some (.ref (ad cur.toNatClampNeg))) (w0 := (it, q_it (cur + 1) cur y.1 a) :: (lp cc a ad w n RR y ++ E)) (by rw [hlp]; rfl) rfl rfl ?_
  exact K _ ⟨y, rfl, hk, (List.perm_middle (l₁ := lp cc a ad w n RR y)).symm⟩
end QL6
