/-! a list of small Integers -/
def iB (cc : Nat → ClassId) (a n : Nat) (y : LY) : va_W := (a, q_al y.1 y.2.1 (nI n)) :: la cc y
def iW (cc : Nat → ClassId) (a n : Nat) (v : Nat → Nat) (mo : Int32) (E ws : va_W) : Prop := ∃ y : LY, y.1 = mo ∧ (lok cc (fun k => cc (1000 + v k)) n y ∧ ∀ k, k < n → v k < 256) ∧ ws.Perm (iB cc a n y ++ E)
section QIL
variable {p : Program} {l : Launch} {e : Env} {R : Room} {s : State} {m : MethodId} {args : Array Value} {below : List Frame} {meth : Method} {c : Code} {D : va_G} {cc : Nat → ClassId} {N0 nL : Nat} {Q : State → Prop} {kc ks : Nat} {ws : va_W} {pc : Nat} {lv : List (Nat × Value)} {st : List Value} {code : ByteArray} {ret : Option FieldType} {Ts : List Cond} {own : String} {a n : Nat} {v : Nat → Nat} {mo : Int32} {E : va_W}
theorem iW.out {E' : va_W} (h : iW cc a n v mo E ws) (hp : E.Perm E') : iW cc a n v mo E' ws := by
  obtain ⟨y, h1, h2, h3⟩ := h
  exact ⟨y, h1, h2, h3.trans (List.Perm.append_left _ hp)⟩
theorem i_size (C : q_C p s m args meth c code nL ret Ts own D cc N0) {idx count : Nat} (hW : iW cc a n v mo E ws) (hG : GoodIn Ts (va_wsF own idx RJx4a65c ⟨"java/util/List", "size", "()I"⟩ yJx4a65c_size_8abf5 wsJx4a65c_size_8abf5)) (hR : 1 ≤ R.frames ∧ 30 ≤ R.locals) (hs : (st.map fun v => v.category).sum ≤ 8) (hd : decode code pc = .ok (.invokeinterface idx count, 5)) (hf : kc ≤ R.cells ∧ ks ≤ R.slots) (K : q_WA p l e R s m args below meth c D N0 nL Q kc ks ws (pc + 5) lv (.int (nI n) :: st)) : q_WA p l e R s m args below meth c D N0 nL Q kc ks ws pc lv (.ref a :: st) := by
  obtain ⟨y, rfl, hk, hp⟩ := hW
  refine q_perm hp ?_
  refine q_callF (As := []) (rest := st) C (c_al_size l D cc N0 (la cc y ++ E) a y.2.1 y.1 (nI n)) hG rfl (by decide +kernel) ⟨by decide, by decide, by decide +kernel⟩ ⟨hR.1, by have := hR.2; show 8 + (1 + 11) + 0 ≤ _; omega⟩ (show (iB cc a n y ++ E)[0]? = some (a, q_al y.1 y.2.1 (nI n)) from rfl) rfl rfl rfl hs hd hf ?_
  refine q_after (rv := some (.int (nI n))) (w0 := iB cc a n y ++ E) rfl rfl rfl ?_
  exact q_perm hp.symm K
theorem i_iter (C : q_C p s m args meth c code nL ret Ts own D cc N0) {idx count : Nat} (hW : iW cc a n v mo E ws) (hG : GoodIn Ts (va_wsF own idx RJx4a65c ⟨"java/util/List", "iterator", "()Ljava/util/Iterator;"⟩ yJx4a65c_iterator_32c93 wsJx4a65c_iterator_32c93)) (hR : 3 ≤ R.frames ∧ 90 ≤ R.locals) (hs : (st.map fun v => v.category).sum ≤ 8) (hd : decode code pc = .ok (.invokeinterface idx count, 5)) (hf : kc + 1 ≤ R.cells ∧ ks + 4 ≤ R.slots) (K : ∀ (it : Nat) (ws' : va_W), iW cc a n v mo ((it, q_it 0 (-1) mo a) :: E) ws' → q_WA p l e R s m args below meth c D N0 nL Q (kc + 1) (ks + 4) ws' (pc + 5) lv (.ref it :: st)) : q_WA p l e R s m args below meth c D N0 nL Q kc ks ws pc lv (.ref a :: st) := by
  obtain ⟨y, rfl, hk, hp⟩ := hW
  refine q_perm hp ?_
  refine q_callF (As := []) (rest := st) C (c_al_iter l D cc N0 (la cc y ++ E) a y.2.1 y.1 (nI n)) hG rfl (by decide +kernel) ⟨by decide, by decide, by decide +kernel⟩ ⟨Nat.le_trans (Nat.le_of_ble_eq_true rfl) hR.1, Nat.le_trans (Nat.le_of_ble_eq_true rfl) hR.2⟩ (show (iB cc a n y ++ E)[0]? = some (a, q_al y.1 y.2.1 (nI n)) from rfl) rfl rfl rfl hs hd hf ?_
  rintro _ _ ⟨it, rfl, rfl⟩
  exact K it _ ⟨y, rfl, hk, (List.perm_middle (l₁ := iB cc a n y)).symm⟩
theorem i_has (C : q_C p s m args meth c code nL ret Ts own D cc N0) {idx count it : Nat} {cur last xp : Int32} (hW : iW cc a n v mo ((it, q_it cur last xp a) :: E) ws) (hG : GoodIn Ts (va_wsF own idx RJx35411 ⟨"java/util/Iterator", "hasNext", "()Z"⟩ yJx35411_hasNext_aae02 wsJx35411_hasNext_aae02)) (hR : 1 ≤ R.frames ∧ 30 ≤ R.locals) (hs : (st.map fun v => v.category).sum ≤ 8) (hd : decode code pc = .ok (.invokeinterface idx count, 5)) (hf : kc ≤ R.cells ∧ ks ≤ R.slots) (K : q_WA p l e R s m args below meth c D N0 nL Q kc ks ws (pc + 5) lv (.int (q_b (!decide (cur = nI n))) :: st)) : q_WA p l e R s m args below meth c D N0 nL Q kc ks ws pc lv (.ref it :: st) := by
  obtain ⟨y, rfl, hk, hp⟩ := hW
  have hp2 := hp.trans (List.perm_middle (l₁ := iB cc a n y))
  refine q_perm hp2 ?_
  refine q_callF (As := []) (rest := st) C (c_it_has l D cc N0 (la cc y ++ E) it a y.2.1 cur last xp y.1 (nI n)) hG rfl (by decide +kernel) ⟨by decide, by decide, by decide +kernel⟩ ⟨hR.1, by have := hR.2; show 8 + (1 + 11) + 0 ≤ _; omega⟩ (show ((it, q_it cur last xp a) :: (iB cc a n y ++ E))[0]? = some (it, q_it cur last xp a) from rfl) rfl rfl rfl hs hd hf ?_
  refine q_after (rv := some (.int (q_b (!decide (cur = nI n))))) (w0 := (it, q_it cur last xp a) :: (iB cc a n y ++ E)) rfl rfl rfl ?_
  exact q_perm hp2.symm K
theorem i_next (C : q_C p s m args meth c code nL ret Ts own D cc N0) {idx count it : Nat} {cur last : Int32} (hW : iW cc a n v mo ((it, q_it cur last mo a) :: E) ws) (hi : q_in cur n) (hG : GoodIn Ts (va_wsF own idx RJx35411 ⟨"java/util/Iterator", "next", "()Ljava/lang/Object;"⟩ yJx35411_next_0502b wsJx35411_next_0502b)) (hR : 3 ≤ R.frames ∧ 90 ≤ R.locals) (hs : (st.map fun v => v.category).sum ≤ 8) (hd : decode code pc = .ok (.invokeinterface idx count, 5)) (hf : kc ≤ R.cells ∧ ks ≤ R.slots) (K : ∀ ws' : va_W, iW cc a n v mo ((it, q_it (cur + 1) cur mo a) :: E) ws' → q_WA p l e R s m args below meth c D N0 nL Q kc ks ws' (pc + 5) lv (.ref (cc (1000 + v cur.toNatClampNeg)) :: st)) : q_WA p l e R s m args below meth c D N0 nL Q kc ks ws pc lv (.ref it :: st) := by
  obtain ⟨y, rfl, hk, hp⟩ := hW
  have hk2 := hk
  obtain ⟨⟨h1, h2, h3, h4, h5⟩, -⟩ := hk2
  have hp2 := hp.trans (List.perm_middle (l₁ := iB cc a n y))
  have hla : la cc y = [(y.2.1, q_ar cc y.2.2.1 y.2.2.2)] := if_neg (by have := hi.2; omega)
  have hlp : iB cc a n y = [(a, q_al y.1 y.2.1 (nI n)), (y.2.1, q_ar cc y.2.2.1 y.2.2.2)] := by rw [iB, hla]
  rw [hlp] at hp2
  refine q_perm hp2 ?_
  have hlt : cur < nI n ∧ cur < nI y.2.2.1 := by
    obtain ⟨j, hj, e⟩ := nI_of hi.1
    have h6 := hi.2
    rw [e, nI_clamp hj] at h6
    rw [e]
    exact ⟨nI_lt h6 (by omega), nI_lt (by omega) (by omega)⟩
  refine q_callF (As := []) (rest := st) C (c_it_next l D cc N0 E it a y.2.1 (cc (1000 + v cur.toNatClampNeg)) y.2.2.1 cur last y.1 (nI n) y.2.2.2 hlt.1 hlt.2 ⟨hi.1, Nat.lt_of_lt_of_le hi.2 h2⟩ (h5 _ hi.2)) hG rfl (by decide +kernel) ⟨by decide, by decide, by decide +kernel⟩ ⟨Nat.le_trans (Nat.le_of_ble_eq_true rfl) hR.1, Nat.le_trans (Nat.le_of_ble_eq_true rfl) hR.2⟩ (show ((it, q_it cur last y.1 a) :: (a, q_al y.1 y.2.1 (nI n)) :: (y.2.1, q_ar cc y.2.2.1 y.2.2.2) :: E)[0]? = some (it, q_it cur last y.1 a) from rfl) rfl rfl rfl hs hd hf ?_
  refine q_after (rv := some (.ref (cc (1000 + v cur.toNatClampNeg)))) (w0 := (it, q_it (cur + 1) cur y.1 a) :: (iB cc a n y ++ E)) (by rw [hlp]; rfl) rfl rfl ?_
  exact K _ ⟨y, rfl, hk, (List.perm_middle (l₁ := iB cc a n y)).symm⟩
theorem i_add (C : q_C p s m args meth c code nL ret Ts own D cc N0) {idx count k : Nat} (hW : iW cc a n v mo E ws) (hn : n < 64) (hk : k < 256) (hG : GoodIn Ts (va_wsF own idx RJx4a65c ⟨"java/util/List", "add", "(Ljava/lang/Object;)Z"⟩ yJx4a65c_add_9ea2d wsJx4a65c_add_9ea2d)) (hR : 10 ≤ R.frames ∧ 400 ≤ R.locals) (hs : (st.map fun v => v.category).sum ≤ 8) (hd : decode code pc = .ok (.invokeinterface idx count, 5)) (hf : kc + 1 ≤ R.cells ∧ ks + 100 ≤ R.slots) (K : ∀ ws', iW cc a (n + 1) (nup v n k) (mo + 1) E ws' → q_WA p l e R s m args below meth c D N0 nL Q (kc + 1) (ks + 100) ws' (pc + 5) lv (.int 1 :: st)) : q_WA p l e R s m args below meth c D N0 nL Q kc ks ws pc lv (.ref (cc (1000 + k)) :: .ref a :: st) := by
  obtain ⟨y, rfl, ⟨⟨h1, h2, h3, h4, h5⟩, h6⟩, hp⟩ := hW
  have hv6 : ∀ j, j < n + 1 → nup v n k j < 256 := by
    intro j hj
    by_cases e : j = n
    · subst e
      rw [nup_s]
      exact hk
    · rw [nup_n e]
      exact h6 j (by omega)
  have hup : ∀ (f : Nat → Option Nat), (∀ j, j < n → f j = some (cc (1000 + v j))) → ∀ j, j < n + 1 → va_up f n (some (cc (1000 + k))) j = some (cc (1000 + nup v n k j)) := by
    intro f hf j hj
    by_cases e : j = n
    · subst e
      rw [nup_s]
      simp [va_up]
    · rw [nup_n e]
      simp only [va_up, if_neg e]
      exact hf j (by omega)
  by_cases hc : y.2.2.1 = 0
  · have hn0 : n = 0 := by omega
    subst hn0
    have hla : la cc y = [] := if_pos hc
    have hp1 : ws.Perm ((a, q_al y.1 (cc 8) 0) :: E) := by
      have := hp
      rw [iB, hla, h1 hc] at this
      exact this
    refine q_perm hp1 ?_
    refine q_callF (n := 1) (As := [.ref (cc (1000 + k))]) (rest := st) C (c_al_addA l D cc N0 E a (cc (1000 + k)) y.1 (fun z => q_nAny hk)) hG rfl (by decide +kernel) ⟨by decide, by decide, by decide +kernel⟩ ⟨Nat.le_trans (Nat.le_of_ble_eq_true rfl) hR.1, Nat.le_trans (Nat.le_of_ble_eq_true rfl) hR.2⟩ (show ((a, q_al y.1 (cc 8) 0) :: E)[0]? = some (a, q_al y.1 (cc 8) 0) from rfl) rfl rfl rfl hs hd ⟨hf.1, by omega⟩ ?_
    rintro _ _ ⟨rfl, z, rfl⟩
    refine q_wid (k := kc + 1) (n := ks + 100) (Nat.le_refl _) (by omega) ?_
    refine K _ ⟨(y.1 + 1, z, 10, va_up (fun _ => none) 0 (some (cc (1000 + k)))), rfl, ⟨⟨fun h => absurd h (show ¬ (10 : Nat) = 0 by decide), (show 0 + 1 ≤ 10 by decide), Or.inr (show 2 ≤ 10 by decide), (show 10 ≤ 100 by decide), hup _ (fun j hj => absurd hj (by omega))⟩, hv6⟩, ?_⟩
    exact List.Perm.swap _ _ _
  · have hla : la cc y = [(y.2.1, q_ar cc y.2.2.1 y.2.2.2)] := if_neg hc
    have hp1 : ws.Perm ((a, q_al y.1 y.2.1 (nI n)) :: (y.2.1, q_ar cc y.2.2.1 y.2.2.2) :: E) := by
      have := hp
      rw [iB, hla] at this
      exact this
    refine q_perm hp1 ?_
    by_cases hcap : n < y.2.2.1
    · refine q_callF (n := 1) (As := [.ref (cc (1000 + k))]) (rest := st) C (c_al_addB l D cc N0 E a y.2.1 (cc (1000 + k)) y.2.2.1 n y.1 y.2.2.2 hcap (by omega) (q_nAny hk)) hG rfl (by decide +kernel) ⟨by decide, by decide, by decide +kernel⟩ ⟨Nat.le_trans (Nat.le_of_ble_eq_true rfl) hR.1, Nat.le_trans (Nat.le_of_ble_eq_true rfl) hR.2⟩ (show ((a, q_al y.1 y.2.1 (nI n)) :: (y.2.1, q_ar cc y.2.2.1 y.2.2.2) :: E)[0]? = some (a, q_al y.1 y.2.1 (nI n)) from rfl) rfl rfl rfl hs hd ⟨by omega, by omega⟩ ?_
      rintro _ _ ⟨rfl, rfl⟩
      refine q_wid (k := kc + 1) (n := ks + 100) (by omega) (by omega) ?_
      refine K _ ⟨(y.1 + 1, y.2.1, y.2.2.1, va_up y.2.2.2 n (some (cc (1000 + k)))), rfl, ⟨⟨h1, by show n + 1 ≤ y.2.2.1; omega, h3, h4, hup _ h5⟩, hv6⟩, ?_⟩
      rw [iB, la, if_neg hc]
      exact List.Perm.refl _
    · have hcn : y.2.2.1 = n := by omega
      have hel : ∀ (X : va_W) (i : Nat), i < n → ∀ z : Nat, y.2.2.2 i = some z → q_Any D cc N0 X z := by
        intro X i hi z hz
        rw [h5 i hi] at hz
        cases hz
        exact q_nAny (h6 i hi)
      rw [hcn]
      refine q_callF (n := 1) (As := [.ref (cc (1000 + k))]) (rest := st) C (c_al_addC l D cc N0 E a y.2.1 (cc (1000 + k)) n y.1 y.2.2.2 (by omega) (by omega) (hel _) (fun z => q_nAny hk)) hG rfl (by decide +kernel) ⟨by decide, by decide, by decide +kernel⟩ ⟨Nat.le_trans (Nat.le_of_ble_eq_true rfl) hR.1, Nat.le_trans (Nat.le_of_ble_eq_true rfl) hR.2⟩ (show ((a, q_al y.1 y.2.1 (nI n)) :: (y.2.1, q_ar cc n y.2.2.2) :: E)[0]? = some (a, q_al y.1 y.2.1 (nI n)) from rfl) rfl rfl rfl hs hd ⟨by omega, by omega⟩ ?_
      rintro _ _ ⟨rfl, z, rfl⟩
      refine q_wid (k := kc + 1) (n := ks + 100) (by omega) (by omega) ?_
      let y2 : LY := (y.1 + 1, z, n + n / 2, va_up (va_cpy y.2.2.2 (fun _ => none) 0 0 n) n (some (cc (1000 + k))))
      refine q_drop (ws' := iB cc a (n + 1) y2 ++ E) (J := [(y.2.1, q_ar cc n y.2.2.2)]) ?_ (K _ ⟨y2, rfl, ⟨⟨fun h => absurd h (by show ¬ n + n / 2 = 0; omega), by show n + 1 ≤ n + n / 2; omega, Or.inr (by show 2 ≤ n + n / 2; omega), by show n + n / 2 ≤ 100; omega, hup _ (fun j hj => by rw [sb_cpy0' (by omega)]; exact h5 j hj)⟩, hv6⟩, List.Perm.refl _⟩)
      rw [iB, la, if_neg (show ¬ y2.2.2.1 = 0 by show ¬ n + n / 2 = 0; omega)]
      simp only [List.append_assoc, List.cons_append, List.nil_append, List.singleton_append]
      exact perm_zoa _ _ _ E
end QIL
