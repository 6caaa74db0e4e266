theorem perm_zoa {α : Type} (Z O A : α) (T : List α) : (Z :: O :: A :: T).Perm (A :: Z :: (T ++ [O])) := by
  refine (List.Perm.cons Z (List.Perm.swap A O T)).trans ?_
  refine (List.Perm.swap A Z (O :: T)).trans ?_
  exact List.Perm.cons A (List.Perm.cons Z (List.perm_append_comm (l₁ := [O]) (l₂ := T)))
theorem sb_cpy0' {α : Type} {f g : Nat → α} {n j : Nat} (h : j < n) : va_cpy f g 0 0 n j = f j := by
  rw [pk_cpy_in (Nat.zero_le _) (by omega)]
  congr 1
  omega
section QL7
variable {p : Program} {l : Launch} {e : Env} {R : Room} {s : State} {m : MethodId} {args : Array Value} {below : List Frame} {meth : Method} {c : Code} {D : va_G} {cc : Nat → ClassId} {N0 nL : Nat} {Q : State → Prop} {kc ks : Nat} {ws : va_W} {pc : Nat} {lv : List (Nat × Value)} {st : List Value} {code : ByteArray} {ret : Option FieldType} {Ts : List Cond} {own : String}
variable {a w n : Nat} {ad : Nat → Nat} {RR : Nat → Nat → Int32} {mo : Int32} {E : va_W}
/-- fewer cells -/
theorem q_drop {ws' J : va_W} (h : ws.Perm (ws' ++ J)) (K : q_WA p l e R s m args below meth c D N0 nL Q kc ks ws' pc lv st) : q_WA p l e R s m args below meth c D N0 nL Q kc ks ws pc lv st := by
  refine q_perm h ?_
  refine q_part (ws' := ws') (fun H hP => va_P_sub (fun _ hx => List.mem_append_left _ hx) hP) (fun hD => ?_) K
  rw [va_D_mem] at hD ⊢
  rw [List.map_append] at hD
  exact ⟨(List.nodup_append.mp hD.1).1, fun q hq => hD.2 q (List.mem_append_left _ hq)⟩
theorem lr_split {k : Nat} (hk : k < n) : (lr cc ad w n RR).Perm ((ad k, .inl (cc 0, w, .inl (RR k))) :: ((List.range n).erase k).map (fun j => (ad j, (.inl (cc 0, w, .inl (RR j)) : va_E)))) := by
  have h := (List.perm_cons_erase (List.mem_range.mpr hk)).map (fun j => (ad j, (.inl (cc 0, w, .inl (RR j)) : va_E)))
  exact h
theorem lr_congr {ad2 : Nat → Nat} {RR2 : Nat → Nat → Int32} (h : ∀ k, k < n → ad2 k = ad k ∧ RR2 k = RR k) : lr cc ad2 w n RR2 = lr cc ad w n RR := by
  apply List.map_congr_left
  intro k hk
  rw [(h k (List.mem_range.mp hk)).1, (h k (List.mem_range.mp hk)).2]
def rupd (RR : Nat → Nat → Int32) (k : Nat) (f : Nat → Int32) : Nat → Nat → Int32 := fun j => if j = k then f else RR j
def aupd (ad : Nat → Nat) (k q : Nat) : Nat → Nat := fun j => if j = k then q else ad j
theorem lr_upd {k : Nat} {f : Nat → Int32} (hk : k < n) : (lr cc ad w n (rupd RR k f)).Perm ((ad k, .inl (cc 0, w, .inl f)) :: ((List.range n).erase k).map (fun j => (ad j, (.inl (cc 0, w, .inl (RR j)) : va_E)))) := by
  refine (lr_split (RR := rupd RR k f) hk).trans ?_
  have e : ((List.range n).erase k).map (fun j => (ad j, (.inl (cc 0, w, .inl (rupd RR k f j)) : va_E))) = ((List.range n).erase k).map (fun j => (ad j, (.inl (cc 0, w, .inl (RR j)) : va_E))) := by
    apply List.map_congr_left
    intro j hj
    have hne : j ≠ k := fun e => by
      subst e
      exact (List.Nodup.not_mem_erase List.nodup_range) hj
    rw [show rupd RR k f j = RR j from if_neg hne]
  rw [e, show rupd RR k f k = f from if_pos rfl]
theorem lr_push {q : Nat} {f : Nat → Int32} : lr cc (aupd ad n q) w (n + 1) (rupd RR n f) = lr cc ad w n RR ++ [(q, .inl (cc 0, w, .inl f))] := by
  unfold lr
  rw [List.range_succ, List.map_append]
  congr 1
  · exact lr_congr (fun k hk => ⟨if_neg (by omega), if_neg (by omega)⟩)
  · show [(aupd ad n q n, _)] = _
    rw [show aupd ad n q n = q from if_pos rfl, show rupd RR n f n = f from if_pos rfl]
theorem l_rald (C : q_C p s m args meth c code nL ret Ts own D cc N0) {k : Nat} {j : Int32} (hW : lW cc a ad w n RR mo E ws) (hk : k < n) (hj : q_in j w) (hd : decode code pc = .ok (.iaload, 1)) (K : q_WA p l e R s m args below meth c D N0 nL Q kc ks ws (pc + 1) lv (.int (RR k j.toNatClampNeg) :: st)) : q_WA p l e R s m args below meth c D N0 nL Q kc ks ws pc lv (.int j :: .ref (ad k) :: st) := by
  obtain ⟨q0, hq⟩ := List.getElem?_of_mem (hW.row hk)
  exact q_iald C q0 hq hj hd K
theorem l_cast (C : q_C p s m args meth c code nL ret Ts own D cc N0) {k index : Nat} (hW : lW cc a ad w n RR mo E ws) (hk : k < n) (hl2 : Cond.classLink own index "[I" ∈ Ts) (hd : decode code pc = .ok (.checkcast index, 3)) (K : q_WA p l e R s m args below meth c D N0 nL Q kc ks ws (pc + 3) lv (.ref (ad k) :: st)) : q_WA p l e R s m args below meth c D N0 nL Q kc ks ws pc lv (.ref (ad k) :: st) := by
  obtain ⟨q0, hq⟩ := List.getElem?_of_mem (hW.row hk)
  exact q_castI C q0 hq hl2 hd K
theorem l_rast (C : q_C p s m args meth c code nL ret Ts own D cc N0) {k : Nat} {j v : Int32} (hW : lW cc a ad w n RR mo E ws) (hk : k < n) (hj : q_in j w) (hd : decode code pc = .ok (.iastore, 1)) (K : ∀ ws', lW cc a ad w n (rupd RR k (upd (RR k) j.toNatClampNeg v)) mo E ws' → q_WA p l e R s m args below meth c D N0 nL Q kc ks ws' (pc + 1) lv st) : q_WA p l e R s m args below meth c D N0 nL Q kc ks ws pc lv (.int v :: .int j :: .ref (ad k) :: st) := by
  obtain ⟨y, rfl, hok, hp⟩ := hW
  let T := ((List.range n).erase k).map (fun j => (ad j, (.inl (cc 0, w, .inl (RR j)) : va_E)))
  have h1 : ws.Perm ((ad k, .inl (cc 0, w, .inl (RR k))) :: ((a, q_al y.1 y.2.1 (nI n)) :: (la cc y ++ T)) ++ E) := by
    refine hp.trans (List.Perm.append_right _ ?_)
    refine List.Perm.trans ?_ (List.perm_middle (l₁ := (a, q_al y.1 y.2.1 (nI n)) :: la cc y))
    exact List.Perm.append_left ((a, q_al y.1 y.2.1 (nI n)) :: la cc y) (lr_split hk)
  refine q_perm h1 ?_
  refine q_iast C 0 rfl hj hd (ws1 := ((ad k, .inl (cc 0, w, .inl (upd (RR k) j.toNatClampNeg v))) :: ((a, q_al y.1 y.2.1 (nI n)) :: (la cc y ++ T))) ++ E) rfl ?_
  refine K _ ⟨y, rfl, hok, ?_⟩
  refine List.Perm.append_right _ (List.Perm.symm ?_)
  refine List.Perm.trans ?_ (List.perm_middle (l₁ := (a, q_al y.1 y.2.1 (nI n)) :: la cc y))
  exact List.Perm.append_left ((a, q_al y.1 y.2.1 (nI n)) :: la cc y) (lr_upd hk)
theorem q_anyR {q w : Nat} {f : Nat → Int32} (h : (q, (.inl (cc 0, w, .inl f) : va_E)) ∈ ws) : q_Any D cc N0 ws q :=
  (q_anyI (D := D) (N0 := N0) (ws := [(q, (.inl (cc 0, w, .inl f) : va_E))]) (q0 := 0) rfl).mono (fun x hx => by rw [List.mem_singleton.mp hx]; exact h)
theorem l_add (C : q_C p s m args meth c code nL ret Ts own D cc N0) {idx count q : Nat} {f : Nat → Int32} (hW : lW cc a ad w n RR mo ((q, .inl (cc 0, w, .inl f)) :: E) ws) (hn : n < 64) (hG : GoodIn Ts (va_wsF own idx RJx4a65c ⟨"java/util/List", "add", "(Ljava/lang/Object;)Z"⟩ yJx4a65c_add_9ea2d wsJx4a65c_add_9ea2d)) (hR : 10 ≤ R.frames ∧ 400 ≤ R.locals) (hs : (st.map fun v => v.category).sum ≤ 8) (hd : decode code pc = .ok (.invokeinterface idx count, 5)) (hf : kc + 1 ≤ R.cells ∧ ks + 100 ≤ R.slots)
    (K : ∀ ws', lW cc a (aupd ad n q) w (n + 1) (rupd RR n f) (mo + 1) E ws' → q_WA p l e R s m args below meth c D N0 nL Q (kc + 1) (ks + 100) ws' (pc + 5) lv (.int 1 :: st)) : q_WA p l e R s m args below meth c D N0 nL Q kc ks ws pc lv (.ref q :: .ref a :: st) := by
  obtain ⟨y, rfl, ⟨h1, h2, h3, h4, h5⟩, hp⟩ := hW
  by_cases hc : y.2.2.1 = 0
  · have hn0 : n = 0 := by omega
    subst hn0
    have hla : la cc y = [] := if_pos hc
    have hp1 : ws.Perm ((a, q_al y.1 (cc 8) 0) :: (q, .inl (cc 0, w, .inl f)) :: E) := by
      have := hp
      rw [lp, hla, h1 hc] at this
      exact this
    refine q_perm hp1 ?_
    refine q_callF (n := 1) (As := [.ref q]) (rest := st) C (c_al_addA l D cc N0 ((q, .inl (cc 0, w, .inl f)) :: E) a q y.1 (fun z => q_anyR (List.mem_cons_of_mem _ (List.mem_cons_of_mem _ List.mem_cons_self)))) hG rfl (by decide +kernel) ⟨by decide, by decide, by decide +kernel⟩ ⟨Nat.le_trans (Nat.le_of_ble_eq_true rfl) hR.1, Nat.le_trans (Nat.le_of_ble_eq_true rfl) hR.2⟩ (show ((a, q_al y.1 (cc 8) 0) :: (q, .inl (cc 0, w, .inl f)) :: E)[0]? = some (a, q_al y.1 (cc 8) 0) from rfl) rfl rfl rfl hs hd ⟨hf.1, by omega⟩ ?_
    rintro _ _ ⟨rfl, z, rfl⟩
    refine q_wid (k := kc + 1) (n := ks + 100) (Nat.le_refl _) (by omega) ?_
    refine K _ ⟨(y.1 + 1, z, 10, va_up (fun _ => none) 0 (some q)), rfl, ⟨fun h => absurd h (show ¬ (10 : Nat) = 0 by decide), (show 0 + 1 ≤ 10 by decide), Or.inr (show 2 ≤ 10 by decide), (show 10 ≤ 100 by decide), fun k hk => ?_⟩, ?_⟩
    · have : k = 0 := by omega
      subst this
      rfl
    · rw [lp, lr_push]
      exact List.Perm.swap _ _ _
  · have hla : la cc y = [(y.2.1, q_ar cc y.2.2.1 y.2.2.2)] := if_neg hc
    have hp1 : ws.Perm ((a, q_al y.1 y.2.1 (nI n)) :: (y.2.1, q_ar cc y.2.2.1 y.2.2.2) :: (lr cc ad w n RR ++ (q, .inl (cc 0, w, .inl f)) :: E)) := by
      have := hp
      rw [lp, hla] at this
      exact this
    have hq : ∀ X : va_W, (q, (.inl (cc 0, w, .inl f) : va_E)) ∈ X ++ (lr cc ad w n RR ++ (q, .inl (cc 0, w, .inl f)) :: E) := fun X => List.mem_append_right _ (List.mem_append_right _ List.mem_cons_self)
    refine q_perm hp1 ?_
    by_cases hcap : n < y.2.2.1
    · refine q_callF (n := 1) (As := [.ref q]) (rest := st) C (c_al_addB l D cc N0 (lr cc ad w n RR ++ (q, .inl (cc 0, w, .inl f)) :: E) a y.2.1 q y.2.2.1 n y.1 y.2.2.2 hcap (by omega) (q_anyR (hq [_, _]))) hG rfl (by decide +kernel) ⟨by decide, by decide, by decide +kernel⟩ ⟨Nat.le_trans (Nat.le_of_ble_eq_true rfl) hR.1, Nat.le_trans (Nat.le_of_ble_eq_true rfl) hR.2⟩ (show ((a, q_al y.1 y.2.1 (nI n)) :: (y.2.1, q_ar cc y.2.2.1 y.2.2.2) :: (lr cc ad w n RR ++ (q, .inl (cc 0, w, .inl f)) :: E))[0]? = some (a, q_al y.1 y.2.1 (nI n)) from rfl) rfl rfl rfl hs hd ⟨by omega, by omega⟩ ?_
      rintro _ _ ⟨rfl, rfl⟩
      refine q_wid (k := kc + 1) (n := ks + 100) (by omega) (by omega) ?_
      refine K _ ⟨(y.1 + 1, y.2.1, y.2.2.1, va_up y.2.2.2 n (some q)), rfl, ⟨h1, by show n + 1 ≤ y.2.2.1; omega, h3, h4, fun k hk => ?_⟩, ?_⟩
      · show va_up y.2.2.2 n (some q) k = some (aupd ad n q k)
        by_cases e : k = n
        · subst e
          simp [va_up, aupd]
        · simp only [va_up, aupd, if_neg e]
          exact h5 k (by omega)
      · rw [lp, lr_push, la, if_neg hc]
        simp only [List.append_assoc, List.cons_append, List.nil_append, List.singleton_append]
        exact List.Perm.refl _
    · have hcn : y.2.2.1 = n := by omega
      have hel : ∀ (X : va_W) (i : Nat), i < n → ∀ z : Nat, y.2.2.2 i = some z → q_Any D cc N0 (X ++ (lr cc ad w n RR ++ (q, .inl (cc 0, w, .inl f)) :: E)) z := by
        intro X i hi z hz
        rw [h5 i hi] at hz
        cases hz
        exact q_anyR (List.mem_append_right _ (List.mem_append_left _ (lr_mem hi)))
      rw [hcn]
      refine q_callF (n := 1) (As := [.ref q]) (rest := st) C (c_al_addC l D cc N0 (lr cc ad w n RR ++ (q, .inl (cc 0, w, .inl f)) :: E) a y.2.1 q n y.1 y.2.2.2 (by omega) (by omega) (hel [_, _]) (fun z => q_anyR (hq [_, _, _]))) hG rfl (by decide +kernel) ⟨by decide, by decide, by decide +kernel⟩ ⟨Nat.le_trans (Nat.le_of_ble_eq_true rfl) hR.1, Nat.le_trans (Nat.le_of_ble_eq_true rfl) hR.2⟩ (show ((a, q_al y.1 y.2.1 (nI n)) :: (y.2.1, q_ar cc n y.2.2.2) :: (lr cc ad w n RR ++ (q, .inl (cc 0, w, .inl f)) :: E))[0]? = some (a, q_al y.1 y.2.1 (nI n)) from rfl) rfl rfl rfl hs hd ⟨by omega, by omega⟩ ?_
      rintro _ _ ⟨rfl, z, rfl⟩
      refine q_wid (k := kc + 1) (n := ks + 100) (by omega) (by omega) ?_
      let y2 : LY := (y.1 + 1, z, n + n / 2, va_up (va_cpy y.2.2.2 (fun _ => none) 0 0 n) n (some q))
      refine q_drop (ws' := lp cc a (aupd ad n q) w (n + 1) (rupd RR n f) y2 ++ E) (J := [(y.2.1, q_ar cc n y.2.2.2)]) ?_ (K _ ⟨y2, rfl, ⟨fun h => absurd h (by show ¬ n + n / 2 = 0; omega), by show n + 1 ≤ n + n / 2; omega, Or.inr (by show 2 ≤ n + n / 2; omega), by show n + n / 2 ≤ 100; omega, fun k hk => ?_⟩, List.Perm.refl _⟩)
      · rw [lp, lr_push, la, if_neg (show ¬ y2.2.2.1 = 0 by show ¬ n + n / 2 = 0; omega)]
        simp only [List.append_assoc, List.cons_append, List.nil_append, List.singleton_append]
        refine (perm_zoa _ _ _ (lr cc ad w n RR ++ (q, .inl (cc 0, w, .inl f)) :: E)).trans ?_
        simp only [List.append_assoc, List.cons_append]
        exact List.Perm.refl _
      · show va_up (va_cpy y.2.2.2 (fun _ => none) 0 0 n) n (some q) k = some (aupd ad n q k)
        by_cases e : k = n
        · subst e
          simp [va_up, aupd]
        · simp only [va_up, aupd, if_neg e]
          rw [sb_cpy0' (by omega)]
          exact h5 k (by omega)
theorem l_clear (C : q_C p s m args meth c code nL ret Ts own D cc N0) {idx count : Nat} (hW : lW cc a ad w n RR mo E ws) (hG : GoodIn Ts (va_wsF own idx RJx4a65c ⟨"java/util/List", "clear", "()V"⟩ yJx4a65c_clear_da8c8 wsJx4a65c_clear_da8c8)) (hR : 1 ≤ R.frames ∧ 30 ≤ R.locals) (hs : (st.map fun v => v.category).sum ≤ 8) (hd : decode code pc = .ok (.invokeinterface idx count, 5)) (hf : kc ≤ R.cells ∧ ks ≤ R.slots)
    (K : ∀ ws', lW cc a ad w 0 RR (mo + 1) E ws' → q_WA p l e R s m args below meth c D N0 nL Q kc ks ws' (pc + 5) lv st) : q_WA p l e R s m args below meth c D N0 nL Q kc ks ws pc lv (.ref a :: st) := by
  obtain ⟨y, rfl, ⟨h1, h2, h3, h4, h5⟩, hp⟩ := hW
  by_cases hc : y.2.2.1 = 0
  · have hn0 : n = 0 := by omega
    subst hn0
    have hla : la cc y = [] := if_pos hc
    have hp1 : ws.Perm ((a, q_al y.1 y.2.1 0) :: E) := by
      have := hp
      rw [lp, hla] at this
      exact this
    refine q_perm hp1 ?_
    refine q_callF (n := 0) (As := []) (rest := st) C (c_al_clear0 l D cc N0 E a y.2.1 y.1 0 rfl) hG rfl (by decide +kernel) ⟨by decide, by decide, by decide +kernel⟩ ⟨hR.1, by have := hR.2; show 8 + (4 + 11) + 0 ≤ _; omega⟩ (show ((a, q_al y.1 y.2.1 0) :: E)[0]? = some (a, q_al y.1 y.2.1 0) from rfl) rfl rfl rfl hs hd hf ?_
    refine q_after (rv := none) rfl rfl rfl ?_
    refine K _ ⟨(y.1 + 1, y.2.1, y.2.2.1, y.2.2.2), rfl, ⟨h1, h2, h3, h4, h5⟩, ?_⟩
    rw [lp, la, if_pos hc]
    exact List.Perm.refl _
  · have hla : la cc y = [(y.2.1, q_ar cc y.2.2.1 y.2.2.2)] := if_neg hc
    have hp1 : ws.Perm ((a, q_al y.1 y.2.1 (nI n)) :: (y.2.1, q_ar cc y.2.2.1 y.2.2.2) :: (lr cc ad w n RR ++ E)) := by
      have := hp
      rw [lp, hla] at this
      exact this
    refine q_perm hp1 ?_
    refine q_callF (n := 0) (As := []) (rest := st) C (c_al_clear l D cc N0 (lr cc ad w n RR ++ E) a y.2.1 y.2.2.1 n y.1 y.2.2.2 h2 (by omega)) hG rfl (by decide +kernel) ⟨by decide, by decide, by decide +kernel⟩ ⟨hR.1, by have := hR.2; show 8 + (4 + 11) + 0 ≤ _; omega⟩ (show ((a, q_al y.1 y.2.1 (nI n)) :: (y.2.1, q_ar cc y.2.2.1 y.2.2.2) :: (lr cc ad w n RR ++ E))[0]? = some (a, q_al y.1 y.2.1 (nI n)) from rfl) rfl rfl rfl hs hd hf ?_
    rintro _ _ ⟨rfl, el', rfl⟩
    let y2 : LY := (y.1 + 1, y.2.1, y.2.2.1, el')
    refine q_drop (ws' := lp cc a ad w 0 RR y2 ++ E) (J := lr cc ad w n RR) ?_ (K _ ⟨y2, rfl, ⟨h1, Nat.zero_le _, h3, h4, fun k hk => absurd hk (Nat.not_lt_zero _)⟩, List.Perm.refl _⟩)
    rw [lp, la, if_neg (show ¬ y2.2.2.1 = 0 from hc)]
    exact List.Perm.cons _ (List.Perm.cons _ List.perm_append_comm)
end QL7
