/-! the reference's state: M.1 its numbers (20 + i: how often the list i was changed), M.2.1 how many rows a list has, M.2.2.1 the rows, M.2.2.2 the grid -/
abbrev MS : Type := (Nat → Int32) × (Nat → Nat) × (Nat → Nat → Nat → Int32) × (Nat → Nat → Int32)
def nup {α : Type} (f : Nat → α) (k : Nat) (v : α) : Nat → α := fun j => if j = k then v else f j
theorem nup_s {α : Type} {f : Nat → α} {k : Nat} {v : α} : nup f k v k = v := if_pos rfl
theorem nup_n {α : Type} {f : Nat → α} {k j : Nat} {v : α} (h : j ≠ k) : nup f k v j = f j := if_neg h
theorem nup_id {α : Type} {f : Nat → α} {k : Nat} : nup f k (f k) = f := funext fun j => by
  by_cases h : j = k
  · subst h; exact nup_s
  · exact nup_n h
def mset (M : MS) (s : Nat) (v : Int32) : MS := (nup M.1 s v, M.2)
def mlist (M : MS) (i n : Nat) (RR : Nat → Nat → Int32) (mo : Int32) : MS := (nup M.1 (20 + i) mo, nup M.2.1 i n, nup M.2.2.1 i RR, M.2.2.2)
def mgrid (M : MS) (i : Nat) (f : Nat → Int32) : MS := (M.1, M.2.1, M.2.2.1, nup M.2.2.2 i f)
/-- a row's place told anew; a row more; none left -/
def mrow (M : MS) (i k j : Nat) (v : Int32) : MS := (M.1, M.2.1, nup M.2.2.1 i (rupd (M.2.2.1 i) k (upd (M.2.2.1 i k) j v)), M.2.2.2)
def madd (M : MS) (i : Nat) (f : Nat → Int32) : MS := mlist M i (M.2.1 i + 1) (rupd (M.2.2.1 i) (M.2.1 i) f) (M.1 (20 + i) + 1)
def mclr (M : MS) (i : Nat) : MS := mlist M i 0 (M.2.2.1 i) (M.1 (20 + i) + 1)
def wd (i : Nat) : Nat := match i with | 0 => 3 | 1 => 2 | 2 => 3 | 3 => 3 | _ => 2
abbrev mF (ga : Nat → Nat) (M : MS) : List Value := [.int (M.1 0), .ref (ga 1), .int (M.1 2), .int (M.1 3), .int (M.1 4), .int (M.1 5), .int (M.1 6), .int (M.1 7), .int (M.1 8), .ref (ga 2), .int (M.1 10), .ref (ga 3), .ref (ga 4), .ref (ga 5), .int (M.1 14), .int (M.1 15), .ref (ga 6)]
def mB (cc : Nat → ClassId) (ga : Nat → Nat) (M : MS) : va_W := [(ga 0, .inr (12, mF ga M)), (ga 6, .inl (cc 3, 5, .inr (.inr (.inr (.inr fun i => if i < 5 then some (ga (7 + i)) else none))))), (ga 7, .inl (cc 1, 5, .inl (M.2.2.2 0))), (ga 8, .inl (cc 1, 5, .inl (M.2.2.2 1))), (ga 9, .inl (cc 1, 5, .inl (M.2.2.2 2))), (ga 10, .inl (cc 1, 5, .inl (M.2.2.2 3))), (ga 11, .inl (cc 1, 5, .inl (M.2.2.2 4)))]
abbrev mP (cc : Nat → ClassId) (ga : Nat → Nat) (ad : Nat → Nat → Nat) (M : MS) (y : Nat → LY) (i : Nat) : va_W := lp cc (ga (1 + i)) (ad i) (wd i) (M.2.1 i) (M.2.2.1 i) (y i)
def mA (cc : Nat → ClassId) (ga : Nat → Nat) (ad : Nat → Nat → Nat) (M : MS) (y : Nat → LY) (E : va_W) : va_W := mB cc ga M ++ (mP cc ga ad M y 0 ++ (mP cc ga ad M y 1 ++ (mP cc ga ad M y 2 ++ (mP cc ga ad M y 3 ++ (mP cc ga ad M y 4 ++ E)))))
def mW (cc : Nat → ClassId) (ga : Nat → Nat) (ad : Nat → Nat → Nat) (M : MS) (E ws : va_W) : Prop := ∃ y : Nat → LY, (∀ i, i < 5 → (y i).1 = M.1 (20 + i) ∧ lok cc (ad i) (M.2.1 i) (y i)) ∧ ws.Perm (mA cc ga ad M y E)
section QMW
variable {cc : Nat → ClassId} {ga : Nat → Nat} {ad : Nat → Nat → Nat} {M : MS} {E ws : va_W}
theorem mW.perm {ws' : va_W} (h : mW cc ga ad M E ws) (hp : ws'.Perm ws) : mW cc ga ad M E ws' := h.elim fun y hy => ⟨y, hy.1, hp.trans hy.2⟩
theorem mA_out {y : Nat → LY} {E' : va_W} (hp : E.Perm E') : (mA cc ga ad M y E).Perm (mA cc ga ad M y E') := by
  unfold mA
  exact List.Perm.append_left _ (List.Perm.append_left _ (List.Perm.append_left _ (List.Perm.append_left _ (List.Perm.append_left _ (List.Perm.append_left _ hp)))))
theorem mW.out {E' : va_W} (h : mW cc ga ad M E ws) (hp : E.Perm E') : mW cc ga ad M E' ws := h.elim fun y hy => ⟨y, hy.1, hy.2.trans (mA_out hp)⟩
theorem mA_mid {y : Nat → LY} {x : Nat × va_E} : (mA cc ga ad M y (x :: E)).Perm (x :: mA cc ga ad M y E) := by
  unfold mA
  have h : ∀ (A B : va_W), B.Perm (x :: E) ∨ True → (A ++ (x :: E)).Perm (x :: (A ++ E)) := fun A _ _ => List.perm_middle
  refine (List.Perm.append_left _ ((List.Perm.append_left _ ((List.Perm.append_left _ ((List.Perm.append_left _ ((List.Perm.append_left _ List.perm_middle).trans List.perm_middle)).trans List.perm_middle)).trans List.perm_middle)).trans List.perm_middle)).trans List.perm_middle
theorem mW.temp {q : Nat} {x : va_E} (h : mW cc ga ad M ((q, x) :: E) ws) : ∃ T, ws.Perm ((q, x) :: T) ∧ mW cc ga ad M E T ∧ ∀ x', mW cc ga ad M ((q, x') :: E) ((q, x') :: T) := by
  obtain ⟨y, h1, h2⟩ := h
  exact ⟨_, h2.trans mA_mid, ⟨y, h1, List.Perm.refl _⟩, fun x' => ⟨y, h1, mA_mid.symm⟩⟩
theorem mW.cons {q : Nat × va_E} (h : mW cc ga ad M E ws) : mW cc ga ad M (q :: E) (q :: ws) := by
  obtain ⟨y, h1, h2⟩ := h
  exact ⟨y, h1, (List.Perm.cons _ h2).trans mA_mid.symm⟩
theorem mW.obj (h : mW cc ga ad M E ws) : ∃ q0 : Nat, ws[q0]? = some ((ga 0, .inr (12, mF ga M)) : Nat × va_E) := by
  obtain ⟨y, h1, h2⟩ := h
  exact List.getElem?_of_mem (h2.mem_iff.mpr List.mem_cons_self)
theorem mW.base (h : mW cc ga ad M E ws) : ∃ T, ws.Perm (mB cc ga M ++ T) ∧ ∀ M' : MS, M'.2.1 = M.2.1 → M'.2.2.1 = M.2.2.1 → (∀ i, i < 5 → M'.1 (20 + i) = M.1 (20 + i)) → mW cc ga ad M' E (mB cc ga M' ++ T) := by
  obtain ⟨y, h1, h2⟩ := h
  refine ⟨_, h2, fun M' e1 e2 e3 => ⟨y, fun i hi => ?_, ?_⟩⟩
  · rw [e3 i hi, e1]; exact h1 i hi
  · unfold mA mP
    rw [e1, e2]
theorem mW_l0 (h : mW cc ga ad M E ws) : ∃ Rst : va_W, lW cc (ga 1) (ad 0) 3 (M.2.1 0) (M.2.2.1 0) (M.1 20) (Rst ++ E) ws ∧ ∀ (ad' : Nat → Nat) (n' : Nat) (RR' : Nat → Nat → Int32) (mo' : Int32) (E2 ws' : va_W), lW cc (ga 1) ad' 3 n' RR' mo' (Rst ++ E2) ws' → mW cc ga (nup ad 0 ad') (mlist M 0 n' RR' mo') E2 ws' := by
  obtain ⟨y, h1, h2⟩ := h
  have hp : ∀ (ad : Nat → Nat → Nat) (M : MS) (y : Nat → LY) (E : va_W), (mA cc ga ad M y E).Perm (mP cc ga ad M y 0 ++ ((mB cc ga M ++ (mP cc ga ad M y 1 ++ (mP cc ga ad M y 2 ++ (mP cc ga ad M y 3 ++ (mP cc ga ad M y 4))))) ++ E)) := by
    intro ad M y E
    simp only [List.append_assoc]
    unfold mA
    exact List.perm_append_comm_assoc _ _ _
  refine ⟨mB cc ga M ++ (mP cc ga ad M y 1 ++ (mP cc ga ad M y 2 ++ (mP cc ga ad M y 3 ++ (mP cc ga ad M y 4)))), ⟨y 0, (h1 0 (by decide)).1, (h1 0 (by decide)).2, h2.trans (hp ad M y E)⟩, ?_⟩
  rintro ad' n' RR' mo' E2 ws' ⟨y', g1, g2, g3⟩
  refine ⟨nup y 0 y', fun j hj => ?_, g3.trans ((hp (nup ad 0 ad') (mlist M 0 n' RR' mo') (nup y 0 y') E2).symm)⟩
  by_cases e : j = 0
  · subst e
    simp only [nup_s, mlist]
    exact ⟨g1, g2⟩
  · have e2 : 20 + j ≠ 20 + 0 := by omega
    simp only [nup_n e, nup_n e2, mlist]
    exact h1 j hj
theorem mW_l1 (h : mW cc ga ad M E ws) : ∃ Rst : va_W, lW cc (ga 2) (ad 1) 2 (M.2.1 1) (M.2.2.1 1) (M.1 21) (Rst ++ E) ws ∧ ∀ (ad' : Nat → Nat) (n' : Nat) (RR' : Nat → Nat → Int32) (mo' : Int32) (E2 ws' : va_W), lW cc (ga 2) ad' 2 n' RR' mo' (Rst ++ E2) ws' → mW cc ga (nup ad 1 ad') (mlist M 1 n' RR' mo') E2 ws' := by
  obtain ⟨y, h1, h2⟩ := h
  have hp : ∀ (ad : Nat → Nat → Nat) (M : MS) (y : Nat → LY) (E : va_W), (mA cc ga ad M y E).Perm (mP cc ga ad M y 1 ++ ((mB cc ga M ++ (mP cc ga ad M y 0 ++ (mP cc ga ad M y 2 ++ (mP cc ga ad M y 3 ++ (mP cc ga ad M y 4))))) ++ E)) := by
    intro ad M y E
    simp only [List.append_assoc]
    unfold mA
    exact (List.Perm.append_left _ (List.perm_append_comm_assoc _ _ _)).trans (List.perm_append_comm_assoc _ _ _)
  refine ⟨mB cc ga M ++ (mP cc ga ad M y 0 ++ (mP cc ga ad M y 2 ++ (mP cc ga ad M y 3 ++ (mP cc ga ad M y 4)))), ⟨y 1, (h1 1 (by decide)).1, (h1 1 (by decide)).2, h2.trans (hp ad M y E)⟩, ?_⟩
  rintro ad' n' RR' mo' E2 ws' ⟨y', g1, g2, g3⟩
  refine ⟨nup y 1 y', fun j hj => ?_, g3.trans ((hp (nup ad 1 ad') (mlist M 1 n' RR' mo') (nup y 1 y') E2).symm)⟩
  by_cases e : j = 1
  · subst e
    simp only [nup_s, mlist]
    exact ⟨g1, g2⟩
  · have e2 : 20 + j ≠ 20 + 1 := by omega
    simp only [nup_n e, nup_n e2, mlist]
    exact h1 j hj
theorem mW_l2 (h : mW cc ga ad M E ws) : ∃ Rst : va_W, lW cc (ga 3) (ad 2) 3 (M.2.1 2) (M.2.2.1 2) (M.1 22) (Rst ++ E) ws ∧ ∀ (ad' : Nat → Nat) (n' : Nat) (RR' : Nat → Nat → Int32) (mo' : Int32) (E2 ws' : va_W), lW cc (ga 3) ad' 3 n' RR' mo' (Rst ++ E2) ws' → mW cc ga (nup ad 2 ad') (mlist M 2 n' RR' mo') E2 ws' := by
  obtain ⟨y, h1, h2⟩ := h
  have hp : ∀ (ad : Nat → Nat → Nat) (M : MS) (y : Nat → LY) (E : va_W), (mA cc ga ad M y E).Perm (mP cc ga ad M y 2 ++ ((mB cc ga M ++ (mP cc ga ad M y 0 ++ (mP cc ga ad M y 1 ++ (mP cc ga ad M y 3 ++ (mP cc ga ad M y 4))))) ++ E)) := by
    intro ad M y E
    simp only [List.append_assoc]
    unfold mA
    exact (List.Perm.append_left _ ((List.Perm.append_left _ (List.perm_append_comm_assoc _ _ _)).trans (List.perm_append_comm_assoc _ _ _))).trans (List.perm_append_comm_assoc _ _ _)
  refine ⟨mB cc ga M ++ (mP cc ga ad M y 0 ++ (mP cc ga ad M y 1 ++ (mP cc ga ad M y 3 ++ (mP cc ga ad M y 4)))), ⟨y 2, (h1 2 (by decide)).1, (h1 2 (by decide)).2, h2.trans (hp ad M y E)⟩, ?_⟩
  rintro ad' n' RR' mo' E2 ws' ⟨y', g1, g2, g3⟩
  refine ⟨nup y 2 y', fun j hj => ?_, g3.trans ((hp (nup ad 2 ad') (mlist M 2 n' RR' mo') (nup y 2 y') E2).symm)⟩
  by_cases e : j = 2
  · subst e
    simp only [nup_s, mlist]
    exact ⟨g1, g2⟩
  · have e2 : 20 + j ≠ 20 + 2 := by omega
    simp only [nup_n e, nup_n e2, mlist]
    exact h1 j hj
theorem mW_l3 (h : mW cc ga ad M E ws) : ∃ Rst : va_W, lW cc (ga 4) (ad 3) 3 (M.2.1 3) (M.2.2.1 3) (M.1 23) (Rst ++ E) ws ∧ ∀ (ad' : Nat → Nat) (n' : Nat) (RR' : Nat → Nat → Int32) (mo' : Int32) (E2 ws' : va_W), lW cc (ga 4) ad' 3 n' RR' mo' (Rst ++ E2) ws' → mW cc ga (nup ad 3 ad') (mlist M 3 n' RR' mo') E2 ws' := by
  obtain ⟨y, h1, h2⟩ := h
  have hp : ∀ (ad : Nat → Nat → Nat) (M : MS) (y : Nat → LY) (E : va_W), (mA cc ga ad M y E).Perm (mP cc ga ad M y 3 ++ ((mB cc ga M ++ (mP cc ga ad M y 0 ++ (mP cc ga ad M y 1 ++ (mP cc ga ad M y 2 ++ (mP cc ga ad M y 4))))) ++ E)) := by
    intro ad M y E
    simp only [List.append_assoc]
    unfold mA
    exact (List.Perm.append_left _ ((List.Perm.append_left _ ((List.Perm.append_left _ (List.perm_append_comm_assoc _ _ _)).trans (List.perm_append_comm_assoc _ _ _))).trans (List.perm_append_comm_assoc _ _ _))).trans (List.perm_append_comm_assoc _ _ _)
  refine ⟨mB cc ga M ++ (mP cc ga ad M y 0 ++ (mP cc ga ad M y 1 ++ (mP cc ga ad M y 2 ++ (mP cc ga ad M y 4)))), ⟨y 3, (h1 3 (by decide)).1, (h1 3 (by decide)).2, h2.trans (hp ad M y E)⟩, ?_⟩
  rintro ad' n' RR' mo' E2 ws' ⟨y', g1, g2, g3⟩
  refine ⟨nup y 3 y', fun j hj => ?_, g3.trans ((hp (nup ad 3 ad') (mlist M 3 n' RR' mo') (nup y 3 y') E2).symm)⟩
  by_cases e : j = 3
  · subst e
    simp only [nup_s, mlist]
    exact ⟨g1, g2⟩
  · have e2 : 20 + j ≠ 20 + 3 := by omega
    simp only [nup_n e, nup_n e2, mlist]
    exact h1 j hj
theorem mW_l4 (h : mW cc ga ad M E ws) : ∃ Rst : va_W, lW cc (ga 5) (ad 4) 2 (M.2.1 4) (M.2.2.1 4) (M.1 24) (Rst ++ E) ws ∧ ∀ (ad' : Nat → Nat) (n' : Nat) (RR' : Nat → Nat → Int32) (mo' : Int32) (E2 ws' : va_W), lW cc (ga 5) ad' 2 n' RR' mo' (Rst ++ E2) ws' → mW cc ga (nup ad 4 ad') (mlist M 4 n' RR' mo') E2 ws' := by
  obtain ⟨y, h1, h2⟩ := h
  have hp : ∀ (ad : Nat → Nat → Nat) (M : MS) (y : Nat → LY) (E : va_W), (mA cc ga ad M y E).Perm (mP cc ga ad M y 4 ++ ((mB cc ga M ++ (mP cc ga ad M y 0 ++ (mP cc ga ad M y 1 ++ (mP cc ga ad M y 2 ++ (mP cc ga ad M y 3))))) ++ E)) := by
    intro ad M y E
    simp only [List.append_assoc]
    unfold mA
    exact (List.Perm.append_left _ ((List.Perm.append_left _ ((List.Perm.append_left _ ((List.Perm.append_left _ (List.perm_append_comm_assoc _ _ _)).trans (List.perm_append_comm_assoc _ _ _))).trans (List.perm_append_comm_assoc _ _ _))).trans (List.perm_append_comm_assoc _ _ _))).trans (List.perm_append_comm_assoc _ _ _)
  refine ⟨mB cc ga M ++ (mP cc ga ad M y 0 ++ (mP cc ga ad M y 1 ++ (mP cc ga ad M y 2 ++ (mP cc ga ad M y 3)))), ⟨y 4, (h1 4 (by decide)).1, (h1 4 (by decide)).2, h2.trans (hp ad M y E)⟩, ?_⟩
  rintro ad' n' RR' mo' E2 ws' ⟨y', g1, g2, g3⟩
  refine ⟨nup y 4 y', fun j hj => ?_, g3.trans ((hp (nup ad 4 ad') (mlist M 4 n' RR' mo') (nup y 4 y') E2).symm)⟩
  by_cases e : j = 4
  · subst e
    simp only [nup_s, mlist]
    exact ⟨g1, g2⟩
  · have e2 : 20 + j ≠ 20 + 4 := by omega
    simp only [nup_n e, nup_n e2, mlist]
    exact h1 j hj
end QMW
section QMR
variable {p : Program} {l : Launch} {e : Env} {R : Room} {s : State} {m : MethodId} {args : Array Value} {below : List Frame} {meth : Method} {c : Code} {D : va_G} {cc : Nat → ClassId} {N0 nL : Nat} {Q : State → Prop} {kc ks : Nat} {ws : va_W} {pc : Nat} {lv : List (Nat × Value)} {st : List Value} {code : ByteArray} {ret : Option FieldType} {Ts : List Cond} {own : String}
variable {ga : Nat → Nat} {ad : Nat → Nat → Nat} {M : MS} {E : va_W}
theorem m_g_0 (C : q_C p s m args meth c code nL ret Ts own D cc N0) (hW : mW cc ga ad M E ws) {idx : Nat} (hin : ∀ w ∈ wsX90, w ∈ Ts) (hl : Cond.fieldLink own idx "QueryschoolModel" "thrown" "I" ∈ Ts) (hd : decode code pc = .ok (.getfield idx, 3)) (K : q_WA p l e R s m args below meth c D N0 nL Q kc ks ws (pc + 3) lv (.int (M.1 0) :: st)) : q_WA p l e R s m args below meth c D N0 nL Q kc ks ws pc lv (.ref (ga 0) :: st) := by
  obtain ⟨q0, he⟩ := hW.obj
  exact q_get C q0 he rfl hin 0 (by decide) hl rfl hd K
theorem m_p_0 (C : q_C p s m args meth c code nL ret Ts own D cc N0) (hW : mW cc ga ad M E ws) {idx : Nat} (hin : ∀ w ∈ wsX90, w ∈ Ts) (hl : Cond.fieldLink own idx "QueryschoolModel" "thrown" "I" ∈ Ts) {v : Int32}  (hd : decode code pc = .ok (.putfield idx, 3)) (K : ∀ ws', mW cc ga ad (mset M 0 v) E ws' → q_WA p l e R s m args below meth c D N0 nL Q kc ks ws' (pc + 3) lv st) : q_WA p l e R s m args below meth c D N0 nL Q kc ks ws pc lv (.int v :: .ref (ga 0) :: st) := by
  obtain ⟨T, hp, hb⟩ := hW.base
  refine q_perm hp ?_
  refine q_put C 0 rfl rfl hin tyX9 tyX9_ok nmX9 0 (by decide) hl rfl rfl rfl (by show 0 < 17; decide) hd (ws1 := mB cc ga (mset M 0 v) ++ T) rfl ?_
  exact K _ (hb (mset M 0 v) rfl rfl (fun i hi => nup_n (by omega)))
theorem m_g_1 (C : q_C p s m args meth c code nL ret Ts own D cc N0) (hW : mW cc ga ad M E ws) {idx : Nat} (hin : ∀ w ∈ wsX90, w ∈ Ts) (hl : Cond.fieldLink own idx "QueryschoolModel" "concepts" "Ljava/util/List;" ∈ Ts) (hd : decode code pc = .ok (.getfield idx, 3)) (K : q_WA p l e R s m args below meth c D N0 nL Q kc ks ws (pc + 3) lv (.ref (ga 1) :: st)) : q_WA p l e R s m args below meth c D N0 nL Q kc ks ws pc lv (.ref (ga 0) :: st) := by
  obtain ⟨q0, he⟩ := hW.obj
  exact q_get C q0 he rfl hin 1 (by decide) hl rfl hd K
theorem m_g_2 (C : q_C p s m args meth c code nL ret Ts own D cc N0) (hW : mW cc ga ad M E ws) {idx : Nat} (hin : ∀ w ∈ wsX90, w ∈ Ts) (hl : Cond.fieldLink own idx "QueryschoolModel" "points" "I" ∈ Ts) (hd : decode code pc = .ok (.getfield idx, 3)) (K : q_WA p l e R s m args below meth c D N0 nL Q kc ks ws (pc + 3) lv (.int (M.1 2) :: st)) : q_WA p l e R s m args below meth c D N0 nL Q kc ks ws pc lv (.ref (ga 0) :: st) := by
  obtain ⟨q0, he⟩ := hW.obj
  exact q_get C q0 he rfl hin 2 (by decide) hl rfl hd K
theorem m_p_2 (C : q_C p s m args meth c code nL ret Ts own D cc N0) (hW : mW cc ga ad M E ws) {idx : Nat} (hin : ∀ w ∈ wsX90, w ∈ Ts) (hl : Cond.fieldLink own idx "QueryschoolModel" "points" "I" ∈ Ts) {v : Int32}  (hd : decode code pc = .ok (.putfield idx, 3)) (K : ∀ ws', mW cc ga ad (mset M 2 v) E ws' → q_WA p l e R s m args below meth c D N0 nL Q kc ks ws' (pc + 3) lv st) : q_WA p l e R s m args below meth c D N0 nL Q kc ks ws pc lv (.int v :: .ref (ga 0) :: st) := by
  obtain ⟨T, hp, hb⟩ := hW.base
  refine q_perm hp ?_
  refine q_put C 0 rfl rfl hin tyX9 tyX9_ok nmX9 2 (by decide) hl rfl rfl rfl (by show 2 < 17; decide) hd (ws1 := mB cc ga (mset M 2 v) ++ T) rfl ?_
  exact K _ (hb (mset M 2 v) rfl rfl (fun i hi => nup_n (by omega)))
theorem m_g_3 (C : q_C p s m args meth c code nL ret Ts own D cc N0) (hW : mW cc ga ad M E ws) {idx : Nat} (hin : ∀ w ∈ wsX90, w ∈ Ts) (hl : Cond.fieldLink own idx "QueryschoolModel" "answers" "I" ∈ Ts) (hd : decode code pc = .ok (.getfield idx, 3)) (K : q_WA p l e R s m args below meth c D N0 nL Q kc ks ws (pc + 3) lv (.int (M.1 3) :: st)) : q_WA p l e R s m args below meth c D N0 nL Q kc ks ws pc lv (.ref (ga 0) :: st) := by
  obtain ⟨q0, he⟩ := hW.obj
  exact q_get C q0 he rfl hin 3 (by decide) hl rfl hd K
theorem m_p_3 (C : q_C p s m args meth c code nL ret Ts own D cc N0) (hW : mW cc ga ad M E ws) {idx : Nat} (hin : ∀ w ∈ wsX90, w ∈ Ts) (hl : Cond.fieldLink own idx "QueryschoolModel" "answers" "I" ∈ Ts) {v : Int32}  (hd : decode code pc = .ok (.putfield idx, 3)) (K : ∀ ws', mW cc ga ad (mset M 3 v) E ws' → q_WA p l e R s m args below meth c D N0 nL Q kc ks ws' (pc + 3) lv st) : q_WA p l e R s m args below meth c D N0 nL Q kc ks ws pc lv (.int v :: .ref (ga 0) :: st) := by
  obtain ⟨T, hp, hb⟩ := hW.base
  refine q_perm hp ?_
  refine q_put C 0 rfl rfl hin tyX9 tyX9_ok nmX9 3 (by decide) hl rfl rfl rfl (by show 3 < 17; decide) hd (ws1 := mB cc ga (mset M 3 v) ++ T) rfl ?_
  exact K _ (hb (mset M 3 v) rfl rfl (fun i hi => nup_n (by omega)))
theorem m_g_4 (C : q_C p s m args meth c code nL ret Ts own D cc N0) (hW : mW cc ga ad M E ws) {idx : Nat} (hin : ∀ w ∈ wsX90, w ∈ Ts) (hl : Cond.fieldLink own idx "QueryschoolModel" "lies" "I" ∈ Ts) (hd : decode code pc = .ok (.getfield idx, 3)) (K : q_WA p l e R s m args below meth c D N0 nL Q kc ks ws (pc + 3) lv (.int (M.1 4) :: st)) : q_WA p l e R s m args below meth c D N0 nL Q kc ks ws pc lv (.ref (ga 0) :: st) := by
  obtain ⟨q0, he⟩ := hW.obj
  exact q_get C q0 he rfl hin 4 (by decide) hl rfl hd K
theorem m_p_4 (C : q_C p s m args meth c code nL ret Ts own D cc N0) (hW : mW cc ga ad M E ws) {idx : Nat} (hin : ∀ w ∈ wsX90, w ∈ Ts) (hl : Cond.fieldLink own idx "QueryschoolModel" "lies" "I" ∈ Ts) {v : Int32}  (hd : decode code pc = .ok (.putfield idx, 3)) (K : ∀ ws', mW cc ga ad (mset M 4 v) E ws' → q_WA p l e R s m args below meth c D N0 nL Q kc ks ws' (pc + 3) lv st) : q_WA p l e R s m args below meth c D N0 nL Q kc ks ws pc lv (.int v :: .ref (ga 0) :: st) := by
  obtain ⟨T, hp, hb⟩ := hW.base
  refine q_perm hp ?_
  refine q_put C 0 rfl rfl hin tyX9 tyX9_ok nmX9 4 (by decide) hl rfl rfl rfl (by show 4 < 17; decide) hd (ws1 := mB cc ga (mset M 4 v) ++ T) rfl ?_
  exact K _ (hb (mset M 4 v) rfl rfl (fun i hi => nup_n (by omega)))
theorem m_g_5 (C : q_C p s m args meth c code nL ret Ts own D cc N0) (hW : mW cc ga ad M E ws) {idx : Nat} (hin : ∀ w ∈ wsX90, w ∈ Ts) (hl : Cond.fieldLink own idx "QueryschoolModel" "budget" "I" ∈ Ts) (hd : decode code pc = .ok (.getfield idx, 3)) (K : q_WA p l e R s m args below meth c D N0 nL Q kc ks ws (pc + 3) lv (.int (M.1 5) :: st)) : q_WA p l e R s m args below meth c D N0 nL Q kc ks ws pc lv (.ref (ga 0) :: st) := by
  obtain ⟨q0, he⟩ := hW.obj
  exact q_get C q0 he rfl hin 5 (by decide) hl rfl hd K
theorem m_p_5 (C : q_C p s m args meth c code nL ret Ts own D cc N0) (hW : mW cc ga ad M E ws) {idx : Nat} (hin : ∀ w ∈ wsX90, w ∈ Ts) (hl : Cond.fieldLink own idx "QueryschoolModel" "budget" "I" ∈ Ts) {v : Int32}  (hd : decode code pc = .ok (.putfield idx, 3)) (K : ∀ ws', mW cc ga ad (mset M 5 v) E ws' → q_WA p l e R s m args below meth c D N0 nL Q kc ks ws' (pc + 3) lv st) : q_WA p l e R s m args below meth c D N0 nL Q kc ks ws pc lv (.int v :: .ref (ga 0) :: st) := by
  obtain ⟨T, hp, hb⟩ := hW.base
  refine q_perm hp ?_
  refine q_put C 0 rfl rfl hin tyX9 tyX9_ok nmX9 5 (by decide) hl rfl rfl rfl (by show 5 < 17; decide) hd (ws1 := mB cc ga (mset M 5 v) ++ T) rfl ?_
  exact K _ (hb (mset M 5 v) rfl rfl (fun i hi => nup_n (by omega)))
theorem m_g_6 (C : q_C p s m args meth c code nL ret Ts own D cc N0) (hW : mW cc ga ad M E ws) {idx : Nat} (hin : ∀ w ∈ wsX90, w ∈ Ts) (hl : Cond.fieldLink own idx "QueryschoolModel" "z" "I" ∈ Ts) (hd : decode code pc = .ok (.getfield idx, 3)) (K : q_WA p l e R s m args below meth c D N0 nL Q kc ks ws (pc + 3) lv (.int (M.1 6) :: st)) : q_WA p l e R s m args below meth c D N0 nL Q kc ks ws pc lv (.ref (ga 0) :: st) := by
  obtain ⟨q0, he⟩ := hW.obj
  exact q_get C q0 he rfl hin 6 (by decide) hl rfl hd K
theorem m_p_6 (C : q_C p s m args meth c code nL ret Ts own D cc N0) (hW : mW cc ga ad M E ws) {idx : Nat} (hin : ∀ w ∈ wsX90, w ∈ Ts) (hl : Cond.fieldLink own idx "QueryschoolModel" "z" "I" ∈ Ts) {v : Int32}  (hd : decode code pc = .ok (.putfield idx, 3)) (K : ∀ ws', mW cc ga ad (mset M 6 v) E ws' → q_WA p l e R s m args below meth c D N0 nL Q kc ks ws' (pc + 3) lv st) : q_WA p l e R s m args below meth c D N0 nL Q kc ks ws pc lv (.int v :: .ref (ga 0) :: st) := by
  obtain ⟨T, hp, hb⟩ := hW.base
  refine q_perm hp ?_
  refine q_put C 0 rfl rfl hin tyX9 tyX9_ok nmX9 6 (by decide) hl rfl rfl rfl (by show 6 < 17; decide) hd (ws1 := mB cc ga (mset M 6 v) ++ T) rfl ?_
  exact K _ (hb (mset M 6 v) rfl rfl (fun i hi => nup_n (by omega)))
theorem m_g_7 (C : q_C p s m args meth c code nL ret Ts own D cc N0) (hW : mW cc ga ad M E ws) {idx : Nat} (hin : ∀ w ∈ wsX90, w ∈ Ts) (hl : Cond.fieldLink own idx "QueryschoolModel" "teacher" "C" ∈ Ts) (hd : decode code pc = .ok (.getfield idx, 3)) (K : q_WA p l e R s m args below meth c D N0 nL Q kc ks ws (pc + 3) lv (.int (M.1 7) :: st)) : q_WA p l e R s m args below meth c D N0 nL Q kc ks ws pc lv (.ref (ga 0) :: st) := by
  obtain ⟨q0, he⟩ := hW.obj
  exact q_get C q0 he rfl hin 7 (by decide) hl rfl hd K
theorem m_p_7 (C : q_C p s m args meth c code nL ret Ts own D cc N0) (hW : mW cc ga ad M E ws) {idx : Nat} (hin : ∀ w ∈ wsX90, w ∈ Ts) (hl : Cond.fieldLink own idx "QueryschoolModel" "teacher" "C" ∈ Ts) {v : Int32} (hn : narrow .char (.int v) = .int v) (hf : fits .char (.int v) = true) (hd : decode code pc = .ok (.putfield idx, 3)) (K : ∀ ws', mW cc ga ad (mset M 7 v) E ws' → q_WA p l e R s m args below meth c D N0 nL Q kc ks ws' (pc + 3) lv st) : q_WA p l e R s m args below meth c D N0 nL Q kc ks ws pc lv (.int v :: .ref (ga 0) :: st) := by
  obtain ⟨T, hp, hb⟩ := hW.base
  refine q_perm hp ?_
  refine q_put C 0 rfl rfl hin tyX9 tyX9_ok nmX9 7 (by decide) hl rfl hn hf (by show 7 < 17; decide) hd (ws1 := mB cc ga (mset M 7 v) ++ T) rfl ?_
  exact K _ (hb (mset M 7 v) rfl rfl (fun i hi => nup_n (by omega)))
theorem m_g_8 (C : q_C p s m args meth c code nL ret Ts own D cc N0) (hW : mW cc ga ad M E ws) {idx : Nat} (hin : ∀ w ∈ wsX90, w ∈ Ts) (hl : Cond.fieldLink own idx "QueryschoolModel" "hidden" "I" ∈ Ts) (hd : decode code pc = .ok (.getfield idx, 3)) (K : q_WA p l e R s m args below meth c D N0 nL Q kc ks ws (pc + 3) lv (.int (M.1 8) :: st)) : q_WA p l e R s m args below meth c D N0 nL Q kc ks ws pc lv (.ref (ga 0) :: st) := by
  obtain ⟨q0, he⟩ := hW.obj
  exact q_get C q0 he rfl hin 8 (by decide) hl rfl hd K
theorem m_p_8 (C : q_C p s m args meth c code nL ret Ts own D cc N0) (hW : mW cc ga ad M E ws) {idx : Nat} (hin : ∀ w ∈ wsX90, w ∈ Ts) (hl : Cond.fieldLink own idx "QueryschoolModel" "hidden" "I" ∈ Ts) {v : Int32}  (hd : decode code pc = .ok (.putfield idx, 3)) (K : ∀ ws', mW cc ga ad (mset M 8 v) E ws' → q_WA p l e R s m args below meth c D N0 nL Q kc ks ws' (pc + 3) lv st) : q_WA p l e R s m args below meth c D N0 nL Q kc ks ws pc lv (.int v :: .ref (ga 0) :: st) := by
  obtain ⟨T, hp, hb⟩ := hW.base
  refine q_perm hp ?_
  refine q_put C 0 rfl rfl hin tyX9 tyX9_ok nmX9 8 (by decide) hl rfl rfl rfl (by show 8 < 17; decide) hd (ws1 := mB cc ga (mset M 8 v) ++ T) rfl ?_
  exact K _ (hb (mset M 8 v) rfl rfl (fun i hi => nup_n (by omega)))
theorem m_g_9 (C : q_C p s m args meth c code nL ret Ts own D cc N0) (hW : mW cc ga ad M E ws) {idx : Nat} (hin : ∀ w ∈ wsX90, w ∈ Ts) (hl : Cond.fieldLink own idx "QueryschoolModel" "experts" "Ljava/util/List;" ∈ Ts) (hd : decode code pc = .ok (.getfield idx, 3)) (K : q_WA p l e R s m args below meth c D N0 nL Q kc ks ws (pc + 3) lv (.ref (ga 2) :: st)) : q_WA p l e R s m args below meth c D N0 nL Q kc ks ws pc lv (.ref (ga 0) :: st) := by
  obtain ⟨q0, he⟩ := hW.obj
  exact q_get C q0 he rfl hin 9 (by decide) hl rfl hd K
theorem m_g_10 (C : q_C p s m args meth c code nL ret Ts own D cc N0) (hW : mW cc ga ad M E ws) {idx : Nat} (hin : ∀ w ∈ wsX90, w ∈ Ts) (hl : Cond.fieldLink own idx "QueryschoolModel" "crowd" "I" ∈ Ts) (hd : decode code pc = .ok (.getfield idx, 3)) (K : q_WA p l e R s m args below meth c D N0 nL Q kc ks ws (pc + 3) lv (.int (M.1 10) :: st)) : q_WA p l e R s m args below meth c D N0 nL Q kc ks ws pc lv (.ref (ga 0) :: st) := by
  obtain ⟨q0, he⟩ := hW.obj
  exact q_get C q0 he rfl hin 10 (by decide) hl rfl hd K
theorem m_p_10 (C : q_C p s m args meth c code nL ret Ts own D cc N0) (hW : mW cc ga ad M E ws) {idx : Nat} (hin : ∀ w ∈ wsX90, w ∈ Ts) (hl : Cond.fieldLink own idx "QueryschoolModel" "crowd" "I" ∈ Ts) {v : Int32}  (hd : decode code pc = .ok (.putfield idx, 3)) (K : ∀ ws', mW cc ga ad (mset M 10 v) E ws' → q_WA p l e R s m args below meth c D N0 nL Q kc ks ws' (pc + 3) lv st) : q_WA p l e R s m args below meth c D N0 nL Q kc ks ws pc lv (.int v :: .ref (ga 0) :: st) := by
  obtain ⟨T, hp, hb⟩ := hW.base
  refine q_perm hp ?_
  refine q_put C 0 rfl rfl hin tyX9 tyX9_ok nmX9 10 (by decide) hl rfl rfl rfl (by show 10 < 17; decide) hd (ws1 := mB cc ga (mset M 10 v) ++ T) rfl ?_
  exact K _ (hb (mset M 10 v) rfl rfl (fun i hi => nup_n (by omega)))
theorem m_g_11 (C : q_C p s m args meth c code nL ret Ts own D cc N0) (hW : mW cc ga ad M E ws) {idx : Nat} (hin : ∀ w ∈ wsX90, w ∈ Ts) (hl : Cond.fieldLink own idx "QueryschoolModel" "states" "Ljava/util/List;" ∈ Ts) (hd : decode code pc = .ok (.getfield idx, 3)) (K : q_WA p l e R s m args below meth c D N0 nL Q kc ks ws (pc + 3) lv (.ref (ga 3) :: st)) : q_WA p l e R s m args below meth c D N0 nL Q kc ks ws pc lv (.ref (ga 0) :: st) := by
  obtain ⟨q0, he⟩ := hW.obj
  exact q_get C q0 he rfl hin 11 (by decide) hl rfl hd K
theorem m_g_12 (C : q_C p s m args meth c code nL ret Ts own D cc N0) (hW : mW cc ga ad M E ws) {idx : Nat} (hin : ∀ w ∈ wsX90, w ∈ Ts) (hl : Cond.fieldLink own idx "QueryschoolModel" "words" "Ljava/util/List;" ∈ Ts) (hd : decode code pc = .ok (.getfield idx, 3)) (K : q_WA p l e R s m args below meth c D N0 nL Q kc ks ws (pc + 3) lv (.ref (ga 4) :: st)) : q_WA p l e R s m args below meth c D N0 nL Q kc ks ws pc lv (.ref (ga 0) :: st) := by
  obtain ⟨q0, he⟩ := hW.obj
  exact q_get C q0 he rfl hin 12 (by decide) hl rfl hd K
theorem m_g_13 (C : q_C p s m args meth c code nL ret Ts own D cc N0) (hW : mW cc ga ad M E ws) {idx : Nat} (hin : ∀ w ∈ wsX90, w ∈ Ts) (hl : Cond.fieldLink own idx "QueryschoolModel" "hints" "Ljava/util/List;" ∈ Ts) (hd : decode code pc = .ok (.getfield idx, 3)) (K : q_WA p l e R s m args below meth c D N0 nL Q kc ks ws (pc + 3) lv (.ref (ga 5) :: st)) : q_WA p l e R s m args below meth c D N0 nL Q kc ks ws pc lv (.ref (ga 0) :: st) := by
  obtain ⟨q0, he⟩ := hW.obj
  exact q_get C q0 he rfl hin 13 (by decide) hl rfl hd K
theorem m_g_14 (C : q_C p s m args meth c code nL ret Ts own D cc N0) (hW : mW cc ga ad M E ws) {idx : Nat} (hin : ∀ w ∈ wsX90, w ∈ Ts) (hl : Cond.fieldLink own idx "QueryschoolModel" "secret" "I" ∈ Ts) (hd : decode code pc = .ok (.getfield idx, 3)) (K : q_WA p l e R s m args below meth c D N0 nL Q kc ks ws (pc + 3) lv (.int (M.1 14) :: st)) : q_WA p l e R s m args below meth c D N0 nL Q kc ks ws pc lv (.ref (ga 0) :: st) := by
  obtain ⟨q0, he⟩ := hW.obj
  exact q_get C q0 he rfl hin 14 (by decide) hl rfl hd K
theorem m_p_14 (C : q_C p s m args meth c code nL ret Ts own D cc N0) (hW : mW cc ga ad M E ws) {idx : Nat} (hin : ∀ w ∈ wsX90, w ∈ Ts) (hl : Cond.fieldLink own idx "QueryschoolModel" "secret" "I" ∈ Ts) {v : Int32}  (hd : decode code pc = .ok (.putfield idx, 3)) (K : ∀ ws', mW cc ga ad (mset M 14 v) E ws' → q_WA p l e R s m args below meth c D N0 nL Q kc ks ws' (pc + 3) lv st) : q_WA p l e R s m args below meth c D N0 nL Q kc ks ws pc lv (.int v :: .ref (ga 0) :: st) := by
  obtain ⟨T, hp, hb⟩ := hW.base
  refine q_perm hp ?_
  refine q_put C 0 rfl rfl hin tyX9 tyX9_ok nmX9 14 (by decide) hl rfl rfl rfl (by show 14 < 17; decide) hd (ws1 := mB cc ga (mset M 14 v) ++ T) rfl ?_
  exact K _ (hb (mset M 14 v) rfl rfl (fun i hi => nup_n (by omega)))
theorem m_g_15 (C : q_C p s m args meth c code nL ret Ts own D cc N0) (hW : mW cc ga ad M E ws) {idx : Nat} (hin : ∀ w ∈ wsX90, w ∈ Ts) (hl : Cond.fieldLink own idx "QueryschoolModel" "things" "I" ∈ Ts) (hd : decode code pc = .ok (.getfield idx, 3)) (K : q_WA p l e R s m args below meth c D N0 nL Q kc ks ws (pc + 3) lv (.int (M.1 15) :: st)) : q_WA p l e R s m args below meth c D N0 nL Q kc ks ws pc lv (.ref (ga 0) :: st) := by
  obtain ⟨q0, he⟩ := hW.obj
  exact q_get C q0 he rfl hin 15 (by decide) hl rfl hd K
theorem m_p_15 (C : q_C p s m args meth c code nL ret Ts own D cc N0) (hW : mW cc ga ad M E ws) {idx : Nat} (hin : ∀ w ∈ wsX90, w ∈ Ts) (hl : Cond.fieldLink own idx "QueryschoolModel" "things" "I" ∈ Ts) {v : Int32}  (hd : decode code pc = .ok (.putfield idx, 3)) (K : ∀ ws', mW cc ga ad (mset M 15 v) E ws' → q_WA p l e R s m args below meth c D N0 nL Q kc ks ws' (pc + 3) lv st) : q_WA p l e R s m args below meth c D N0 nL Q kc ks ws pc lv (.int v :: .ref (ga 0) :: st) := by
  obtain ⟨T, hp, hb⟩ := hW.base
  refine q_perm hp ?_
  refine q_put C 0 rfl rfl hin tyX9 tyX9_ok nmX9 15 (by decide) hl rfl rfl rfl (by show 15 < 17; decide) hd (ws1 := mB cc ga (mset M 15 v) ++ T) rfl ?_
  exact K _ (hb (mset M 15 v) rfl rfl (fun i hi => nup_n (by omega)))
theorem m_g_16 (C : q_C p s m args meth c code nL ret Ts own D cc N0) (hW : mW cc ga ad M E ws) {idx : Nat} (hin : ∀ w ∈ wsX90, w ∈ Ts) (hl : Cond.fieldLink own idx "QueryschoolModel" "isAhead" "[[Z" ∈ Ts) (hd : decode code pc = .ok (.getfield idx, 3)) (K : q_WA p l e R s m args below meth c D N0 nL Q kc ks ws (pc + 3) lv (.ref (ga 6) :: st)) : q_WA p l e R s m args below meth c D N0 nL Q kc ks ws pc lv (.ref (ga 0) :: st) := by
  obtain ⟨q0, he⟩ := hW.obj
  exact q_get C q0 he rfl hin 16 (by decide) hl rfl hd K
theorem m_gald (C : q_C p s m args meth c code nL ret Ts own D cc N0) (hW : mW cc ga ad M E ws) {i : Int32} (hi : q_in i 5) (hd : decode code pc = .ok (.aaload, 1)) (K : q_WA p l e R s m args below meth c D N0 nL Q kc ks ws (pc + 1) lv (.ref (ga (7 + i.toNatClampNeg)) :: st)) : q_WA p l e R s m args below meth c D N0 nL Q kc ks ws pc lv (.int i :: .ref (ga 6) :: st) := by
  obtain ⟨T, hp, hb⟩ := hW.base
  refine q_perm hp ?_
  refine q_aaldZ C 1 rfl hi (if_pos hi.2) hd ?_
  exact q_perm hp.symm K
theorem m_glen (C : q_C p s m args meth c code nL ret Ts own D cc N0) (hW : mW cc ga ad M E ws) (hd : decode code pc = .ok (.arraylength, 1)) (K : q_WA p l e R s m args below meth c D N0 nL Q kc ks ws (pc + 1) lv (.int 5 :: st)) : q_WA p l e R s m args below meth c D N0 nL Q kc ks ws pc lv (.ref (ga 6) :: st) := by
  obtain ⟨T, hp, hb⟩ := hW.base
  refine q_perm hp ?_
  refine q_alen C 1 3 rfl rfl (v := 5) rfl hd ?_
  exact q_perm hp.symm K
theorem m_gzld (C : q_C p s m args meth c code nL ret Ts own D cc N0) (hW : mW cc ga ad M E ws) {i : Nat} {j : Int32} (hi : i < 5) (hj : q_in j 5) (hd : decode code pc = .ok (.baload, 1)) (K : q_WA p l e R s m args below meth c D N0 nL Q kc ks ws (pc + 1) lv (.int (M.2.2.2 i j.toNatClampNeg) :: st)) : q_WA p l e R s m args below meth c D N0 nL Q kc ks ws pc lv (.int j :: .ref (ga (7 + i)) :: st) := by
  obtain ⟨T, hp, hb⟩ := hW.base
  have hm : (ga (7 + i), (.inl (cc 1, 5, .inl (M.2.2.2 i)) : va_E)) ∈ ws := by
    refine hp.mem_iff.mpr (List.mem_append_left _ ?_)
    match i, hi with
    | 0, _ => exact List.mem_of_getElem? (i := 2) rfl
    | 1, _ => exact List.mem_of_getElem? (i := 3) rfl
    | 2, _ => exact List.mem_of_getElem? (i := 4) rfl
    | 3, _ => exact List.mem_of_getElem? (i := 5) rfl
    | 4, _ => exact List.mem_of_getElem? (i := 6) rfl
    | n + 5, h => exact absurd h (by omega)
  obtain ⟨q0, he⟩ := List.getElem?_of_mem hm
  exact q_zald C q0 he hj hd K
theorem m_gzst (C : q_C p s m args meth c code nL ret Ts own D cc N0) (hW : mW cc ga ad M E ws) {i : Nat} {j v : Int32} (hi : i < 5) (hj : q_in j 5) (hd : decode code pc = .ok (.bastore, 1)) (K : ∀ ws', mW cc ga ad (mgrid M i (upd (M.2.2.2 i) j.toNatClampNeg (vp_nar .boolean v))) E ws' → q_WA p l e R s m args below meth c D N0 nL Q kc ks ws' (pc + 1) lv st) : q_WA p l e R s m args below meth c D N0 nL Q kc ks ws pc lv (.int v :: .int j :: .ref (ga (7 + i)) :: st) := by
  obtain ⟨T, hp, hb⟩ := hW.base
  refine q_perm hp ?_
  have hb2 := hb (mgrid M i (upd (M.2.2.2 i) j.toNatClampNeg (vp_nar .boolean v))) rfl rfl (fun _ _ => rfl)
  match i, hi, hb2, K with
  | 0, _, hb2, K => exact q_zast C 2 rfl hj hd rfl (K _ hb2)
  | 1, _, hb2, K => exact q_zast C 3 rfl hj hd rfl (K _ hb2)
  | 2, _, hb2, K => exact q_zast C 4 rfl hj hd rfl (K _ hb2)
  | 3, _, hb2, K => exact q_zast C 5 rfl hj hd rfl (K _ hb2)
  | 4, _, hb2, K => exact q_zast C 6 rfl hj hd rfl (K _ hb2)
  | n + 5, h, _, _ => exact absurd h (by omega)
theorem mlist_id (M : MS) (i : Nat) : mlist M i (M.2.1 i) (M.2.2.1 i) (M.1 (20 + i)) = M := by
  unfold mlist
  rw [nup_id, nup_id, nup_id]
theorem m_size_0 (C : q_C p s m args meth c code nL ret Ts own D cc N0) (hW : mW cc ga ad M E ws) {idx count : Nat} (hG : GoodIn Ts (va_wsF own idx RJx4a65c ⟨"java/util/List", "size", "()I"⟩ yJx4a65c_size_8abf5 wsJx4a65c_size_8abf5)) (hR : 1 ≤ R.frames ∧ 30 ≤ R.locals) (hs : (st.map fun v => v.category).sum ≤ 8) (hd : decode code pc = .ok (.invokeinterface idx count, 5)) (hf : kc ≤ R.cells ∧ ks ≤ R.slots) (K : q_WA p l e R s m args below meth c D N0 nL Q kc ks ws (pc + 5) lv (.int (nI (M.2.1 0)) :: st)) : q_WA p l e R s m args below meth c D N0 nL Q kc ks ws pc lv (.ref (ga 1) :: st) := by
  obtain ⟨Rst, h1, -⟩ := mW_l0 hW
  exact l_size (fr := 0) (lo := 0) C h1 hG hR hs hd hf K
theorem m_isEmpty_0 (C : q_C p s m args meth c code nL ret Ts own D cc N0) (hW : mW cc ga ad M E ws) {idx count : Nat} (hG : GoodIn Ts (va_wsF own idx RJx4a65c ⟨"java/util/List", "isEmpty", "()Z"⟩ yJx4a65c_isEmpty_aae02 wsJx4a65c_isEmpty_aae02)) (hR : 1 ≤ R.frames ∧ 30 ≤ R.locals) (hs : (st.map fun v => v.category).sum ≤ 8) (hd : decode code pc = .ok (.invokeinterface idx count, 5)) (hf : kc ≤ R.cells ∧ ks ≤ R.slots) (K : q_WA p l e R s m args below meth c D N0 nL Q kc ks ws (pc + 5) lv (.int (q_b (decide ((M.2.1 0) = 0))) :: st)) : q_WA p l e R s m args below meth c D N0 nL Q kc ks ws pc lv (.ref (ga 1) :: st) := by
  obtain ⟨Rst, h1, -⟩ := mW_l0 hW
  exact l_isEmpty C h1 hG hR hs hd hf K
theorem m_get_0 (C : q_C p s m args meth c code nL ret Ts own D cc N0) (hW : mW cc ga ad M E ws) {idx count : Nat} {j : Int32} (hj : q_in j (M.2.1 0)) (hG : GoodIn Ts (va_wsF own idx RJx4a65c ⟨"java/util/List", "get", "(I)Ljava/lang/Object;"⟩ yJx4a65c_get_915e3 wsJx4a65c_get_915e3)) (hR : 4 ≤ R.frames ∧ 100 ≤ R.locals) (hs : (st.map fun v => v.category).sum ≤ 8) (hd : decode code pc = .ok (.invokeinterface idx count, 5)) (hf : kc ≤ R.cells ∧ ks ≤ R.slots) (K : q_WA p l e R s m args below meth c D N0 nL Q kc ks ws (pc + 5) lv (.ref (ad 0 j.toNatClampNeg) :: st)) : q_WA p l e R s m args below meth c D N0 nL Q kc ks ws pc lv (.int j :: .ref (ga 1) :: st) := by
  obtain ⟨Rst, h1, -⟩ := mW_l0 hW
  exact l_get C h1 hj hG hR hs hd hf K
theorem m_iter_0 (C : q_C p s m args meth c code nL ret Ts own D cc N0) (hW : mW cc ga ad M E ws) {idx count : Nat} (hG : GoodIn Ts (va_wsF own idx RJx4a65c ⟨"java/util/List", "iterator", "()Ljava/util/Iterator;"⟩ yJx4a65c_iterator_32c93 wsJx4a65c_iterator_32c93)) (hR : 3 ≤ R.frames ∧ 90 ≤ R.locals) (hs : (st.map fun v => v.category).sum ≤ 8) (hd : decode code pc = .ok (.invokeinterface idx count, 5)) (hf : kc + 1 ≤ R.cells ∧ ks + 4 ≤ R.slots) (K : ∀ (it : Nat) (ws' : va_W), mW cc ga ad M ((it, q_it 0 (-1) (M.1 20) (ga 1)) :: E) ws' → q_WA p l e R s m args below meth c D N0 nL Q (kc + 1) (ks + 4) ws' (pc + 5) lv (.ref it :: st)) : q_WA p l e R s m args below meth c D N0 nL Q kc ks ws pc lv (.ref (ga 1) :: st) := by
  obtain ⟨Rst, h1, h2⟩ := mW_l0 hW
  refine l_iter C h1 hG hR hs hd hf (fun it ws' h3 => K it ws' ?_)
  have h4 := h2 _ _ _ _ ((it, q_it 0 (-1) (M.1 20) (ga 1)) :: E) ws' (h3.out (List.perm_middle (l₁ := Rst)).symm)
  rw [nup_id, mlist_id] at h4
  exact h4
theorem m_has_0 (C : q_C p s m args meth c code nL ret Ts own D cc N0) {it : Nat} {cur last xp : Int32} (hW : mW cc ga ad M ((it, q_it cur last xp (ga 1)) :: E) ws) {idx count : Nat} (hG : GoodIn Ts (va_wsF own idx RJx35411 ⟨"java/util/Iterator", "hasNext", "()Z"⟩ yJx35411_hasNext_aae02 wsJx35411_hasNext_aae02)) (hR : 1 ≤ R.frames ∧ 30 ≤ R.locals) (hs : (st.map fun v => v.category).sum ≤ 8) (hd : decode code pc = .ok (.invokeinterface idx count, 5)) (hf : kc ≤ R.cells ∧ ks ≤ R.slots) (K : q_WA p l e R s m args below meth c D N0 nL Q kc ks ws (pc + 5) lv (.int (q_b (!decide (cur = nI (M.2.1 0)))) :: st)) : q_WA p l e R s m args below meth c D N0 nL Q kc ks ws pc lv (.ref it :: st) := by
  obtain ⟨Rst, h1, -⟩ := mW_l0 hW
  exact l_has C (h1.out (List.perm_middle (l₁ := Rst))) hG hR hs hd hf K
theorem m_next_0 (C : q_C p s m args meth c code nL ret Ts own D cc N0) {it : Nat} {cur last xp : Int32} (hW : mW cc ga ad M ((it, q_it cur last xp (ga 1)) :: E) ws) (hj : q_in cur (M.2.1 0) ∧ xp = (M.1 20)) {idx count : Nat} (hG : GoodIn Ts (va_wsF own idx RJx35411 ⟨"java/util/Iterator", "next", "()Ljava/lang/Object;"⟩ yJx35411_next_0502b wsJx35411_next_0502b)) (hR : 3 ≤ R.frames ∧ 90 ≤ R.locals) (hs : (st.map fun v => v.category).sum ≤ 8) (hd : decode code pc = .ok (.invokeinterface idx count, 5)) (hf : kc ≤ R.cells ∧ ks ≤ R.slots) (K : ∀ ws', mW cc ga ad M ((it, q_it (cur + 1) cur xp (ga 1)) :: E) ws' → q_WA p l e R s m args below meth c D N0 nL Q kc ks ws' (pc + 5) lv (.ref (ad 0 cur.toNatClampNeg) :: st)) : q_WA p l e R s m args below meth c D N0 nL Q kc ks ws pc lv (.ref it :: st) := by
  obtain ⟨hj, rfl⟩ := hj
  obtain ⟨Rst, h1, h2⟩ := mW_l0 hW
  refine l_next C (h1.out (List.perm_middle (l₁ := Rst))) hj hG hR hs hd hf (fun ws' h3 => K ws' ?_)
  have h4 := h2 _ _ _ _ ((it, q_it (cur + 1) cur (M.1 20) (ga 1)) :: E) ws' (h3.out (List.perm_middle (l₁ := Rst)).symm)
  rw [nup_id, mlist_id] at h4
  exact h4
theorem m_rald_0 (C : q_C p s m args meth c code nL ret Ts own D cc N0) (hW : mW cc ga ad M E ws) {k : Nat} {j : Int32} (hk : k < (M.2.1 0)) (hj : q_in j 3) (hd : decode code pc = .ok (.iaload, 1)) (K : q_WA p l e R s m args below meth c D N0 nL Q kc ks ws (pc + 1) lv (.int (M.2.2.1 0 k j.toNatClampNeg) :: st)) : q_WA p l e R s m args below meth c D N0 nL Q kc ks ws pc lv (.int j :: .ref (ad 0 k) :: st) := by
  obtain ⟨Rst, h1, -⟩ := mW_l0 hW
  exact l_rald C h1 hk hj hd K
theorem m_cast_0 (C : q_C p s m args meth c code nL ret Ts own D cc N0) (hW : mW cc ga ad M E ws) {k idx : Nat} (hk : k < (M.2.1 0)) (hl2 : Cond.classLink own idx "[I" ∈ Ts) (hd : decode code pc = .ok (.checkcast idx, 3)) (K : q_WA p l e R s m args below meth c D N0 nL Q kc ks ws (pc + 3) lv (.ref (ad 0 k) :: st)) : q_WA p l e R s m args below meth c D N0 nL Q kc ks ws pc lv (.ref (ad 0 k) :: st) := by
  obtain ⟨Rst, h1, -⟩ := mW_l0 hW
  exact l_cast C h1 hk hl2 hd K
theorem m_rast_0 (C : q_C p s m args meth c code nL ret Ts own D cc N0) (hW : mW cc ga ad M E ws) {k : Nat} {j v : Int32} (hk : k < (M.2.1 0)) (hj : q_in j 3) (hd : decode code pc = .ok (.iastore, 1)) (K : ∀ ws', mW cc ga ad (mrow M 0 k j.toNatClampNeg v) E ws' → q_WA p l e R s m args below meth c D N0 nL Q kc ks ws' (pc + 1) lv st) : q_WA p l e R s m args below meth c D N0 nL Q kc ks ws pc lv (.int v :: .int j :: .ref (ad 0 k) :: st) := by
  obtain ⟨Rst, h1, h2⟩ := mW_l0 hW
  refine l_rast C h1 hk hj hd (fun ws' h3 => K ws' ?_)
  have h4 := h2 _ _ _ _ E ws' h3
  rw [nup_id] at h4
  have e : mrow M 0 k j.toNatClampNeg v = mlist M 0 (M.2.1 0) (rupd (M.2.2.1 0) k (upd (M.2.2.1 0 k) j.toNatClampNeg v)) (M.1 20) := by
    unfold mrow mlist
    rw [nup_id, nup_id]
  rw [e]
  exact h4
theorem m_add_0 (C : q_C p s m args meth c code nL ret Ts own D cc N0) {q : Nat} {f : Nat → Int32} (hW : mW cc ga ad M ((q, .inl (cc 0, 3, .inl f)) :: E) ws) (hn : (M.2.1 0) < 64) {idx count : Nat} (hG : GoodIn Ts (va_wsF own idx RJx4a65c ⟨"java/util/List", "add", "(Ljava/lang/Object;)Z"⟩ yJx4a65c_add_9ea2d wsJx4a65c_add_9ea2d)) (hR : 10 ≤ R.frames ∧ 400 ≤ R.locals) (hs : (st.map fun v => v.category).sum ≤ 8) (hd : decode code pc = .ok (.invokeinterface idx count, 5)) (hf : kc + 1 ≤ R.cells ∧ ks + 100 ≤ R.slots) (K : ∀ (ad' : Nat → Nat → Nat) (ws' : va_W), mW cc ga ad' (madd M 0 f) E ws' → q_WA p l e R s m args below meth c D N0 nL Q (kc + 1) (ks + 100) ws' (pc + 5) lv (.int 1 :: st)) : q_WA p l e R s m args below meth c D N0 nL Q kc ks ws pc lv (.ref q :: .ref (ga 1) :: st) := by
  obtain ⟨Rst, h1, h2⟩ := mW_l0 hW
  exact l_add C (h1.out (List.perm_middle (l₁ := Rst))) hn hG hR hs hd hf (fun ws' h3 => K _ ws' (h2 _ _ _ _ E ws' h3))
theorem m_clear_0 (C : q_C p s m args meth c code nL ret Ts own D cc N0) (hW : mW cc ga ad M E ws) {idx count : Nat} (hG : GoodIn Ts (va_wsF own idx RJx4a65c ⟨"java/util/List", "clear", "()V"⟩ yJx4a65c_clear_da8c8 wsJx4a65c_clear_da8c8)) (hR : 1 ≤ R.frames ∧ 30 ≤ R.locals) (hs : (st.map fun v => v.category).sum ≤ 8) (hd : decode code pc = .ok (.invokeinterface idx count, 5)) (hf : kc ≤ R.cells ∧ ks ≤ R.slots) (K : ∀ ws', mW cc ga ad (mclr M 0) E ws' → q_WA p l e R s m args below meth c D N0 nL Q kc ks ws' (pc + 5) lv st) : q_WA p l e R s m args below meth c D N0 nL Q kc ks ws pc lv (.ref (ga 1) :: st) := by
  obtain ⟨Rst, h1, h2⟩ := mW_l0 hW
  refine l_clear C h1 hG hR hs hd hf (fun ws' h3 => K ws' ?_)
  have h4 := h2 _ _ _ _ E ws' h3
  rw [nup_id] at h4
  exact h4
theorem m_size_1 (C : q_C p s m args meth c code nL ret Ts own D cc N0) (hW : mW cc ga ad M E ws) {idx count : Nat} (hG : GoodIn Ts (va_wsF own idx RJx4a65c ⟨"java/util/List", "size", "()I"⟩ yJx4a65c_size_8abf5 wsJx4a65c_size_8abf5)) (hR : 1 ≤ R.frames ∧ 30 ≤ R.locals) (hs : (st.map fun v => v.category).sum ≤ 8) (hd : decode code pc = .ok (.invokeinterface idx count, 5)) (hf : kc ≤ R.cells ∧ ks ≤ R.slots) (K : q_WA p l e R s m args below meth c D N0 nL Q kc ks ws (pc + 5) lv (.int (nI (M.2.1 1)) :: st)) : q_WA p l e R s m args below meth c D N0 nL Q kc ks ws pc lv (.ref (ga 2) :: st) := by
  obtain ⟨Rst, h1, -⟩ := mW_l1 hW
  exact l_size (fr := 0) (lo := 0) C h1 hG hR hs hd hf K
theorem m_isEmpty_1 (C : q_C p s m args meth c code nL ret Ts own D cc N0) (hW : mW cc ga ad M E ws) {idx count : Nat} (hG : GoodIn Ts (va_wsF own idx RJx4a65c ⟨"java/util/List", "isEmpty", "()Z"⟩ yJx4a65c_isEmpty_aae02 wsJx4a65c_isEmpty_aae02)) (hR : 1 ≤ R.frames ∧ 30 ≤ R.locals) (hs : (st.map fun v => v.category).sum ≤ 8) (hd : decode code pc = .ok (.invokeinterface idx count, 5)) (hf : kc ≤ R.cells ∧ ks ≤ R.slots) (K : q_WA p l e R s m args below meth c D N0 nL Q kc ks ws (pc + 5) lv (.int (q_b (decide ((M.2.1 1) = 0))) :: st)) : q_WA p l e R s m args below meth c D N0 nL Q kc ks ws pc lv (.ref (ga 2) :: st) := by
  obtain ⟨Rst, h1, -⟩ := mW_l1 hW
  exact l_isEmpty C h1 hG hR hs hd hf K
theorem m_get_1 (C : q_C p s m args meth c code nL ret Ts own D cc N0) (hW : mW cc ga ad M E ws) {idx count : Nat} {j : Int32} (hj : q_in j (M.2.1 1)) (hG : GoodIn Ts (va_wsF own idx RJx4a65c ⟨"java/util/List", "get", "(I)Ljava/lang/Object;"⟩ yJx4a65c_get_915e3 wsJx4a65c_get_915e3)) (hR : 4 ≤ R.frames ∧ 100 ≤ R.locals) (hs : (st.map fun v => v.category).sum ≤ 8) (hd : decode code pc = .ok (.invokeinterface idx count, 5)) (hf : kc ≤ R.cells ∧ ks ≤ R.slots) (K : q_WA p l e R s m args below meth c D N0 nL Q kc ks ws (pc + 5) lv (.ref (ad 1 j.toNatClampNeg) :: st)) : q_WA p l e R s m args below meth c D N0 nL Q kc ks ws pc lv (.int j :: .ref (ga 2) :: st) := by
  obtain ⟨Rst, h1, -⟩ := mW_l1 hW
  exact l_get C h1 hj hG hR hs hd hf K
theorem m_iter_1 (C : q_C p s m args meth c code nL ret Ts own D cc N0) (hW : mW cc ga ad M E ws) {idx count : Nat} (hG : GoodIn Ts (va_wsF own idx RJx4a65c ⟨"java/util/List", "iterator", "()Ljava/util/Iterator;"⟩ yJx4a65c_iterator_32c93 wsJx4a65c_iterator_32c93)) (hR : 3 ≤ R.frames ∧ 90 ≤ R.locals) (hs : (st.map fun v => v.category).sum ≤ 8) (hd : decode code pc = .ok (.invokeinterface idx count, 5)) (hf : kc + 1 ≤ R.cells ∧ ks + 4 ≤ R.slots) (K : ∀ (it : Nat) (ws' : va_W), mW cc ga ad M ((it, q_it 0 (-1) (M.1 21) (ga 2)) :: E) ws' → q_WA p l e R s m args below meth c D N0 nL Q (kc + 1) (ks + 4) ws' (pc + 5) lv (.ref it :: st)) : q_WA p l e R s m args below meth c D N0 nL Q kc ks ws pc lv (.ref (ga 2) :: st) := by
  obtain ⟨Rst, h1, h2⟩ := mW_l1 hW
  refine l_iter C h1 hG hR hs hd hf (fun it ws' h3 => K it ws' ?_)
  have h4 := h2 _ _ _ _ ((it, q_it 0 (-1) (M.1 21) (ga 2)) :: E) ws' (h3.out (List.perm_middle (l₁ := Rst)).symm)
  rw [nup_id, mlist_id] at h4
  exact h4
theorem m_has_1 (C : q_C p s m args meth c code nL ret Ts own D cc N0) {it : Nat} {cur last xp : Int32} (hW : mW cc ga ad M ((it, q_it cur last xp (ga 2)) :: E) ws) {idx count : Nat} (hG : GoodIn Ts (va_wsF own idx RJx35411 ⟨"java/util/Iterator", "hasNext", "()Z"⟩ yJx35411_hasNext_aae02 wsJx35411_hasNext_aae02)) (hR : 1 ≤ R.frames ∧ 30 ≤ R.locals) (hs : (st.map fun v => v.category).sum ≤ 8) (hd : decode code pc = .ok (.invokeinterface idx count, 5)) (hf : kc ≤ R.cells ∧ ks ≤ R.slots) (K : q_WA p l e R s m args below meth c D N0 nL Q kc ks ws (pc + 5) lv (.int (q_b (!decide (cur = nI (M.2.1 1)))) :: st)) : q_WA p l e R s m args below meth c D N0 nL Q kc ks ws pc lv (.ref it :: st) := by
  obtain ⟨Rst, h1, -⟩ := mW_l1 hW
  exact l_has C (h1.out (List.perm_middle (l₁ := Rst))) hG hR hs hd hf K
theorem m_next_1 (C : q_C p s m args meth c code nL ret Ts own D cc N0) {it : Nat} {cur last xp : Int32} (hW : mW cc ga ad M ((it, q_it cur last xp (ga 2)) :: E) ws) (hj : q_in cur (M.2.1 1) ∧ xp = (M.1 21)) {idx count : Nat} (hG : GoodIn Ts (va_wsF own idx RJx35411 ⟨"java/util/Iterator", "next", "()Ljava/lang/Object;"⟩ yJx35411_next_0502b wsJx35411_next_0502b)) (hR : 3 ≤ R.frames ∧ 90 ≤ R.locals) (hs : (st.map fun v => v.category).sum ≤ 8) (hd : decode code pc = .ok (.invokeinterface idx count, 5)) (hf : kc ≤ R.cells ∧ ks ≤ R.slots) (K : ∀ ws', mW cc ga ad M ((it, q_it (cur + 1) cur xp (ga 2)) :: E) ws' → q_WA p l e R s m args below meth c D N0 nL Q kc ks ws' (pc + 5) lv (.ref (ad 1 cur.toNatClampNeg) :: st)) : q_WA p l e R s m args below meth c D N0 nL Q kc ks ws pc lv (.ref it :: st) := by
  obtain ⟨hj, rfl⟩ := hj
  obtain ⟨Rst, h1, h2⟩ := mW_l1 hW
  refine l_next C (h1.out (List.perm_middle (l₁ := Rst))) hj hG hR hs hd hf (fun ws' h3 => K ws' ?_)
  have h4 := h2 _ _ _ _ ((it, q_it (cur + 1) cur (M.1 21) (ga 2)) :: E) ws' (h3.out (List.perm_middle (l₁ := Rst)).symm)
  rw [nup_id, mlist_id] at h4
  exact h4
theorem m_rald_1 (C : q_C p s m args meth c code nL ret Ts own D cc N0) (hW : mW cc ga ad M E ws) {k : Nat} {j : Int32} (hk : k < (M.2.1 1)) (hj : q_in j 2) (hd : decode code pc = .ok (.iaload, 1)) (K : q_WA p l e R s m args below meth c D N0 nL Q kc ks ws (pc + 1) lv (.int (M.2.2.1 1 k j.toNatClampNeg) :: st)) : q_WA p l e R s m args below meth c D N0 nL Q kc ks ws pc lv (.int j :: .ref (ad 1 k) :: st) := by
  obtain ⟨Rst, h1, -⟩ := mW_l1 hW
  exact l_rald C h1 hk hj hd K
theorem m_cast_1 (C : q_C p s m args meth c code nL ret Ts own D cc N0) (hW : mW cc ga ad M E ws) {k idx : Nat} (hk : k < (M.2.1 1)) (hl2 : Cond.classLink own idx "[I" ∈ Ts) (hd : decode code pc = .ok (.checkcast idx, 3)) (K : q_WA p l e R s m args below meth c D N0 nL Q kc ks ws (pc + 3) lv (.ref (ad 1 k) :: st)) : q_WA p l e R s m args below meth c D N0 nL Q kc ks ws pc lv (.ref (ad 1 k) :: st) := by
  obtain ⟨Rst, h1, -⟩ := mW_l1 hW
  exact l_cast C h1 hk hl2 hd K
theorem m_rast_1 (C : q_C p s m args meth c code nL ret Ts own D cc N0) (hW : mW cc ga ad M E ws) {k : Nat} {j v : Int32} (hk : k < (M.2.1 1)) (hj : q_in j 2) (hd : decode code pc = .ok (.iastore, 1)) (K : ∀ ws', mW cc ga ad (mrow M 1 k j.toNatClampNeg v) E ws' → q_WA p l e R s m args below meth c D N0 nL Q kc ks ws' (pc + 1) lv st) : q_WA p l e R s m args below meth c D N0 nL Q kc ks ws pc lv (.int v :: .int j :: .ref (ad 1 k) :: st) := by
  obtain ⟨Rst, h1, h2⟩ := mW_l1 hW
  refine l_rast C h1 hk hj hd (fun ws' h3 => K ws' ?_)
  have h4 := h2 _ _ _ _ E ws' h3
  rw [nup_id] at h4
  have e : mrow M 1 k j.toNatClampNeg v = mlist M 1 (M.2.1 1) (rupd (M.2.2.1 1) k (upd (M.2.2.1 1 k) j.toNatClampNeg v)) (M.1 21) := by
    unfold mrow mlist
    rw [nup_id, nup_id]
  rw [e]
  exact h4
theorem m_add_1 (C : q_C p s m args meth c code nL ret Ts own D cc N0) {q : Nat} {f : Nat → Int32} (hW : mW cc ga ad M ((q, .inl (cc 0, 2, .inl f)) :: E) ws) (hn : (M.2.1 1) < 64) {idx count : Nat} (hG : GoodIn Ts (va_wsF own idx RJx4a65c ⟨"java/util/List", "add", "(Ljava/lang/Object;)Z"⟩ yJx4a65c_add_9ea2d wsJx4a65c_add_9ea2d)) (hR : 10 ≤ R.frames ∧ 400 ≤ R.locals) (hs : (st.map fun v => v.category).sum ≤ 8) (hd : decode code pc = .ok (.invokeinterface idx count, 5)) (hf : kc + 1 ≤ R.cells ∧ ks + 100 ≤ R.slots) (K : ∀ (ad' : Nat → Nat → Nat) (ws' : va_W), mW cc ga ad' (madd M 1 f) E ws' → q_WA p l e R s m args below meth c D N0 nL Q (kc + 1) (ks + 100) ws' (pc + 5) lv (.int 1 :: st)) : q_WA p l e R s m args below meth c D N0 nL Q kc ks ws pc lv (.ref q :: .ref (ga 2) :: st) := by
  obtain ⟨Rst, h1, h2⟩ := mW_l1 hW
  exact l_add C (h1.out (List.perm_middle (l₁ := Rst))) hn hG hR hs hd hf (fun ws' h3 => K _ ws' (h2 _ _ _ _ E ws' h3))
theorem m_clear_1 (C : q_C p s m args meth c code nL ret Ts own D cc N0) (hW : mW cc ga ad M E ws) {idx count : Nat} (hG : GoodIn Ts (va_wsF own idx RJx4a65c ⟨"java/util/List", "clear", "()V"⟩ yJx4a65c_clear_da8c8 wsJx4a65c_clear_da8c8)) (hR : 1 ≤ R.frames ∧ 30 ≤ R.locals) (hs : (st.map fun v => v.category).sum ≤ 8) (hd : decode code pc = .ok (.invokeinterface idx count, 5)) (hf : kc ≤ R.cells ∧ ks ≤ R.slots) (K : ∀ ws', mW cc ga ad (mclr M 1) E ws' → q_WA p l e R s m args below meth c D N0 nL Q kc ks ws' (pc + 5) lv st) : q_WA p l e R s m args below meth c D N0 nL Q kc ks ws pc lv (.ref (ga 2) :: st) := by
  obtain ⟨Rst, h1, h2⟩ := mW_l1 hW
  refine l_clear C h1 hG hR hs hd hf (fun ws' h3 => K ws' ?_)
  have h4 := h2 _ _ _ _ E ws' h3
  rw [nup_id] at h4
  exact h4
theorem m_size_2 (C : q_C p s m args meth c code nL ret Ts own D cc N0) (hW : mW cc ga ad M E ws) {idx count : Nat} (hG : GoodIn Ts (va_wsF own idx RJx4a65c ⟨"java/util/List", "size", "()I"⟩ yJx4a65c_size_8abf5 wsJx4a65c_size_8abf5)) (hR : 1 ≤ R.frames ∧ 30 ≤ R.locals) (hs : (st.map fun v => v.category).sum ≤ 8) (hd : decode code pc = .ok (.invokeinterface idx count, 5)) (hf : kc ≤ R.cells ∧ ks ≤ R.slots) (K : q_WA p l e R s m args below meth c D N0 nL Q kc ks ws (pc + 5) lv (.int (nI (M.2.1 2)) :: st)) : q_WA p l e R s m args below meth c D N0 nL Q kc ks ws pc lv (.ref (ga 3) :: st) := by
  obtain ⟨Rst, h1, -⟩ := mW_l2 hW
  exact l_size (fr := 0) (lo := 0) C h1 hG hR hs hd hf K
theorem m_isEmpty_2 (C : q_C p s m args meth c code nL ret Ts own D cc N0) (hW : mW cc ga ad M E ws) {idx count : Nat} (hG : GoodIn Ts (va_wsF own idx RJx4a65c ⟨"java/util/List", "isEmpty", "()Z"⟩ yJx4a65c_isEmpty_aae02 wsJx4a65c_isEmpty_aae02)) (hR : 1 ≤ R.frames ∧ 30 ≤ R.locals) (hs : (st.map fun v => v.category).sum ≤ 8) (hd : decode code pc = .ok (.invokeinterface idx count, 5)) (hf : kc ≤ R.cells ∧ ks ≤ R.slots) (K : q_WA p l e R s m args below meth c D N0 nL Q kc ks ws (pc + 5) lv (.int (q_b (decide ((M.2.1 2) = 0))) :: st)) : q_WA p l e R s m args below meth c D N0 nL Q kc ks ws pc lv (.ref (ga 3) :: st) := by
  obtain ⟨Rst, h1, -⟩ := mW_l2 hW
  exact l_isEmpty C h1 hG hR hs hd hf K
theorem m_get_2 (C : q_C p s m args meth c code nL ret Ts own D cc N0) (hW : mW cc ga ad M E ws) {idx count : Nat} {j : Int32} (hj : q_in j (M.2.1 2)) (hG : GoodIn Ts (va_wsF own idx RJx4a65c ⟨"java/util/List", "get", "(I)Ljava/lang/Object;"⟩ yJx4a65c_get_915e3 wsJx4a65c_get_915e3)) (hR : 4 ≤ R.frames ∧ 100 ≤ R.locals) (hs : (st.map fun v => v.category).sum ≤ 8) (hd : decode code pc = .ok (.invokeinterface idx count, 5)) (hf : kc ≤ R.cells ∧ ks ≤ R.slots) (K : q_WA p l e R s m args below meth c D N0 nL Q kc ks ws (pc + 5) lv (.ref (ad 2 j.toNatClampNeg) :: st)) : q_WA p l e R s m args below meth c D N0 nL Q kc ks ws pc lv (.int j :: .ref (ga 3) :: st) := by
  obtain ⟨Rst, h1, -⟩ := mW_l2 hW
  exact l_get C h1 hj hG hR hs hd hf K
theorem m_iter_2 (C : q_C p s m args meth c code nL ret Ts own D cc N0) (hW : mW cc ga ad M E ws) {idx count : Nat} (hG : GoodIn Ts (va_wsF own idx RJx4a65c ⟨"java/util/List", "iterator", "()Ljava/util/Iterator;"⟩ yJx4a65c_iterator_32c93 wsJx4a65c_iterator_32c93)) (hR : 3 ≤ R.frames ∧ 90 ≤ R.locals) (hs : (st.map fun v => v.category).sum ≤ 8) (hd : decode code pc = .ok (.invokeinterface idx count, 5)) (hf : kc + 1 ≤ R.cells ∧ ks + 4 ≤ R.slots) (K : ∀ (it : Nat) (ws' : va_W), mW cc ga ad M ((it, q_it 0 (-1) (M.1 22) (ga 3)) :: E) ws' → q_WA p l e R s m args below meth c D N0 nL Q (kc + 1) (ks + 4) ws' (pc + 5) lv (.ref it :: st)) : q_WA p l e R s m args below meth c D N0 nL Q kc ks ws pc lv (.ref (ga 3) :: st) := by
  obtain ⟨Rst, h1, h2⟩ := mW_l2 hW
  refine l_iter C h1 hG hR hs hd hf (fun it ws' h3 => K it ws' ?_)
  have h4 := h2 _ _ _ _ ((it, q_it 0 (-1) (M.1 22) (ga 3)) :: E) ws' (h3.out (List.perm_middle (l₁ := Rst)).symm)
  rw [nup_id, mlist_id] at h4
  exact h4
theorem m_has_2 (C : q_C p s m args meth c code nL ret Ts own D cc N0) {it : Nat} {cur last xp : Int32} (hW : mW cc ga ad M ((it, q_it cur last xp (ga 3)) :: E) ws) {idx count : Nat} (hG : GoodIn Ts (va_wsF own idx RJx35411 ⟨"java/util/Iterator", "hasNext", "()Z"⟩ yJx35411_hasNext_aae02 wsJx35411_hasNext_aae02)) (hR : 1 ≤ R.frames ∧ 30 ≤ R.locals) (hs : (st.map fun v => v.category).sum ≤ 8) (hd : decode code pc = .ok (.invokeinterface idx count, 5)) (hf : kc ≤ R.cells ∧ ks ≤ R.slots) (K : q_WA p l e R s m args below meth c D N0 nL Q kc ks ws (pc + 5) lv (.int (q_b (!decide (cur = nI (M.2.1 2)))) :: st)) : q_WA p l e R s m args below meth c D N0 nL Q kc ks ws pc lv (.ref it :: st) := by
  obtain ⟨Rst, h1, -⟩ := mW_l2 hW
  exact l_has C (h1.out (List.perm_middle (l₁ := Rst))) hG hR hs hd hf K
theorem m_next_2 (C : q_C p s m args meth c code nL ret Ts own D cc N0) {it : Nat} {cur last xp : Int32} (hW : mW cc ga ad M ((it, q_it cur last xp (ga 3)) :: E) ws) (hj : q_in cur (M.2.1 2) ∧ xp = (M.1 22)) {idx count : Nat} (hG : GoodIn Ts (va_wsF own idx RJx35411 ⟨"java/util/Iterator", "next", "()Ljava/lang/Object;"⟩ yJx35411_next_0502b wsJx35411_next_0502b)) (hR : 3 ≤ R.frames ∧ 90 ≤ R.locals) (hs : (st.map fun v => v.category).sum ≤ 8) (hd : decode code pc = .ok (.invokeinterface idx count, 5)) (hf : kc ≤ R.cells ∧ ks ≤ R.slots) (K : ∀ ws', mW cc ga ad M ((it, q_it (cur + 1) cur xp (ga 3)) :: E) ws' → q_WA p l e R s m args below meth c D N0 nL Q kc ks ws' (pc + 5) lv (.ref (ad 2 cur.toNatClampNeg) :: st)) : q_WA p l e R s m args below meth c D N0 nL Q kc ks ws pc lv (.ref it :: st) := by
  obtain ⟨hj, rfl⟩ := hj
  obtain ⟨Rst, h1, h2⟩ := mW_l2 hW
  refine l_next C (h1.out (List.perm_middle (l₁ := Rst))) hj hG hR hs hd hf (fun ws' h3 => K ws' ?_)
  have h4 := h2 _ _ _ _ ((it, q_it (cur + 1) cur (M.1 22) (ga 3)) :: E) ws' (h3.out (List.perm_middle (l₁ := Rst)).symm)
  rw [nup_id, mlist_id] at h4
  exact h4
theorem m_rald_2 (C : q_C p s m args meth c code nL ret Ts own D cc N0) (hW : mW cc ga ad M E ws) {k : Nat} {j : Int32} (hk : k < (M.2.1 2)) (hj : q_in j 3) (hd : decode code pc = .ok (.iaload, 1)) (K : q_WA p l e R s m args below meth c D N0 nL Q kc ks ws (pc + 1) lv (.int (M.2.2.1 2 k j.toNatClampNeg) :: st)) : q_WA p l e R s m args below meth c D N0 nL Q kc ks ws pc lv (.int j :: .ref (ad 2 k) :: st) := by
  obtain ⟨Rst, h1, -⟩ := mW_l2 hW
  exact l_rald C h1 hk hj hd K
theorem m_cast_2 (C : q_C p s m args meth c code nL ret Ts own D cc N0) (hW : mW cc ga ad M E ws) {k idx : Nat} (hk : k < (M.2.1 2)) (hl2 : Cond.classLink own idx "[I" ∈ Ts) (hd : decode code pc = .ok (.checkcast idx, 3)) (K : q_WA p l e R s m args below meth c D N0 nL Q kc ks ws (pc + 3) lv (.ref (ad 2 k) :: st)) : q_WA p l e R s m args below meth c D N0 nL Q kc ks ws pc lv (.ref (ad 2 k) :: st) := by
  obtain ⟨Rst, h1, -⟩ := mW_l2 hW
  exact l_cast C h1 hk hl2 hd K
theorem m_rast_2 (C : q_C p s m args meth c code nL ret Ts own D cc N0) (hW : mW cc ga ad M E ws) {k : Nat} {j v : Int32} (hk : k < (M.2.1 2)) (hj : q_in j 3) (hd : decode code pc = .ok (.iastore, 1)) (K : ∀ ws', mW cc ga ad (mrow M 2 k j.toNatClampNeg v) E ws' → q_WA p l e R s m args below meth c D N0 nL Q kc ks ws' (pc + 1) lv st) : q_WA p l e R s m args below meth c D N0 nL Q kc ks ws pc lv (.int v :: .int j :: .ref (ad 2 k) :: st) := by
  obtain ⟨Rst, h1, h2⟩ := mW_l2 hW
  refine l_rast C h1 hk hj hd (fun ws' h3 => K ws' ?_)
  have h4 := h2 _ _ _ _ E ws' h3
  rw [nup_id] at h4
  have e : mrow M 2 k j.toNatClampNeg v = mlist M 2 (M.2.1 2) (rupd (M.2.2.1 2) k (upd (M.2.2.1 2 k) j.toNatClampNeg v)) (M.1 22) := by
    unfold mrow mlist
    rw [nup_id, nup_id]
  rw [e]
  exact h4
theorem m_add_2 (C : q_C p s m args meth c code nL ret Ts own D cc N0) {q : Nat} {f : Nat → Int32} (hW : mW cc ga ad M ((q, .inl (cc 0, 3, .inl f)) :: E) ws) (hn : (M.2.1 2) < 64) {idx count : Nat} (hG : GoodIn Ts (va_wsF own idx RJx4a65c ⟨"java/util/List", "add", "(Ljava/lang/Object;)Z"⟩ yJx4a65c_add_9ea2d wsJx4a65c_add_9ea2d)) (hR : 10 ≤ R.frames ∧ 400 ≤ R.locals) (hs : (st.map fun v => v.category).sum ≤ 8) (hd : decode code pc = .ok (.invokeinterface idx count, 5)) (hf : kc + 1 ≤ R.cells ∧ ks + 100 ≤ R.slots) (K : ∀ (ad' : Nat → Nat → Nat) (ws' : va_W), mW cc ga ad' (madd M 2 f) E ws' → q_WA p l e R s m args below meth c D N0 nL Q (kc + 1) (ks + 100) ws' (pc + 5) lv (.int 1 :: st)) : q_WA p l e R s m args below meth c D N0 nL Q kc ks ws pc lv (.ref q :: .ref (ga 3) :: st) := by
  obtain ⟨Rst, h1, h2⟩ := mW_l2 hW
  exact l_add C (h1.out (List.perm_middle (l₁ := Rst))) hn hG hR hs hd hf (fun ws' h3 => K _ ws' (h2 _ _ _ _ E ws' h3))
theorem m_clear_2 (C : q_C p s m args meth c code nL ret Ts own D cc N0) (hW : mW cc ga ad M E ws) {idx count : Nat} (hG : GoodIn Ts (va_wsF own idx RJx4a65c ⟨"java/util/List", "clear", "()V"⟩ yJx4a65c_clear_da8c8 wsJx4a65c_clear_da8c8)) (hR : 1 ≤ R.frames ∧ 30 ≤ R.locals) (hs : (st.map fun v => v.category).sum ≤ 8) (hd : decode code pc = .ok (.invokeinterface idx count, 5)) (hf : kc ≤ R.cells ∧ ks ≤ R.slots) (K : ∀ ws', mW cc ga ad (mclr M 2) E ws' → q_WA p l e R s m args below meth c D N0 nL Q kc ks ws' (pc + 5) lv st) : q_WA p l e R s m args below meth c D N0 nL Q kc ks ws pc lv (.ref (ga 3) :: st) := by
  obtain ⟨Rst, h1, h2⟩ := mW_l2 hW
  refine l_clear C h1 hG hR hs hd hf (fun ws' h3 => K ws' ?_)
  have h4 := h2 _ _ _ _ E ws' h3
  rw [nup_id] at h4
  exact h4
theorem m_size_3 (C : q_C p s m args meth c code nL ret Ts own D cc N0) (hW : mW cc ga ad M E ws) {idx count : Nat} (hG : GoodIn Ts (va_wsF own idx RJx4a65c ⟨"java/util/List", "size", "()I"⟩ yJx4a65c_size_8abf5 wsJx4a65c_size_8abf5)) (hR : 1 ≤ R.frames ∧ 30 ≤ R.locals) (hs : (st.map fun v => v.category).sum ≤ 8) (hd : decode code pc = .ok (.invokeinterface idx count, 5)) (hf : kc ≤ R.cells ∧ ks ≤ R.slots) (K : q_WA p l e R s m args below meth c D N0 nL Q kc ks ws (pc + 5) lv (.int (nI (M.2.1 3)) :: st)) : q_WA p l e R s m args below meth c D N0 nL Q kc ks ws pc lv (.ref (ga 4) :: st) := by
  obtain ⟨Rst, h1, -⟩ := mW_l3 hW
  exact l_size (fr := 0) (lo := 0) C h1 hG hR hs hd hf K
theorem m_isEmpty_3 (C : q_C p s m args meth c code nL ret Ts own D cc N0) (hW : mW cc ga ad M E ws) {idx count : Nat} (hG : GoodIn Ts (va_wsF own idx RJx4a65c ⟨"java/util/List", "isEmpty", "()Z"⟩ yJx4a65c_isEmpty_aae02 wsJx4a65c_isEmpty_aae02)) (hR : 1 ≤ R.frames ∧ 30 ≤ R.locals) (hs : (st.map fun v => v.category).sum ≤ 8) (hd : decode code pc = .ok (.invokeinterface idx count, 5)) (hf : kc ≤ R.cells ∧ ks ≤ R.slots) (K : q_WA p l e R s m args below meth c D N0 nL Q kc ks ws (pc + 5) lv (.int (q_b (decide ((M.2.1 3) = 0))) :: st)) : q_WA p l e R s m args below meth c D N0 nL Q kc ks ws pc lv (.ref (ga 4) :: st) := by
  obtain ⟨Rst, h1, -⟩ := mW_l3 hW
  exact l_isEmpty C h1 hG hR hs hd hf K
theorem m_get_3 (C : q_C p s m args meth c code nL ret Ts own D cc N0) (hW : mW cc ga ad M E ws) {idx count : Nat} {j : Int32} (hj : q_in j (M.2.1 3)) (hG : GoodIn Ts (va_wsF own idx RJx4a65c ⟨"java/util/List", "get", "(I)Ljava/lang/Object;"⟩ yJx4a65c_get_915e3 wsJx4a65c_get_915e3)) (hR : 4 ≤ R.frames ∧ 100 ≤ R.locals) (hs : (st.map fun v => v.category).sum ≤ 8) (hd : decode code pc = .ok (.invokeinterface idx count, 5)) (hf : kc ≤ R.cells ∧ ks ≤ R.slots) (K : q_WA p l e R s m args below meth c D N0 nL Q kc ks ws (pc + 5) lv (.ref (ad 3 j.toNatClampNeg) :: st)) : q_WA p l e R s m args below meth c D N0 nL Q kc ks ws pc lv (.int j :: .ref (ga 4) :: st) := by
  obtain ⟨Rst, h1, -⟩ := mW_l3 hW
  exact l_get C h1 hj hG hR hs hd hf K
theorem m_iter_3 (C : q_C p s m args meth c code nL ret Ts own D cc N0) (hW : mW cc ga ad M E ws) {idx count : Nat} (hG : GoodIn Ts (va_wsF own idx RJx4a65c ⟨"java/util/List", "iterator", "()Ljava/util/Iterator;"⟩ yJx4a65c_iterator_32c93 wsJx4a65c_iterator_32c93)) (hR : 3 ≤ R.frames ∧ 90 ≤ R.locals) (hs : (st.map fun v => v.category).sum ≤ 8) (hd : decode code pc = .ok (.invokeinterface idx count, 5)) (hf : kc + 1 ≤ R.cells ∧ ks + 4 ≤ R.slots) (K : ∀ (it : Nat) (ws' : va_W), mW cc ga ad M ((it, q_it 0 (-1) (M.1 23) (ga 4)) :: E) ws' → q_WA p l e R s m args below meth c D N0 nL Q (kc + 1) (ks + 4) ws' (pc + 5) lv (.ref it :: st)) : q_WA p l e R s m args below meth c D N0 nL Q kc ks ws pc lv (.ref (ga 4) :: st) := by
  obtain ⟨Rst, h1, h2⟩ := mW_l3 hW
  refine l_iter C h1 hG hR hs hd hf (fun it ws' h3 => K it ws' ?_)
  have h4 := h2 _ _ _ _ ((it, q_it 0 (-1) (M.1 23) (ga 4)) :: E) ws' (h3.out (List.perm_middle (l₁ := Rst)).symm)
  rw [nup_id, mlist_id] at h4
  exact h4
theorem m_has_3 (C : q_C p s m args meth c code nL ret Ts own D cc N0) {it : Nat} {cur last xp : Int32} (hW : mW cc ga ad M ((it, q_it cur last xp (ga 4)) :: E) ws) {idx count : Nat} (hG : GoodIn Ts (va_wsF own idx RJx35411 ⟨"java/util/Iterator", "hasNext", "()Z"⟩ yJx35411_hasNext_aae02 wsJx35411_hasNext_aae02)) (hR : 1 ≤ R.frames ∧ 30 ≤ R.locals) (hs : (st.map fun v => v.category).sum ≤ 8) (hd : decode code pc = .ok (.invokeinterface idx count, 5)) (hf : kc ≤ R.cells ∧ ks ≤ R.slots) (K : q_WA p l e R s m args below meth c D N0 nL Q kc ks ws (pc + 5) lv (.int (q_b (!decide (cur = nI (M.2.1 3)))) :: st)) : q_WA p l e R s m args below meth c D N0 nL Q kc ks ws pc lv (.ref it :: st) := by
  obtain ⟨Rst, h1, -⟩ := mW_l3 hW
  exact l_has C (h1.out (List.perm_middle (l₁ := Rst))) hG hR hs hd hf K
theorem m_next_3 (C : q_C p s m args meth c code nL ret Ts own D cc N0) {it : Nat} {cur last xp : Int32} (hW : mW cc ga ad M ((it, q_it cur last xp (ga 4)) :: E) ws) (hj : q_in cur (M.2.1 3) ∧ xp = (M.1 23)) {idx count : Nat} (hG : GoodIn Ts (va_wsF own idx RJx35411 ⟨"java/util/Iterator", "next", "()Ljava/lang/Object;"⟩ yJx35411_next_0502b wsJx35411_next_0502b)) (hR : 3 ≤ R.frames ∧ 90 ≤ R.locals) (hs : (st.map fun v => v.category).sum ≤ 8) (hd : decode code pc = .ok (.invokeinterface idx count, 5)) (hf : kc ≤ R.cells ∧ ks ≤ R.slots) (K : ∀ ws', mW cc ga ad M ((it, q_it (cur + 1) cur xp (ga 4)) :: E) ws' → q_WA p l e R s m args below meth c D N0 nL Q kc ks ws' (pc + 5) lv (.ref (ad 3 cur.toNatClampNeg) :: st)) : q_WA p l e R s m args below meth c D N0 nL Q kc ks ws pc lv (.ref it :: st) := by
  obtain ⟨hj, rfl⟩ := hj
  obtain ⟨Rst, h1, h2⟩ := mW_l3 hW
  refine l_next C (h1.out (List.perm_middle (l₁ := Rst))) hj hG hR hs hd hf (fun ws' h3 => K ws' ?_)
  have h4 := h2 _ _ _ _ ((it, q_it (cur + 1) cur (M.1 23) (ga 4)) :: E) ws' (h3.out (List.perm_middle (l₁ := Rst)).symm)
  rw [nup_id, mlist_id] at h4
  exact h4
theorem m_rald_3 (C : q_C p s m args meth c code nL ret Ts own D cc N0) (hW : mW cc ga ad M E ws) {k : Nat} {j : Int32} (hk : k < (M.2.1 3)) (hj : q_in j 3) (hd : decode code pc = .ok (.iaload, 1)) (K : q_WA p l e R s m args below meth c D N0 nL Q kc ks ws (pc + 1) lv (.int (M.2.2.1 3 k j.toNatClampNeg) :: st)) : q_WA p l e R s m args below meth c D N0 nL Q kc ks ws pc lv (.int j :: .ref (ad 3 k) :: st) := by
  obtain ⟨Rst, h1, -⟩ := mW_l3 hW
  exact l_rald C h1 hk hj hd K
theorem m_cast_3 (C : q_C p s m args meth c code nL ret Ts own D cc N0) (hW : mW cc ga ad M E ws) {k idx : Nat} (hk : k < (M.2.1 3)) (hl2 : Cond.classLink own idx "[I" ∈ Ts) (hd : decode code pc = .ok (.checkcast idx, 3)) (K : q_WA p l e R s m args below meth c D N0 nL Q kc ks ws (pc + 3) lv (.ref (ad 3 k) :: st)) : q_WA p l e R s m args below meth c D N0 nL Q kc ks ws pc lv (.ref (ad 3 k) :: st) := by
  obtain ⟨Rst, h1, -⟩ := mW_l3 hW
  exact l_cast C h1 hk hl2 hd K
theorem m_rast_3 (C : q_C p s m args meth c code nL ret Ts own D cc N0) (hW : mW cc ga ad M E ws) {k : Nat} {j v : Int32} (hk : k < (M.2.1 3)) (hj : q_in j 3) (hd : decode code pc = .ok (.iastore, 1)) (K : ∀ ws', mW cc ga ad (mrow M 3 k j.toNatClampNeg v) E ws' → q_WA p l e R s m args below meth c D N0 nL Q kc ks ws' (pc + 1) lv st) : q_WA p l e R s m args below meth c D N0 nL Q kc ks ws pc lv (.int v :: .int j :: .ref (ad 3 k) :: st) := by
  obtain ⟨Rst, h1, h2⟩ := mW_l3 hW
  refine l_rast C h1 hk hj hd (fun ws' h3 => K ws' ?_)
  have h4 := h2 _ _ _ _ E ws' h3
  rw [nup_id] at h4
  have e : mrow M 3 k j.toNatClampNeg v = mlist M 3 (M.2.1 3) (rupd (M.2.2.1 3) k (upd (M.2.2.1 3 k) j.toNatClampNeg v)) (M.1 23) := by
    unfold mrow mlist
    rw [nup_id, nup_id]
  rw [e]
  exact h4
theorem m_add_3 (C : q_C p s m args meth c code nL ret Ts own D cc N0) {q : Nat} {f : Nat → Int32} (hW : mW cc ga ad M ((q, .inl (cc 0, 3, .inl f)) :: E) ws) (hn : (M.2.1 3) < 64) {idx count : Nat} (hG : GoodIn Ts (va_wsF own idx RJx4a65c ⟨"java/util/List", "add", "(Ljava/lang/Object;)Z"⟩ yJx4a65c_add_9ea2d wsJx4a65c_add_9ea2d)) (hR : 10 ≤ R.frames ∧ 400 ≤ R.locals) (hs : (st.map fun v => v.category).sum ≤ 8) (hd : decode code pc = .ok (.invokeinterface idx count, 5)) (hf : kc + 1 ≤ R.cells ∧ ks + 100 ≤ R.slots) (K : ∀ (ad' : Nat → Nat → Nat) (ws' : va_W), mW cc ga ad' (madd M 3 f) E ws' → q_WA p l e R s m args below meth c D N0 nL Q (kc + 1) (ks + 100) ws' (pc + 5) lv (.int 1 :: st)) : q_WA p l e R s m args below meth c D N0 nL Q kc ks ws pc lv (.ref q :: .ref (ga 4) :: st) := by
  obtain ⟨Rst, h1, h2⟩ := mW_l3 hW
  exact l_add C (h1.out (List.perm_middle (l₁ := Rst))) hn hG hR hs hd hf (fun ws' h3 => K _ ws' (h2 _ _ _ _ E ws' h3))
theorem m_clear_3 (C : q_C p s m args meth c code nL ret Ts own D cc N0) (hW : mW cc ga ad M E ws) {idx count : Nat} (hG : GoodIn Ts (va_wsF own idx RJx4a65c ⟨"java/util/List", "clear", "()V"⟩ yJx4a65c_clear_da8c8 wsJx4a65c_clear_da8c8)) (hR : 1 ≤ R.frames ∧ 30 ≤ R.locals) (hs : (st.map fun v => v.category).sum ≤ 8) (hd : decode code pc = .ok (.invokeinterface idx count, 5)) (hf : kc ≤ R.cells ∧ ks ≤ R.slots) (K : ∀ ws', mW cc ga ad (mclr M 3) E ws' → q_WA p l e R s m args below meth c D N0 nL Q kc ks ws' (pc + 5) lv st) : q_WA p l e R s m args below meth c D N0 nL Q kc ks ws pc lv (.ref (ga 4) :: st) := by
  obtain ⟨Rst, h1, h2⟩ := mW_l3 hW
  refine l_clear C h1 hG hR hs hd hf (fun ws' h3 => K ws' ?_)
  have h4 := h2 _ _ _ _ E ws' h3
  rw [nup_id] at h4
  exact h4
theorem m_size_4 (C : q_C p s m args meth c code nL ret Ts own D cc N0) (hW : mW cc ga ad M E ws) {idx count : Nat} (hG : GoodIn Ts (va_wsF own idx RJx4a65c ⟨"java/util/List", "size", "()I"⟩ yJx4a65c_size_8abf5 wsJx4a65c_size_8abf5)) (hR : 1 ≤ R.frames ∧ 30 ≤ R.locals) (hs : (st.map fun v => v.category).sum ≤ 8) (hd : decode code pc = .ok (.invokeinterface idx count, 5)) (hf : kc ≤ R.cells ∧ ks ≤ R.slots) (K : q_WA p l e R s m args below meth c D N0 nL Q kc ks ws (pc + 5) lv (.int (nI (M.2.1 4)) :: st)) : q_WA p l e R s m args below meth c D N0 nL Q kc ks ws pc lv (.ref (ga 5) :: st) := by
  obtain ⟨Rst, h1, -⟩ := mW_l4 hW
  exact l_size (fr := 0) (lo := 0) C h1 hG hR hs hd hf K
theorem m_isEmpty_4 (C : q_C p s m args meth c code nL ret Ts own D cc N0) (hW : mW cc ga ad M E ws) {idx count : Nat} (hG : GoodIn Ts (va_wsF own idx RJx4a65c ⟨"java/util/List", "isEmpty", "()Z"⟩ yJx4a65c_isEmpty_aae02 wsJx4a65c_isEmpty_aae02)) (hR : 1 ≤ R.frames ∧ 30 ≤ R.locals) (hs : (st.map fun v => v.category).sum ≤ 8) (hd : decode code pc = .ok (.invokeinterface idx count, 5)) (hf : kc ≤ R.cells ∧ ks ≤ R.slots) (K : q_WA p l e R s m args below meth c D N0 nL Q kc ks ws (pc + 5) lv (.int (q_b (decide ((M.2.1 4) = 0))) :: st)) : q_WA p l e R s m args below meth c D N0 nL Q kc ks ws pc lv (.ref (ga 5) :: st) := by
  obtain ⟨Rst, h1, -⟩ := mW_l4 hW
  exact l_isEmpty C h1 hG hR hs hd hf K
theorem m_get_4 (C : q_C p s m args meth c code nL ret Ts own D cc N0) (hW : mW cc ga ad M E ws) {idx count : Nat} {j : Int32} (hj : q_in j (M.2.1 4)) (hG : GoodIn Ts (va_wsF own idx RJx4a65c ⟨"java/util/List", "get", "(I)Ljava/lang/Object;"⟩ yJx4a65c_get_915e3 wsJx4a65c_get_915e3)) (hR : 4 ≤ R.frames ∧ 100 ≤ R.locals) (hs : (st.map fun v => v.category).sum ≤ 8) (hd : decode code pc = .ok (.invokeinterface idx count, 5)) (hf : kc ≤ R.cells ∧ ks ≤ R.slots) (K : q_WA p l e R s m args below meth c D N0 nL Q kc ks ws (pc + 5) lv (.ref (ad 4 j.toNatClampNeg) :: st)) : q_WA p l e R s m args below meth c D N0 nL Q kc ks ws pc lv (.int j :: .ref (ga 5) :: st) := by
  obtain ⟨Rst, h1, -⟩ := mW_l4 hW
  exact l_get C h1 hj hG hR hs hd hf K
theorem m_iter_4 (C : q_C p s m args meth c code nL ret Ts own D cc N0) (hW : mW cc ga ad M E ws) {idx count : Nat} (hG : GoodIn Ts (va_wsF own idx RJx4a65c ⟨"java/util/List", "iterator", "()Ljava/util/Iterator;"⟩ yJx4a65c_iterator_32c93 wsJx4a65c_iterator_32c93)) (hR : 3 ≤ R.frames ∧ 90 ≤ R.locals) (hs : (st.map fun v => v.category).sum ≤ 8) (hd : decode code pc = .ok (.invokeinterface idx count, 5)) (hf : kc + 1 ≤ R.cells ∧ ks + 4 ≤ R.slots) (K : ∀ (it : Nat) (ws' : va_W), mW cc ga ad M ((it, q_it 0 (-1) (M.1 24) (ga 5)) :: E) ws' → q_WA p l e R s m args below meth c D N0 nL Q (kc + 1) (ks + 4) ws' (pc + 5) lv (.ref it :: st)) : q_WA p l e R s m args below meth c D N0 nL Q kc ks ws pc lv (.ref (ga 5) :: st) := by
  obtain ⟨Rst, h1, h2⟩ := mW_l4 hW
  refine l_iter C h1 hG hR hs hd hf (fun it ws' h3 => K it ws' ?_)
  have h4 := h2 _ _ _ _ ((it, q_it 0 (-1) (M.1 24) (ga 5)) :: E) ws' (h3.out (List.perm_middle (l₁ := Rst)).symm)
  rw [nup_id, mlist_id] at h4
  exact h4
theorem m_has_4 (C : q_C p s m args meth c code nL ret Ts own D cc N0) {it : Nat} {cur last xp : Int32} (hW : mW cc ga ad M ((it, q_it cur last xp (ga 5)) :: E) ws) {idx count : Nat} (hG : GoodIn Ts (va_wsF own idx RJx35411 ⟨"java/util/Iterator", "hasNext", "()Z"⟩ yJx35411_hasNext_aae02 wsJx35411_hasNext_aae02)) (hR : 1 ≤ R.frames ∧ 30 ≤ R.locals) (hs : (st.map fun v => v.category).sum ≤ 8) (hd : decode code pc = .ok (.invokeinterface idx count, 5)) (hf : kc ≤ R.cells ∧ ks ≤ R.slots) (K : q_WA p l e R s m args below meth c D N0 nL Q kc ks ws (pc + 5) lv (.int (q_b (!decide (cur = nI (M.2.1 4)))) :: st)) : q_WA p l e R s m args below meth c D N0 nL Q kc ks ws pc lv (.ref it :: st) := by
  obtain ⟨Rst, h1, -⟩ := mW_l4 hW
  exact l_has C (h1.out (List.perm_middle (l₁ := Rst))) hG hR hs hd hf K
theorem m_next_4 (C : q_C p s m args meth c code nL ret Ts own D cc N0) {it : Nat} {cur last xp : Int32} (hW : mW cc ga ad M ((it, q_it cur last xp (ga 5)) :: E) ws) (hj : q_in cur (M.2.1 4) ∧ xp = (M.1 24)) {idx count : Nat} (hG : GoodIn Ts (va_wsF own idx RJx35411 ⟨"java/util/Iterator", "next", "()Ljava/lang/Object;"⟩ yJx35411_next_0502b wsJx35411_next_0502b)) (hR : 3 ≤ R.frames ∧ 90 ≤ R.locals) (hs : (st.map fun v => v.category).sum ≤ 8) (hd : decode code pc = .ok (.invokeinterface idx count, 5)) (hf : kc ≤ R.cells ∧ ks ≤ R.slots) (K : ∀ ws', mW cc ga ad M ((it, q_it (cur + 1) cur xp (ga 5)) :: E) ws' → q_WA p l e R s m args below meth c D N0 nL Q kc ks ws' (pc + 5) lv (.ref (ad 4 cur.toNatClampNeg) :: st)) : q_WA p l e R s m args below meth c D N0 nL Q kc ks ws pc lv (.ref it :: st) := by
  obtain ⟨hj, rfl⟩ := hj
  obtain ⟨Rst, h1, h2⟩ := mW_l4 hW
  refine l_next C (h1.out (List.perm_middle (l₁ := Rst))) hj hG hR hs hd hf (fun ws' h3 => K ws' ?_)
  have h4 := h2 _ _ _ _ ((it, q_it (cur + 1) cur (M.1 24) (ga 5)) :: E) ws' (h3.out (List.perm_middle (l₁ := Rst)).symm)
  rw [nup_id, mlist_id] at h4
  exact h4
theorem m_rald_4 (C : q_C p s m args meth c code nL ret Ts own D cc N0) (hW : mW cc ga ad M E ws) {k : Nat} {j : Int32} (hk : k < (M.2.1 4)) (hj : q_in j 2) (hd : decode code pc = .ok (.iaload, 1)) (K : q_WA p l e R s m args below meth c D N0 nL Q kc ks ws (pc + 1) lv (.int (M.2.2.1 4 k j.toNatClampNeg) :: st)) : q_WA p l e R s m args below meth c D N0 nL Q kc ks ws pc lv (.int j :: .ref (ad 4 k) :: st) := by
  obtain ⟨Rst, h1, -⟩ := mW_l4 hW
  exact l_rald C h1 hk hj hd K
theorem m_cast_4 (C : q_C p s m args meth c code nL ret Ts own D cc N0) (hW : mW cc ga ad M E ws) {k idx : Nat} (hk : k < (M.2.1 4)) (hl2 : Cond.classLink own idx "[I" ∈ Ts) (hd : decode code pc = .ok (.checkcast idx, 3)) (K : q_WA p l e R s m args below meth c D N0 nL Q kc ks ws (pc + 3) lv (.ref (ad 4 k) :: st)) : q_WA p l e R s m args below meth c D N0 nL Q kc ks ws pc lv (.ref (ad 4 k) :: st) := by
  obtain ⟨Rst, h1, -⟩ := mW_l4 hW
  exact l_cast C h1 hk hl2 hd K
theorem m_rast_4 (C : q_C p s m args meth c code nL ret Ts own D cc N0) (hW : mW cc ga ad M E ws) {k : Nat} {j v : Int32} (hk : k < (M.2.1 4)) (hj : q_in j 2) (hd : decode code pc = .ok (.iastore, 1)) (K : ∀ ws', mW cc ga ad (mrow M 4 k j.toNatClampNeg v) E ws' → q_WA p l e R s m args below meth c D N0 nL Q kc ks ws' (pc + 1) lv st) : q_WA p l e R s m args below meth c D N0 nL Q kc ks ws pc lv (.int v :: .int j :: .ref (ad 4 k) :: st) := by
  obtain ⟨Rst, h1, h2⟩ := mW_l4 hW
  refine l_rast C h1 hk hj hd (fun ws' h3 => K ws' ?_)
  have h4 := h2 _ _ _ _ E ws' h3
  rw [nup_id] at h4
  have e : mrow M 4 k j.toNatClampNeg v = mlist M 4 (M.2.1 4) (rupd (M.2.2.1 4) k (upd (M.2.2.1 4 k) j.toNatClampNeg v)) (M.1 24) := by
    unfold mrow mlist
    rw [nup_id, nup_id]
  rw [e]
  exact h4
theorem m_add_4 (C : q_C p s m args meth c code nL ret Ts own D cc N0) {q : Nat} {f : Nat → Int32} (hW : mW cc ga ad M ((q, .inl (cc 0, 2, .inl f)) :: E) ws) (hn : (M.2.1 4) < 64) {idx count : Nat} (hG : GoodIn Ts (va_wsF own idx RJx4a65c ⟨"java/util/List", "add", "(Ljava/lang/Object;)Z"⟩ yJx4a65c_add_9ea2d wsJx4a65c_add_9ea2d)) (hR : 10 ≤ R.frames ∧ 400 ≤ R.locals) (hs : (st.map fun v => v.category).sum ≤ 8) (hd : decode code pc = .ok (.invokeinterface idx count, 5)) (hf : kc + 1 ≤ R.cells ∧ ks + 100 ≤ R.slots) (K : ∀ (ad' : Nat → Nat → Nat) (ws' : va_W), mW cc ga ad' (madd M 4 f) E ws' → q_WA p l e R s m args below meth c D N0 nL Q (kc + 1) (ks + 100) ws' (pc + 5) lv (.int 1 :: st)) : q_WA p l e R s m args below meth c D N0 nL Q kc ks ws pc lv (.ref q :: .ref (ga 5) :: st) := by
  obtain ⟨Rst, h1, h2⟩ := mW_l4 hW
  exact l_add C (h1.out (List.perm_middle (l₁ := Rst))) hn hG hR hs hd hf (fun ws' h3 => K _ ws' (h2 _ _ _ _ E ws' h3))
theorem m_clear_4 (C : q_C p s m args meth c code nL ret Ts own D cc N0) (hW : mW cc ga ad M E ws) {idx count : Nat} (hG : GoodIn Ts (va_wsF own idx RJx4a65c ⟨"java/util/List", "clear", "()V"⟩ yJx4a65c_clear_da8c8 wsJx4a65c_clear_da8c8)) (hR : 1 ≤ R.frames ∧ 30 ≤ R.locals) (hs : (st.map fun v => v.category).sum ≤ 8) (hd : decode code pc = .ok (.invokeinterface idx count, 5)) (hf : kc ≤ R.cells ∧ ks ≤ R.slots) (K : ∀ ws', mW cc ga ad (mclr M 4) E ws' → q_WA p l e R s m args below meth c D N0 nL Q kc ks ws' (pc + 5) lv st) : q_WA p l e R s m args below meth c D N0 nL Q kc ks ws pc lv (.ref (ga 5) :: st) := by
  obtain ⟨Rst, h1, h2⟩ := mW_l4 hW
  refine l_clear C h1 hG hR hs hd hf (fun ws' h3 => K ws' ?_)
  have h4 := h2 _ _ _ _ E ws' h3
  rw [nup_id] at h4
  exact h4
theorem t_new (C : q_C p s m args meth c code nL ret Ts own D cc N0) (hW : mW cc ga ad M E ws) {atype : ArrayType} {ty : FieldType} (t0 : Nat) {cA : ClassId} (ht : (q_T cc)[t0]? = some (cA, ty)) (hno : ∀ n, ty ≠ .object n) (harr : Cond.arrayClass (newarray.typeOf atype) ∈ Ts) (hty : newarray.typeOf atype = ty) {n : Int32} {N' : Nat} (a0 : vp_A) (ha : ∀ cA : ClassId, vp_cell cA a0 = arrV cA N' (fun _ => defaultValue ty)) (hn : ¬ n < 0) (hN : n.toNatClampNeg = N') (hbytes : N' * componentBytes ty ≤ 536870912) (hcells : kc + 1 ≤ R.cells) (hslots : ks + N' ≤ R.slots) (hd : decode code pc = .ok (.newarray atype, 2))
    (K : ∀ (q : Nat) (ws' : va_W), mW cc ga ad M ((q, .inl (cA, a0)) :: E) ws' → q_WA p l e R s m args below meth c D N0 nL Q (kc + 1) (ks + N') ws' (pc + 2) lv (.ref q :: st)) : q_WA p l e R s m args below meth c D N0 nL Q kc ks ws pc lv (.int n :: st) :=
  q_newa C t0 ht hno harr hty a0 ha hn hN hbytes hcells hslots hd (fun q => K q _ hW.cons)
theorem t_iald (C : q_C p s m args meth c code nL ret Ts own D cc N0) {q n : Nat} {f : Nat → Int32} {i : Int32} (hW : mW cc ga ad M ((q, .inl (cc 0, n, .inl f)) :: E) ws) (hi : q_in i n) (hd : decode code pc = .ok (.iaload, 1)) (K : q_WA p l e R s m args below meth c D N0 nL Q kc ks ws (pc + 1) lv (.int (f i.toNatClampNeg) :: st)) : q_WA p l e R s m args below meth c D N0 nL Q kc ks ws pc lv (.int i :: .ref q :: st) := by
  obtain ⟨T, hp, -, -⟩ := hW.temp
  refine q_perm hp ?_
  exact q_iald C 0 rfl hi hd (q_perm hp.symm K)
theorem t_iast (C : q_C p s m args meth c code nL ret Ts own D cc N0) {q n : Nat} {f : Nat → Int32} {i v : Int32} (hW : mW cc ga ad M ((q, .inl (cc 0, n, .inl f)) :: E) ws) (hi : q_in i n) (hd : decode code pc = .ok (.iastore, 1)) (K : ∀ ws', mW cc ga ad M ((q, .inl (cc 0, n, .inl (upd f i.toNatClampNeg v))) :: E) ws' → q_WA p l e R s m args below meth c D N0 nL Q kc ks ws' (pc + 1) lv st) : q_WA p l e R s m args below meth c D N0 nL Q kc ks ws pc lv (.int v :: .int i :: .ref q :: st) := by
  obtain ⟨T, hp, -, h⟩ := hW.temp
  refine q_perm hp ?_
  exact q_iast C 0 rfl hi hd rfl (K _ (h _))
theorem t_zald (C : q_C p s m args meth c code nL ret Ts own D cc N0) {q n : Nat} {f : Nat → Int32} {i : Int32} (hW : mW cc ga ad M ((q, .inl (cc 1, n, .inl f)) :: E) ws) (hi : q_in i n) (hd : decode code pc = .ok (.baload, 1)) (K : q_WA p l e R s m args below meth c D N0 nL Q kc ks ws (pc + 1) lv (.int (f i.toNatClampNeg) :: st)) : q_WA p l e R s m args below meth c D N0 nL Q kc ks ws pc lv (.int i :: .ref q :: st) := by
  obtain ⟨T, hp, -, -⟩ := hW.temp
  refine q_perm hp ?_
  exact q_zald C 0 rfl hi hd (q_perm hp.symm K)
theorem t_zast (C : q_C p s m args meth c code nL ret Ts own D cc N0) {q n : Nat} {f : Nat → Int32} {i v : Int32} (hW : mW cc ga ad M ((q, .inl (cc 1, n, .inl f)) :: E) ws) (hi : q_in i n) (hd : decode code pc = .ok (.bastore, 1)) (K : ∀ ws', mW cc ga ad M ((q, .inl (cc 1, n, .inl (upd f i.toNatClampNeg (vp_nar .boolean v)))) :: E) ws' → q_WA p l e R s m args below meth c D N0 nL Q kc ks ws' (pc + 1) lv st) : q_WA p l e R s m args below meth c D N0 nL Q kc ks ws pc lv (.int v :: .int i :: .ref q :: st) := by
  obtain ⟨T, hp, -, h⟩ := hW.temp
  refine q_perm hp ?_
  exact q_zast C 0 rfl hi hd rfl (K _ (h _))
theorem t_drop {x : Nat × va_E} (hW : mW cc ga ad M (x :: E) ws) (K : ∀ ws', mW cc ga ad M E ws' → q_WA p l e R s m args below meth c D N0 nL Q kc ks ws' pc lv st) : q_WA p l e R s m args below meth c D N0 nL Q kc ks ws pc lv st := by
  obtain ⟨q, x⟩ := x
  obtain ⟨T, hp, h, -⟩ := hW.temp
  exact q_drop (ws' := T) (J := [(q, x)]) (hp.trans (List.perm_append_comm (l₁ := [(q, x)]))) (K T h)
end QMR
