def ik (cc : Nat → ClassId) (mo : Int32) (v : Nat → Nat) (n : Nat) (y : LY) : Prop := y.1 = mo ∧ lok cc (fun k => cc (1000 + v k)) n y ∧ ∀ k, k < n → v k < 256
theorem ik_new {cc : Nat → ClassId} : ik cc 0 (fun _ => 0) 0 (0, cc 8, 0, fun _ => none) := ⟨rfl, ⟨fun _ => rfl, Nat.le_refl _, Or.inl rfl, (show 0 ≤ 100 by decide), fun k hk => absurd hk (by omega)⟩, fun k hk => absurd hk (by omega)⟩
section QIM
variable {p : Program} {l : Launch} {e : Env} {R : Room} {s : State} {m : MethodId} {args : Array Value} {below : List Frame} {meth : Method} {c : Code} {D : va_G} {cc : Nat → ClassId} {N0 nL : Nat} {Q : State → Prop} {kc ks : Nat} {ws : va_W} {pc : Nat} {lv : List (Nat × Value)} {st : List Value} {code : ByteArray} {ret : Option FieldType} {Ts : List Cond} {own : String} {q n : Nat} {v : Nat → Nat} {mo : Int32} {E : va_W} {ga : Nat → Nat} {ad : Nat → Nat → Nat} {M : MS} {y : LY}
theorem mW.il (hW : mW cc ga ad M (iB cc q n y ++ E) ws) (hy : ik cc mo v n y) : ∃ T, iW cc q n v mo T ws ∧ ∀ (X : va_W) (n' : Nat) (v' : Nat → Nat) (mo' : Int32) (ws' : va_W), iW cc q n' v' mo' (X ++ T) ws' → ∃ y', ik cc mo' v' n' y' ∧ mW cc ga ad M (X ++ (iB cc q n' y' ++ E)) ws' := by
  obtain ⟨T, hp, -, hb⟩ := hW.temps
  refine ⟨T, ⟨y, hy.1, hy.2, hp⟩, ?_⟩
  rintro X n' v' mo' ws' ⟨y', h1, h2, h3⟩
  refine ⟨y', ⟨h1, h2⟩, ?_⟩
  have h4 := hb (X ++ iB cc q n' y')
  rw [List.append_assoc, List.append_assoc] at h4
  exact h4.perm (h3.trans (List.perm_append_comm_assoc _ _ _))
theorem mW.il2 {x : Nat × va_E} (hW : mW cc ga ad M (x :: (iB cc q n y ++ E)) ws) (hy : ik cc mo v n y) : ∃ T, iW cc q n v mo (x :: T) ws ∧ ∀ (x' : Nat × va_E) (ws' : va_W), iW cc q n v mo (x' :: T) ws' → ∃ y', ik cc mo v n y' ∧ mW cc ga ad M (x' :: (iB cc q n y' ++ E)) ws' := by
  obtain ⟨T, hp, -, hb⟩ := mW.temps (G := x :: iB cc q n y) hW
  refine ⟨T, ⟨y, hy.1, hy.2, hp.trans (List.perm_middle (l₁ := iB cc q n y)).symm⟩, ?_⟩
  rintro x' ws' ⟨y', h1, h2, h3⟩
  exact ⟨y', ⟨h1, h2⟩, (hb (x' :: iB cc q n y')).perm (h3.trans (List.perm_middle (l₁ := iB cc q n y')))⟩
theorem m_isize (C : q_C p s m args meth c code nL ret Ts own D cc N0) {idx count : Nat} (hW : mW cc ga ad M (iB cc q n y ++ E) ws) (hy : ik cc mo v n y) (hG : GoodIn Ts (va_wsF own idx RJx4a65c ⟨"java/util/List", "size", "()I"⟩ yJx4a65c_size_8abf5 wsJx4a65c_size_8abf5)) (hR : 1 ≤ R.frames ∧ 30 ≤ R.locals) (hs : (st.map fun v => v.category).sum ≤ 8) (hd : decode code pc = .ok (.invokeinterface idx count, 5)) (hf : kc ≤ R.cells ∧ ks ≤ R.slots) (K : q_WA p l e R s m args below meth c D N0 nL Q kc ks ws (pc + 5) lv (.int (nI n) :: st)) : q_WA p l e R s m args below meth c D N0 nL Q kc ks ws pc lv (.ref q :: st) := by
  obtain ⟨T, h1, -⟩ := hW.il hy
  exact i_size C h1 hG hR hs hd hf K
theorem m_iiter (C : q_C p s m args meth c code nL ret Ts own D cc N0) {idx count : Nat} (hW : mW cc ga ad M (iB cc q n y ++ E) ws) (hy : ik cc mo v n y) (hG : GoodIn Ts (va_wsF own idx RJx4a65c ⟨"java/util/List", "iterator", "()Ljava/util/Iterator;"⟩ yJx4a65c_iterator_32c93 wsJx4a65c_iterator_32c93)) (hR : 3 ≤ R.frames ∧ 90 ≤ R.locals) (hs : (st.map fun v => v.category).sum ≤ 8) (hd : decode code pc = .ok (.invokeinterface idx count, 5)) (hf : kc + 1 ≤ R.cells ∧ ks + 4 ≤ R.slots) (K : ∀ (it : Nat) (y : LY) (ws' : va_W), mW cc ga ad M ((it, q_it 0 (-1) mo q) :: (iB cc q n y ++ E)) ws' → ik cc mo v n y → q_WA p l e R s m args below meth c D N0 nL Q (kc + 1) (ks + 4) ws' (pc + 5) lv (.ref it :: st)) : q_WA p l e R s m args below meth c D N0 nL Q kc ks ws pc lv (.ref q :: st) := by
  obtain ⟨T, h1, h2⟩ := hW.il hy
  refine i_iter C h1 hG hR hs hd hf (fun it ws' h3 => ?_)
  obtain ⟨y', h4, h5⟩ := h2 [(it, q_it 0 (-1) mo q)] _ _ _ ws' h3
  exact K it y' ws' h5 h4
theorem m_iadd (C : q_C p s m args meth c code nL ret Ts own D cc N0) {idx count k : Nat} (hW : mW cc ga ad M (iB cc q n y ++ E) ws) (hy : ik cc mo v n y) (hn : n < 64) (hk : k < 256) (hG : GoodIn Ts (va_wsF own idx RJx4a65c ⟨"java/util/List", "add", "(Ljava/lang/Object;)Z"⟩ yJx4a65c_add_9ea2d wsJx4a65c_add_9ea2d)) (hR : 10 ≤ R.frames ∧ 400 ≤ R.locals) (hs : (st.map fun v => v.category).sum ≤ 8) (hd : decode code pc = .ok (.invokeinterface idx count, 5)) (hf : kc + 1 ≤ R.cells ∧ ks + 100 ≤ R.slots) (K : ∀ (y : LY) (ws' : va_W), mW cc ga ad M (iB cc q (n + 1) y ++ E) ws' → ik cc (mo + 1) (nup v n k) (n + 1) y → q_WA p l e R s m args below meth c D N0 nL Q (kc + 1) (ks + 100) ws' (pc + 5) lv (.int 1 :: st)) : q_WA p l e R s m args below meth c D N0 nL Q kc ks ws pc lv (.ref (cc (1000 + k)) :: .ref q :: st) := by
  obtain ⟨T, h1, h2⟩ := hW.il hy
  refine i_add C h1 hn hk hG hR hs hd hf (fun ws' h3 => ?_)
  obtain ⟨y', h4, h5⟩ := h2 [] _ _ _ ws' h3
  exact K y' ws' h5 h4
theorem m_ihas (C : q_C p s m args meth c code nL ret Ts own D cc N0) {idx count it : Nat} {cur last xp : Int32} (hW : mW cc ga ad M ((it, q_it cur last xp q) :: (iB cc q n y ++ E)) ws) (hy : ik cc mo v n y) (hG : GoodIn Ts (va_wsF own idx RJx35411 ⟨"java/util/Iterator", "hasNext", "()Z"⟩ yJx35411_hasNext_aae02 wsJx35411_hasNext_aae02)) (hR : 1 ≤ R.frames ∧ 30 ≤ R.locals) (hs : (st.map fun v => v.category).sum ≤ 8) (hd : decode code pc = .ok (.invokeinterface idx count, 5)) (hf : kc ≤ R.cells ∧ ks ≤ R.slots) (K : q_WA p l e R s m args below meth c D N0 nL Q kc ks ws (pc + 5) lv (.int (q_b (!decide (cur = nI n))) :: st)) : q_WA p l e R s m args below meth c D N0 nL Q kc ks ws pc lv (.ref it :: st) := by
  obtain ⟨T, h1, -⟩ := hW.il2 hy
  exact i_has C h1 hG hR hs hd hf K
theorem m_inext (C : q_C p s m args meth c code nL ret Ts own D cc N0) {idx count it : Nat} {cur last xp : Int32} (hW : mW cc ga ad M ((it, q_it cur last xp q) :: (iB cc q n y ++ E)) ws) (hy : ik cc mo v n y) (hi : q_in cur n ∧ xp = mo) (hG : GoodIn Ts (va_wsF own idx RJx35411 ⟨"java/util/Iterator", "next", "()Ljava/lang/Object;"⟩ yJx35411_next_0502b wsJx35411_next_0502b)) (hR : 3 ≤ R.frames ∧ 90 ≤ R.locals) (hs : (st.map fun v => v.category).sum ≤ 8) (hd : decode code pc = .ok (.invokeinterface idx count, 5)) (hf : kc ≤ R.cells ∧ ks ≤ R.slots) (K : ∀ (y : LY) (ws' : va_W), mW cc ga ad M ((it, q_it (cur + 1) cur xp q) :: (iB cc q n y ++ E)) ws' → ik cc mo v n y → v cur.toNatClampNeg < 256 → q_WA p l e R s m args below meth c D N0 nL Q kc ks ws' (pc + 5) lv (.ref (cc (1000 + v cur.toNatClampNeg)) :: st)) : q_WA p l e R s m args below meth c D N0 nL Q kc ks ws pc lv (.ref it :: st) := by
  obtain ⟨hi, rfl⟩ := hi
  obtain ⟨T, h1, h2⟩ := hW.il2 hy
  refine i_next C h1 hi hG hR hs hd hf (fun ws' h3 => ?_)
  obtain ⟨y', h4, h5⟩ := h2 _ ws' h3
  exact K y' ws' h5 h4 (hy.2.2 _ hi.2)
theorem t_ren (hW : mW cc ga ad M E ws) (K : ∀ ws', mW cc ga ad M E ws' → q_WA p l e R s m args below meth c D N0 nL Q kc ks ws' pc lv st) : q_WA p l e R s m args below meth c D N0 nL Q kc ks ws pc lv st := K ws hW
end QIM
