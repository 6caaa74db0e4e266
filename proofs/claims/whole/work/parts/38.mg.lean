/-! a grid of its own: its address q, its rows' addresses r, what they hold -/
def gE (cc : Nat → ClassId) (q : Nat) (r : Nat → Nat) (h : Nat → Nat → Int32) : va_W := [(q, .inl (cc 3, 5, .inr (.inr (.inr (.inr fun i => if i < 5 then some (r i) else none))))), (r 0, .inl (cc 1, 5, .inl (h 0))), (r 1, .inl (cc 1, 5, .inl (h 1))), (r 2, .inl (cc 1, 5, .inl (h 2))), (r 3, .inl (cc 1, 5, .inl (h 3))), (r 4, .inl (cc 1, 5, .inl (h 4)))]
section QMG
variable {p : Program} {l : Launch} {e : Env} {R : Room} {s : State} {m : MethodId} {args : Array Value} {below : List Frame} {meth : Method} {c : Code} {D : va_G} {cc : Nat → ClassId} {N0 nL : Nat} {Q : State → Prop} {kc ks : Nat} {ws : va_W} {pc : Nat} {lv : List (Nat × Value)} {st : List Value} {code : ByteArray} {ret : Option FieldType} {Ts : List Cond} {own : String}
theorem q_multi (C : q_C p s m args meth c code nL ret Ts own D cc N0) {index : Nat} (hcl : Cond.classLink own index "[[Z" ∈ Ts) (harr : Cond.arrayClass .boolean ∈ Ts) (hcells : kc + 6 ≤ R.cells) (hslots : ks + 30 ≤ R.slots) (hd : decode code pc = .ok (.multianewarray index 2, 4)) (K : ∀ (q : Nat) (r : Nat → Nat), q_WA p l e R s m args below meth c D N0 nL Q (kc + 6) (ks + 30) (gE cc q r (fun _ _ => 0) ++ ws) (pc + 4) lv (.ref q :: st)) : q_WA p l e R s m args below meth c D N0 nL Q kc ks ws pc lv (.int 5 :: .int 5 :: st) := by
  intro H lo ls hP hD hS hl
  have hK := C.2.2.2.2.2.2.2.1.1
  have hb : va_RA s (cc 1) .boolean := (hK.2 1 _ rfl).2
  have e0 : ws ++ va_pl [] (fun _ => (.inl (cc 1, 0, .inl fun _ => 0) : va_E)) = ws := List.append_nil ws
  refine va_mna (X := ws) (L := []) (f := fun _ => (.inl (cc 1, 0, .inl fun _ => 0) : va_E)) (own := own) (ty := .boolean) (cy := cc 1) C.1 C.2.1 C.2.2.2.2.1 (C.2.2.2.2.2.1 _ hcl) C.2.2.2.2.2.2.2.1.2.2.2.2.2.1 (C.2.2.2.2.2.1 _ harr) hb hK (by rw [e0]; exact hP) (by rw [e0]; exact hD) hS (fun q hq => Nat.le_trans C.2.2.2.2.2.2.2.2.1 hq) (n := 5) (k := 5) (N' := 5) (K' := 5) (z := (5, .inl fun _ => 0)) (by decide) (by decide) (by decide) (by decide) (by decide) (by decide) (by decide) (by decide) (by decide) (by show kc + (1 + 5) ≤ _; omega) (by show ks + (5 + 25) ≤ _; omega) (fun _ => rfl) hd ?_
  intro q r cA H1 _ _ hK1 hP1 hD1 hS1
  have h1 : va_RA s (cc 3) (.array .boolean) := (hK.2 3 _ rfl).2
  have h2 : va_RA s cA (.array .boolean) := (hK1.2 (q_T cc).length (cA, .array .boolean) (by rw [List.getElem?_append_right (Nat.le_refl _), Nat.sub_self]; rfl)).2
  have ec : cA = cc 3 := Option.some.inj (h2.symm.trans h1)
  subst ec
  have hp : ((ws ++ [(q, (.inl (cc 3, 5, .inr (.inr (.inr (.inr (fun i => if i < 5 then some (r i) else none))))) : va_E))]) ++ va_pl ([] ++ (List.range 5).map r) (vr_up (fun _ => (.inl (cc 1, 0, .inl fun _ => 0) : va_E)) ((List.range 5).map r) (.inl (cc 1, (5, .inl fun _ => 0))))).Perm (gE cc q r (fun _ _ => 0) ++ ws) := by
    have e1 : va_pl ([] ++ (List.range 5).map r) (vr_up (fun _ => (.inl (cc 1, 0, .inl fun _ => 0) : va_E)) ((List.range 5).map r) (.inl (cc 1, (5, .inl fun _ => 0)))) = ((List.range 5).map r).map (fun a => (a, (.inl (cc 1, (5, .inl fun _ => 0)) : va_E))) := by
      rw [List.nil_append]
      exact List.map_congr_left (fun a ha => by rw [vr_up_in ha])
    rw [e1, List.append_assoc]
    exact List.perm_append_comm
  exact K q r H1 lo ls (va_P_perm hp hP1) (va_D_perm hp hD1) hS1 hl
end QMG
section QMH
variable {p : Program} {l : Launch} {e : Env} {R : Room} {s : State} {m : MethodId} {args : Array Value} {below : List Frame} {meth : Method} {c : Code} {D : va_G} {cc : Nat → ClassId} {N0 nL : Nat} {Q : State → Prop} {kc ks : Nat} {ws : va_W} {pc : Nat} {lv : List (Nat × Value)} {st : List Value} {code : ByteArray} {ret : Option FieldType} {Ts : List Cond} {own : String} {ga : Nat → Nat} {ad : Nat → Nat → Nat} {M : MS} {E G : va_W}
theorem mA_app {y : Nat → LY} : ∀ G : va_W, (mA cc ga ad M y (G ++ E)).Perm (G ++ mA cc ga ad M y E)
  | [] => List.Perm.refl _
  | x :: G => (mA_mid (x := x) (E := G ++ E)).trans (List.Perm.cons _ (mA_app G))
theorem mW.temps (h : mW cc ga ad M (G ++ E) ws) : ∃ T, ws.Perm (G ++ T) ∧ mW cc ga ad M E T ∧ ∀ G', mW cc ga ad M (G' ++ E) (G' ++ T) := by
  obtain ⟨y, h1, h2⟩ := h
  exact ⟨_, h2.trans (mA_app G), ⟨y, h1, List.Perm.refl _⟩, fun G' => ⟨y, h1, (mA_app G').symm⟩⟩
theorem mW.apps (h : mW cc ga ad M E ws) (G : va_W) : mW cc ga ad M (G ++ E) (G ++ ws) := by
  obtain ⟨y, h1, h2⟩ := h
  exact ⟨y, h1, (List.Perm.append_left _ h2).trans (mA_app G).symm⟩
theorem t_gnew (C : q_C p s m args meth c code nL ret Ts own D cc N0) (hW : mW cc ga ad M E ws) {index : Nat} (hcl : Cond.classLink own index "[[Z" ∈ Ts) (harr : Cond.arrayClass .boolean ∈ Ts) (hcells : kc + 6 ≤ R.cells) (hslots : ks + 30 ≤ R.slots) (hd : decode code pc = .ok (.multianewarray index 2, 4)) (K : ∀ (q : Nat) (r : Nat → Nat) (ws' : va_W), mW cc ga ad M (gE cc q r (fun _ _ => 0) ++ E) ws' → q_WA p l e R s m args below meth c D N0 nL Q (kc + 6) (ks + 30) ws' (pc + 4) lv (.ref q :: st)) : q_WA p l e R s m args below meth c D N0 nL Q kc ks ws pc lv (.int 5 :: .int 5 :: st) :=
  q_multi C hcl harr hcells hslots hd (fun q r => K q r _ (hW.apps _))
theorem t_gdrop (hW : mW cc ga ad M (G ++ E) ws) (K : ∀ ws', mW cc ga ad M E ws' → q_WA p l e R s m args below meth c D N0 nL Q kc ks ws' pc lv st) : q_WA p l e R s m args below meth c D N0 nL Q kc ks ws pc lv st := by
  obtain ⟨T, hp, h, -⟩ := hW.temps
  exact q_drop (ws' := T) (J := G) (hp.trans List.perm_append_comm) (K T h)
theorem t_gald (C : q_C p s m args meth c code nL ret Ts own D cc N0) {q : Nat} {r : Nat → Nat} {h : Nat → Nat → Int32} (hW : mW cc ga ad M (gE cc q r h ++ E) ws) {i : Int32} (hi : q_in i 5) (hd : decode code pc = .ok (.aaload, 1)) (K : q_WA p l e R s m args below meth c D N0 nL Q kc ks ws (pc + 1) lv (.ref (r i.toNatClampNeg) :: st)) : q_WA p l e R s m args below meth c D N0 nL Q kc ks ws pc lv (.int i :: .ref q :: st) := by
  obtain ⟨T, hp, -, -⟩ := hW.temps
  refine q_perm hp ?_
  refine q_aaldZ C 0 rfl hi (if_pos hi.2) hd ?_
  exact q_perm hp.symm K
theorem t_gzld (C : q_C p s m args meth c code nL ret Ts own D cc N0) {q : Nat} {r : Nat → Nat} {h : Nat → Nat → Int32} (hW : mW cc ga ad M (gE cc q r h ++ E) ws) {i : Nat} {j : Int32} (hi : i < 5) (hj : q_in j 5) (hd : decode code pc = .ok (.baload, 1)) (K : q_WA p l e R s m args below meth c D N0 nL Q kc ks ws (pc + 1) lv (.int (h i j.toNatClampNeg) :: st)) : q_WA p l e R s m args below meth c D N0 nL Q kc ks ws pc lv (.int j :: .ref (r i) :: st) := by
  obtain ⟨T, hp, -, -⟩ := hW.temps
  have hm : (r i, (.inl (cc 1, 5, .inl (h i)) : va_E)) ∈ ws := by
    refine hp.mem_iff.mpr (List.mem_append_left _ ?_)
    match i, hi with
    | 0, _ => exact List.mem_of_getElem? (i := 1) rfl
    | 1, _ => exact List.mem_of_getElem? (i := 2) rfl
    | 2, _ => exact List.mem_of_getElem? (i := 3) rfl
    | 3, _ => exact List.mem_of_getElem? (i := 4) rfl
    | 4, _ => exact List.mem_of_getElem? (i := 5) rfl
    | n + 5, h => exact absurd h (by omega)
  obtain ⟨q0, he⟩ := List.getElem?_of_mem hm
  exact q_zald C q0 he hj hd K
theorem t_gzst (C : q_C p s m args meth c code nL ret Ts own D cc N0) {q : Nat} {r : Nat → Nat} {h : Nat → Nat → Int32} (hW : mW cc ga ad M (gE cc q r h ++ E) ws) {i : Nat} {j v : Int32} (hi : i < 5) (hj : q_in j 5) (hd : decode code pc = .ok (.bastore, 1)) (K : ∀ ws', mW cc ga ad M (gE cc q r (nup h i (upd (h i) j.toNatClampNeg (vp_nar .boolean v))) ++ E) ws' → q_WA p l e R s m args below meth c D N0 nL Q kc ks ws' (pc + 1) lv st) : q_WA p l e R s m args below meth c D N0 nL Q kc ks ws pc lv (.int v :: .int j :: .ref (r i) :: st) := by
  obtain ⟨T, hp, -, hb⟩ := hW.temps
  refine q_perm hp ?_
  have hb2 := hb (gE cc q r (nup h i (upd (h i) j.toNatClampNeg (vp_nar .boolean v))))
  match i, hi, hb2, K with
  | 0, _, hb2, K => exact q_zast C 1 rfl hj hd rfl (K _ hb2)
  | 1, _, hb2, K => exact q_zast C 2 rfl hj hd rfl (K _ hb2)
  | 2, _, hb2, K => exact q_zast C 3 rfl hj hd rfl (K _ hb2)
  | 3, _, hb2, K => exact q_zast C 4 rfl hj hd rfl (K _ hb2)
  | 4, _, hb2, K => exact q_zast C 5 rfl hj hd rfl (K _ hb2)
  | n + 5, h, _, _ => exact absurd h (by omega)
end QMH

theorem z_X9_apartBy : q_dsc yX9_apartBy 2 := ⟨by decide +kernel, by decide +kernel, by decide +kernel⟩
theorem n_X9_apartBy_X9 : ∀ w ∈ wsX90, w ∈ wsX9_apartBy := fun _ h => (List.mem_cons_of_mem _ (List.mem_append_left _ (List.mem_append_right _ h)))
def f_X9_apartBy_170 (S : MS) (k16 : Nat → Nat → Int32 → (Nat → Nat → Int32) → Option Int32) (k34 : Nat → Nat → Int32 → Int32 → (Nat → Nat → Int32) → (Nat → Nat → Int32) → Option Int32) (k51 : Nat → Nat → Int32 → Int32 → Int32 → (Nat → Nat → Int32) → (Nat → Nat → Int32) → Option Int32) (kc : Nat) (ks : Nat) (v4 : Int32) (v6 : Int32) (v7 : Int32) (h3 : Nat → Nat → Int32) (h5 : Nat → Nat → Int32) : Option Int32 := k51 (kc) (ks) v4 v6 (v7 + (1 : Int32)) h3 h5
def f_X9_apartBy_119b (S : MS) (k16 : Nat → Nat → Int32 → (Nat → Nat → Int32) → Option Int32) (k34 : Nat → Nat → Int32 → Int32 → (Nat → Nat → Int32) → (Nat → Nat → Int32) → Option Int32) (k51 : Nat → Nat → Int32 → Int32 → Int32 → (Nat → Nat → Int32) → (Nat → Nat → Int32) → Option Int32) (k119 : Nat → Nat → Int32 → Int32 → Int32 → Int32 → (Nat → Nat → Int32) → (Nat → Nat → Int32) → Option Int32) (kc : Nat) (ks : Nat) (v4 : Int32) (v6 : Int32) (v7 : Int32) (v8 : Int32) (h3 : Nat → Nat → Int32) (h5 : Nat → Nat → Int32) : Option Int32 := (if (2 : Int32) < v8 then f_X9_apartBy_170 S k16 k34 k51 (kc) (ks) v4 v6 v7 h3 h5 else (if q_in v6 (S.2.1 2) then (if v6.toNatClampNeg < S.2.1 2 ∧ q_in v8 3 then (if q_in (S.2.2.1 2 v6.toNatClampNeg v8.toNatClampNeg) 5 then (if q_in v7 (S.2.1 2) then (if v7.toNatClampNeg < S.2.1 2 ∧ q_in v8 3 then (if (S.2.2.1 2 v6.toNatClampNeg v8.toNatClampNeg).toNatClampNeg < 5 ∧ q_in (S.2.2.1 2 v7.toNatClampNeg v8.toNatClampNeg) 5 then k119 (kc) (ks) v4 v6 v7 (v8 + (1 : Int32)) h3 (nup h5 ((S.2.2.1 2 v6.toNatClampNeg v8.toNatClampNeg).toNatClampNeg) (upd (h5 ((S.2.2.1 2 v6.toNatClampNeg v8.toNatClampNeg).toNatClampNeg)) (S.2.2.1 2 v7.toNatClampNeg v8.toNatClampNeg).toNatClampNeg (vp_nar .boolean (1 : Int32)))) else none) else none) else none) else none) else none) else none))
def f_X9_apartBy_119 (S : MS) (k16 : Nat → Nat → Int32 → (Nat → Nat → Int32) → Option Int32) (k34 : Nat → Nat → Int32 → Int32 → (Nat → Nat → Int32) → (Nat → Nat → Int32) → Option Int32) (k51 : Nat → Nat → Int32 → Int32 → Int32 → (Nat → Nat → Int32) → (Nat → Nat → Int32) → Option Int32) : Nat → Nat → Nat → Int32 → Int32 → Int32 → Int32 → (Nat → Nat → Int32) → (Nat → Nat → Int32) → Option Int32
  | 0, _, _, _, _, _, _, _, _ => none
  | n + 1, kc, ks, v4, v6, v7, v8, h3, h5 => f_X9_apartBy_119b S k16 k34 k51 (f_X9_apartBy_119 S k16 k34 k51 n) kc ks v4 v6 v7 v8 h3 h5
def f_X9_apartBy_51b (S : MS) (k16 : Nat → Nat → Int32 → (Nat → Nat → Int32) → Option Int32) (k34 : Nat → Nat → Int32 → Int32 → (Nat → Nat → Int32) → (Nat → Nat → Int32) → Option Int32) (k51 : Nat → Nat → Int32 → Int32 → Int32 → (Nat → Nat → Int32) → (Nat → Nat → Int32) → Option Int32) (kc : Nat) (ks : Nat) (v4 : Int32) (v6 : Int32) (v7 : Int32) (h3 : Nat → Nat → Int32) (h5 : Nat → Nat → Int32) : Option Int32 := (if (nI (S.2.1 2)) ≤ v7 then k34 (kc) (ks) v4 (v6 + (1 : Int32)) h3 h5 else (if q_in v6 5 then (if v6.toNatClampNeg < 5 ∧ q_in v7 5 then (if (h3 v6.toNatClampNeg v7.toNatClampNeg) = 0 then f_X9_apartBy_170 S k16 k34 k51 (kc) (ks) v4 v6 v7 h3 h5 else (if q_in v6 (S.2.1 2) then (if v6.toNatClampNeg < S.2.1 2 then (if q_in v7 (S.2.1 2) then (if v7.toNatClampNeg < S.2.1 2 then (if (S.2.2.1 2 v6.toNatClampNeg 0) = (S.2.2.1 2 v7.toNatClampNeg 0) then f_X9_apartBy_119 S k16 k34 k51 1000 (kc) (ks) v4 v6 v7 (1 : Int32) h3 h5 else some v4) else none) else none) else none) else none)) else none) else none))
def f_X9_apartBy_51 (S : MS) (k16 : Nat → Nat → Int32 → (Nat → Nat → Int32) → Option Int32) (k34 : Nat → Nat → Int32 → Int32 → (Nat → Nat → Int32) → (Nat → Nat → Int32) → Option Int32) : Nat → Nat → Nat → Int32 → Int32 → Int32 → (Nat → Nat → Int32) → (Nat → Nat → Int32) → Option Int32
  | 0, _, _, _, _, _, _, _ => none
  | n + 1, kc, ks, v4, v6, v7, h3, h5 => f_X9_apartBy_51b S k16 k34 (f_X9_apartBy_51 S k16 k34 n) kc ks v4 v6 v7 h3 h5
def f_X9_apartBy_34b (S : MS) (k16 : Nat → Nat → Int32 → (Nat → Nat → Int32) → Option Int32) (k34 : Nat → Nat → Int32 → Int32 → (Nat → Nat → Int32) → (Nat → Nat → Int32) → Option Int32) (kc : Nat) (ks : Nat) (v4 : Int32) (v6 : Int32) (h3 : Nat → Nat → Int32) (h5 : Nat → Nat → Int32) : Option Int32 := (if (nI (S.2.1 2)) ≤ v6 then k16 (kc) (ks) (v4 + (1 : Int32)) h5 else f_X9_apartBy_51 S k16 k34 1000 (kc) (ks) v4 v6 (0 : Int32) h3 h5)
def f_X9_apartBy_34 (S : MS) (k16 : Nat → Nat → Int32 → (Nat → Nat → Int32) → Option Int32) : Nat → Nat → Nat → Int32 → Int32 → (Nat → Nat → Int32) → (Nat → Nat → Int32) → Option Int32
  | 0, _, _, _, _, _, _ => none
  | n + 1, kc, ks, v4, v6, h3, h5 => f_X9_apartBy_34b S k16 (f_X9_apartBy_34 S k16 n) kc ks v4 v6 h3 h5
def f_X9_apartBy_16b (S : MS) (k16 : Nat → Nat → Int32 → (Nat → Nat → Int32) → Option Int32) (kc : Nat) (ks : Nat) (v4 : Int32) (h3 : Nat → Nat → Int32) : Option Int32 := (if (25 : Int32) < v4 then some (-1 : Int32) else (if kc + 6 ≤ 162 ∧ ks + 30 ≤ 810 then f_X9_apartBy_34 S k16 1000 (kc + 6) (ks + 30) v4 (0 : Int32) h3 (fun _ _ => 0) else none))
def f_X9_apartBy_16 (S : MS) : Nat → Nat → Nat → Int32 → (Nat → Nat → Int32) → Option Int32
  | 0, _, _, _, _ => none
  | n + 1, kc, ks, v4, h3 => f_X9_apartBy_16b S (f_X9_apartBy_16 S n) kc ks v4 h3
def f_X9_apartBy_0 (S : MS) (kc ks : Nat) (a1 : Int32) (a2 : Int32) : Option Int32 := (if kc + 6 ≤ 162 ∧ ks + 30 ≤ 810 then (if q_in a1 5 then (if a1.toNatClampNeg < 5 ∧ q_in a2 5 then f_X9_apartBy_16 S 27 (kc + 6) (ks + 30) (0 : Int32) (nup (fun _ _ => 0) a1.toNatClampNeg (upd ((fun _ _ => 0) a1.toNatClampNeg) a2.toNatClampNeg (vp_nar .boolean (1 : Int32)))) else none) else none) else none)
def f_X9_apartBy (S : MS) (a1 : Int32) (a2 : Int32) : Option Int32 := f_X9_apartBy_0 S 0 0 a1 a2
set_option maxRecDepth 100000 in
set_option maxHeartbeats 8000000 in
theorem w_X9_apartBy_170 {p : Program} {l : Launch} {e : Env} {s : State} {m : MethodId} {args : Array Value} {below : List Frame} {meth : Method} {c : Code} {D : va_G} {cc : Nat → ClassId} {N0 : Nat} {ga : Nat → Nat} {E : va_W} {ad : Nat → Nat → Nat} {S : MS} {k16 : Nat → Nat → Int32 → (Nat → Nat → Int32) → Option Int32} {k34 : Nat → Nat → Int32 → Int32 → (Nat → Nat → Int32) → (Nat → Nat → Int32) → Option Int32} {k51 : Nat → Nat → Int32 → Int32 → Int32 → (Nat → Nat → Int32) → (Nat → Nat → Int32) → Option Int32} {v : Int32} (C : q_C p s m args meth c cX9_apartBy 9 (some .int) wsX9_apartBy RX9 D cc N0) (hk16 : ∀ (kc : Nat) (ks : Nat) (v4 : Int32) (h3 : Nat → Nat → Int32) (q3 : Nat) (p3 : Nat → Nat)  (ws : va_W), k16 kc ks v4 h3 = some v → mW cc ga ad S (gE cc q3 p3 h3 ++ E) ws → kc ≤ 162 → ks ≤ 810 → q_WA p l e (q_rm (4) (100) 162 810) s m args below meth c D N0 9 (MQ below (q_Q D N0 (fun rv w1 => rv = some (.int v) ∧ mW cc ga ad S E w1)) args s 162 810 (q_A N0)) kc ks ws 16 [(0, .ref (ga 0)), (3, .ref q3), (4, .int v4)] []) (hk34 : ∀ (kc : Nat) (ks : Nat) (v4 : Int32) (v6 : Int32) (h3 : Nat → Nat → Int32) (h5 : Nat → Nat → Int32) (q3 : Nat) (p3 : Nat → Nat) (q5 : Nat) (p5 : Nat → Nat)  (ws : va_W), k34 kc ks v4 v6 h3 h5 = some v → mW cc ga ad S (gE cc q3 p3 h3 ++ (gE cc q5 p5 h5 ++ E)) ws → kc ≤ 162 → ks ≤ 810 → q_WA p l e (q_rm (4) (100) 162 810) s m args below meth c D N0 9 (MQ below (q_Q D N0 (fun rv w1 => rv = some (.int v) ∧ mW cc ga ad S E w1)) args s 162 810 (q_A N0)) kc ks ws 34 [(0, .ref (ga 0)), (3, .ref q3), (4, .int v4), (5, .ref q5), (6, .int v6)] []) (hk51 : ∀ (kc : Nat) (ks : Nat) (v4 : Int32) (v6 : Int32) (v7 : Int32) (h3 : Nat → Nat → Int32) (h5 : Nat → Nat → Int32) (q3 : Nat) (p3 : Nat → Nat) (q5 : Nat) (p5 : Nat → Nat)  (ws : va_W), k51 kc ks v4 v6 v7 h3 h5 = some v → mW cc ga ad S (gE cc q3 p3 h3 ++ (gE cc q5 p5 h5 ++ E)) ws → kc ≤ 162 → ks ≤ 810 → q_WA p l e (q_rm (4) (100) 162 810) s m args below meth c D N0 9 (MQ below (q_Q D N0 (fun rv w1 => rv = some (.int v) ∧ mW cc ga ad S E w1)) args s 162 810 (q_A N0)) kc ks ws 51 [(0, .ref (ga 0)), (3, .ref q3), (4, .int v4), (5, .ref q5), (6, .int v6), (7, .int v7)] []) (kc : Nat) (ks : Nat) (v4 : Int32) (v6 : Int32) (v7 : Int32) (h3 : Nat → Nat → Int32) (h5 : Nat → Nat → Int32) (q3 : Nat) (p3 : Nat → Nat) (q5 : Nat) (p5 : Nat → Nat)  (ws : va_W) : f_X9_apartBy_170 S k16 k34 k51 kc ks v4 v6 v7 h3 h5 = some v → mW cc ga ad S (gE cc q3 p3 h3 ++ (gE cc q5 p5 h5 ++ E)) ws → kc ≤ 162 → ks ≤ 810 → q_WA p l e (q_rm (4) (100) 162 810) s m args below meth c D N0 9 (MQ below (q_Q D N0 (fun rv w1 => rv = some (.int v) ∧ mW cc ga ad S E w1)) args s 162 810 (q_A N0)) kc ks ws 170 [(0, .ref (ga 0)), (3, .ref q3), (4, .int v4), (5, .ref q5), (6, .int v6), (7, .int v7)] [] := by
  intro hf hW b1 b2
  refine q_iinc (pc := 170) (lvq := [(7, .int (v7 + (1 : Int32))), (0, .ref (ga 0)), (3, .ref q3), (4, .int v4), (5, .ref q5), (6, .int v6)]) C (v7 + (1 : Int32)) dX9_apartBy_170 5 rfl q_ca_1 (by decide) rfl ?_
  refine q_goto (pc := 173) (tgt := 51) C dX9_apartBy_173 (by decide) ?_
  have hW := hW.out (List.perm_append_comm_assoc _ _ _)
  have hW := hW.out (List.perm_append_comm_assoc _ _ _)
  refine q_sub (lvq := [(0, .ref (ga 0)), (3, .ref q3), (4, .int v4), (5, .ref q5), (6, .int v6), (7, .int (v7 + (1 : Int32)))]) [1, 2, 3, 4, 5, 0] rfl ?_
  exact hk51 (kc) (ks) v4 v6 (v7 + (1 : Int32)) h3 h5 q3 p3 q5 p5 ws hf hW (by omega) (by omega)
set_option maxRecDepth 100000 in
set_option maxHeartbeats 8000000 in
theorem w_X9_apartBy_119 {p : Program} {l : Launch} {e : Env} {s : State} {m : MethodId} {args : Array Value} {below : List Frame} {meth : Method} {c : Code} {D : va_G} {cc : Nat → ClassId} {N0 : Nat} {ga : Nat → Nat} {E : va_W} {ad : Nat → Nat → Nat} {S : MS} {k16 : Nat → Nat → Int32 → (Nat → Nat → Int32) → Option Int32} {k34 : Nat → Nat → Int32 → Int32 → (Nat → Nat → Int32) → (Nat → Nat → Int32) → Option Int32} {k51 : Nat → Nat → Int32 → Int32 → Int32 → (Nat → Nat → Int32) → (Nat → Nat → Int32) → Option Int32} {v : Int32} (C : q_C p s m args meth c cX9_apartBy 9 (some .int) wsX9_apartBy RX9 D cc N0) (hk16 : ∀ (kc : Nat) (ks : Nat) (v4 : Int32) (h3 : Nat → Nat → Int32) (q3 : Nat) (p3 : Nat → Nat)  (ws : va_W), k16 kc ks v4 h3 = some v → mW cc ga ad S (gE cc q3 p3 h3 ++ E) ws → kc ≤ 162 → ks ≤ 810 → q_WA p l e (q_rm (4) (100) 162 810) s m args below meth c D N0 9 (MQ below (q_Q D N0 (fun rv w1 => rv = some (.int v) ∧ mW cc ga ad S E w1)) args s 162 810 (q_A N0)) kc ks ws 16 [(0, .ref (ga 0)), (3, .ref q3), (4, .int v4)] []) (hk34 : ∀ (kc : Nat) (ks : Nat) (v4 : Int32) (v6 : Int32) (h3 : Nat → Nat → Int32) (h5 : Nat → Nat → Int32) (q3 : Nat) (p3 : Nat → Nat) (q5 : Nat) (p5 : Nat → Nat)  (ws : va_W), k34 kc ks v4 v6 h3 h5 = some v → mW cc ga ad S (gE cc q3 p3 h3 ++ (gE cc q5 p5 h5 ++ E)) ws → kc ≤ 162 → ks ≤ 810 → q_WA p l e (q_rm (4) (100) 162 810) s m args below meth c D N0 9 (MQ below (q_Q D N0 (fun rv w1 => rv = some (.int v) ∧ mW cc ga ad S E w1)) args s 162 810 (q_A N0)) kc ks ws 34 [(0, .ref (ga 0)), (3, .ref q3), (4, .int v4), (5, .ref q5), (6, .int v6)] []) (hk51 : ∀ (kc : Nat) (ks : Nat) (v4 : Int32) (v6 : Int32) (v7 : Int32) (h3 : Nat → Nat → Int32) (h5 : Nat → Nat → Int32) (q3 : Nat) (p3 : Nat → Nat) (q5 : Nat) (p5 : Nat → Nat)  (ws : va_W), k51 kc ks v4 v6 v7 h3 h5 = some v → mW cc ga ad S (gE cc q3 p3 h3 ++ (gE cc q5 p5 h5 ++ E)) ws → kc ≤ 162 → ks ≤ 810 → q_WA p l e (q_rm (4) (100) 162 810) s m args below meth c D N0 9 (MQ below (q_Q D N0 (fun rv w1 => rv = some (.int v) ∧ mW cc ga ad S E w1)) args s 162 810 (q_A N0)) kc ks ws 51 [(0, .ref (ga 0)), (3, .ref q3), (4, .int v4), (5, .ref q5), (6, .int v6), (7, .int v7)] []) : ∀ (n : Nat) (kc : Nat) (ks : Nat) (v4 : Int32) (v6 : Int32) (v7 : Int32) (v8 : Int32) (h3 : Nat → Nat → Int32) (h5 : Nat → Nat → Int32) (q3 : Nat) (p3 : Nat → Nat) (q5 : Nat) (p5 : Nat → Nat)  (ws : va_W), f_X9_apartBy_119 S k16 k34 k51 n kc ks v4 v6 v7 v8 h3 h5 = some v → mW cc ga ad S (gE cc q3 p3 h3 ++ (gE cc q5 p5 h5 ++ E)) ws → kc ≤ 162 → ks ≤ 810 → q_WA p l e (q_rm (4) (100) 162 810) s m args below meth c D N0 9 (MQ below (q_Q D N0 (fun rv w1 => rv = some (.int v) ∧ mW cc ga ad S E w1)) args s 162 810 (q_A N0)) kc ks ws 119 [(0, .ref (ga 0)), (3, .ref q3), (4, .int v4), (5, .ref q5), (6, .int v6), (7, .int v7), (8, .int v8)] [] := by
  intro n
  induction n with
  | zero => intro kc ks v4 v6 v7 v8 h3 h5 q3 p3 q5 p5 ws hf; cases hf
  | succ n ih =>
    intro kc ks v4 v6 v7 v8 h3 h5 q3 p3 q5 p5 ws hf hW b1 b2
    have hk119 : ∀ (kc : Nat) (ks : Nat) (v4 : Int32) (v6 : Int32) (v7 : Int32) (v8 : Int32) (h3 : Nat → Nat → Int32) (h5 : Nat → Nat → Int32) (q3 : Nat) (p3 : Nat → Nat) (q5 : Nat) (p5 : Nat → Nat)  (ws : va_W), f_X9_apartBy_119 S k16 k34 k51 n kc ks v4 v6 v7 v8 h3 h5 = some v → mW cc ga ad S (gE cc q3 p3 h3 ++ (gE cc q5 p5 h5 ++ E)) ws → kc ≤ 162 → ks ≤ 810 → q_WA p l e (q_rm (4) (100) 162 810) s m args below meth c D N0 9 (MQ below (q_Q D N0 (fun rv w1 => rv = some (.int v) ∧ mW cc ga ad S E w1)) args s 162 810 (q_A N0)) kc ks ws 119 [(0, .ref (ga 0)), (3, .ref q3), (4, .int v4), (5, .ref q5), (6, .int v6), (7, .int v7), (8, .int v8)] [] := ih
    have hf : f_X9_apartBy_119b S k16 k34 k51 (f_X9_apartBy_119 S k16 k34 k51 n) kc ks v4 v6 v7 v8 h3 h5 = some v := hf
    refine q_iload (pc := 119) C dX9_apartBy_119 6 rfl ?_
    refine q_iconst (pc := 121) C (2 : Int32) dX9_apartBy_121 q_ci_2 ?_
    refine q_icmp_gt (pc := 122) (tgt := 170) C dX9_apartBy_122 (by decide) (fun c20 => ?_) (fun c20 => ?_)
    · have hf := q_iteT hf c20
      have hW := hW.out (List.perm_append_comm_assoc _ _ _)
      have hW := hW.out (List.perm_append_comm_assoc _ _ _)
      refine q_sub (lvq := [(0, .ref (ga 0)), (3, .ref q3), (4, .int v4), (5, .ref q5), (6, .int v6), (7, .int v7)]) [0, 1, 2, 3, 4, 5] rfl ?_
      exact w_X9_apartBy_170 C hk16 hk34 hk51 (kc) (ks) v4 v6 v7 h3 h5 q3 p3 q5 p5 ws hf hW (by omega) (by omega)
    · have hf := q_iteF hf c20
      refine q_aload (pc := 125) C dX9_apartBy_125 3 rfl ?_
      refine q_aload_n (pc := 127) C dX9_apartBy_127 rfl 0 rfl ?_
      refine m_g_11 (pc := 128) C hW n_X9_apartBy_X9 (List.mem_of_getElem? (i := 3) rfl) dX9_apartBy_128 ?_
      refine q_iload (pc := 131) C dX9_apartBy_131 4 rfl ?_
      obtain ⟨g21, hf⟩ := q_gd hf
      refine m_get_2 (pc := 133) C hW g21 gX9_apartBy_Jx4a65c_get_915e3_f129Jx4a65c ⟨Nat.le_of_ble_eq_true rfl, Nat.le_of_ble_eq_true rfl⟩ (Nat.le_of_ble_eq_true rfl) dX9_apartBy_133 ⟨(show (kc) ≤ 162 by omega), (show (ks) ≤ 810 by omega)⟩ ?_
      refine m_cast_2 (pc := 138) C hW g21.2 (List.mem_of_getElem? (i := 4) rfl) dX9_apartBy_138 ?_
      refine q_iload (pc := 141) C dX9_apartBy_141 6 rfl ?_
      obtain ⟨g22, hf⟩ := q_gd hf
      refine m_rald_2 (pc := 143) C hW g22.1 g22.2 dX9_apartBy_143 ?_
      refine q_nm (wz := ws) (ka := kc) (kb := ks) (sz := [.int (S.2.2.1 2 v6.toNatClampNeg v8.toNatClampNeg), .ref q5]) rfl rfl rfl rfl ?_
      have hW := hW.out (List.perm_append_comm_assoc _ _ _)
      obtain ⟨g23, hf⟩ := q_gd hf
      refine t_gald (pc := 144) C hW g23 dX9_apartBy_144 ?_
      refine q_aload_n (pc := 145) C dX9_apartBy_145 rfl 0 rfl ?_
      refine m_g_11 (pc := 146) C hW n_X9_apartBy_X9 (List.mem_of_getElem? (i := 3) rfl) dX9_apartBy_146 ?_
      refine q_iload (pc := 149) C dX9_apartBy_149 5 rfl ?_
      obtain ⟨g24, hf⟩ := q_gd hf
      refine m_get_2 (pc := 151) C hW g24 gX9_apartBy_Jx4a65c_get_915e3_f129Jx4a65c ⟨Nat.le_of_ble_eq_true rfl, Nat.le_of_ble_eq_true rfl⟩ (Nat.le_of_ble_eq_true rfl) dX9_apartBy_151 ⟨(show (kc) ≤ 162 by omega), (show (ks) ≤ 810 by omega)⟩ ?_
      refine m_cast_2 (pc := 156) C hW g24.2 (List.mem_of_getElem? (i := 4) rfl) dX9_apartBy_156 ?_
      refine q_iload (pc := 159) C dX9_apartBy_159 6 rfl ?_
      obtain ⟨g25, hf⟩ := q_gd hf
      refine m_rald_2 (pc := 161) C hW g25.1 g25.2 dX9_apartBy_161 ?_
      refine q_nm (wz := ws) (ka := kc) (kb := ks) (sz := [.int (S.2.2.1 2 v7.toNatClampNeg v8.toNatClampNeg), .ref (p5 ((S.2.2.1 2 v6.toNatClampNeg v8.toNatClampNeg).toNatClampNeg))]) rfl rfl rfl rfl ?_
      refine q_iconst (pc := 162) C (1 : Int32) dX9_apartBy_162 q_ci_1 ?_
      obtain ⟨g26, hf⟩ := q_gd hf
      refine t_gzst (pc := 163) C hW g26.1 g26.2 dX9_apartBy_163 (fun ws hW => ?_)
      refine q_iinc (pc := 164) (lvq := [(8, .int (v8 + (1 : Int32))), (0, .ref (ga 0)), (3, .ref q3), (4, .int v4), (5, .ref q5), (6, .int v6), (7, .int v7)]) C (v8 + (1 : Int32)) dX9_apartBy_164 6 rfl q_ca_1 (by decide) rfl ?_
      refine q_goto (pc := 167) (tgt := 119) C dX9_apartBy_167 (by decide) ?_
      have hW := hW.out (List.perm_append_comm_assoc _ _ _)
      refine q_sub (lvq := [(0, .ref (ga 0)), (3, .ref q3), (4, .int v4), (5, .ref q5), (6, .int v6), (7, .int v7), (8, .int (v8 + (1 : Int32)))]) [1, 2, 3, 4, 5, 6, 0] rfl ?_
      exact hk119 (kc) (ks) v4 v6 v7 (v8 + (1 : Int32)) h3 (nup h5 ((S.2.2.1 2 v6.toNatClampNeg v8.toNatClampNeg).toNatClampNeg) (upd (h5 ((S.2.2.1 2 v6.toNatClampNeg v8.toNatClampNeg).toNatClampNeg)) (S.2.2.1 2 v7.toNatClampNeg v8.toNatClampNeg).toNatClampNeg (vp_nar .boolean (1 : Int32)))) q3 p3 q5 p5 ws hf hW (by omega) (by omega)
set_option maxRecDepth 100000 in
set_option maxHeartbeats 8000000 in
theorem w_X9_apartBy_51 {p : Program} {l : Launch} {e : Env} {s : State} {m : MethodId} {args : Array Value} {below : List Frame} {meth : Method} {c : Code} {D : va_G} {cc : Nat → ClassId} {N0 : Nat} {ga : Nat → Nat} {E : va_W} {ad : Nat → Nat → Nat} {S : MS} {k16 : Nat → Nat → Int32 → (Nat → Nat → Int32) → Option Int32} {k34 : Nat → Nat → Int32 → Int32 → (Nat → Nat → Int32) → (Nat → Nat → Int32) → Option Int32} {v : Int32} (C : q_C p s m args meth c cX9_apartBy 9 (some .int) wsX9_apartBy RX9 D cc N0) (hk16 : ∀ (kc : Nat) (ks : Nat) (v4 : Int32) (h3 : Nat → Nat → Int32) (q3 : Nat) (p3 : Nat → Nat)  (ws : va_W), k16 kc ks v4 h3 = some v → mW cc ga ad S (gE cc q3 p3 h3 ++ E) ws → kc ≤ 162 → ks ≤ 810 → q_WA p l e (q_rm (4) (100) 162 810) s m args below meth c D N0 9 (MQ below (q_Q D N0 (fun rv w1 => rv = some (.int v) ∧ mW cc ga ad S E w1)) args s 162 810 (q_A N0)) kc ks ws 16 [(0, .ref (ga 0)), (3, .ref q3), (4, .int v4)] []) (hk34 : ∀ (kc : Nat) (ks : Nat) (v4 : Int32) (v6 : Int32) (h3 : Nat → Nat → Int32) (h5 : Nat → Nat → Int32) (q3 : Nat) (p3 : Nat → Nat) (q5 : Nat) (p5 : Nat → Nat)  (ws : va_W), k34 kc ks v4 v6 h3 h5 = some v → mW cc ga ad S (gE cc q3 p3 h3 ++ (gE cc q5 p5 h5 ++ E)) ws → kc ≤ 162 → ks ≤ 810 → q_WA p l e (q_rm (4) (100) 162 810) s m args below meth c D N0 9 (MQ below (q_Q D N0 (fun rv w1 => rv = some (.int v) ∧ mW cc ga ad S E w1)) args s 162 810 (q_A N0)) kc ks ws 34 [(0, .ref (ga 0)), (3, .ref q3), (4, .int v4), (5, .ref q5), (6, .int v6)] []) : ∀ (n : Nat) (kc : Nat) (ks : Nat) (v4 : Int32) (v6 : Int32) (v7 : Int32) (h3 : Nat → Nat → Int32) (h5 : Nat → Nat → Int32) (q3 : Nat) (p3 : Nat → Nat) (q5 : Nat) (p5 : Nat → Nat)  (ws : va_W), f_X9_apartBy_51 S k16 k34 n kc ks v4 v6 v7 h3 h5 = some v → mW cc ga ad S (gE cc q3 p3 h3 ++ (gE cc q5 p5 h5 ++ E)) ws → kc ≤ 162 → ks ≤ 810 → q_WA p l e (q_rm (4) (100) 162 810) s m args below meth c D N0 9 (MQ below (q_Q D N0 (fun rv w1 => rv = some (.int v) ∧ mW cc ga ad S E w1)) args s 162 810 (q_A N0)) kc ks ws 51 [(0, .ref (ga 0)), (3, .ref q3), (4, .int v4), (5, .ref q5), (6, .int v6), (7, .int v7)] [] := by
  intro n
  induction n with
  | zero => intro kc ks v4 v6 v7 h3 h5 q3 p3 q5 p5 ws hf; cases hf
  | succ n ih =>
    intro kc ks v4 v6 v7 h3 h5 q3 p3 q5 p5 ws hf hW b1 b2
    have hk51 : ∀ (kc : Nat) (ks : Nat) (v4 : Int32) (v6 : Int32) (v7 : Int32) (h3 : Nat → Nat → Int32) (h5 : Nat → Nat → Int32) (q3 : Nat) (p3 : Nat → Nat) (q5 : Nat) (p5 : Nat → Nat)  (ws : va_W), f_X9_apartBy_51 S k16 k34 n kc ks v4 v6 v7 h3 h5 = some v → mW cc ga ad S (gE cc q3 p3 h3 ++ (gE cc q5 p5 h5 ++ E)) ws → kc ≤ 162 → ks ≤ 810 → q_WA p l e (q_rm (4) (100) 162 810) s m args below meth c D N0 9 (MQ below (q_Q D N0 (fun rv w1 => rv = some (.int v) ∧ mW cc ga ad S E w1)) args s 162 810 (q_A N0)) kc ks ws 51 [(0, .ref (ga 0)), (3, .ref q3), (4, .int v4), (5, .ref q5), (6, .int v6), (7, .int v7)] [] := ih
    have hf : f_X9_apartBy_51b S k16 k34 (f_X9_apartBy_51 S k16 k34 n) kc ks v4 v6 v7 h3 h5 = some v := hf
    refine q_iload (pc := 51) C dX9_apartBy_51 5 rfl ?_
    refine q_aload_n (pc := 53) C dX9_apartBy_53 rfl 0 rfl ?_
    refine m_g_11 (pc := 54) C hW n_X9_apartBy_X9 (List.mem_of_getElem? (i := 3) rfl) dX9_apartBy_54 ?_
    refine m_size_2 (pc := 57) C hW gX9_apartBy_Jx4a65c_size_8abf5_f50Jx4a65c ⟨Nat.le_of_ble_eq_true rfl, Nat.le_of_ble_eq_true rfl⟩ (Nat.le_of_ble_eq_true rfl) dX9_apartBy_57 ⟨(show (kc) ≤ 162 by omega), (show (ks) ≤ 810 by omega)⟩ ?_
    refine q_icmp_ge (pc := 62) (tgt := 176) C dX9_apartBy_62 (by decide) (fun c11 => ?_) (fun c11 => ?_)
    · have hf := q_iteT hf c11
      refine q_iinc (pc := 176) (lvq := [(6, .int (v6 + (1 : Int32))), (0, .ref (ga 0)), (3, .ref q3), (4, .int v4), (5, .ref q5), (7, .int v7)]) C (v6 + (1 : Int32)) dX9_apartBy_176 4 rfl q_ca_1 (by decide) rfl ?_
      refine q_goto (pc := 179) (tgt := 34) C dX9_apartBy_179 (by decide) ?_
      have hW := hW.out (List.perm_append_comm_assoc _ _ _)
      have hW := hW.out (List.perm_append_comm_assoc _ _ _)
      refine q_sub (lvq := [(0, .ref (ga 0)), (3, .ref q3), (4, .int v4), (5, .ref q5), (6, .int (v6 + (1 : Int32)))]) [1, 2, 3, 4, 0] rfl ?_
      exact hk34 (kc) (ks) v4 (v6 + (1 : Int32)) h3 h5 q3 p3 q5 p5 ws hf hW (by omega) (by omega)
    · have hf := q_iteF hf c11
      refine q_aload_n (pc := 65) C dX9_apartBy_65 rfl 1 rfl ?_
      refine q_iload (pc := 66) C dX9_apartBy_66 4 rfl ?_
      obtain ⟨g12, hf⟩ := q_gd hf
      refine t_gald (pc := 68) C hW g12 dX9_apartBy_68 ?_
      refine q_iload (pc := 69) C dX9_apartBy_69 5 rfl ?_
      obtain ⟨g13, hf⟩ := q_gd hf
      refine t_gzld (pc := 71) C hW g13.1 g13.2 dX9_apartBy_71 ?_
      refine q_if_ne (pc := 72) (tgt := 78) C dX9_apartBy_72 (by decide) (fun c14 => ?_) (fun c14 => ?_)
      · have hf := q_iteF hf c14
        refine q_aload_n (pc := 78) C dX9_apartBy_78 rfl 0 rfl ?_
        refine m_g_11 (pc := 79) C hW n_X9_apartBy_X9 (List.mem_of_getElem? (i := 3) rfl) dX9_apartBy_79 ?_
        refine q_iload (pc := 82) C dX9_apartBy_82 4 rfl ?_
        obtain ⟨g15, hf⟩ := q_gd hf
        refine m_get_2 (pc := 84) C hW g15 gX9_apartBy_Jx4a65c_get_915e3_f129Jx4a65c ⟨Nat.le_of_ble_eq_true rfl, Nat.le_of_ble_eq_true rfl⟩ (Nat.le_of_ble_eq_true rfl) dX9_apartBy_84 ⟨(show (kc) ≤ 162 by omega), (show (ks) ≤ 810 by omega)⟩ ?_
        refine m_cast_2 (pc := 89) C hW g15.2 (List.mem_of_getElem? (i := 4) rfl) dX9_apartBy_89 ?_
        refine q_iconst (pc := 92) C (0 : Int32) dX9_apartBy_92 q_ci_0 ?_
        obtain ⟨g16, hf⟩ := q_gd hf
        refine m_rald_2 (pc := 93) C hW g16 ⟨by decide, by decide⟩ dX9_apartBy_93 ?_
        refine q_nm (wz := ws) (ka := kc) (kb := ks) (sz := [.int (S.2.2.1 2 v6.toNatClampNeg 0)]) rfl rfl rfl rfl ?_
        refine q_aload_n (pc := 94) C dX9_apartBy_94 rfl 0 rfl ?_
        refine m_g_11 (pc := 95) C hW n_X9_apartBy_X9 (List.mem_of_getElem? (i := 3) rfl) dX9_apartBy_95 ?_
        refine q_iload (pc := 98) C dX9_apartBy_98 5 rfl ?_
        obtain ⟨g17, hf⟩ := q_gd hf
        refine m_get_2 (pc := 100) C hW g17 gX9_apartBy_Jx4a65c_get_915e3_f129Jx4a65c ⟨Nat.le_of_ble_eq_true rfl, Nat.le_of_ble_eq_true rfl⟩ (Nat.le_of_ble_eq_true rfl) dX9_apartBy_100 ⟨(show (kc) ≤ 162 by omega), (show (ks) ≤ 810 by omega)⟩ ?_
        refine m_cast_2 (pc := 105) C hW g17.2 (List.mem_of_getElem? (i := 4) rfl) dX9_apartBy_105 ?_
        refine q_iconst (pc := 108) C (0 : Int32) dX9_apartBy_108 q_ci_0 ?_
        obtain ⟨g18, hf⟩ := q_gd hf
        refine m_rald_2 (pc := 109) C hW g18 ⟨by decide, by decide⟩ dX9_apartBy_109 ?_
        refine q_nm (wz := ws) (ka := kc) (kb := ks) (sz := [.int (S.2.2.1 2 v7.toNatClampNeg 0), .int (S.2.2.1 2 v6.toNatClampNeg 0)]) rfl rfl rfl rfl ?_
        refine q_icmp_eq (pc := 110) (tgt := 116) C dX9_apartBy_110 (by decide) (fun c19 => ?_) (fun c19 => ?_)
        · have hf := q_iteT hf c19
          refine q_iconst (pc := 116) C (1 : Int32) dX9_apartBy_116 q_ci_1 ?_
          refine q_istore (pc := 117) (lvq := [(8, .int (1 : Int32)), (0, .ref (ga 0)), (3, .ref q3), (4, .int v4), (5, .ref q5), (6, .int v6), (7, .int v7)]) C dX9_apartBy_117 (by decide) rfl ?_
          have hW := hW.out (List.perm_append_comm_assoc _ _ _)
          have hW := hW.out (List.perm_append_comm_assoc _ _ _)
          refine q_sub (lvq := [(0, .ref (ga 0)), (3, .ref q3), (4, .int v4), (5, .ref q5), (6, .int v6), (7, .int v7), (8, .int (1 : Int32))]) [1, 2, 3, 4, 5, 6, 0] rfl ?_
          exact w_X9_apartBy_119 C hk16 hk34 hk51 1000 (kc) (ks) v4 v6 v7 (1 : Int32) h3 h5 q3 p3 q5 p5 ws hf hW (by omega) (by omega)
        · have hf := q_iteF hf c19
          refine q_iload (pc := 113) C dX9_apartBy_113 2 rfl ?_
          refine q_wid (show kc ≤ 162 by omega) (show ks ≤ 810 by omega) ?_
          refine t_gdrop hW (fun ws hW => ?_)
          refine t_gdrop hW (fun ws hW => ?_)
          obtain rfl := q_some hf
          exact q_iret (pc := 115) C dX9_apartBy_115 ⟨rfl, hW⟩
      · have hf := q_iteT hf c14
        refine q_goto (pc := 75) (tgt := 170) C dX9_apartBy_75 (by decide) ?_
        have hW := hW.out (List.perm_append_comm_assoc _ _ _)
        have hW := hW.out (List.perm_append_comm_assoc _ _ _)
        refine q_sub (lvq := [(0, .ref (ga 0)), (3, .ref q3), (4, .int v4), (5, .ref q5), (6, .int v6), (7, .int v7)]) [0, 1, 2, 3, 4, 5] rfl ?_
        exact w_X9_apartBy_170 C hk16 hk34 hk51 (kc) (ks) v4 v6 v7 h3 h5 q3 p3 q5 p5 ws hf hW (by omega) (by omega)
set_option maxRecDepth 100000 in
set_option maxHeartbeats 8000000 in
theorem w_X9_apartBy_34 {p : Program} {l : Launch} {e : Env} {s : State} {m : MethodId} {args : Array Value} {below : List Frame} {meth : Method} {c : Code} {D : va_G} {cc : Nat → ClassId} {N0 : Nat} {ga : Nat → Nat} {E : va_W} {ad : Nat → Nat → Nat} {S : MS} {k16 : Nat → Nat → Int32 → (Nat → Nat → Int32) → Option Int32} {v : Int32} (C : q_C p s m args meth c cX9_apartBy 9 (some .int) wsX9_apartBy RX9 D cc N0) (hk16 : ∀ (kc : Nat) (ks : Nat) (v4 : Int32) (h3 : Nat → Nat → Int32) (q3 : Nat) (p3 : Nat → Nat)  (ws : va_W), k16 kc ks v4 h3 = some v → mW cc ga ad S (gE cc q3 p3 h3 ++ E) ws → kc ≤ 162 → ks ≤ 810 → q_WA p l e (q_rm (4) (100) 162 810) s m args below meth c D N0 9 (MQ below (q_Q D N0 (fun rv w1 => rv = some (.int v) ∧ mW cc ga ad S E w1)) args s 162 810 (q_A N0)) kc ks ws 16 [(0, .ref (ga 0)), (3, .ref q3), (4, .int v4)] []) : ∀ (n : Nat) (kc : Nat) (ks : Nat) (v4 : Int32) (v6 : Int32) (h3 : Nat → Nat → Int32) (h5 : Nat → Nat → Int32) (q3 : Nat) (p3 : Nat → Nat) (q5 : Nat) (p5 : Nat → Nat)  (ws : va_W), f_X9_apartBy_34 S k16 n kc ks v4 v6 h3 h5 = some v → mW cc ga ad S (gE cc q3 p3 h3 ++ (gE cc q5 p5 h5 ++ E)) ws → kc ≤ 162 → ks ≤ 810 → q_WA p l e (q_rm (4) (100) 162 810) s m args below meth c D N0 9 (MQ below (q_Q D N0 (fun rv w1 => rv = some (.int v) ∧ mW cc ga ad S E w1)) args s 162 810 (q_A N0)) kc ks ws 34 [(0, .ref (ga 0)), (3, .ref q3), (4, .int v4), (5, .ref q5), (6, .int v6)] [] := by
  intro n
  induction n with
  | zero => intro kc ks v4 v6 h3 h5 q3 p3 q5 p5 ws hf; cases hf
  | succ n ih =>
    intro kc ks v4 v6 h3 h5 q3 p3 q5 p5 ws hf hW b1 b2
    have hk34 : ∀ (kc : Nat) (ks : Nat) (v4 : Int32) (v6 : Int32) (h3 : Nat → Nat → Int32) (h5 : Nat → Nat → Int32) (q3 : Nat) (p3 : Nat → Nat) (q5 : Nat) (p5 : Nat → Nat)  (ws : va_W), f_X9_apartBy_34 S k16 n kc ks v4 v6 h3 h5 = some v → mW cc ga ad S (gE cc q3 p3 h3 ++ (gE cc q5 p5 h5 ++ E)) ws → kc ≤ 162 → ks ≤ 810 → q_WA p l e (q_rm (4) (100) 162 810) s m args below meth c D N0 9 (MQ below (q_Q D N0 (fun rv w1 => rv = some (.int v) ∧ mW cc ga ad S E w1)) args s 162 810 (q_A N0)) kc ks ws 34 [(0, .ref (ga 0)), (3, .ref q3), (4, .int v4), (5, .ref q5), (6, .int v6)] [] := ih
    have hf : f_X9_apartBy_34b S k16 (f_X9_apartBy_34 S k16 n) kc ks v4 v6 h3 h5 = some v := hf
    refine q_iload (pc := 34) C dX9_apartBy_34 4 rfl ?_
    refine q_aload_n (pc := 36) C dX9_apartBy_36 rfl 0 rfl ?_
    refine m_g_11 (pc := 37) C hW n_X9_apartBy_X9 (List.mem_of_getElem? (i := 3) rfl) dX9_apartBy_37 ?_
    refine m_size_2 (pc := 40) C hW gX9_apartBy_Jx4a65c_size_8abf5_f50Jx4a65c ⟨Nat.le_of_ble_eq_true rfl, Nat.le_of_ble_eq_true rfl⟩ (Nat.le_of_ble_eq_true rfl) dX9_apartBy_40 ⟨(show (kc) ≤ 162 by omega), (show (ks) ≤ 810 by omega)⟩ ?_
    refine q_icmp_ge (pc := 45) (tgt := 182) C dX9_apartBy_45 (by decide) (fun c10 => ?_) (fun c10 => ?_)
    · have hf := q_iteT hf c10
      refine q_aload (pc := 182) C dX9_apartBy_182 3 rfl ?_
      refine q_astore_n (pc := 184) (lvq := [(3, .ref q5), (0, .ref (ga 0)), (4, .int v4), (5, .ref q5), (6, .int v6)]) C dX9_apartBy_184 rfl (by decide) rfl ?_
      refine q_iinc (pc := 185) (lvq := [(4, .int (v4 + (1 : Int32))), (3, .ref q5), (0, .ref (ga 0)), (5, .ref q5), (6, .int v6)]) C (v4 + (1 : Int32)) dX9_apartBy_185 2 rfl q_ca_1 (by decide) rfl ?_
      refine q_goto (pc := 188) (tgt := 16) C dX9_apartBy_188 (by decide) ?_
      refine t_gdrop hW (fun ws hW => ?_)
      refine q_sub (lvq := [(0, .ref (ga 0)), (3, .ref q5), (4, .int (v4 + (1 : Int32)))]) [2, 1, 0] rfl ?_
      exact hk16 (kc) (ks) (v4 + (1 : Int32)) h5 q5 p5 ws hf hW (by omega) (by omega)
    · have hf := q_iteF hf c10
      refine q_iconst (pc := 48) C (0 : Int32) dX9_apartBy_48 q_ci_0 ?_
      refine q_istore (pc := 49) (lvq := [(7, .int (0 : Int32)), (0, .ref (ga 0)), (3, .ref q3), (4, .int v4), (5, .ref q5), (6, .int v6)]) C dX9_apartBy_49 (by decide) rfl ?_
      have hW := hW.out (List.perm_append_comm_assoc _ _ _)
      have hW := hW.out (List.perm_append_comm_assoc _ _ _)
      refine q_sub (lvq := [(0, .ref (ga 0)), (3, .ref q3), (4, .int v4), (5, .ref q5), (6, .int v6), (7, .int (0 : Int32))]) [1, 2, 3, 4, 5, 0] rfl ?_
      exact w_X9_apartBy_51 C hk16 hk34 1000 (kc) (ks) v4 v6 (0 : Int32) h3 h5 q3 p3 q5 p5 ws hf hW (by omega) (by omega)
set_option maxRecDepth 100000 in
set_option maxHeartbeats 8000000 in
theorem w_X9_apartBy_16 {p : Program} {l : Launch} {e : Env} {s : State} {m : MethodId} {args : Array Value} {below : List Frame} {meth : Method} {c : Code} {D : va_G} {cc : Nat → ClassId} {N0 : Nat} {ga : Nat → Nat} {E : va_W} {ad : Nat → Nat → Nat} {S : MS} {v : Int32} (C : q_C p s m args meth c cX9_apartBy 9 (some .int) wsX9_apartBy RX9 D cc N0)  : ∀ (n : Nat) (kc : Nat) (ks : Nat) (v4 : Int32) (h3 : Nat → Nat → Int32) (q3 : Nat) (p3 : Nat → Nat)  (ws : va_W), f_X9_apartBy_16 S n kc ks v4 h3 = some v → mW cc ga ad S (gE cc q3 p3 h3 ++ E) ws → kc ≤ 162 → ks ≤ 810 → q_WA p l e (q_rm (4) (100) 162 810) s m args below meth c D N0 9 (MQ below (q_Q D N0 (fun rv w1 => rv = some (.int v) ∧ mW cc ga ad S E w1)) args s 162 810 (q_A N0)) kc ks ws 16 [(0, .ref (ga 0)), (3, .ref q3), (4, .int v4)] [] := by
  intro n
  induction n with
  | zero => intro kc ks v4 h3 q3 p3 ws hf; cases hf
  | succ n ih =>
    intro kc ks v4 h3 q3 p3 ws hf hW b1 b2
    have hk16 : ∀ (kc : Nat) (ks : Nat) (v4 : Int32) (h3 : Nat → Nat → Int32) (q3 : Nat) (p3 : Nat → Nat)  (ws : va_W), f_X9_apartBy_16 S n kc ks v4 h3 = some v → mW cc ga ad S (gE cc q3 p3 h3 ++ E) ws → kc ≤ 162 → ks ≤ 810 → q_WA p l e (q_rm (4) (100) 162 810) s m args below meth c D N0 9 (MQ below (q_Q D N0 (fun rv w1 => rv = some (.int v) ∧ mW cc ga ad S E w1)) args s 162 810 (q_A N0)) kc ks ws 16 [(0, .ref (ga 0)), (3, .ref q3), (4, .int v4)] [] := ih
    have hf : f_X9_apartBy_16b S (f_X9_apartBy_16 S n) kc ks v4 h3 = some v := hf
    refine q_iload (pc := 16) C dX9_apartBy_16 2 rfl ?_
    refine q_bipush (pc := 18) C (25 : Int32) dX9_apartBy_18 q_cb_25 ?_
    refine q_icmp_gt (pc := 20) (tgt := 191) C dX9_apartBy_20 (by decide) (fun c6 => ?_) (fun c6 => ?_)
    · have hf := q_iteT hf c6
      refine q_iconst (pc := 191) C (-1 : Int32) dX9_apartBy_191 q_ci_m1 ?_
      refine q_wid (show kc ≤ 162 by omega) (show ks ≤ 810 by omega) ?_
      refine t_gdrop hW (fun ws hW => ?_)
      obtain rfl := q_some hf
      exact q_iret (pc := 192) C dX9_apartBy_192 ⟨rfl, hW⟩
    · have hf := q_iteF hf c6
      refine q_iconst (pc := 23) C (5 : Int32) dX9_apartBy_23 q_ci_5 ?_
      refine q_iconst (pc := 24) C (5 : Int32) dX9_apartBy_24 q_ci_5 ?_
      obtain ⟨g9, hf⟩ := q_gd hf
      refine t_gnew (pc := 25) C hW (List.mem_of_getElem? (i := 1) rfl) (List.mem_of_getElem? (i := 2) rfl) (show (kc) + 6 ≤ 162 by omega) (show (ks) + 30 ≤ 810 by omega) dX9_apartBy_25 (fun qg7 rg8 ws hW => ?_)
      refine q_nm (wz := ws) (ka := kc + 6) (kb := ks + 30) (sz := [.ref qg7]) rfl rfl rfl rfl ?_
      refine q_astore (pc := 29) (lvq := [(5, .ref qg7), (0, .ref (ga 0)), (3, .ref q3), (4, .int v4)]) C dX9_apartBy_29 (by decide) rfl ?_
      refine q_iconst (pc := 31) C (0 : Int32) dX9_apartBy_31 q_ci_0 ?_
      refine q_istore (pc := 32) (lvq := [(6, .int (0 : Int32)), (5, .ref qg7), (0, .ref (ga 0)), (3, .ref q3), (4, .int v4)]) C dX9_apartBy_32 (by decide) rfl ?_
      have hW := hW.out (List.perm_append_comm_assoc _ _ _)
      refine q_sub (lvq := [(0, .ref (ga 0)), (3, .ref q3), (4, .int v4), (5, .ref qg7), (6, .int (0 : Int32))]) [2, 3, 4, 1, 0] rfl ?_
      exact w_X9_apartBy_34 C hk16 1000 (kc + 6) (ks + 30) v4 (0 : Int32) h3 (fun _ _ => 0) q3 p3 qg7 rg8 ws hf hW (by omega) (by omega)
set_option maxRecDepth 100000 in
set_option maxHeartbeats 8000000 in
theorem c_X9_apartBy (l : Launch) (D : va_G) (cc : Nat → ClassId) (N0 : Nat) (ga : Nat → Nat) (ad : Nat → Nat → Nat) (E : va_W) (S : MS) (a1 : Int32) (a2 : Int32) (v : Int32) (hf : f_X9_apartBy S a1 a2 = some v) (ws : va_W) (hW : mW cc ga ad S E ws) : q_Met l yX9_apartBy wsX9_apartBy 4 100 D cc N0 ws [.ref (ga 0), .int a1, .int a2] (fun rv w1 => rv = some (.int v) ∧ mW cc ga ad S E w1) 162 810 := by
  refine q_ofW (code := cX9_apartBy) (nL := 9) (ret := (some .int)) (by decide +kernel) rfl (Nat.le_of_ble_eq_true rfl) (fun p e s m below meth c C _ => ?_)
  refine q_lv (lv2 := [(0, .ref (ga 0)), (1, .int a1), (2, .int a2)]) rfl ?_
  obtain ⟨kc, hkc⟩ : ∃ z, z = 0 := ⟨_, rfl⟩
  obtain ⟨ks, hks⟩ : ∃ z, z = 0 := ⟨_, rfl⟩
  refine q_nm (wz := ws) (ka := kc) (kb := ks) (sz := []) rfl hkc.symm hks.symm rfl ?_
  have hf : f_X9_apartBy_0 S kc ks a1 a2 = some v := by rw [hkc, hks]; exact hf
  refine q_iconst (pc := 0) C (5 : Int32) dX9_apartBy_0 q_ci_5 ?_
  refine q_iconst (pc := 1) C (5 : Int32) dX9_apartBy_1 q_ci_5 ?_
  obtain ⟨g3, hf⟩ := q_gd hf
  refine t_gnew (pc := 2) C hW (List.mem_of_getElem? (i := 1) rfl) (List.mem_of_getElem? (i := 2) rfl) (show (kc) + 6 ≤ 162 by omega) (show (ks) + 30 ≤ 810 by omega) dX9_apartBy_2 (fun qg1 rg2 ws hW => ?_)
  refine q_nm (wz := ws) (ka := kc + 6) (kb := ks + 30) (sz := [.ref qg1]) rfl rfl rfl rfl ?_
  refine q_astore_n (pc := 6) (lvq := [(3, .ref qg1), (0, .ref (ga 0)), (1, .int a1), (2, .int a2)]) C dX9_apartBy_6 rfl (by decide) rfl ?_
  refine q_aload_n (pc := 7) C dX9_apartBy_7 rfl 0 rfl ?_
  refine q_iload_n (pc := 8) C dX9_apartBy_8 rfl 2 rfl ?_
  obtain ⟨g4, hf⟩ := q_gd hf
  refine t_gald (pc := 9) C hW g4 dX9_apartBy_9 ?_
  refine q_iload_n (pc := 10) C dX9_apartBy_10 rfl 3 rfl ?_
  refine q_iconst (pc := 11) C (1 : Int32) dX9_apartBy_11 q_ci_1 ?_
  obtain ⟨g5, hf⟩ := q_gd hf
  refine t_gzst (pc := 12) C hW g5.1 g5.2 dX9_apartBy_12 (fun ws hW => ?_)
  refine q_iconst (pc := 13) C (0 : Int32) dX9_apartBy_13 q_ci_0 ?_
  refine q_istore (pc := 14) (lvq := [(4, .int (0 : Int32)), (3, .ref qg1), (0, .ref (ga 0)), (1, .int a1), (2, .int a2)]) C dX9_apartBy_14 (by decide) rfl ?_
  refine q_sub (lvq := [(0, .ref (ga 0)), (3, .ref qg1), (4, .int (0 : Int32))]) [2, 1, 0] rfl ?_
  exact w_X9_apartBy_16 C 27 (kc + 6) (ks + 30) (0 : Int32) (nup (fun _ _ => 0) a1.toNatClampNeg (upd ((fun _ _ => 0) a1.toNatClampNeg) a2.toNatClampNeg (vp_nar .boolean (1 : Int32)))) qg1 rg2 ws hf hW (by omega) (by omega)
theorem z_X9_apart : q_dsc yX9_apart 2 := ⟨by decide +kernel, by decide +kernel, by decide +kernel⟩
theorem n_X9_apart_X9 : ∀ w ∈ wsX90, w ∈ wsX9_apart := fun _ h => (List.mem_cons_of_mem _ (List.mem_append_left _ (List.mem_append_right _ h)))
def f_X9_apart_42 (v1 : Int32) (v2 : Int32) (vt0 : Int32) (S : MS) : Option (Int32 × MS) := ((f_X9_isWrong vt0 S).bind fun u4 => (if (q_b u4.1) = 0 then ((f_X9_apartBy u4.2 v1 v2).bind fun u7 => some (u7, u4.2)) else some ((0 : Int32), u4.2)))
def f_X9_apart_23 (v1 : Int32) (v2 : Int32) (S : MS) : Option (Int32 × MS) := f_X9_apart_42 v1 v2 (1 : Int32) S
def f_X9_apart (a1 : Int32) (a2 : Int32) (S : MS) : Option (Int32 × MS) := ((f_X9_isOf_2 S a1).bind fun u1 => (if (q_b u1) = 0 then f_X9_apart_23 a1 a2 S else ((f_X9_isOf_2 S a2).bind fun u9 => (if (q_b u9) = 0 then f_X9_apart_23 a1 a2 S else ((f_X9_apartBy S a1 a2).bind fun u12 => (if u12 = (-1 : Int32) then f_X9_apart_42 a1 a2 (2 : Int32) S else f_X9_apart_42 a1 a2 (0 : Int32) S))))))
set_option maxRecDepth 100000 in
set_option maxHeartbeats 8000000 in
theorem w_X9_apart_42 {p : Program} {l : Launch} {e : Env} {s : State} {m : MethodId} {args : Array Value} {below : List Frame} {meth : Method} {c : Code} {D : va_G} {cc : Nat → ClassId} {N0 : Nat} {ga : Nat → Nat} {E : va_W} {ad : Nat → Nat → Nat} {v : (Int32 × MS)} (C : q_C p s m args meth c cX9_apart 3 (some .int) wsX9_apart RX9 D cc N0)  (kc : Nat) (ks : Nat) (v1 : Int32) (v2 : Int32) (vt0 : Int32) (S : MS)  (ws : va_W) : f_X9_apart_42  v1 v2 vt0 S = some v → mW cc ga ad S E ws → kc + 162 ≤ 324 → ks + 810 ≤ 1620 → q_WA p l e (q_rm (5) (128) 324 1620) s m args below meth c D N0 3 (MQ below (q_Q D N0 (fun rv w1 => rv = some (.int v.1) ∧ mW cc ga ad v.2 E w1)) args s 324 1620 (q_A N0)) kc ks ws 42 [(0, .ref (ga 0)), (1, .int v1), (2, .int v2)] [.int vt0, .ref (ga 0)] := by
  intro hf hW b1 b2
  obtain ⟨u4, e5, hf⟩ := q_bind hf
  obtain ⟨_, he⟩ := hW.obj
  refine q_callV (pc := 42) (As := [.int vt0]) (rest := []) C (c_X9_isWrong l D cc N0 ga ad  E S vt0 u4 e5 ws hW) gX9_apart_X9_isWrong rfl rfl z_X9_isWrong ⟨Nat.le_of_ble_eq_true rfl, Nat.le_of_ble_eq_true rfl⟩ he rfl rfl rfl (Nat.le_of_ble_eq_true rfl) dX9_apart_42 ⟨(show (kc) + 0 ≤ 324 by omega), (show (ks) + 0 ≤ 1620 by omega)⟩ ?_
  rintro _ ws ⟨rfl, hW⟩
  refine q_nm (wz := ws) (ka := kc) (kb := ks) (sz := [.int (q_b u4.1)]) rfl rfl rfl rfl ?_
  refine q_if_eq (pc := 45) (tgt := 50) C dX9_apart_45 (by decide) (fun c6 => ?_) (fun c6 => ?_)
  · have hf := q_iteT hf c6
    refine q_aload_n (pc := 50) C dX9_apart_50 rfl 0 rfl ?_
    refine q_iload_n (pc := 51) C dX9_apart_51 rfl 1 rfl ?_
    refine q_iload_n (pc := 52) C dX9_apart_52 rfl 2 rfl ?_
    obtain ⟨u7, e8, hf⟩ := q_bind hf
    obtain ⟨_, he⟩ := hW.obj
    refine q_callV (pc := 53) (As := [.int v1, .int v2]) (rest := []) C (c_X9_apartBy l D cc N0 ga ad  E u4.2 v1 v2 u7 e8 ws hW) gX9_apart_X9_apartBy rfl rfl z_X9_apartBy ⟨Nat.le_of_ble_eq_true rfl, Nat.le_of_ble_eq_true rfl⟩ he rfl rfl rfl (Nat.le_of_ble_eq_true rfl) dX9_apart_53 ⟨(show (kc) + 162 ≤ 324 by omega), (show (ks) + 810 ≤ 1620 by omega)⟩ ?_
    rintro _ ws ⟨rfl, hW⟩
    refine q_nm (wz := ws) (ka := kc + 162) (kb := ks + 810) (sz := [.int u7]) rfl rfl rfl rfl ?_
    refine q_wid (show kc + 162 ≤ 324 by omega) (show ks + 810 ≤ 1620 by omega) ?_
    obtain rfl := q_some hf
    exact q_iret (pc := 56) C dX9_apart_56 ⟨rfl, hW⟩
  · have hf := q_iteF hf c6
    refine q_iconst (pc := 48) C (0 : Int32) dX9_apart_48 q_ci_0 ?_
    refine q_wid (show kc ≤ 324 by omega) (show ks ≤ 1620 by omega) ?_
    obtain rfl := q_some hf
    exact q_iret (pc := 49) C dX9_apart_49 ⟨rfl, hW⟩
set_option maxRecDepth 100000 in
set_option maxHeartbeats 8000000 in
theorem w_X9_apart_23 {p : Program} {l : Launch} {e : Env} {s : State} {m : MethodId} {args : Array Value} {below : List Frame} {meth : Method} {c : Code} {D : va_G} {cc : Nat → ClassId} {N0 : Nat} {ga : Nat → Nat} {E : va_W} {ad : Nat → Nat → Nat} {v : (Int32 × MS)} (C : q_C p s m args meth c cX9_apart 3 (some .int) wsX9_apart RX9 D cc N0)  (kc : Nat) (ks : Nat) (v1 : Int32) (v2 : Int32) (S : MS)  (ws : va_W) : f_X9_apart_23  v1 v2 S = some v → mW cc ga ad S E ws → kc + 162 ≤ 324 → ks + 810 ≤ 1620 → q_WA p l e (q_rm (5) (128) 324 1620) s m args below meth c D N0 3 (MQ below (q_Q D N0 (fun rv w1 => rv = some (.int v.1) ∧ mW cc ga ad v.2 E w1)) args s 324 1620 (q_A N0)) kc ks ws 23 [(0, .ref (ga 0)), (1, .int v1), (2, .int v2)] [.ref (ga 0)] := by
  intro hf hW b1 b2
  refine q_iconst (pc := 23) C (1 : Int32) dX9_apart_23 q_ci_1 ?_
  refine q_goto (pc := 24) (tgt := 42) C dX9_apart_24 (by decide) ?_
  refine q_sub (lvq := [(0, .ref (ga 0)), (1, .int v1), (2, .int v2)]) [0, 1, 2] rfl ?_
  exact w_X9_apart_42 C (kc) (ks) v1 v2 (1 : Int32) S ws hf hW (by omega) (by omega)
set_option maxRecDepth 100000 in
set_option maxHeartbeats 8000000 in
theorem c_X9_apart (l : Launch) (D : va_G) (cc : Nat → ClassId) (N0 : Nat) (ga : Nat → Nat) (ad : Nat → Nat → Nat) (E : va_W) (S : MS) (a1 : Int32) (a2 : Int32) (v : (Int32 × MS)) (hf : f_X9_apart a1 a2 S = some v) (ws : va_W) (hW : mW cc ga ad S E ws) : q_Met l yX9_apart wsX9_apart 5 128 D cc N0 ws [.ref (ga 0), .int a1, .int a2] (fun rv w1 => rv = some (.int v.1) ∧ mW cc ga ad v.2 E w1) 324 1620 := by
  refine q_ofW (code := cX9_apart) (nL := 3) (ret := (some .int)) (by decide +kernel) rfl (Nat.le_of_ble_eq_true rfl) (fun p e s m below meth c C _ => ?_)
  refine q_lv (lv2 := [(0, .ref (ga 0)), (1, .int a1), (2, .int a2)]) rfl ?_
  obtain ⟨kc, hkc⟩ : ∃ z, z = 0 := ⟨_, rfl⟩
  obtain ⟨ks, hks⟩ : ∃ z, z = 0 := ⟨_, rfl⟩
  refine q_nm (wz := ws) (ka := kc) (kb := ks) (sz := []) rfl hkc.symm hks.symm rfl ?_
  refine q_aload_n (pc := 0) C dX9_apart_0 rfl 0 rfl ?_
  refine q_aload_n (pc := 1) C dX9_apart_1 rfl 0 rfl ?_
  refine m_g_11 (pc := 2) C hW n_X9_apart_X9 (List.mem_of_getElem? (i := 1) rfl) dX9_apart_2 ?_
  refine q_iload_n (pc := 5) C dX9_apart_5 rfl 1 rfl ?_
  obtain ⟨u1, e2, hf⟩ := q_bind hf
  refine q_callS (pc := 6) (As := [.ref (ga 3), .int a1]) (rest := [.ref (ga 0)]) C (c_X9_isOf_2 l D cc N0 ga ad  E S a1 u1 e2 ws hW) gX9_apart_X9_isOf rfl z_X9_isOf_2 ⟨Nat.le_of_ble_eq_true rfl, Nat.le_of_ble_eq_true rfl⟩ rfl rfl (Nat.le_of_ble_eq_true rfl) dX9_apart_6 ⟨(show (kc) + 0 ≤ 324 by omega), (show (ks) + 0 ≤ 1620 by omega)⟩ ?_
  rintro _ ws ⟨rfl, hW⟩
  refine q_nm (wz := ws) (ka := kc) (kb := ks) (sz := [.int (q_b u1), .ref (ga 0)]) rfl rfl rfl rfl ?_
  refine q_if_eq (pc := 9) (tgt := 23) C dX9_apart_9 (by decide) (fun c3 => ?_) (fun c3 => ?_)
  · have hf := q_iteT hf c3
    refine q_sub (lvq := [(0, .ref (ga 0)), (1, .int a1), (2, .int a2)]) [0, 1, 2] rfl ?_
    exact w_X9_apart_23 C (kc) (ks) a1 a2 S ws hf hW (by omega) (by omega)
  · have hf := q_iteF hf c3
    refine q_aload_n (pc := 12) C dX9_apart_12 rfl 0 rfl ?_
    refine m_g_11 (pc := 13) C hW n_X9_apart_X9 (List.mem_of_getElem? (i := 1) rfl) dX9_apart_13 ?_
    refine q_iload_n (pc := 16) C dX9_apart_16 rfl 2 rfl ?_
    obtain ⟨u9, e10, hf⟩ := q_bind hf
    refine q_callS (pc := 17) (As := [.ref (ga 3), .int a2]) (rest := [.ref (ga 0)]) C (c_X9_isOf_2 l D cc N0 ga ad  E S a2 u9 e10 ws hW) gX9_apart_X9_isOf rfl z_X9_isOf_2 ⟨Nat.le_of_ble_eq_true rfl, Nat.le_of_ble_eq_true rfl⟩ rfl rfl (Nat.le_of_ble_eq_true rfl) dX9_apart_17 ⟨(show (kc) + 0 ≤ 324 by omega), (show (ks) + 0 ≤ 1620 by omega)⟩ ?_
    rintro _ ws ⟨rfl, hW⟩
    refine q_nm (wz := ws) (ka := kc) (kb := ks) (sz := [.int (q_b u9), .ref (ga 0)]) rfl rfl rfl rfl ?_
    refine q_if_ne (pc := 20) (tgt := 27) C dX9_apart_20 (by decide) (fun c11 => ?_) (fun c11 => ?_)
    · have hf := q_iteF hf c11
      refine q_aload_n (pc := 27) C dX9_apart_27 rfl 0 rfl ?_
      refine q_iload_n (pc := 28) C dX9_apart_28 rfl 1 rfl ?_
      refine q_iload_n (pc := 29) C dX9_apart_29 rfl 2 rfl ?_
      obtain ⟨u12, e13, hf⟩ := q_bind hf
      obtain ⟨_, he⟩ := hW.obj
      refine q_callV (pc := 30) (As := [.int a1, .int a2]) (rest := [.ref (ga 0)]) C (c_X9_apartBy l D cc N0 ga ad  E S a1 a2 u12 e13 ws hW) gX9_apart_X9_apartBy rfl rfl z_X9_apartBy ⟨Nat.le_of_ble_eq_true rfl, Nat.le_of_ble_eq_true rfl⟩ he rfl rfl rfl (Nat.le_of_ble_eq_true rfl) dX9_apart_30 ⟨(show (kc) + 162 ≤ 324 by omega), (show (ks) + 810 ≤ 1620 by omega)⟩ ?_
      rintro _ ws ⟨rfl, hW⟩
      refine q_nm (wz := ws) (ka := kc + 162) (kb := ks + 810) (sz := [.int u12, .ref (ga 0)]) rfl rfl rfl rfl ?_
      refine q_iconst (pc := 33) C (-1 : Int32) dX9_apart_33 q_ci_m1 ?_
      refine q_icmp_ne (pc := 34) (tgt := 41) C dX9_apart_34 (by decide) (fun c14 => ?_) (fun c14 => ?_)
      · have hf := q_iteF hf c14
        refine q_iconst (pc := 41) C (0 : Int32) dX9_apart_41 q_ci_0 ?_
        refine q_sub (lvq := [(0, .ref (ga 0)), (1, .int a1), (2, .int a2)]) [0, 1, 2] rfl ?_
        exact w_X9_apart_42 C (kc + 162) (ks + 810) a1 a2 (0 : Int32) S ws hf hW (by omega) (by omega)
      · have hf := q_iteT hf c14
        refine q_iconst (pc := 37) C (2 : Int32) dX9_apart_37 q_ci_2 ?_
        refine q_goto (pc := 38) (tgt := 42) C dX9_apart_38 (by decide) ?_
        refine q_sub (lvq := [(0, .ref (ga 0)), (1, .int a1), (2, .int a2)]) [0, 1, 2] rfl ?_
        exact w_X9_apart_42 C (kc + 162) (ks + 810) a1 a2 (2 : Int32) S ws hf hW (by omega) (by omega)
    · have hf := q_iteT hf c11
      refine q_sub (lvq := [(0, .ref (ga 0)), (1, .int a1), (2, .int a2)]) [0, 1, 2] rfl ?_
      exact w_X9_apart_23 C (kc) (ks) a1 a2 S ws hf hW (by omega) (by omega)
theorem z_X9_leastStates : q_dsc yX9_leastStates 0 := ⟨by decide +kernel, by decide +kernel, by decide +kernel⟩
theorem n_X9_leastStates_X9 : ∀ w ∈ wsX90, w ∈ wsX9_leastStates := fun _ h => (List.mem_cons_of_mem _ (List.mem_append_left _ (List.mem_append_right _ h)))
def f_X9_leastStates_122 (K : Nat) (k37 : Nat → Nat → Int32 → Int32 → Int32 → MS → Option (Int32 × MS)) (kc : Nat) (ks : Nat) (v1 : Int32) (v3 : Int32) (vt0 : Int32) (vt1 : Int32) (S : MS) : Option (Int32 × MS) := k37 (kc) (ks) v1 (vt1 + vt0) (v3 + (1 : Int32)) S
def f_X9_leastStates_102 (K : Nat) (k37 : Nat → Nat → Int32 → Int32 → Int32 → MS → Option (Int32 × MS)) (k69 : Nat → Nat → Int32 → Int32 → Int32 → Int32 → Int32 → MS → Option (Int32 × MS)) (kc : Nat) (ks : Nat) (v1 : Int32) (v2 : Int32) (v3 : Int32) (v5 : Int32) (vt0 : Int32) (vt1 : Int32) (S : MS) : Option (Int32 × MS) := k69 (kc) (ks) v1 v2 v3 (vt1 &&& vt0) (v5 + (1 : Int32)) S
def f_X9_leastStates_97 (K : Nat) (k37 : Nat → Nat → Int32 → Int32 → Int32 → MS → Option (Int32 × MS)) (k69 : Nat → Nat → Int32 → Int32 → Int32 → Int32 → Int32 → MS → Option (Int32 × MS)) (kc : Nat) (ks : Nat) (v1 : Int32) (v2 : Int32) (v3 : Int32) (v5 : Int32) (vt0 : Int32) (S : MS) : Option (Int32 × MS) := f_X9_leastStates_102 K k37 k69 (kc) (ks) v1 v2 v3 v5 (1 : Int32) vt0 S
def f_X9_leastStates_69b (K : Nat) (k37 : Nat → Nat → Int32 → Int32 → Int32 → MS → Option (Int32 × MS)) (k69 : Nat → Nat → Int32 → Int32 → Int32 → Int32 → Int32 → MS → Option (Int32 × MS)) (kc : Nat) (ks : Nat) (v1 : Int32) (v2 : Int32) (v3 : Int32) (v4 : Int32) (v5 : Int32) (S : MS) : Option (Int32 × MS) := (if v3 ≤ v5 then (if v4 = 0 then f_X9_leastStates_122 K k37 (kc) (ks) v1 v3 (0 : Int32) v2 S else f_X9_leastStates_122 K k37 (kc) (ks) v1 v3 (1 : Int32) v2 S) else (if ((v1 >>> (v5 &&& 31)) &&& (1 : Int32)) = 0 then f_X9_leastStates_97 K k37 k69 (kc) (ks) v1 v2 v3 v5 v4 S else ((f_X9_apartBy S v3 v5).bind fun u12 => (if kc + 162 ≤ K ∧ ks + 810 ≤ (5 * K) then (if u12 = (-1 : Int32) then f_X9_leastStates_102 K k37 k69 (kc + 162) (ks + 810) v1 v2 v3 v5 (0 : Int32) v4 S else f_X9_leastStates_97 K k37 k69 (kc + 162) (ks + 810) v1 v2 v3 v5 v4 S) else none))))
def f_X9_leastStates_69 (K : Nat) (k37 : Nat → Nat → Int32 → Int32 → Int32 → MS → Option (Int32 × MS)) : Nat → Nat → Nat → Int32 → Int32 → Int32 → Int32 → Int32 → MS → Option (Int32 × MS)
  | 0, _, _, _, _, _, _, _, _ => none
  | n + 1, kc, ks, v1, v2, v3, v4, v5, S => f_X9_leastStates_69b K k37 (f_X9_leastStates_69 K k37 n) kc ks v1 v2 v3 v4 v5 S
def f_X9_leastStates_64 (K : Nat) (k37 : Nat → Nat → Int32 → Int32 → Int32 → MS → Option (Int32 × MS)) (kc : Nat) (ks : Nat) (v1 : Int32) (v2 : Int32) (v3 : Int32) (vt0 : Int32) (S : MS) : Option (Int32 × MS) := f_X9_leastStates_69 K k37 1000 (kc) (ks) v1 v2 v3 vt0 (0 : Int32) S
def f_X9_leastStates_37b (K : Nat) (k37 : Nat → Nat → Int32 → Int32 → Int32 → MS → Option (Int32 × MS)) (kc : Nat) (ks : Nat) (v1 : Int32) (v2 : Int32) (v3 : Int32) (S : MS) : Option (Int32 × MS) := (if (nI (S.2.1 2)) ≤ v3 then some (v2, S) else (if ((v1 >>> (v3 &&& 31)) &&& (1 : Int32)) = (1 : Int32) then f_X9_leastStates_64 K k37 (kc) (ks) v1 v2 v3 (1 : Int32) S else f_X9_leastStates_64 K k37 (kc) (ks) v1 v2 v3 (0 : Int32) S))
def f_X9_leastStates_37 (K : Nat) : Nat → Nat → Nat → Int32 → Int32 → Int32 → MS → Option (Int32 × MS)
  | 0, _, _, _, _, _, _ => none
  | n + 1, kc, ks, v1, v2, v3, S => f_X9_leastStates_37b K (f_X9_leastStates_37 K n) kc ks v1 v2 v3 S
def f_X9_leastStates_18 (K : Nat) (kc : Nat) (ks : Nat) (vt0 : Int32) (S : MS) : Option (Int32 × MS) := ((f_X9_isWrong vt0 S).bind fun u2 => (if (q_b u2.1) = 0 then ((f_X9_reached u2.2 10 (0 : Int32) (0 : Int32)).bind fun u5 => f_X9_leastStates_37 K 1000 (kc) (ks) u5 (0 : Int32) (0 : Int32) u2.2) else some ((0 : Int32), u2.2)))
def f_X9_leastStates_0 (K : Nat) (kc ks : Nat) (S : MS) : Option (Int32 × MS) := (if (q_b (decide (S.2.1 2 = 0))) = 0 then f_X9_leastStates_18 K (kc) (ks) (0 : Int32) S else f_X9_leastStates_18 K (kc) (ks) (1 : Int32) S)
def f_X9_leastStates (K : Nat) (S : MS) : Option (Int32 × MS) := f_X9_leastStates_0 K 0 0 S
set_option maxRecDepth 100000 in
set_option maxHeartbeats 8000000 in
theorem w_X9_leastStates_122 {p : Program} {l : Launch} {e : Env} {s : State} {m : MethodId} {args : Array Value} {below : List Frame} {meth : Method} {c : Code} {D : va_G} {cc : Nat → ClassId} {N0 : Nat} {ga : Nat → Nat} {E : va_W} {ad : Nat → Nat → Nat} {K : Nat} {k37 : Nat → Nat → Int32 → Int32 → Int32 → MS → Option (Int32 × MS)} {v : (Int32 × MS)} (C : q_C p s m args meth c cX9_leastStates 6 (some .int) wsX9_leastStates RX9 D cc N0) (hk37 : ∀ (kc : Nat) (ks : Nat) (v1 : Int32) (v2 : Int32) (v3 : Int32) (S : MS)  (ws : va_W), k37 kc ks v1 v2 v3 S = some v → mW cc ga ad S E ws → kc ≤ K → ks ≤ (5 * K) → q_WA p l e (q_rm (15) (375) K (5 * K)) s m args below meth c D N0 6 (MQ below (q_Q D N0 (fun rv w1 => rv = some (.int v.1) ∧ mW cc ga ad v.2 E w1)) args s K (5 * K) (q_A N0)) kc ks ws 37 [(0, .ref (ga 0)), (1, .int v1), (2, .int v2), (3, .int v3)] []) (kc : Nat) (ks : Nat) (v1 : Int32) (v3 : Int32) (vt0 : Int32) (vt1 : Int32) (S : MS)  (ws : va_W) : f_X9_leastStates_122 K k37 kc ks v1 v3 vt0 vt1 S = some v → mW cc ga ad S E ws → kc ≤ K → ks ≤ (5 * K) → q_WA p l e (q_rm (15) (375) K (5 * K)) s m args below meth c D N0 6 (MQ below (q_Q D N0 (fun rv w1 => rv = some (.int v.1) ∧ mW cc ga ad v.2 E w1)) args s K (5 * K) (q_A N0)) kc ks ws 122 [(0, .ref (ga 0)), (1, .int v1), (3, .int v3)] [.int vt0, .int vt1] := by
  intro hf hW b1 b2
  refine q_iadd (pc := 122) C dX9_leastStates_122 ?_
  refine q_istore_n (pc := 123) (lvq := [(2, .int (vt1 + vt0)), (0, .ref (ga 0)), (1, .int v1), (3, .int v3)]) C dX9_leastStates_123 rfl (by decide) rfl ?_
  refine q_iinc (pc := 124) (lvq := [(3, .int (v3 + (1 : Int32))), (2, .int (vt1 + vt0)), (0, .ref (ga 0)), (1, .int v1)]) C (v3 + (1 : Int32)) dX9_leastStates_124 3 rfl q_ca_1 (by decide) rfl ?_
  refine q_goto (pc := 127) (tgt := 37) C dX9_leastStates_127 (by decide) ?_
  refine q_sub (lvq := [(0, .ref (ga 0)), (1, .int v1), (2, .int (vt1 + vt0)), (3, .int (v3 + (1 : Int32)))]) [2, 3, 1, 0] rfl ?_
  exact hk37 (kc) (ks) v1 (vt1 + vt0) (v3 + (1 : Int32)) S ws hf hW (by omega) (by omega)
set_option maxRecDepth 100000 in
set_option maxHeartbeats 8000000 in
theorem w_X9_leastStates_102 {p : Program} {l : Launch} {e : Env} {s : State} {m : MethodId} {args : Array Value} {below : List Frame} {meth : Method} {c : Code} {D : va_G} {cc : Nat → ClassId} {N0 : Nat} {ga : Nat → Nat} {E : va_W} {ad : Nat → Nat → Nat} {K : Nat} {k37 : Nat → Nat → Int32 → Int32 → Int32 → MS → Option (Int32 × MS)} {k69 : Nat → Nat → Int32 → Int32 → Int32 → Int32 → Int32 → MS → Option (Int32 × MS)} {v : (Int32 × MS)} (C : q_C p s m args meth c cX9_leastStates 6 (some .int) wsX9_leastStates RX9 D cc N0) (hk37 : ∀ (kc : Nat) (ks : Nat) (v1 : Int32) (v2 : Int32) (v3 : Int32) (S : MS)  (ws : va_W), k37 kc ks v1 v2 v3 S = some v → mW cc ga ad S E ws → kc ≤ K → ks ≤ (5 * K) → q_WA p l e (q_rm (15) (375) K (5 * K)) s m args below meth c D N0 6 (MQ below (q_Q D N0 (fun rv w1 => rv = some (.int v.1) ∧ mW cc ga ad v.2 E w1)) args s K (5 * K) (q_A N0)) kc ks ws 37 [(0, .ref (ga 0)), (1, .int v1), (2, .int v2), (3, .int v3)] []) (hk69 : ∀ (kc : Nat) (ks : Nat) (v1 : Int32) (v2 : Int32) (v3 : Int32) (v4 : Int32) (v5 : Int32) (S : MS)  (ws : va_W), k69 kc ks v1 v2 v3 v4 v5 S = some v → mW cc ga ad S E ws → kc ≤ K → ks ≤ (5 * K) → q_WA p l e (q_rm (15) (375) K (5 * K)) s m args below meth c D N0 6 (MQ below (q_Q D N0 (fun rv w1 => rv = some (.int v.1) ∧ mW cc ga ad v.2 E w1)) args s K (5 * K) (q_A N0)) kc ks ws 69 [(0, .ref (ga 0)), (1, .int v1), (2, .int v2), (3, .int v3), (4, .int v4), (5, .int v5)] []) (kc : Nat) (ks : Nat) (v1 : Int32) (v2 : Int32) (v3 : Int32) (v5 : Int32) (vt0 : Int32) (vt1 : Int32) (S : MS)  (ws : va_W) : f_X9_leastStates_102 K k37 k69 kc ks v1 v2 v3 v5 vt0 vt1 S = some v → mW cc ga ad S E ws → kc ≤ K → ks ≤ (5 * K) → q_WA p l e (q_rm (15) (375) K (5 * K)) s m args below meth c D N0 6 (MQ below (q_Q D N0 (fun rv w1 => rv = some (.int v.1) ∧ mW cc ga ad v.2 E w1)) args s K (5 * K) (q_A N0)) kc ks ws 102 [(0, .ref (ga 0)), (1, .int v1), (2, .int v2), (3, .int v3), (5, .int v5)] [.int vt0, .int vt1] := by
  intro hf hW b1 b2
  refine q_iand (pc := 102) C dX9_leastStates_102 ?_
  refine q_istore (pc := 103) (lvq := [(4, .int (vt1 &&& vt0)), (0, .ref (ga 0)), (1, .int v1), (2, .int v2), (3, .int v3), (5, .int v5)]) C dX9_leastStates_103 (by decide) rfl ?_
  refine q_iinc (pc := 105) (lvq := [(5, .int (v5 + (1 : Int32))), (4, .int (vt1 &&& vt0)), (0, .ref (ga 0)), (1, .int v1), (2, .int v2), (3, .int v3)]) C (v5 + (1 : Int32)) dX9_leastStates_105 5 rfl q_ca_1 (by decide) rfl ?_
  refine q_goto (pc := 108) (tgt := 69) C dX9_leastStates_108 (by decide) ?_
  refine q_sub (lvq := [(0, .ref (ga 0)), (1, .int v1), (2, .int v2), (3, .int v3), (4, .int (vt1 &&& vt0)), (5, .int (v5 + (1 : Int32)))]) [2, 3, 4, 5, 1, 0] rfl ?_
  exact hk69 (kc) (ks) v1 v2 v3 (vt1 &&& vt0) (v5 + (1 : Int32)) S ws hf hW (by omega) (by omega)
set_option maxRecDepth 100000 in
set_option maxHeartbeats 8000000 in
theorem w_X9_leastStates_97 {p : Program} {l : Launch} {e : Env} {s : State} {m : MethodId} {args : Array Value} {below : List Frame} {meth : Method} {c : Code} {D : va_G} {cc : Nat → ClassId} {N0 : Nat} {ga : Nat → Nat} {E : va_W} {ad : Nat → Nat → Nat} {K : Nat} {k37 : Nat → Nat → Int32 → Int32 → Int32 → MS → Option (Int32 × MS)} {k69 : Nat → Nat → Int32 → Int32 → Int32 → Int32 → Int32 → MS → Option (Int32 × MS)} {v : (Int32 × MS)} (C : q_C p s m args meth c cX9_leastStates 6 (some .int) wsX9_leastStates RX9 D cc N0) (hk37 : ∀ (kc : Nat) (ks : Nat) (v1 : Int32) (v2 : Int32) (v3 : Int32) (S : MS)  (ws : va_W), k37 kc ks v1 v2 v3 S = some v → mW cc ga ad S E ws → kc ≤ K → ks ≤ (5 * K) → q_WA p l e (q_rm (15) (375) K (5 * K)) s m args below meth c D N0 6 (MQ below (q_Q D N0 (fun rv w1 => rv = some (.int v.1) ∧ mW cc ga ad v.2 E w1)) args s K (5 * K) (q_A N0)) kc ks ws 37 [(0, .ref (ga 0)), (1, .int v1), (2, .int v2), (3, .int v3)] []) (hk69 : ∀ (kc : Nat) (ks : Nat) (v1 : Int32) (v2 : Int32) (v3 : Int32) (v4 : Int32) (v5 : Int32) (S : MS)  (ws : va_W), k69 kc ks v1 v2 v3 v4 v5 S = some v → mW cc ga ad S E ws → kc ≤ K → ks ≤ (5 * K) → q_WA p l e (q_rm (15) (375) K (5 * K)) s m args below meth c D N0 6 (MQ below (q_Q D N0 (fun rv w1 => rv = some (.int v.1) ∧ mW cc ga ad v.2 E w1)) args s K (5 * K) (q_A N0)) kc ks ws 69 [(0, .ref (ga 0)), (1, .int v1), (2, .int v2), (3, .int v3), (4, .int v4), (5, .int v5)] []) (kc : Nat) (ks : Nat) (v1 : Int32) (v2 : Int32) (v3 : Int32) (v5 : Int32) (vt0 : Int32) (S : MS)  (ws : va_W) : f_X9_leastStates_97 K k37 k69 kc ks v1 v2 v3 v5 vt0 S = some v → mW cc ga ad S E ws → kc ≤ K → ks ≤ (5 * K) → q_WA p l e (q_rm (15) (375) K (5 * K)) s m args below meth c D N0 6 (MQ below (q_Q D N0 (fun rv w1 => rv = some (.int v.1) ∧ mW cc ga ad v.2 E w1)) args s K (5 * K) (q_A N0)) kc ks ws 97 [(0, .ref (ga 0)), (1, .int v1), (2, .int v2), (3, .int v3), (5, .int v5)] [.int vt0] := by
  intro hf hW b1 b2
  refine q_iconst (pc := 97) C (1 : Int32) dX9_leastStates_97 q_ci_1 ?_
  refine q_goto (pc := 98) (tgt := 102) C dX9_leastStates_98 (by decide) ?_
  refine q_sub (lvq := [(0, .ref (ga 0)), (1, .int v1), (2, .int v2), (3, .int v3), (5, .int v5)]) [0, 1, 2, 3, 4] rfl ?_
  exact w_X9_leastStates_102 C hk37 hk69 (kc) (ks) v1 v2 v3 v5 (1 : Int32) vt0 S ws hf hW (by omega) (by omega)
set_option maxRecDepth 100000 in
set_option maxHeartbeats 8000000 in
theorem w_X9_leastStates_69 {p : Program} {l : Launch} {e : Env} {s : State} {m : MethodId} {args : Array Value} {below : List Frame} {meth : Method} {c : Code} {D : va_G} {cc : Nat → ClassId} {N0 : Nat} {ga : Nat → Nat} {E : va_W} {ad : Nat → Nat → Nat} {K : Nat} {k37 : Nat → Nat → Int32 → Int32 → Int32 → MS → Option (Int32 × MS)} {v : (Int32 × MS)} (C : q_C p s m args meth c cX9_leastStates 6 (some .int) wsX9_leastStates RX9 D cc N0) (hk37 : ∀ (kc : Nat) (ks : Nat) (v1 : Int32) (v2 : Int32) (v3 : Int32) (S : MS)  (ws : va_W), k37 kc ks v1 v2 v3 S = some v → mW cc ga ad S E ws → kc ≤ K → ks ≤ (5 * K) → q_WA p l e (q_rm (15) (375) K (5 * K)) s m args below meth c D N0 6 (MQ below (q_Q D N0 (fun rv w1 => rv = some (.int v.1) ∧ mW cc ga ad v.2 E w1)) args s K (5 * K) (q_A N0)) kc ks ws 37 [(0, .ref (ga 0)), (1, .int v1), (2, .int v2), (3, .int v3)] []) : ∀ (n : Nat) (kc : Nat) (ks : Nat) (v1 : Int32) (v2 : Int32) (v3 : Int32) (v4 : Int32) (v5 : Int32) (S : MS)  (ws : va_W), f_X9_leastStates_69 K k37 n kc ks v1 v2 v3 v4 v5 S = some v → mW cc ga ad S E ws → kc ≤ K → ks ≤ (5 * K) → q_WA p l e (q_rm (15) (375) K (5 * K)) s m args below meth c D N0 6 (MQ below (q_Q D N0 (fun rv w1 => rv = some (.int v.1) ∧ mW cc ga ad v.2 E w1)) args s K (5 * K) (q_A N0)) kc ks ws 69 [(0, .ref (ga 0)), (1, .int v1), (2, .int v2), (3, .int v3), (4, .int v4), (5, .int v5)] [] := by
  intro n
  induction n with
  | zero => intro kc ks v1 v2 v3 v4 v5 S ws hf; cases hf
  | succ n ih =>
    intro kc ks v1 v2 v3 v4 v5 S ws hf hW b1 b2
    have hk69 : ∀ (kc : Nat) (ks : Nat) (v1 : Int32) (v2 : Int32) (v3 : Int32) (v4 : Int32) (v5 : Int32) (S : MS)  (ws : va_W), f_X9_leastStates_69 K k37 n kc ks v1 v2 v3 v4 v5 S = some v → mW cc ga ad S E ws → kc ≤ K → ks ≤ (5 * K) → q_WA p l e (q_rm (15) (375) K (5 * K)) s m args below meth c D N0 6 (MQ below (q_Q D N0 (fun rv w1 => rv = some (.int v.1) ∧ mW cc ga ad v.2 E w1)) args s K (5 * K) (q_A N0)) kc ks ws 69 [(0, .ref (ga 0)), (1, .int v1), (2, .int v2), (3, .int v3), (4, .int v4), (5, .int v5)] [] := ih
    have hf : f_X9_leastStates_69b K k37 (f_X9_leastStates_69 K k37 n) kc ks v1 v2 v3 v4 v5 S = some v := hf
    refine q_iload (pc := 69) C dX9_leastStates_69 5 rfl ?_
    refine q_iload_n (pc := 71) C dX9_leastStates_71 rfl 3 rfl ?_
    refine q_icmp_ge (pc := 72) (tgt := 111) C dX9_leastStates_72 (by decide) (fun c9 => ?_) (fun c9 => ?_)
    · have hf := q_iteT hf c9
      refine q_iload_n (pc := 111) C dX9_leastStates_111 rfl 2 rfl ?_
      refine q_iload (pc := 112) C dX9_leastStates_112 4 rfl ?_
      refine q_if_eq (pc := 114) (tgt := 121) C dX9_leastStates_114 (by decide) (fun c10 => ?_) (fun c10 => ?_)
      · have hf := q_iteT hf c10
        refine q_iconst (pc := 121) C (0 : Int32) dX9_leastStates_121 q_ci_0 ?_
        refine q_sub (lvq := [(0, .ref (ga 0)), (1, .int v1), (3, .int v3)]) [0, 1, 3] rfl ?_
        exact w_X9_leastStates_122 C hk37 (kc) (ks) v1 v3 (0 : Int32) v2 S ws hf hW (by omega) (by omega)
      · have hf := q_iteF hf c10
        refine q_iconst (pc := 117) C (1 : Int32) dX9_leastStates_117 q_ci_1 ?_
        refine q_goto (pc := 118) (tgt := 122) C dX9_leastStates_118 (by decide) ?_
        refine q_sub (lvq := [(0, .ref (ga 0)), (1, .int v1), (3, .int v3)]) [0, 1, 3] rfl ?_
        exact w_X9_leastStates_122 C hk37 (kc) (ks) v1 v3 (1 : Int32) v2 S ws hf hW (by omega) (by omega)
    · have hf := q_iteF hf c9
      refine q_iload (pc := 75) C dX9_leastStates_75 4 rfl ?_
      refine q_iload_n (pc := 77) C dX9_leastStates_77 rfl 1 rfl ?_
      refine q_iload (pc := 78) C dX9_leastStates_78 5 rfl ?_
      refine q_ishr (pc := 80) C dX9_leastStates_80 ?_
      refine q_iconst (pc := 81) C (1 : Int32) dX9_leastStates_81 q_ci_1 ?_
      refine q_iand (pc := 82) C dX9_leastStates_82 ?_
      refine q_if_eq (pc := 83) (tgt := 97) C dX9_leastStates_83 (by decide) (fun c11 => ?_) (fun c11 => ?_)
      · have hf := q_iteT hf c11
        refine q_sub (lvq := [(0, .ref (ga 0)), (1, .int v1), (2, .int v2), (3, .int v3), (5, .int v5)]) [0, 1, 2, 3, 5] rfl ?_
        exact w_X9_leastStates_97 C hk37 hk69 (kc) (ks) v1 v2 v3 v5 v4 S ws hf hW (by omega) (by omega)
      · have hf := q_iteF hf c11
        refine q_aload_n (pc := 86) C dX9_leastStates_86 rfl 0 rfl ?_
        refine q_iload_n (pc := 87) C dX9_leastStates_87 rfl 3 rfl ?_
        refine q_iload (pc := 88) C dX9_leastStates_88 5 rfl ?_
        obtain ⟨u12, e13, hf⟩ := q_bind hf
        obtain ⟨g14, hf⟩ := q_gd hf
        obtain ⟨_, he⟩ := hW.obj
        refine q_callV (pc := 90) (As := [.int v3, .int v5]) (rest := [.int v4]) C (c_X9_apartBy l D cc N0 ga ad  E S v3 v5 u12 e13 ws hW) gX9_leastStates_X9_apartBy rfl rfl z_X9_apartBy ⟨Nat.le_of_ble_eq_true rfl, Nat.le_of_ble_eq_true rfl⟩ he rfl rfl rfl (Nat.le_of_ble_eq_true rfl) dX9_leastStates_90 g14 ?_
        rintro _ ws ⟨rfl, hW⟩
        refine q_nm (wz := ws) (ka := kc + 162) (kb := ks + 810) (sz := [.int u12, .int v4]) rfl rfl rfl rfl ?_
        refine q_iconst (pc := 93) C (-1 : Int32) dX9_leastStates_93 q_ci_m1 ?_
        refine q_icmp_eq (pc := 94) (tgt := 101) C dX9_leastStates_94 (by decide) (fun c15 => ?_) (fun c15 => ?_)
        · have hf := q_iteT hf c15
          refine q_iconst (pc := 101) C (0 : Int32) dX9_leastStates_101 q_ci_0 ?_
          refine q_sub (lvq := [(0, .ref (ga 0)), (1, .int v1), (2, .int v2), (3, .int v3), (5, .int v5)]) [0, 1, 2, 3, 5] rfl ?_
          exact w_X9_leastStates_102 C hk37 hk69 (kc + 162) (ks + 810) v1 v2 v3 v5 (0 : Int32) v4 S ws hf hW (by omega) (by omega)
        · have hf := q_iteF hf c15
          refine q_sub (lvq := [(0, .ref (ga 0)), (1, .int v1), (2, .int v2), (3, .int v3), (5, .int v5)]) [0, 1, 2, 3, 5] rfl ?_
          exact w_X9_leastStates_97 C hk37 hk69 (kc + 162) (ks + 810) v1 v2 v3 v5 v4 S ws hf hW (by omega) (by omega)
set_option maxRecDepth 100000 in
set_option maxHeartbeats 8000000 in
theorem w_X9_leastStates_64 {p : Program} {l : Launch} {e : Env} {s : State} {m : MethodId} {args : Array Value} {below : List Frame} {meth : Method} {c : Code} {D : va_G} {cc : Nat → ClassId} {N0 : Nat} {ga : Nat → Nat} {E : va_W} {ad : Nat → Nat → Nat} {K : Nat} {k37 : Nat → Nat → Int32 → Int32 → Int32 → MS → Option (Int32 × MS)} {v : (Int32 × MS)} (C : q_C p s m args meth c cX9_leastStates 6 (some .int) wsX9_leastStates RX9 D cc N0) (hk37 : ∀ (kc : Nat) (ks : Nat) (v1 : Int32) (v2 : Int32) (v3 : Int32) (S : MS)  (ws : va_W), k37 kc ks v1 v2 v3 S = some v → mW cc ga ad S E ws → kc ≤ K → ks ≤ (5 * K) → q_WA p l e (q_rm (15) (375) K (5 * K)) s m args below meth c D N0 6 (MQ below (q_Q D N0 (fun rv w1 => rv = some (.int v.1) ∧ mW cc ga ad v.2 E w1)) args s K (5 * K) (q_A N0)) kc ks ws 37 [(0, .ref (ga 0)), (1, .int v1), (2, .int v2), (3, .int v3)] []) (kc : Nat) (ks : Nat) (v1 : Int32) (v2 : Int32) (v3 : Int32) (vt0 : Int32) (S : MS)  (ws : va_W) : f_X9_leastStates_64 K k37 kc ks v1 v2 v3 vt0 S = some v → mW cc ga ad S E ws → kc ≤ K → ks ≤ (5 * K) → q_WA p l e (q_rm (15) (375) K (5 * K)) s m args below meth c D N0 6 (MQ below (q_Q D N0 (fun rv w1 => rv = some (.int v.1) ∧ mW cc ga ad v.2 E w1)) args s K (5 * K) (q_A N0)) kc ks ws 64 [(0, .ref (ga 0)), (1, .int v1), (2, .int v2), (3, .int v3)] [.int vt0] := by
  intro hf hW b1 b2
  refine q_istore (pc := 64) (lvq := [(4, .int vt0), (0, .ref (ga 0)), (1, .int v1), (2, .int v2), (3, .int v3)]) C dX9_leastStates_64 (by decide) rfl ?_
  refine q_iconst (pc := 66) C (0 : Int32) dX9_leastStates_66 q_ci_0 ?_
  refine q_istore (pc := 67) (lvq := [(5, .int (0 : Int32)), (4, .int vt0), (0, .ref (ga 0)), (1, .int v1), (2, .int v2), (3, .int v3)]) C dX9_leastStates_67 (by decide) rfl ?_
  refine q_sub (lvq := [(0, .ref (ga 0)), (1, .int v1), (2, .int v2), (3, .int v3), (4, .int vt0), (5, .int (0 : Int32))]) [2, 3, 4, 5, 1, 0] rfl ?_
  exact w_X9_leastStates_69 C hk37 1000 (kc) (ks) v1 v2 v3 vt0 (0 : Int32) S ws hf hW (by omega) (by omega)
set_option maxRecDepth 100000 in
set_option maxHeartbeats 8000000 in
theorem w_X9_leastStates_37 {p : Program} {l : Launch} {e : Env} {s : State} {m : MethodId} {args : Array Value} {below : List Frame} {meth : Method} {c : Code} {D : va_G} {cc : Nat → ClassId} {N0 : Nat} {ga : Nat → Nat} {E : va_W} {ad : Nat → Nat → Nat} {K : Nat} {v : (Int32 × MS)} (C : q_C p s m args meth c cX9_leastStates 6 (some .int) wsX9_leastStates RX9 D cc N0)  : ∀ (n : Nat) (kc : Nat) (ks : Nat) (v1 : Int32) (v2 : Int32) (v3 : Int32) (S : MS)  (ws : va_W), f_X9_leastStates_37 K n kc ks v1 v2 v3 S = some v → mW cc ga ad S E ws → kc ≤ K → ks ≤ (5 * K) → q_WA p l e (q_rm (15) (375) K (5 * K)) s m args below meth c D N0 6 (MQ below (q_Q D N0 (fun rv w1 => rv = some (.int v.1) ∧ mW cc ga ad v.2 E w1)) args s K (5 * K) (q_A N0)) kc ks ws 37 [(0, .ref (ga 0)), (1, .int v1), (2, .int v2), (3, .int v3)] [] := by
  intro n
  induction n with
  | zero => intro kc ks v1 v2 v3 S ws hf; cases hf
  | succ n ih =>
    intro kc ks v1 v2 v3 S ws hf hW b1 b2
    have hk37 : ∀ (kc : Nat) (ks : Nat) (v1 : Int32) (v2 : Int32) (v3 : Int32) (S : MS)  (ws : va_W), f_X9_leastStates_37 K n kc ks v1 v2 v3 S = some v → mW cc ga ad S E ws → kc ≤ K → ks ≤ (5 * K) → q_WA p l e (q_rm (15) (375) K (5 * K)) s m args below meth c D N0 6 (MQ below (q_Q D N0 (fun rv w1 => rv = some (.int v.1) ∧ mW cc ga ad v.2 E w1)) args s K (5 * K) (q_A N0)) kc ks ws 37 [(0, .ref (ga 0)), (1, .int v1), (2, .int v2), (3, .int v3)] [] := ih
    have hf : f_X9_leastStates_37b K (f_X9_leastStates_37 K n) kc ks v1 v2 v3 S = some v := hf
    refine q_iload_n (pc := 37) C dX9_leastStates_37 rfl 3 rfl ?_
    refine q_aload_n (pc := 38) C dX9_leastStates_38 rfl 0 rfl ?_
    refine m_g_11 (pc := 39) C hW n_X9_leastStates_X9 (List.mem_of_getElem? (i := 1) rfl) dX9_leastStates_39 ?_
    refine m_size_2 (pc := 42) C hW gX9_leastStates_Jx4a65c_size_8abf5_f50Jx4a65c ⟨Nat.le_of_ble_eq_true rfl, Nat.le_of_ble_eq_true rfl⟩ (Nat.le_of_ble_eq_true rfl) dX9_leastStates_42 ⟨(show (kc) ≤ K by omega), (show (ks) ≤ (5 * K) by omega)⟩ ?_
    refine q_icmp_ge (pc := 47) (tgt := 130) C dX9_leastStates_47 (by decide) (fun c7 => ?_) (fun c7 => ?_)
    · have hf := q_iteT hf c7
      refine q_iload_n (pc := 130) C dX9_leastStates_130 rfl 2 rfl ?_
      refine q_wid (show kc ≤ K by omega) (show ks ≤ (5 * K) by omega) ?_
      obtain rfl := q_some hf
      exact q_iret (pc := 131) C dX9_leastStates_131 ⟨rfl, hW⟩
    · have hf := q_iteF hf c7
      refine q_iload_n (pc := 50) C dX9_leastStates_50 rfl 1 rfl ?_
      refine q_iload_n (pc := 51) C dX9_leastStates_51 rfl 3 rfl ?_
      refine q_ishr (pc := 52) C dX9_leastStates_52 ?_
      refine q_iconst (pc := 53) C (1 : Int32) dX9_leastStates_53 q_ci_1 ?_
      refine q_iand (pc := 54) C dX9_leastStates_54 ?_
      refine q_iconst (pc := 55) C (1 : Int32) dX9_leastStates_55 q_ci_1 ?_
      refine q_icmp_ne (pc := 56) (tgt := 63) C dX9_leastStates_56 (by decide) (fun c8 => ?_) (fun c8 => ?_)
      · have hf := q_iteF hf c8
        refine q_iconst (pc := 63) C (0 : Int32) dX9_leastStates_63 q_ci_0 ?_
        refine q_sub (lvq := [(0, .ref (ga 0)), (1, .int v1), (2, .int v2), (3, .int v3)]) [0, 1, 2, 3] rfl ?_
        exact w_X9_leastStates_64 C hk37 (kc) (ks) v1 v2 v3 (0 : Int32) S ws hf hW (by omega) (by omega)
      · have hf := q_iteT hf c8
        refine q_iconst (pc := 59) C (1 : Int32) dX9_leastStates_59 q_ci_1 ?_
        refine q_goto (pc := 60) (tgt := 64) C dX9_leastStates_60 (by decide) ?_
        refine q_sub (lvq := [(0, .ref (ga 0)), (1, .int v1), (2, .int v2), (3, .int v3)]) [0, 1, 2, 3] rfl ?_
        exact w_X9_leastStates_64 C hk37 (kc) (ks) v1 v2 v3 (1 : Int32) S ws hf hW (by omega) (by omega)
set_option maxRecDepth 100000 in
set_option maxHeartbeats 8000000 in
theorem w_X9_leastStates_18 {p : Program} {l : Launch} {e : Env} {s : State} {m : MethodId} {args : Array Value} {below : List Frame} {meth : Method} {c : Code} {D : va_G} {cc : Nat → ClassId} {N0 : Nat} {ga : Nat → Nat} {E : va_W} {ad : Nat → Nat → Nat} {K : Nat} {v : (Int32 × MS)} (C : q_C p s m args meth c cX9_leastStates 6 (some .int) wsX9_leastStates RX9 D cc N0)  (kc : Nat) (ks : Nat) (vt0 : Int32) (S : MS)  (ws : va_W) : f_X9_leastStates_18 K kc ks vt0 S = some v → mW cc ga ad S E ws → kc ≤ K → ks ≤ (5 * K) → q_WA p l e (q_rm (15) (375) K (5 * K)) s m args below meth c D N0 6 (MQ below (q_Q D N0 (fun rv w1 => rv = some (.int v.1) ∧ mW cc ga ad v.2 E w1)) args s K (5 * K) (q_A N0)) kc ks ws 18 [(0, .ref (ga 0))] [.int vt0, .ref (ga 0)] := by
  intro hf hW b1 b2
  obtain ⟨u2, e3, hf⟩ := q_bind hf
  obtain ⟨_, he⟩ := hW.obj
  refine q_callV (pc := 18) (As := [.int vt0]) (rest := []) C (c_X9_isWrong l D cc N0 ga ad  E S vt0 u2 e3 ws hW) gX9_leastStates_X9_isWrong rfl rfl z_X9_isWrong ⟨Nat.le_of_ble_eq_true rfl, Nat.le_of_ble_eq_true rfl⟩ he rfl rfl rfl (Nat.le_of_ble_eq_true rfl) dX9_leastStates_18 ⟨(show (kc) + 0 ≤ K by omega), (show (ks) + 0 ≤ (5 * K) by omega)⟩ ?_
  rintro _ ws ⟨rfl, hW⟩
  refine q_nm (wz := ws) (ka := kc) (kb := ks) (sz := [.int (q_b u2.1)]) rfl rfl rfl rfl ?_
  refine q_if_eq (pc := 21) (tgt := 26) C dX9_leastStates_21 (by decide) (fun c4 => ?_) (fun c4 => ?_)
  · have hf := q_iteT hf c4
    refine q_aload_n (pc := 26) C dX9_leastStates_26 rfl 0 rfl ?_
    refine q_iconst (pc := 27) C (0 : Int32) dX9_leastStates_27 q_ci_0 ?_
    refine q_iconst (pc := 28) C (0 : Int32) dX9_leastStates_28 q_ci_0 ?_
    obtain ⟨u5, e6, hf⟩ := q_bind hf
    obtain ⟨_, he⟩ := hW.obj
    refine q_callV (pc := 29) (As := [.int (0 : Int32), .int (0 : Int32)]) (rest := []) C (c_X9_reached l D cc N0 ga ad 10 E u2.2 (0 : Int32) (0 : Int32) u5 e6 ws hW) gX9_leastStates_X9_reached rfl rfl z_X9_reached ⟨Nat.le_of_ble_eq_true rfl, Nat.le_of_ble_eq_true rfl⟩ he rfl rfl rfl (Nat.le_of_ble_eq_true rfl) dX9_leastStates_29 ⟨(show (kc) + 0 ≤ K by omega), (show (ks) + 0 ≤ (5 * K) by omega)⟩ ?_
    rintro _ ws ⟨rfl, hW⟩
    refine q_nm (wz := ws) (ka := kc) (kb := ks) (sz := [.int u5]) rfl rfl rfl rfl ?_
    refine q_istore_n (pc := 32) (lvq := [(1, .int u5), (0, .ref (ga 0))]) C dX9_leastStates_32 rfl (by decide) rfl ?_
    refine q_iconst (pc := 33) C (0 : Int32) dX9_leastStates_33 q_ci_0 ?_
    refine q_istore_n (pc := 34) (lvq := [(2, .int (0 : Int32)), (1, .int u5), (0, .ref (ga 0))]) C dX9_leastStates_34 rfl (by decide) rfl ?_
    refine q_iconst (pc := 35) C (0 : Int32) dX9_leastStates_35 q_ci_0 ?_
    refine q_istore_n (pc := 36) (lvq := [(3, .int (0 : Int32)), (2, .int (0 : Int32)), (1, .int u5), (0, .ref (ga 0))]) C dX9_leastStates_36 rfl (by decide) rfl ?_
    refine q_sub (lvq := [(0, .ref (ga 0)), (1, .int u5), (2, .int (0 : Int32)), (3, .int (0 : Int32))]) [3, 2, 1, 0] rfl ?_
    exact w_X9_leastStates_37 C 1000 (kc) (ks) u5 (0 : Int32) (0 : Int32) u2.2 ws hf hW (by omega) (by omega)
  · have hf := q_iteF hf c4
    refine q_iconst (pc := 24) C (0 : Int32) dX9_leastStates_24 q_ci_0 ?_
    refine q_wid (show kc ≤ K by omega) (show ks ≤ (5 * K) by omega) ?_
    obtain rfl := q_some hf
    exact q_iret (pc := 25) C dX9_leastStates_25 ⟨rfl, hW⟩
set_option maxRecDepth 100000 in
set_option maxHeartbeats 8000000 in
theorem c_X9_leastStates (l : Launch) (D : va_G) (cc : Nat → ClassId) (N0 : Nat) (ga : Nat → Nat) (ad : Nat → Nat → Nat) (K : Nat) (E : va_W) (S : MS) (v : (Int32 × MS)) (hf : f_X9_leastStates K S = some v) (ws : va_W) (hW : mW cc ga ad S E ws) : q_Met l yX9_leastStates wsX9_leastStates 15 375 D cc N0 ws [.ref (ga 0)] (fun rv w1 => rv = some (.int v.1) ∧ mW cc ga ad v.2 E w1) K (5 * K) := by
  refine q_ofW (code := cX9_leastStates) (nL := 6) (ret := (some .int)) (by decide +kernel) rfl (Nat.le_of_ble_eq_true rfl) (fun p e s m below meth c C _ => ?_)
  refine q_lv (lv2 := [(0, .ref (ga 0))]) rfl ?_
  obtain ⟨kc, hkc⟩ : ∃ z, z = 0 := ⟨_, rfl⟩
  obtain ⟨ks, hks⟩ : ∃ z, z = 0 := ⟨_, rfl⟩
  refine q_nm (wz := ws) (ka := kc) (kb := ks) (sz := []) rfl hkc.symm hks.symm rfl ?_
  have hf : f_X9_leastStates_0 K kc ks S = some v := by rw [hkc, hks]; exact hf
  refine q_aload_n (pc := 0) C dX9_leastStates_0 rfl 0 rfl ?_
  refine q_aload_n (pc := 1) C dX9_leastStates_1 rfl 0 rfl ?_
  refine m_g_11 (pc := 2) C hW n_X9_leastStates_X9 (List.mem_of_getElem? (i := 1) rfl) dX9_leastStates_2 ?_
  refine m_isEmpty_2 (pc := 5) C hW gX9_leastStates_Jx4a65c_isEmpty_aae02_f135Jx4a65c ⟨Nat.le_of_ble_eq_true rfl, Nat.le_of_ble_eq_true rfl⟩ (Nat.le_of_ble_eq_true rfl) dX9_leastStates_5 ⟨(show (kc) ≤ K by omega), (show (ks) ≤ (5 * K) by omega)⟩ ?_
  refine q_if_eq (pc := 10) (tgt := 17) C dX9_leastStates_10 (by decide) (fun c1 => ?_) (fun c1 => ?_)
  · have hf := q_iteT hf c1
    refine q_iconst (pc := 17) C (0 : Int32) dX9_leastStates_17 q_ci_0 ?_
    refine q_sub (lvq := [(0, .ref (ga 0))]) [0] rfl ?_
    exact w_X9_leastStates_18 C (kc) (ks) (0 : Int32) S ws hf hW (by omega) (by omega)
  · have hf := q_iteF hf c1
    refine q_iconst (pc := 13) C (1 : Int32) dX9_leastStates_13 q_ci_1 ?_
    refine q_goto (pc := 14) (tgt := 18) C dX9_leastStates_14 (by decide) ?_
    refine q_sub (lvq := [(0, .ref (ga 0))]) [0] rfl ?_
    exact w_X9_leastStates_18 C (kc) (ks) (1 : Int32) S ws hf hW (by omega) (by omega)
theorem n_X9_init_Jx4a65c : ∀ w ∈ wsJx4a65c0, w ∈ wsX9_init := fun _ h => (List.mem_cons_of_mem _ (List.mem_append_left _ (List.mem_append_right _ h)))
theorem n_X9_init_X9 : ∀ w ∈ wsX90, w ∈ wsX9_init := fun _ h => (List.mem_cons_of_mem _ (List.mem_append_right _ h))
set_option maxRecDepth 100000 in
set_option maxHeartbeats 4000000 in
theorem c_X9_init (l : Launch) (D : va_G) (cc : Nat → ClassId) (N0 : Nat) (E : va_W) (h : Nat) : q_Met l yX9_init wsX9_init 5 100 D cc N0 ((h, .inr (12, [.int 0, .null, .int 0, .int 0, .int 0, .int 0, .int 0, .int 0, .int 0, .null, .int 0, .null, .null, .null, .int 0, .int 0, .null])) :: E) [.ref h] (fun rv w1 => rv = none ∧ ∃ q5 : Nat, ∃ q32 : Nat, ∃ q43 : Nat, ∃ q54 : Nat, ∃ q65 : Nat, ∃ q83 : Nat, ∃ (rg : Nat → Nat), w1 = ([(q83, .inl (cc 3, 5, .inr (.inr (.inr (.inr fun i => if i < 5 then some (rg i) else none))))), (rg 0, .inl (cc 1, 5, .inl fun _ => 0)), (rg 1, .inl (cc 1, 5, .inl fun _ => 0)), (rg 2, .inl (cc 1, 5, .inl fun _ => 0)), (rg 3, .inl (cc 1, 5, .inl fun _ => 0)), (rg 4, .inl (cc 1, 5, .inl fun _ => 0)), (q65, .inr (2, [.int 0, .ref (cc 8), .int 0])), (q54, .inr (2, [.int 0, .ref (cc 8), .int 0])), (q43, .inr (2, [.int 0, .ref (cc 8), .int 0])), (q32, .inr (2, [.int 0, .ref (cc 8), .int 0])), (q5, .inr (2, [.int 0, .ref (cc 8), .int 0])), (h, .inr (12, [.int 0, .ref q5, .int (4 : Int32), .int 0, .int 0, .int 0, .int (1 : Int32), .int (45 : Int32), .int 0, .ref q32, .int 0, .ref q43, .ref q54, .ref q65, .int 0, .int (3 : Int32), .ref q83]))] ++ E)) 11 45 := by
  refine q_ofW (code := cX9_init) (nL := 1) (ret := none) (by decide +kernel) rfl (Nat.le_of_ble_eq_true rfl) (fun p e s m below meth c C hin => ?_)
  refine q_nm (wz := ([(h, .inr (12, [.int 0, .null, .int 0, .int 0, .int 0, .int 0, .int 0, .int 0, .int 0, .null, .int 0, .null, .null, .null, .int 0, .int 0, .null]))] ++ E)) (ka := 0) (kb := 0) (sz := []) rfl rfl rfl rfl ?_
  refine q_lv (lv2 := [(0, .ref h)]) rfl ?_
  refine q_aload_n (pc := 0) C dX9_init_0 rfl 0 rfl ?_
  refine q_objInit (pc := 1) C (List.mem_of_getElem? (i := 1) rfl) (List.mem_of_getElem? (i := 2) rfl) (List.mem_of_getElem? (i := 3) rfl) dX9_init_1 (Nat.le_of_ble_eq_true rfl) (Nat.le_of_ble_eq_true rfl) ?_
  refine q_aload_n (pc := 4) C dX9_init_4 rfl 0 rfl ?_
  refine q_new (pc := 5) C n_X9_init_Jx4a65c tyJx4a65c tyJx4a65c_ok (List.mem_of_getElem? (i := 4) rfl) (List.mem_of_getElem? (i := 5) rfl) (List.mem_of_getElem? (i := 6) rfl) (ci := 2) rfl [.int 0, .null, .int 0] (by intro j hj; match j, hj with | 0, _ => rfl | 1, _ => rfl | 2, _ => rfl | n + 3, hj => exact absurd hj (by omega)) (Nat.le_of_ble_eq_true rfl) (Nat.le_of_ble_eq_true rfl) dX9_init_5 (fun q5 => ?_)
  refine q_nm (wz := ([(q5, .inr (2, [.int 0, .null, .int 0])), (h, .inr (12, [.int 0, .null, .int 0, .int 0, .int 0, .int 0, .int 0, .int 0, .int 0, .null, .int 0, .null, .null, .null, .int 0, .int 0, .null]))] ++ E)) (ka := 1) (kb := 3) (sz := [.ref q5, .ref h]) rfl rfl rfl rfl ?_
  refine q_dup (pc := 8) C dX9_init_8 rfl ?_
  refine q_callI (pc := 9) (As := []) (rest := [.ref q5, .ref h]) C (c_al_init l D cc N0 ([(h, .inr (12, [.int 0, .null, .int 0, .int 0, .int 0, .int 0, .int 0, .int 0, .int 0, .null, .int 0, .null, .null, .null, .int 0, .int 0, .null]))] ++ E) q5) gX9_init_Jx4a65c_init_da8c8 rfl (List.mem_of_getElem? (i := 19) rfl) (List.mem_of_getElem? (i := 6) rfl) (List.mem_of_getElem? (i := 20) rfl) rfl z_Jx4a65c_init_da8c8 ⟨(Nat.le_of_ble_eq_true rfl), (Nat.le_of_ble_eq_true rfl)⟩ rfl rfl (Nat.le_of_ble_eq_true rfl) dX9_init_9 ⟨(Nat.le_of_ble_eq_true rfl), (Nat.le_of_ble_eq_true rfl)⟩ ?_
  rintro _ _ ⟨rfl, rfl⟩
  refine q_nm (wz := ([(q5, .inr (2, [.int 0, .ref (cc 8), .int 0])), (h, .inr (12, [.int 0, .null, .int 0, .int 0, .int 0, .int 0, .int 0, .int 0, .int 0, .null, .int 0, .null, .null, .null, .int 0, .int 0, .null]))] ++ E)) (ka := 1) (kb := 3) (sz := [.ref q5, .ref h]) rfl rfl rfl rfl ?_
  refine q_putF (pc := 12) C (hin rfl) 1 rfl rfl n_X9_init_X9 tyX9 tyX9_ok nmX9 1 (by decide) (List.mem_of_getElem? (i := 7) rfl) rfl rfl rfl rfl (Nat.le_of_ble_eq_true rfl) dX9_init_12 (ws1 := ([(q5, .inr (2, [.int 0, .ref (cc 8), .int 0])), (h, .inr (12, [.int 0, .ref q5, .int 0, .int 0, .int 0, .int 0, .int 0, .int 0, .int 0, .null, .int 0, .null, .null, .null, .int 0, .int 0, .null]))] ++ E)) rfl ?_
  refine q_aload_n (pc := 15) C dX9_init_15 rfl 0 rfl ?_
  refine q_iconst (pc := 16) C (4 : Int32) dX9_init_16 q_ci_4 ?_
  refine q_put (pc := 17) C 1 rfl rfl n_X9_init_X9 tyX9 tyX9_ok nmX9 2 (by decide) (List.mem_of_getElem? (i := 8) rfl) rfl rfl rfl (Nat.le_of_ble_eq_true rfl) dX9_init_17 (ws1 := ([(q5, .inr (2, [.int 0, .ref (cc 8), .int 0])), (h, .inr (12, [.int 0, .ref q5, .int (4 : Int32), .int 0, .int 0, .int 0, .int 0, .int 0, .int 0, .null, .int 0, .null, .null, .null, .int 0, .int 0, .null]))] ++ E)) rfl ?_
  refine q_aload_n (pc := 20) C dX9_init_20 rfl 0 rfl ?_
  refine q_iconst (pc := 21) C (1 : Int32) dX9_init_21 q_ci_1 ?_
  refine q_put (pc := 22) C 1 rfl rfl n_X9_init_X9 tyX9 tyX9_ok nmX9 6 (by decide) (List.mem_of_getElem? (i := 9) rfl) rfl rfl rfl (Nat.le_of_ble_eq_true rfl) dX9_init_22 (ws1 := ([(q5, .inr (2, [.int 0, .ref (cc 8), .int 0])), (h, .inr (12, [.int 0, .ref q5, .int (4 : Int32), .int 0, .int 0, .int 0, .int (1 : Int32), .int 0, .int 0, .null, .int 0, .null, .null, .null, .int 0, .int 0, .null]))] ++ E)) rfl ?_
  refine q_aload_n (pc := 25) C dX9_init_25 rfl 0 rfl ?_
  refine q_bipush (pc := 26) C (45 : Int32) dX9_init_26 q_cb_45 ?_
  refine q_put (pc := 28) C 1 rfl rfl n_X9_init_X9 tyX9 tyX9_ok nmX9 7 (by decide) (List.mem_of_getElem? (i := 10) rfl) rfl (by decide +kernel) rfl (Nat.le_of_ble_eq_true rfl) dX9_init_28 (ws1 := ([(q5, .inr (2, [.int 0, .ref (cc 8), .int 0])), (h, .inr (12, [.int 0, .ref q5, .int (4 : Int32), .int 0, .int 0, .int 0, .int (1 : Int32), .int (45 : Int32), .int 0, .null, .int 0, .null, .null, .null, .int 0, .int 0, .null]))] ++ E)) rfl ?_
  refine q_aload_n (pc := 31) C dX9_init_31 rfl 0 rfl ?_
  refine q_new (pc := 32) C n_X9_init_Jx4a65c tyJx4a65c tyJx4a65c_ok (List.mem_of_getElem? (i := 4) rfl) (List.mem_of_getElem? (i := 5) rfl) (List.mem_of_getElem? (i := 6) rfl) (ci := 2) rfl [.int 0, .null, .int 0] (by intro j hj; match j, hj with | 0, _ => rfl | 1, _ => rfl | 2, _ => rfl | n + 3, hj => exact absurd hj (by omega)) (Nat.le_of_ble_eq_true rfl) (Nat.le_of_ble_eq_true rfl) dX9_init_32 (fun q32 => ?_)
  refine q_nm (wz := ([(q32, .inr (2, [.int 0, .null, .int 0])), (q5, .inr (2, [.int 0, .ref (cc 8), .int 0])), (h, .inr (12, [.int 0, .ref q5, .int (4 : Int32), .int 0, .int 0, .int 0, .int (1 : Int32), .int (45 : Int32), .int 0, .null, .int 0, .null, .null, .null, .int 0, .int 0, .null]))] ++ E)) (ka := 2) (kb := 6) (sz := [.ref q32, .ref h]) rfl rfl rfl rfl ?_
  refine q_dup (pc := 35) C dX9_init_35 rfl ?_
  refine q_callI (pc := 36) (As := []) (rest := [.ref q32, .ref h]) C (c_al_init l D cc N0 ([(q5, .inr (2, [.int 0, .ref (cc 8), .int 0])), (h, .inr (12, [.int 0, .ref q5, .int (4 : Int32), .int 0, .int 0, .int 0, .int (1 : Int32), .int (45 : Int32), .int 0, .null, .int 0, .null, .null, .null, .int 0, .int 0, .null]))] ++ E) q32) gX9_init_Jx4a65c_init_da8c8 rfl (List.mem_of_getElem? (i := 19) rfl) (List.mem_of_getElem? (i := 6) rfl) (List.mem_of_getElem? (i := 20) rfl) rfl z_Jx4a65c_init_da8c8 ⟨(Nat.le_of_ble_eq_true rfl), (Nat.le_of_ble_eq_true rfl)⟩ rfl rfl (Nat.le_of_ble_eq_true rfl) dX9_init_36 ⟨(Nat.le_of_ble_eq_true rfl), (Nat.le_of_ble_eq_true rfl)⟩ ?_
  rintro _ _ ⟨rfl, rfl⟩
  refine q_nm (wz := ([(q32, .inr (2, [.int 0, .ref (cc 8), .int 0])), (q5, .inr (2, [.int 0, .ref (cc 8), .int 0])), (h, .inr (12, [.int 0, .ref q5, .int (4 : Int32), .int 0, .int 0, .int 0, .int (1 : Int32), .int (45 : Int32), .int 0, .null, .int 0, .null, .null, .null, .int 0, .int 0, .null]))] ++ E)) (ka := 2) (kb := 6) (sz := [.ref q32, .ref h]) rfl rfl rfl rfl ?_
  refine q_putF (pc := 39) C (hin rfl) 2 rfl rfl n_X9_init_X9 tyX9 tyX9_ok nmX9 9 (by decide) (List.mem_of_getElem? (i := 11) rfl) rfl rfl rfl rfl (Nat.le_of_ble_eq_true rfl) dX9_init_39 (ws1 := ([(q32, .inr (2, [.int 0, .ref (cc 8), .int 0])), (q5, .inr (2, [.int 0, .ref (cc 8), .int 0])), (h, .inr (12, [.int 0, .ref q5, .int (4 : Int32), .int 0, .int 0, .int 0, .int (1 : Int32), .int (45 : Int32), .int 0, .ref q32, .int 0, .null, .null, .null, .int 0, .int 0, .null]))] ++ E)) rfl ?_
  refine q_aload_n (pc := 42) C dX9_init_42 rfl 0 rfl ?_
  refine q_new (pc := 43) C n_X9_init_Jx4a65c tyJx4a65c tyJx4a65c_ok (List.mem_of_getElem? (i := 4) rfl) (List.mem_of_getElem? (i := 5) rfl) (List.mem_of_getElem? (i := 6) rfl) (ci := 2) rfl [.int 0, .null, .int 0] (by intro j hj; match j, hj with | 0, _ => rfl | 1, _ => rfl | 2, _ => rfl | n + 3, hj => exact absurd hj (by omega)) (Nat.le_of_ble_eq_true rfl) (Nat.le_of_ble_eq_true rfl) dX9_init_43 (fun q43 => ?_)
  refine q_nm (wz := ([(q43, .inr (2, [.int 0, .null, .int 0])), (q32, .inr (2, [.int 0, .ref (cc 8), .int 0])), (q5, .inr (2, [.int 0, .ref (cc 8), .int 0])), (h, .inr (12, [.int 0, .ref q5, .int (4 : Int32), .int 0, .int 0, .int 0, .int (1 : Int32), .int (45 : Int32), .int 0, .ref q32, .int 0, .null, .null, .null, .int 0, .int 0, .null]))] ++ E)) (ka := 3) (kb := 9) (sz := [.ref q43, .ref h]) rfl rfl rfl rfl ?_
  refine q_dup (pc := 46) C dX9_init_46 rfl ?_
  refine q_callI (pc := 47) (As := []) (rest := [.ref q43, .ref h]) C (c_al_init l D cc N0 ([(q32, .inr (2, [.int 0, .ref (cc 8), .int 0])), (q5, .inr (2, [.int 0, .ref (cc 8), .int 0])), (h, .inr (12, [.int 0, .ref q5, .int (4 : Int32), .int 0, .int 0, .int 0, .int (1 : Int32), .int (45 : Int32), .int 0, .ref q32, .int 0, .null, .null, .null, .int 0, .int 0, .null]))] ++ E) q43) gX9_init_Jx4a65c_init_da8c8 rfl (List.mem_of_getElem? (i := 19) rfl) (List.mem_of_getElem? (i := 6) rfl) (List.mem_of_getElem? (i := 20) rfl) rfl z_Jx4a65c_init_da8c8 ⟨(Nat.le_of_ble_eq_true rfl), (Nat.le_of_ble_eq_true rfl)⟩ rfl rfl (Nat.le_of_ble_eq_true rfl) dX9_init_47 ⟨(Nat.le_of_ble_eq_true rfl), (Nat.le_of_ble_eq_true rfl)⟩ ?_
  rintro _ _ ⟨rfl, rfl⟩
  refine q_nm (wz := ([(q43, .inr (2, [.int 0, .ref (cc 8), .int 0])), (q32, .inr (2, [.int 0, .ref (cc 8), .int 0])), (q5, .inr (2, [.int 0, .ref (cc 8), .int 0])), (h, .inr (12, [.int 0, .ref q5, .int (4 : Int32), .int 0, .int 0, .int 0, .int (1 : Int32), .int (45 : Int32), .int 0, .ref q32, .int 0, .null, .null, .null, .int 0, .int 0, .null]))] ++ E)) (ka := 3) (kb := 9) (sz := [.ref q43, .ref h]) rfl rfl rfl rfl ?_
  refine q_putF (pc := 50) C (hin rfl) 3 rfl rfl n_X9_init_X9 tyX9 tyX9_ok nmX9 11 (by decide) (List.mem_of_getElem? (i := 12) rfl) rfl rfl rfl rfl (Nat.le_of_ble_eq_true rfl) dX9_init_50 (ws1 := ([(q43, .inr (2, [.int 0, .ref (cc 8), .int 0])), (q32, .inr (2, [.int 0, .ref (cc 8), .int 0])), (q5, .inr (2, [.int 0, .ref (cc 8), .int 0])), (h, .inr (12, [.int 0, .ref q5, .int (4 : Int32), .int 0, .int 0, .int 0, .int (1 : Int32), .int (45 : Int32), .int 0, .ref q32, .int 0, .ref q43, .null, .null, .int 0, .int 0, .null]))] ++ E)) rfl ?_
  refine q_aload_n (pc := 53) C dX9_init_53 rfl 0 rfl ?_
  refine q_new (pc := 54) C n_X9_init_Jx4a65c tyJx4a65c tyJx4a65c_ok (List.mem_of_getElem? (i := 4) rfl) (List.mem_of_getElem? (i := 5) rfl) (List.mem_of_getElem? (i := 6) rfl) (ci := 2) rfl [.int 0, .null, .int 0] (by intro j hj; match j, hj with | 0, _ => rfl | 1, _ => rfl | 2, _ => rfl | n + 3, hj => exact absurd hj (by omega)) (Nat.le_of_ble_eq_true rfl) (Nat.le_of_ble_eq_true rfl) dX9_init_54 (fun q54 => ?_)
  refine q_nm (wz := ([(q54, .inr (2, [.int 0, .null, .int 0])), (q43, .inr (2, [.int 0, .ref (cc 8), .int 0])), (q32, .inr (2, [.int 0, .ref (cc 8), .int 0])), (q5, .inr (2, [.int 0, .ref (cc 8), .int 0])), (h, .inr (12, [.int 0, .ref q5, .int (4 : Int32), .int 0, .int 0, .int 0, .int (1 : Int32), .int (45 : Int32), .int 0, .ref q32, .int 0, .ref q43, .null, .null, .int 0, .int 0, .null]))] ++ E)) (ka := 4) (kb := 12) (sz := [.ref q54, .ref h]) rfl rfl rfl rfl ?_
  refine q_dup (pc := 57) C dX9_init_57 rfl ?_
  refine q_callI (pc := 58) (As := []) (rest := [.ref q54, .ref h]) C (c_al_init l D cc N0 ([(q43, .inr (2, [.int 0, .ref (cc 8), .int 0])), (q32, .inr (2, [.int 0, .ref (cc 8), .int 0])), (q5, .inr (2, [.int 0, .ref (cc 8), .int 0])), (h, .inr (12, [.int 0, .ref q5, .int (4 : Int32), .int 0, .int 0, .int 0, .int (1 : Int32), .int (45 : Int32), .int 0, .ref q32, .int 0, .ref q43, .null, .null, .int 0, .int 0, .null]))] ++ E) q54) gX9_init_Jx4a65c_init_da8c8 rfl (List.mem_of_getElem? (i := 19) rfl) (List.mem_of_getElem? (i := 6) rfl) (List.mem_of_getElem? (i := 20) rfl) rfl z_Jx4a65c_init_da8c8 ⟨(Nat.le_of_ble_eq_true rfl), (Nat.le_of_ble_eq_true rfl)⟩ rfl rfl (Nat.le_of_ble_eq_true rfl) dX9_init_58 ⟨(Nat.le_of_ble_eq_true rfl), (Nat.le_of_ble_eq_true rfl)⟩ ?_
  rintro _ _ ⟨rfl, rfl⟩
  refine q_nm (wz := ([(q54, .inr (2, [.int 0, .ref (cc 8), .int 0])), (q43, .inr (2, [.int 0, .ref (cc 8), .int 0])), (q32, .inr (2, [.int 0, .ref (cc 8), .int 0])), (q5, .inr (2, [.int 0, .ref (cc 8), .int 0])), (h, .inr (12, [.int 0, .ref q5, .int (4 : Int32), .int 0, .int 0, .int 0, .int (1 : Int32), .int (45 : Int32), .int 0, .ref q32, .int 0, .ref q43, .null, .null, .int 0, .int 0, .null]))] ++ E)) (ka := 4) (kb := 12) (sz := [.ref q54, .ref h]) rfl rfl rfl rfl ?_
  refine q_putF (pc := 61) C (hin rfl) 4 rfl rfl n_X9_init_X9 tyX9 tyX9_ok nmX9 12 (by decide) (List.mem_of_getElem? (i := 13) rfl) rfl rfl rfl rfl (Nat.le_of_ble_eq_true rfl) dX9_init_61 (ws1 := ([(q54, .inr (2, [.int 0, .ref (cc 8), .int 0])), (q43, .inr (2, [.int 0, .ref (cc 8), .int 0])), (q32, .inr (2, [.int 0, .ref (cc 8), .int 0])), (q5, .inr (2, [.int 0, .ref (cc 8), .int 0])), (h, .inr (12, [.int 0, .ref q5, .int (4 : Int32), .int 0, .int 0, .int 0, .int (1 : Int32), .int (45 : Int32), .int 0, .ref q32, .int 0, .ref q43, .ref q54, .null, .int 0, .int 0, .null]))] ++ E)) rfl ?_
  refine q_aload_n (pc := 64) C dX9_init_64 rfl 0 rfl ?_
  refine q_new (pc := 65) C n_X9_init_Jx4a65c tyJx4a65c tyJx4a65c_ok (List.mem_of_getElem? (i := 4) rfl) (List.mem_of_getElem? (i := 5) rfl) (List.mem_of_getElem? (i := 6) rfl) (ci := 2) rfl [.int 0, .null, .int 0] (by intro j hj; match j, hj with | 0, _ => rfl | 1, _ => rfl | 2, _ => rfl | n + 3, hj => exact absurd hj (by omega)) (Nat.le_of_ble_eq_true rfl) (Nat.le_of_ble_eq_true rfl) dX9_init_65 (fun q65 => ?_)
  refine q_nm (wz := ([(q65, .inr (2, [.int 0, .null, .int 0])), (q54, .inr (2, [.int 0, .ref (cc 8), .int 0])), (q43, .inr (2, [.int 0, .ref (cc 8), .int 0])), (q32, .inr (2, [.int 0, .ref (cc 8), .int 0])), (q5, .inr (2, [.int 0, .ref (cc 8), .int 0])), (h, .inr (12, [.int 0, .ref q5, .int (4 : Int32), .int 0, .int 0, .int 0, .int (1 : Int32), .int (45 : Int32), .int 0, .ref q32, .int 0, .ref q43, .ref q54, .null, .int 0, .int 0, .null]))] ++ E)) (ka := 5) (kb := 15) (sz := [.ref q65, .ref h]) rfl rfl rfl rfl ?_
  refine q_dup (pc := 68) C dX9_init_68 rfl ?_
  refine q_callI (pc := 69) (As := []) (rest := [.ref q65, .ref h]) C (c_al_init l D cc N0 ([(q54, .inr (2, [.int 0, .ref (cc 8), .int 0])), (q43, .inr (2, [.int 0, .ref (cc 8), .int 0])), (q32, .inr (2, [.int 0, .ref (cc 8), .int 0])), (q5, .inr (2, [.int 0, .ref (cc 8), .int 0])), (h, .inr (12, [.int 0, .ref q5, .int (4 : Int32), .int 0, .int 0, .int 0, .int (1 : Int32), .int (45 : Int32), .int 0, .ref q32, .int 0, .ref q43, .ref q54, .null, .int 0, .int 0, .null]))] ++ E) q65) gX9_init_Jx4a65c_init_da8c8 rfl (List.mem_of_getElem? (i := 19) rfl) (List.mem_of_getElem? (i := 6) rfl) (List.mem_of_getElem? (i := 20) rfl) rfl z_Jx4a65c_init_da8c8 ⟨(Nat.le_of_ble_eq_true rfl), (Nat.le_of_ble_eq_true rfl)⟩ rfl rfl (Nat.le_of_ble_eq_true rfl) dX9_init_69 ⟨(Nat.le_of_ble_eq_true rfl), (Nat.le_of_ble_eq_true rfl)⟩ ?_
  rintro _ _ ⟨rfl, rfl⟩
  refine q_nm (wz := ([(q65, .inr (2, [.int 0, .ref (cc 8), .int 0])), (q54, .inr (2, [.int 0, .ref (cc 8), .int 0])), (q43, .inr (2, [.int 0, .ref (cc 8), .int 0])), (q32, .inr (2, [.int 0, .ref (cc 8), .int 0])), (q5, .inr (2, [.int 0, .ref (cc 8), .int 0])), (h, .inr (12, [.int 0, .ref q5, .int (4 : Int32), .int 0, .int 0, .int 0, .int (1 : Int32), .int (45 : Int32), .int 0, .ref q32, .int 0, .ref q43, .ref q54, .null, .int 0, .int 0, .null]))] ++ E)) (ka := 5) (kb := 15) (sz := [.ref q65, .ref h]) rfl rfl rfl rfl ?_
  refine q_putF (pc := 72) C (hin rfl) 5 rfl rfl n_X9_init_X9 tyX9 tyX9_ok nmX9 13 (by decide) (List.mem_of_getElem? (i := 14) rfl) rfl rfl rfl rfl (Nat.le_of_ble_eq_true rfl) dX9_init_72 (ws1 := ([(q65, .inr (2, [.int 0, .ref (cc 8), .int 0])), (q54, .inr (2, [.int 0, .ref (cc 8), .int 0])), (q43, .inr (2, [.int 0, .ref (cc 8), .int 0])), (q32, .inr (2, [.int 0, .ref (cc 8), .int 0])), (q5, .inr (2, [.int 0, .ref (cc 8), .int 0])), (h, .inr (12, [.int 0, .ref q5, .int (4 : Int32), .int 0, .int 0, .int 0, .int (1 : Int32), .int (45 : Int32), .int 0, .ref q32, .int 0, .ref q43, .ref q54, .ref q65, .int 0, .int 0, .null]))] ++ E)) rfl ?_
  refine q_aload_n (pc := 75) C dX9_init_75 rfl 0 rfl ?_
  refine q_iconst (pc := 76) C (3 : Int32) dX9_init_76 q_ci_3 ?_
  refine q_put (pc := 77) C 5 rfl rfl n_X9_init_X9 tyX9 tyX9_ok nmX9 15 (by decide) (List.mem_of_getElem? (i := 15) rfl) rfl rfl rfl (Nat.le_of_ble_eq_true rfl) dX9_init_77 (ws1 := ([(q65, .inr (2, [.int 0, .ref (cc 8), .int 0])), (q54, .inr (2, [.int 0, .ref (cc 8), .int 0])), (q43, .inr (2, [.int 0, .ref (cc 8), .int 0])), (q32, .inr (2, [.int 0, .ref (cc 8), .int 0])), (q5, .inr (2, [.int 0, .ref (cc 8), .int 0])), (h, .inr (12, [.int 0, .ref q5, .int (4 : Int32), .int 0, .int 0, .int 0, .int (1 : Int32), .int (45 : Int32), .int 0, .ref q32, .int 0, .ref q43, .ref q54, .ref q65, .int 0, .int (3 : Int32), .null]))] ++ E)) rfl ?_
  refine q_aload_n (pc := 80) C dX9_init_80 rfl 0 rfl ?_
  refine q_iconst (pc := 81) C (5 : Int32) dX9_init_81 q_ci_5 ?_
  refine q_iconst (pc := 82) C (5 : Int32) dX9_init_82 q_ci_5 ?_
  refine q_multi (pc := 83) C (List.mem_of_getElem? (i := 16) rfl) (List.mem_of_getElem? (i := 17) rfl) (Nat.le_of_ble_eq_true rfl) (Nat.le_of_ble_eq_true rfl) dX9_init_83 (fun q83 rg => ?_)
  refine q_nm (wz := ([(q83, .inl (cc 3, 5, .inr (.inr (.inr (.inr fun i => if i < 5 then some (rg i) else none))))), (rg 0, .inl (cc 1, 5, .inl fun _ => 0)), (rg 1, .inl (cc 1, 5, .inl fun _ => 0)), (rg 2, .inl (cc 1, 5, .inl fun _ => 0)), (rg 3, .inl (cc 1, 5, .inl fun _ => 0)), (rg 4, .inl (cc 1, 5, .inl fun _ => 0)), (q65, .inr (2, [.int 0, .ref (cc 8), .int 0])), (q54, .inr (2, [.int 0, .ref (cc 8), .int 0])), (q43, .inr (2, [.int 0, .ref (cc 8), .int 0])), (q32, .inr (2, [.int 0, .ref (cc 8), .int 0])), (q5, .inr (2, [.int 0, .ref (cc 8), .int 0])), (h, .inr (12, [.int 0, .ref q5, .int (4 : Int32), .int 0, .int 0, .int 0, .int (1 : Int32), .int (45 : Int32), .int 0, .ref q32, .int 0, .ref q43, .ref q54, .ref q65, .int 0, .int (3 : Int32), .null]))] ++ E)) (ka := 11) (kb := 45) (sz := [.ref q83, .ref h]) rfl rfl rfl rfl ?_
  refine q_putF (pc := 87) C (hin rfl) 11 rfl rfl n_X9_init_X9 tyX9 tyX9_ok nmX9 16 (by decide) (List.mem_of_getElem? (i := 18) rfl) rfl rfl rfl rfl (Nat.le_of_ble_eq_true rfl) dX9_init_87 (ws1 := ([(q83, .inl (cc 3, 5, .inr (.inr (.inr (.inr fun i => if i < 5 then some (rg i) else none))))), (rg 0, .inl (cc 1, 5, .inl fun _ => 0)), (rg 1, .inl (cc 1, 5, .inl fun _ => 0)), (rg 2, .inl (cc 1, 5, .inl fun _ => 0)), (rg 3, .inl (cc 1, 5, .inl fun _ => 0)), (rg 4, .inl (cc 1, 5, .inl fun _ => 0)), (q65, .inr (2, [.int 0, .ref (cc 8), .int 0])), (q54, .inr (2, [.int 0, .ref (cc 8), .int 0])), (q43, .inr (2, [.int 0, .ref (cc 8), .int 0])), (q32, .inr (2, [.int 0, .ref (cc 8), .int 0])), (q5, .inr (2, [.int 0, .ref (cc 8), .int 0])), (h, .inr (12, [.int 0, .ref q5, .int (4 : Int32), .int 0, .int 0, .int 0, .int (1 : Int32), .int (45 : Int32), .int 0, .ref q32, .int 0, .ref q43, .ref q54, .ref q65, .int 0, .int (3 : Int32), .ref q83]))] ++ E)) rfl ?_
  exact q_vret (pc := 90) C dX9_init_90 ⟨rfl, q5, q32, q43, q54, q65, q83, rg, rfl⟩
theorem z_X9_init : q_dsc yX9_init 0 := ⟨by decide +kernel, by decide +kernel, by decide +kernel⟩
