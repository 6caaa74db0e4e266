/-- the cells of a run: those from N0 on -/
def q_A (N0 : Nat) : Nat → Prop := fun q => N0 ≤ q
/-- the kinds of arrays -/
abbrev q_T (cc : Nat → ClassId) : List (ClassId × FieldType) := [(cc 0, .int), (cc 1, .boolean), (cc 2, .object "java/lang/Object"), (cc 3, .array .boolean), (cc 4, .long), (cc 5, .double)]
def q_NM : List (String × Nat × MethodName × String) := [("Queryschool", 9, yX5_init, "Queryschool"), ("Queryschool$Teacher", 11, yX1_init, "Queryschool"), ("Queryschool", 23, yX6_init, "Queryschool"), ("Queryschool", 30, yX2_init, "Queryschool"), ("Queryschool", 37, yX3_init, "Queryschool"), ("Queryschool", 44, yX7_init, "Queryschool"), ("Queryschool", 51, yX0_init, "Queryschool"), ("Queryschool", 58, yX4_init, "Queryschool"), ("Queryschool$Teacher", 50, yX8_at, "Queryschool"), ("Queryschool$Concepts", 29, yX8_at, "Queryschool"), ("Queryschool$Trees", 48, yX8_put, "Queryschool"), ("Queryschool$Trees", 54, yX8_at, "Queryschool"), ("Queryschool$Queue", 22, yX8_put, "Queryschool"), ("Queryschool$Queue", 26, yX8_at, "Queryschool"), ("Queryschool$Crowd", 29, yX8_at, "Queryschool"), ("Queryschool$Concepts", 25, yX8_put, "Queryschool"), ("Queryschool$Teacher", 46, yX8_put, "Queryschool"), ("Queryschool$Concepts", 37, yX8_hasBit, "Queryschool"), ("Queryschool$Teacher", 104, yX8_hasBit, "Queryschool"), ("Queryschool$Teacher", 114, yX8_lowestBit, "Queryschool"), ("Queryschool$Crowd", 25, yX8_put, "Queryschool"), ("Queryschool$Crowd", 43, yX8_hasBit, "Queryschool"), ("Queryschool$Machine", 19, yX8_put, "Queryschool"), ("Queryschool$Machine", 26, yX8_at, "Queryschool"), ("Queryschool$Machine", 34, yX8_hasBit, "Queryschool"), ("Queryschool$Words", 28, yX8_at, "Queryschool"), ("Queryschool$Words", 32, yX8_put, "Queryschool"), ("Queryschool$Words", 45, yX8_hasBit, "Queryschool")]
def q_NF : List (String × Nat × String × String × String × String) := [("Queryschool$Trees", 58, "Queryschool$Concepts", "points", "I", "Queryschool"), ("Queryschool$Teacher", 133, "Queryschool$Concepts", "points", "I", "Queryschool"), ("Queryschool$Trees", 16, "Queryschool$Concepts", "count", "I", "Queryschool"), ("Queryschool", 70, "Queryschool$Concepts", "count", "I", "Queryschool"), ("Queryschool$Teacher", 58, "Queryschool$Concepts", "count", "I", "Queryschool"), ("Queryschool", 16, "Queryschool$Teacher", "known", "LQueryschool$Concepts;", "Queryschool"), ("Queryschool", 89, "Queryschool$Teacher", "given", "I", "Queryschool"), ("Queryschool", 158, "Queryschool$Teacher", "z", "I", "Queryschool"), ("Queryschool", 232, "Queryschool$Crowd", "count", "I", "Queryschool"), ("Queryschool", 247, "Queryschool$Crowd", "wrong", "I", "Queryschool"), ("Queryschool", 253, "Queryschool$Machine", "count", "I", "Queryschool"), ("Queryschool", 296, "Queryschool$Words", "count", "I", "Queryschool"), ("Queryschool", 377, "Queryschool$Codes", "hidden", "I", "Queryschool"), ("Queryschool", 316, "Queryschool$Codes", "hints", "I", "Queryschool"), ("Queryschool", 325, "Queryschool$Codes", "left", "J", "Queryschool"), ("Queryschool", 339, "Queryschool$Queue", "count", "I", "Queryschool"), ("java/util/ArrayList$Itr", 28, "java/util/ArrayList", "size", "I", "java/util/ArrayList")]
def q_NK (U : State) : Prop := (∀ t ∈ q_NM, va_Nw (.methodLinkNest t.1 t.2.1 t.2.2.1 t.2.2.2) U) ∧ (∀ t ∈ q_NF, va_Nw (.fieldLinkNest t.1 t.2.1 t.2.2.1 t.2.2.2.1 t.2.2.2.2.1 t.2.2.2.2.2) U)
def q_FL : List (String × MethodName × MethodName) := [(RJx4a65c, ⟨"java/util/List", "size", "()I"⟩, yJx4a65c_size_8abf5), (RJx4a65c, ⟨"java/util/List", "add", "(Ljava/lang/Object;)Z"⟩, yJx4a65c_add_9ea2d), (RJx35411, ⟨"java/util/Iterator", "next", "()Ljava/lang/Object;"⟩, yJx35411_next_0502b), (RJx35411, ⟨"java/util/Iterator", "hasNext", "()Z"⟩, yJx35411_hasNext_aae02), (RJx4a65c, ⟨"java/util/List", "isEmpty", "()Z"⟩, yJx4a65c_isEmpty_aae02), (RJx4a65c, ⟨"java/util/List", "get", "(I)Ljava/lang/Object;"⟩, yJx4a65c_get_915e3), (RJx4a65c, ⟨"java/util/List", "clear", "()V"⟩, yJx4a65c_clear_da8c8), (RJx4a65c, ⟨"java/util/List", "iterator", "()Ljava/util/Iterator;"⟩, yJx4a65c_iterator_32c93)]
theorem q_FL_ok : ∀ t ∈ q_FL, t.2.1.cls ≠ "java/lang/invoke/MethodHandle" ∧ t.2.1.cls ≠ "java/lang/invoke/VarHandle" := by decide +kernel
def q_FK (U : State) : Prop := ∀ t ∈ q_FL, va_Fw t.1 t.2.1 t.2.2 U
/-- rows of rows, kinds that go for an Object -/
def q_CL : List (String × String) := [("[I", "java/lang/Object"), ("[Z", "java/lang/Object"), ("java/lang/Integer", "java/lang/Object"), ("java/lang/Integer", "java/lang/Integer")]
def q_CK (cc : Nat → ClassId) (U : State) : Prop := (∀ t ∈ q_CL, va_Nw (.castable t.1 t.2) U) ∧ va_AO "java/lang/Object" U ∧ va_AOA .boolean U ∧ va_Mi "[Ljava/lang/Object;" (cc 9) U ∧ va_Dc U
theorem q_CK.moved {cc : Nat → ClassId} {s U : State} (hW : s.WarmedH U.vm) (h : q_CK cc s) : q_CK cc U := ⟨fun t ht => va_Nw.warmC hW (h.1 t ht), va_AO.moved hW.alike h.2.1, va_AOA.warm hW h.2.2.1, va_Mi.moved hW.alike h.2.2.2.1, va_Dc.moved hW.alike h.2.2.2.2⟩
theorem q_CK.same {cc : Nat → ClassId} {s U : State} (e : s.vm = U.vm) (h : q_CK cc s) : q_CK cc U := ⟨fun t ht => va_Nw.same rfl e (h.1 t ht), va_AO.moved (by rw [e]; exact Vm.Alike.refl _) h.2.1, va_AOA.same e h.2.2.1, va_Mi.moved (by rw [e]; exact Vm.Alike.refl _) h.2.2.2.1, va_Dc.moved (by rw [e]; exact Vm.Alike.refl _) h.2.2.2.2⟩
/-- what the tables say, of every start -/
def q_K (D : va_G) (cc : Nat → ClassId) (U : State) : Prop := va_K D vwCl (q_T cc) U ∧ q_NK U ∧ q_FK U ∧ q_CK cc U
theorem q_K.warm {D : va_G} {cc : Nat → ClassId} {s U : State} (hW : s.WarmedH U.vm) (h : q_K D cc s) : q_K D cc U := ⟨va_K.moved hW.alike h.1, ⟨fun t ht => va_Nw.warmM hW (h.2.1.1 t ht), fun t ht => va_Nw.warmF hW (h.2.1.2 t ht)⟩, fun t ht => va_Fw.moved (q_FL_ok t ht) hW.alike (h.2.2.1 t ht), h.2.2.2.moved hW⟩
theorem q_K.same {D : va_G} {cc : Nat → ClassId} {s U : State} (e : s.vm = U.vm) (h : q_K D cc s) : q_K D cc U := ⟨va_K.moved (by rw [e]; exact Vm.Alike.refl _) h.1, ⟨fun t ht => va_Nw.same rfl e (h.2.1.1 t ht), fun t ht => va_Nw.same rfl e (h.2.1.2 t ht)⟩, fun t ht => va_Fw.moved (q_FL_ok t ht) (by rw [e]; exact Vm.Alike.refl _) (h.2.2.1 t ht), h.2.2.2.same e⟩

def q_XC : List String := ["java/lang/IllegalArgumentException", "java/lang/UnsupportedOperationException", "java/lang/IllegalStateException", "java/lang/IndexOutOfBoundsException", "java/util/NoSuchElementException"]
def q_XD : List String := ["java/lang/RuntimeException", "java/lang/Exception", "java/lang/Throwable"]
def q_XB (E : String) : List Cond := [.castable E E, .declares ⟨"java/lang/RuntimeException", "<init>", "(Ljava/lang/String;)V"⟩, .declares ⟨"java/lang/Exception", "<init>", "(Ljava/lang/String;)V"⟩, .declares ⟨"java/lang/Throwable", "<init>", "(Ljava/lang/String;)V"⟩]
def q_XS : List (Nat × String) := [(65, "points are 1 to 6"), (87, "the set has other points"), (98, "the concept is there, or answers were given"), (103, "there are 24 concepts"), (113, "there is no such family"), (115, "answers were given"), (121, "there would be more than 24 concepts"), (132, "there is no such concept"), (141, "there is no such teacher"), (143, "the budget is 0 to 2"), (145, "there are no concepts"), (156, "z is 1 to 2147483646"), (164, "there is no such point"), (166, "no teacher was told"), (168, "40 answers were given"), (197, "fewer than two concepts are alive"), (206, "there is not just one concept alive"), (230, "experts are 1 to 6"), (234, "there are bits of others"), (236, "there are no experts"), (242, "there is no such expert"), (254, "there are 5 states"), (262, "there is no such state"), (264, "there is no such letter"), (274, "it is no word"), (276, "there is no state"), (286, "the states are not apart"), (294, "the word is there"), (297, "there are 12 words"), (309, "it needs more than 3 states"), (314, "it is no code"), (320, "20 hints were given"), (337, "things are 2 to 5"), (344, "there is no such thing, or both are the same"), (349, "no order would be left"), (358, "there is one order alone")]
def q_exn (k : Nat) : String := match k with
  | 1 => "java/lang/IllegalArgumentException"
  | 2 => "java/lang/UnsupportedOperationException"
  | 3 => "java/lang/IllegalStateException"
  | 4 => "java/lang/IndexOutOfBoundsException"
  | _ => "java/util/NoSuchElementException"
def q_KX (N0 : Nat) (U : State) : Prop := (∀ E ∈ q_XC, va_Nw (.castable E E) U) ∧ (∀ Y ∈ q_XD, va_Nw (.declares ⟨Y, "<init>", "(Ljava/lang/String;)V"⟩) U) ∧ (∀ t ∈ q_XS, ∃ a, vk_R RX8 t.1 t.2 a U) ∧ vx_Zq Bundle.tN "UNASSIGNED_STACK" Bundle.steD (q_A N0) U U.heap ∧ vx_Zq Bundle.tN "SUPPRESSED_SENTINEL" Bundle.listD (q_A N0) U U.heap
theorem q_KX.warm {N0 : Nat} {s U : State} (hW : s.WarmedH U.vm) (hk : ∀ a : Nat, a < s.heap.size → ¬ q_A N0 a → U.heap[a]? = s.heap[a]?) (h : q_KX N0 s) : q_KX N0 U :=
  ⟨fun E hE => va_Nw.warmC hW (h.1 E hE), fun Y hY => va_Nw.warmD hW (h.2.1 Y hY), fun t ht => (h.2.2.1 t ht).elim fun a ha => ⟨a, vk_R.warm hW ha⟩, vx_Zq.moved hW.alike (h.2.2.2.1.kept hk), vx_Zq.moved hW.alike (h.2.2.2.2.kept hk)⟩
theorem q_KX.same {N0 : Nat} {s U : State} (e : s.vm = U.vm) (eh : U.heap = s.heap) (h : q_KX N0 s) : q_KX N0 U :=
  ⟨fun E hE => va_Nw.same rfl e (h.1 E hE), fun Y hY => va_Nw.same rfl e (h.2.1 Y hY), fun t ht => (h.2.2.1 t ht).elim fun a ha => ⟨a, vk_R.same e.symm ha⟩, vx_Zq.moved (by rw [e]; exact Vm.Alike.refl _) (by rw [eh]; exact h.2.2.2.1), vx_Zq.moved (by rw [e]; exact Vm.Alike.refl _) (by rw [eh]; exact h.2.2.2.2)⟩
/-- the small Integers that the machine keeps: cc 10 their row, cc (1000 + k) the k-th of them -/
def q_HI (cc : Nat → ClassId) (N0 : Nat) (U : State) : Prop := va_Z RJxabbfe "high" "I" (.int 127) (q_A N0) U U.heap ∧ va_Z RJxabbfe "cache" "[Ljava/lang/Integer;" (.ref (cc 10)) (q_A N0) U U.heap ∧ va_T (.object "java/lang/Integer") (cc 10) 256 (fun k => .ref (cc (1000 + k))) (q_A N0) U U.heap ∧ vb_C (fun k => cc (1000 + k)) (q_A N0) U U.heap
theorem q_HI.warm {cc : Nat → ClassId} {N0 : Nat} {s U : State} (hW : s.WarmedH U.vm) (hk : ∀ a : Nat, a < s.heap.size → ¬ q_A N0 a → U.heap[a]? = s.heap[a]?) (h : q_HI cc N0 s) : q_HI cc N0 U := ⟨va_Z.moved hW.alike (h.1.kept hk), va_Z.moved hW.alike (h.2.1.kept hk), va_T.moved hW.alike (h.2.2.1.kept hk), vb_C.moved hW.alike (h.2.2.2.kept hk)⟩
theorem q_HI.same {cc : Nat → ClassId} {N0 : Nat} {s U : State} (e : s.vm = U.vm) (eh : U.heap = s.heap) (h : q_HI cc N0 s) : q_HI cc N0 U := ⟨va_Z.moved (by rw [e]; exact Vm.Alike.refl _) (by rw [eh]; exact h.1), va_Z.moved (by rw [e]; exact Vm.Alike.refl _) (by rw [eh]; exact h.2.1), va_T.moved (by rw [e]; exact Vm.Alike.refl _) (by rw [eh]; exact h.2.2.1), vb_C.moved (by rw [e]; exact Vm.Alike.refl _) (by rw [eh]; exact h.2.2.2)⟩
/-- what stands outside of the run's cells: the texts and rows that the machine itself holds -/
def q_H (cc : Nat → ClassId) (N0 : Nat) (U : State) : Prop := q_KX N0 U ∧ va_Z RJx4a65c "DEFAULTCAPACITY_EMPTY_ELEMENTDATA" "[Ljava/lang/Object;" (.ref (cc 8)) (q_A N0) U U.heap ∧ va_T (.object "java/lang/Object") (cc 8) 0 (fun _ => .null) (q_A N0) U U.heap ∧ q_HI cc N0 U
theorem q_H.warm {cc : Nat → ClassId} {N0 : Nat} {s U : State} (hW : s.WarmedH U.vm) (hk : ∀ a : Nat, a < s.heap.size → ¬ q_A N0 a → U.heap[a]? = s.heap[a]?) (h : q_H cc N0 s) : q_H cc N0 U := ⟨h.1.warm hW hk, va_Z.moved hW.alike (h.2.1.kept hk), va_T.moved hW.alike (h.2.2.1.kept hk), h.2.2.2.warm hW hk⟩
theorem q_H.same {cc : Nat → ClassId} {N0 : Nat} {s U : State} (e : s.vm = U.vm) (eh : U.heap = s.heap) (h : q_H cc N0 s) : q_H cc N0 U := ⟨h.1.same e eh, va_Z.moved (by rw [e]; exact Vm.Alike.refl _) (by rw [eh]; exact h.2.1), va_T.moved (by rw [e]; exact Vm.Alike.refl _) (by rw [eh]; exact h.2.2.1), h.2.2.2.same e eh⟩
/-- a method's start: its arguments, the world, the tables -/
def q_Pc (D : va_G) (cc : Nat → ClassId) (N0 : Nat) (ws : va_W) (av : List Value) : Array Value → State → Prop := va_Pc av (fun U => N0 ≤ U.heap.size ∧ va_P D vwCl ws U.heap ∧ va_D (q_A N0) ws ∧ q_K D cc U ∧ q_H cc N0 U)
/-- its end: an answer and a world as post says -/
def q_Q (D : va_G) (N0 : Nat) (post : Option Value → va_W → Prop) : Array Value → State → Outcome → State → Prop := fun _ st oc t => (∃ (rv : Option Value) (w1 : va_W), oc = .returned rv ∧ post rv w1 ∧ va_P D vwCl w1 t.heap ∧ va_D (q_A N0) w1) ∧ va_F (q_A N0) st t
abbrev q_rm (fr lo mc ms : Nat) : Room := { frames := fr, cells := mc, slots := ms, locals := lo }
def q_Met (l : Launch) (y : MethodName) (w : List Cond) (fr lo : Nat) (D : va_G) (cc : Nat → ClassId) (N0 : Nat) (ws : va_W) (av : List Value) (post : Option Value → va_W → Prop) (mc ms : Nat) : Prop :=
  Met l y w (q_rm fr lo mc ms) (q_Pc D cc N0 ws av) (q_Q D N0 post) mc ms (q_A N0)
theorem q_blind {D : va_G} {cc : Nat → ClassId} {N0 : Nat} {ws : va_W} {av : List Value} : FrameBlind (q_Pc D cc N0 ws av) := fun _ U g mk q => ⟨q.1, q.2.1, q.2.2.1, q.2.2.2.1, q_K.same (s := U) rfl q.2.2.2.2.1, q_H.same (s := U) rfl rfl q.2.2.2.2.2⟩
/-- what holds all along a method's run -/
def q_C (p : Program) (s : State) (m : MethodId) (args : Array Value) (meth : Method) (c : Code) (code : ByteArray) (nL : Nat) (ret : Option FieldType) (Ts : List Cond) (own : String) (D : va_G) (cc : Nat → ClassId) (N0 : Nat) : Prop :=
  p.tables.exec = Jvm.exec ∧ c.code = code ∧ meth.sig.returnType = ret ∧ c.maxLocals = nL ∧ s.vm.findClass own = some m.cls ∧ (∀ w ∈ Ts, w.before args s = true) ∧ meth.locks = false ∧ q_K D cc s ∧ N0 ≤ s.heap.size ∧ q_H cc N0 s
/-- the machine at pc, with lv in its variables and st on its stack, over the world ws, comes to an end with Q -/
def q_WA (p : Program) (l : Launch) (e : Env) (R : Room) (s : State) (m : MethodId) (args : Array Value) (below : List Frame) (meth : Method) (c : Code) (D : va_G) (N0 nL : Nat) (Q : State → Prop) (kc ks : Nat) (ws : va_W) (pc : Nat) (lv : List (Nat × Value)) (st : List Value) : Prop :=
  ∀ (H : Heap) (lo : List Loc) (ls : Array Slot), va_P D vwCl ws H → va_D (q_A N0) ws → va_S (q_A N0) s.heap H lo → lv_has ls nL lv → W p l e R s m args below meth c H lo kc ks Q (F0 m pc ls st)
theorem q_some {α : Type} {a b : α} (h : some a = some b) : a = b := Option.some.inj h
theorem q_bind {α β : Type} {x : Option α} {f : α → Option β} {r : β} (h : x.bind f = some r) : ∃ a, x = some a ∧ f a = some r := by
  cases x with
  | none => cases h
  | some a => exact ⟨a, rfl, h⟩
theorem q_gd {β : Type} {b : Prop} [Decidable b] {x : Option β} {r : β} (h : (if b then x else none) = some r) : b ∧ x = some r := by
  by_cases c : b
  · rw [if_pos c] at h; exact ⟨c, h⟩
  · rw [if_neg c] at h; cases h
section QR
variable {p : Program} {l : Launch} {e : Env} {R : Room} {s : State} {m : MethodId} {args : Array Value} {below : List Frame} {meth : Method} {c : Code} {D : va_G} {cc : Nat → ClassId} {N0 nL : Nat} {Q : State → Prop} {kc ks : Nat} {ws : va_W} {pc : Nat} {lv : List (Nat × Value)} {st : List Value} {code : ByteArray} {ret : Option FieldType} {Ts : List Cond} {own : String}
/-- a method out of its walk -/
theorem q_ofW {y : MethodName} {w w' : List Cond} {fr lo : Nat} {av : List Value} {post : Option Value → va_W → Prop} {mc ms : Nat} (hy : plainName y.cls = true) (hw : w = .code y code nL ret :: w') (hlen : (lg_sl av).length ≤ nL)
    (body : ∀ (p : Program) (e : Env) (s : State) (m : MethodId) (below : List Frame) (meth : Method) (c : Code), q_C p s m av.toArray meth c code nL ret w y.cls D cc N0 → (y.name = "<init>" → meth.name = "<init>") →
      q_WA p l e (q_rm fr lo mc ms) s m av.toArray below meth c D N0 nL (MQ below (q_Q D N0 post) av.toArray s mc ms (q_A N0)) 0 0 ws 0 (lv_args 0 av) []) : q_Met l y w fr lo D cc N0 ws av post mc ms := by
  refine Met.ofW (cc := code) (maxL := nL) (ret := ret) hy hw ?_
  intro p e s m args below meth c s₁ B hml hv
  obtain ⟨rfl, hN, hP, hD, hK, hH⟩ := hv
  rw [lg_entry_eq]
  exact body p e s m below meth c ⟨B.exec, B.bytes, B.returns, hml, findClass_of_methodNamed B.named, atoms_spec (ws := w) B.pre, B.notSynchronized, hK, hN, hH⟩ (fun h => (name_of_methodNamed B.named B.method).1.trans h) s.heap [] _ hP hD va_S.rf (lv_entry av hlen)
theorem q_wid {k n : Nat} (h1 : kc ≤ k) (h2 : ks ≤ n) (K : q_WA p l e R s m args below meth c D N0 nL Q k n ws pc lv st) : q_WA p l e R s m args below meth c D N0 nL Q kc ks ws pc lv st :=
  fun H lo ls hP hD hS hl => W.widen h1 h2 (K H lo ls hP hD hS hl)
/-- fewer of the variables -/
theorem q_sub {lvq : List (Nat × Value)} (ks2 : List Nat) (hl : lv_pick lv ks2 = lvq) (K : q_WA p l e R s m args below meth c D N0 nL Q kc ks ws pc lvq st) : q_WA p l e R s m args below meth c D N0 nL Q kc ks ws pc lv st :=
  fun H lo ls hP hD hS h => K H lo ls hP hD hS (lv_sub h ks2 hl)
/-- the world by another name -/
theorem q_ws {ws' : va_W} (h : ws = ws') (K : q_WA p l e R s m args below meth c D N0 nL Q kc ks ws' pc lv st) : q_WA p l e R s m args below meth c D N0 nL Q kc ks ws pc lv st := h ▸ K
/-- a world of the same cells, in another order or fewer -/
theorem q_part {ws' : va_W} (hP : ∀ H, va_P D vwCl ws H → va_P D vwCl ws' H) (hD : va_D (q_A N0) ws → va_D (q_A N0) ws') (K : q_WA p l e R s m args below meth c D N0 nL Q kc ks ws' pc lv st) : q_WA p l e R s m args below meth c D N0 nL Q kc ks ws pc lv st :=
  fun H lo ls h1 h2 hS hl => K H lo ls (hP H h1) (hD h2) hS hl

theorem q_iconst (C : q_C p s m args meth c code nL ret Ts own D cc N0) {n : Int} (v : Int32) (hd : decode code pc = .ok (.iconst n, 1)) (hv : Int32.ofInt n = v) (K : q_WA p l e R s m args below meth c D N0 nL Q kc ks ws (pc + 1) lv (.int v :: st)) : q_WA p l e R s m args below meth c D N0 nL Q kc ks ws pc lv st :=
  fun H lo ls hP hD hS hl => lv_iconst  C.1 C.2.1 hd hv (K H lo ls hP hD hS hl)
theorem q_bipush (C : q_C p s m args meth c code nL ret Ts own D cc N0) {n : Int} (v : Int32) (hd : decode code pc = .ok (.bipush n, 2)) (hv : (Int8.ofInt n).toInt32 = v) (K : q_WA p l e R s m args below meth c D N0 nL Q kc ks ws (pc + 2) lv (.int v :: st)) : q_WA p l e R s m args below meth c D N0 nL Q kc ks ws pc lv st :=
  fun H lo ls hP hD hS hl => lv_bipush  C.1 C.2.1 hd hv (K H lo ls hP hD hS hl)
theorem q_sipush (C : q_C p s m args meth c code nL ret Ts own D cc N0) {n : Int} (v : Int32) (hd : decode code pc = .ok (.sipush n, 3)) (hv : (Int16.ofInt n).toInt32 = v) (K : q_WA p l e R s m args below meth c D N0 nL Q kc ks ws (pc + 3) lv (.int v :: st)) : q_WA p l e R s m args below meth c D N0 nL Q kc ks ws pc lv st :=
  fun H lo ls hP hD hS hl => lv_sipush  C.1 C.2.1 hd hv (K H lo ls hP hD hS hl)
theorem q_lconst (C : q_C p s m args meth c code nL ret Ts own D cc N0) {n : Fin 2} (v : Int64) (hd : decode code pc = .ok (.lconst n, 1)) (hv : Int64.ofNat (n : Nat) = v) (K : q_WA p l e R s m args below meth c D N0 nL Q kc ks ws (pc + 1) lv (.long v :: st)) : q_WA p l e R s m args below meth c D N0 nL Q kc ks ws pc lv st :=
  fun H lo ls hP hD hS hl => lv_lconst  C.1 C.2.1 hd hv (K H lo ls hP hD hS hl)
theorem q_iload (C : q_C p s m args meth c code nL ret Ts own D cc N0) {i : Nat} {x : Int32} (hd : decode code pc = .ok (.iload i, 2)) (k : Nat) (hk : lv[k]? = some (i, .int x)) (K : q_WA p l e R s m args below meth c D N0 nL Q kc ks ws (pc + 2) lv (.int x :: st)) : q_WA p l e R s m args below meth c D N0 nL Q kc ks ws pc lv st :=
  fun H lo ls hP hD hS hl => lv_iload C.1 C.2.1 hd (lv_at hl k hk) (K H lo ls hP hD hS hl)
theorem q_iload_n (C : q_C p s m args meth c code nL ret Ts own D cc N0) {j : Fin 4} {i : Nat} {x : Int32} (hd : decode code pc = .ok (.iload_n j, 1)) (hi : (j : Nat) = i) (k : Nat) (hk : lv[k]? = some (i, .int x)) (K : q_WA p l e R s m args below meth c D N0 nL Q kc ks ws (pc + 1) lv (.int x :: st)) : q_WA p l e R s m args below meth c D N0 nL Q kc ks ws pc lv st :=
  fun H lo ls hP hD hS hl => lv_iload_n C.1 C.2.1 hd hi (lv_at hl k hk) (K H lo ls hP hD hS hl)
theorem q_lload (C : q_C p s m args meth c code nL ret Ts own D cc N0) {i : Nat} {x : Int64} (hd : decode code pc = .ok (.lload i, 2)) (k : Nat) (hk : lv[k]? = some (i, .long x)) (K : q_WA p l e R s m args below meth c D N0 nL Q kc ks ws (pc + 2) lv (.long x :: st)) : q_WA p l e R s m args below meth c D N0 nL Q kc ks ws pc lv st :=
  fun H lo ls hP hD hS hl => lv_lload C.1 C.2.1 hd (lv_at hl k hk) (K H lo ls hP hD hS hl)
theorem q_lload_n (C : q_C p s m args meth c code nL ret Ts own D cc N0) {j : Fin 4} {i : Nat} {x : Int64} (hd : decode code pc = .ok (.lload_n j, 1)) (hi : (j : Nat) = i) (k : Nat) (hk : lv[k]? = some (i, .long x)) (K : q_WA p l e R s m args below meth c D N0 nL Q kc ks ws (pc + 1) lv (.long x :: st)) : q_WA p l e R s m args below meth c D N0 nL Q kc ks ws pc lv st :=
  fun H lo ls hP hD hS hl => lv_lload_n C.1 C.2.1 hd hi (lv_at hl k hk) (K H lo ls hP hD hS hl)
theorem q_fload (C : q_C p s m args meth c code nL ret Ts own D cc N0) {i : Nat} {x : UInt32} (hd : decode code pc = .ok (.fload i, 2)) (k : Nat) (hk : lv[k]? = some (i, .float x)) (K : q_WA p l e R s m args below meth c D N0 nL Q kc ks ws (pc + 2) lv (.float x :: st)) : q_WA p l e R s m args below meth c D N0 nL Q kc ks ws pc lv st :=
  fun H lo ls hP hD hS hl => lv_fload C.1 C.2.1 hd (lv_at hl k hk) (K H lo ls hP hD hS hl)
theorem q_fload_n (C : q_C p s m args meth c code nL ret Ts own D cc N0) {j : Fin 4} {i : Nat} {x : UInt32} (hd : decode code pc = .ok (.fload_n j, 1)) (hi : (j : Nat) = i) (k : Nat) (hk : lv[k]? = some (i, .float x)) (K : q_WA p l e R s m args below meth c D N0 nL Q kc ks ws (pc + 1) lv (.float x :: st)) : q_WA p l e R s m args below meth c D N0 nL Q kc ks ws pc lv st :=
  fun H lo ls hP hD hS hl => lv_fload_n C.1 C.2.1 hd hi (lv_at hl k hk) (K H lo ls hP hD hS hl)
theorem q_dload (C : q_C p s m args meth c code nL ret Ts own D cc N0) {i : Nat} {x : UInt64} (hd : decode code pc = .ok (.dload i, 2)) (k : Nat) (hk : lv[k]? = some (i, .double x)) (K : q_WA p l e R s m args below meth c D N0 nL Q kc ks ws (pc + 2) lv (.double x :: st)) : q_WA p l e R s m args below meth c D N0 nL Q kc ks ws pc lv st :=
  fun H lo ls hP hD hS hl => lv_dload C.1 C.2.1 hd (lv_at hl k hk) (K H lo ls hP hD hS hl)
theorem q_dload_n (C : q_C p s m args meth c code nL ret Ts own D cc N0) {j : Fin 4} {i : Nat} {x : UInt64} (hd : decode code pc = .ok (.dload_n j, 1)) (hi : (j : Nat) = i) (k : Nat) (hk : lv[k]? = some (i, .double x)) (K : q_WA p l e R s m args below meth c D N0 nL Q kc ks ws (pc + 1) lv (.double x :: st)) : q_WA p l e R s m args below meth c D N0 nL Q kc ks ws pc lv st :=
  fun H lo ls hP hD hS hl => lv_dload_n C.1 C.2.1 hd hi (lv_at hl k hk) (K H lo ls hP hD hS hl)
theorem q_aload (C : q_C p s m args meth c code nL ret Ts own D cc N0) {i : Nat} {x : Nat} (hd : decode code pc = .ok (.aload i, 2)) (k : Nat) (hk : lv[k]? = some (i, .ref x)) (K : q_WA p l e R s m args below meth c D N0 nL Q kc ks ws (pc + 2) lv (.ref x :: st)) : q_WA p l e R s m args below meth c D N0 nL Q kc ks ws pc lv st :=
  fun H lo ls hP hD hS hl => lv_aload C.1 C.2.1 hd (lv_at hl k hk) (K H lo ls hP hD hS hl)
theorem q_aload_n (C : q_C p s m args meth c code nL ret Ts own D cc N0) {j : Fin 4} {i : Nat} {x : Nat} (hd : decode code pc = .ok (.aload_n j, 1)) (hi : (j : Nat) = i) (k : Nat) (hk : lv[k]? = some (i, .ref x)) (K : q_WA p l e R s m args below meth c D N0 nL Q kc ks ws (pc + 1) lv (.ref x :: st)) : q_WA p l e R s m args below meth c D N0 nL Q kc ks ws pc lv st :=
  fun H lo ls hP hD hS hl => lv_aload_n C.1 C.2.1 hd hi (lv_at hl k hk) (K H lo ls hP hD hS hl)
theorem q_istore (C : q_C p s m args meth c code nL ret Ts own D cc N0) {i : Nat} {x : Int32} {lvq : List (Nat × Value)} (hd : decode code pc = .ok (.istore i, 2)) (hn : i < nL) (hv : (i, Value.int x) :: lv.filter (fun q => !(q.1 == i) && !(q.1 + 1 == i && q.2.category == 2)) = lvq) (K : q_WA p l e R s m args below meth c D N0 nL Q kc ks ws (pc + 2) lvq st) : q_WA p l e R s m args below meth c D N0 nL Q kc ks ws pc lv (.int x :: st) :=
  fun H lo ls hP hD hS hl => lv_istore C.1 C.2.1 hd hl hn hv (fun lsq hlq => K H lo lsq hP hD hS hlq)
theorem q_istore_n (C : q_C p s m args meth c code nL ret Ts own D cc N0) {j : Fin 4} {i : Nat} {x : Int32} {lvq : List (Nat × Value)} (hd : decode code pc = .ok (.istore_n j, 1)) (hi : (j : Nat) = i) (hn : i < nL) (hv : (i, Value.int x) :: lv.filter (fun q => !(q.1 == i) && !(q.1 + 1 == i && q.2.category == 2)) = lvq) (K : q_WA p l e R s m args below meth c D N0 nL Q kc ks ws (pc + 1) lvq st) : q_WA p l e R s m args below meth c D N0 nL Q kc ks ws pc lv (.int x :: st) :=
  fun H lo ls hP hD hS hl => lv_istore_n C.1 C.2.1 hd hi hl hn hv (fun lsq hlq => K H lo lsq hP hD hS hlq)
theorem q_fstore (C : q_C p s m args meth c code nL ret Ts own D cc N0) {i : Nat} {x : UInt32} {lvq : List (Nat × Value)} (hd : decode code pc = .ok (.fstore i, 2)) (hn : i < nL) (hv : (i, Value.float x) :: lv.filter (fun q => !(q.1 == i) && !(q.1 + 1 == i && q.2.category == 2)) = lvq) (K : q_WA p l e R s m args below meth c D N0 nL Q kc ks ws (pc + 2) lvq st) : q_WA p l e R s m args below meth c D N0 nL Q kc ks ws pc lv (.float x :: st) :=
  fun H lo ls hP hD hS hl => lv_fstore C.1 C.2.1 hd hl hn hv (fun lsq hlq => K H lo lsq hP hD hS hlq)
theorem q_fstore_n (C : q_C p s m args meth c code nL ret Ts own D cc N0) {j : Fin 4} {i : Nat} {x : UInt32} {lvq : List (Nat × Value)} (hd : decode code pc = .ok (.fstore_n j, 1)) (hi : (j : Nat) = i) (hn : i < nL) (hv : (i, Value.float x) :: lv.filter (fun q => !(q.1 == i) && !(q.1 + 1 == i && q.2.category == 2)) = lvq) (K : q_WA p l e R s m args below meth c D N0 nL Q kc ks ws (pc + 1) lvq st) : q_WA p l e R s m args below meth c D N0 nL Q kc ks ws pc lv (.float x :: st) :=
  fun H lo ls hP hD hS hl => lv_fstore_n C.1 C.2.1 hd hi hl hn hv (fun lsq hlq => K H lo lsq hP hD hS hlq)
theorem q_astore (C : q_C p s m args meth c code nL ret Ts own D cc N0) {i : Nat} {x : Nat} {lvq : List (Nat × Value)} (hd : decode code pc = .ok (.astore i, 2)) (hn : i < nL) (hv : (i, Value.ref x) :: lv.filter (fun q => !(q.1 == i) && !(q.1 + 1 == i && q.2.category == 2)) = lvq) (K : q_WA p l e R s m args below meth c D N0 nL Q kc ks ws (pc + 2) lvq st) : q_WA p l e R s m args below meth c D N0 nL Q kc ks ws pc lv (.ref x :: st) :=
  fun H lo ls hP hD hS hl => lv_astore C.1 C.2.1 hd hl hn hv (fun lsq hlq => K H lo lsq hP hD hS hlq)
theorem q_astore_n (C : q_C p s m args meth c code nL ret Ts own D cc N0) {j : Fin 4} {i : Nat} {x : Nat} {lvq : List (Nat × Value)} (hd : decode code pc = .ok (.astore_n j, 1)) (hi : (j : Nat) = i) (hn : i < nL) (hv : (i, Value.ref x) :: lv.filter (fun q => !(q.1 == i) && !(q.1 + 1 == i && q.2.category == 2)) = lvq) (K : q_WA p l e R s m args below meth c D N0 nL Q kc ks ws (pc + 1) lvq st) : q_WA p l e R s m args below meth c D N0 nL Q kc ks ws pc lv (.ref x :: st) :=
  fun H lo ls hP hD hS hl => lv_astore_n C.1 C.2.1 hd hi hl hn hv (fun lsq hlq => K H lo lsq hP hD hS hlq)
theorem q_lstore (C : q_C p s m args meth c code nL ret Ts own D cc N0) {i : Nat} {x : Int64} {lvq : List (Nat × Value)} (hd : decode code pc = .ok (.lstore i, 2)) (hn : i + 1 < nL) (hv : (i, Value.long x) :: lv.filter (fun q => !(q.1 == i) && (!(q.1 == i + 1) && !(q.1 + 1 == i && q.2.category == 2))) = lvq) (K : q_WA p l e R s m args below meth c D N0 nL Q kc ks ws (pc + 2) lvq st) : q_WA p l e R s m args below meth c D N0 nL Q kc ks ws pc lv (.long x :: st) :=
  fun H lo ls hP hD hS hl => lv_lstore C.1 C.2.1 hd hl hn hv (fun lsq hlq => K H lo lsq hP hD hS hlq)
theorem q_lstore_n (C : q_C p s m args meth c code nL ret Ts own D cc N0) {j : Fin 4} {i : Nat} {x : Int64} {lvq : List (Nat × Value)} (hd : decode code pc = .ok (.lstore_n j, 1)) (hi : (j : Nat) = i) (hn : i + 1 < nL) (hv : (i, Value.long x) :: lv.filter (fun q => !(q.1 == i) && (!(q.1 == i + 1) && !(q.1 + 1 == i && q.2.category == 2))) = lvq) (K : q_WA p l e R s m args below meth c D N0 nL Q kc ks ws (pc + 1) lvq st) : q_WA p l e R s m args below meth c D N0 nL Q kc ks ws pc lv (.long x :: st) :=
  fun H lo ls hP hD hS hl => lv_lstore_n C.1 C.2.1 hd hi hl hn hv (fun lsq hlq => K H lo lsq hP hD hS hlq)
theorem q_dstore (C : q_C p s m args meth c code nL ret Ts own D cc N0) {i : Nat} {x : UInt64} {lvq : List (Nat × Value)} (hd : decode code pc = .ok (.dstore i, 2)) (hn : i + 1 < nL) (hv : (i, Value.double x) :: lv.filter (fun q => !(q.1 == i) && (!(q.1 == i + 1) && !(q.1 + 1 == i && q.2.category == 2))) = lvq) (K : q_WA p l e R s m args below meth c D N0 nL Q kc ks ws (pc + 2) lvq st) : q_WA p l e R s m args below meth c D N0 nL Q kc ks ws pc lv (.double x :: st) :=
  fun H lo ls hP hD hS hl => lv_dstore C.1 C.2.1 hd hl hn hv (fun lsq hlq => K H lo lsq hP hD hS hlq)
theorem q_dstore_n (C : q_C p s m args meth c code nL ret Ts own D cc N0) {j : Fin 4} {i : Nat} {x : UInt64} {lvq : List (Nat × Value)} (hd : decode code pc = .ok (.dstore_n j, 1)) (hi : (j : Nat) = i) (hn : i + 1 < nL) (hv : (i, Value.double x) :: lv.filter (fun q => !(q.1 == i) && (!(q.1 == i + 1) && !(q.1 + 1 == i && q.2.category == 2))) = lvq) (K : q_WA p l e R s m args below meth c D N0 nL Q kc ks ws (pc + 1) lvq st) : q_WA p l e R s m args below meth c D N0 nL Q kc ks ws pc lv (.double x :: st) :=
  fun H lo ls hP hD hS hl => lv_dstore_n C.1 C.2.1 hd hi hl hn hv (fun lsq hlq => K H lo lsq hP hD hS hlq)
theorem q_iinc (C : q_C p s m args meth c code nL ret Ts own D cc N0) {i : Nat} {n : Int} {x : Int32} (v : Int32) {lvq : List (Nat × Value)} (hd : decode code pc = .ok (.iinc i n, 3)) (k : Nat) (hk : lv[k]? = some (i, .int x)) (hv : x + Int32.ofInt n = v) (hn : i < nL) (hl2 : (i, Value.int v) :: lv.filter (fun q => !(q.1 == i) && !(q.1 + 1 == i && q.2.category == 2)) = lvq) (K : q_WA p l e R s m args below meth c D N0 nL Q kc ks ws (pc + 3) lvq st) : q_WA p l e R s m args below meth c D N0 nL Q kc ks ws pc lv st :=
  fun H lo ls hP hD hS hl => lv_iinc C.1 C.2.1 hd hl hk hv hn hl2 (fun lsq hlq => K H lo lsq hP hD hS hlq)
theorem q_iadd (C : q_C p s m args meth c code nL ret Ts own D cc N0) {x y : Int32} (hd : decode code pc = .ok (.iadd, 1))  (K : q_WA p l e R s m args below meth c D N0 nL Q kc ks ws (pc + 1) lv (.int (x + y) :: st)) : q_WA p l e R s m args below meth c D N0 nL Q kc ks ws pc lv (.int y :: .int x :: st) :=
  fun H lo ls hP hD hS hl => lv_iadd  C.1 C.2.1 hd  (K H lo ls hP hD hS hl)
theorem q_isub (C : q_C p s m args meth c code nL ret Ts own D cc N0) {x y : Int32} (hd : decode code pc = .ok (.isub, 1))  (K : q_WA p l e R s m args below meth c D N0 nL Q kc ks ws (pc + 1) lv (.int (x - y) :: st)) : q_WA p l e R s m args below meth c D N0 nL Q kc ks ws pc lv (.int y :: .int x :: st) :=
  fun H lo ls hP hD hS hl => lv_isub  C.1 C.2.1 hd  (K H lo ls hP hD hS hl)
theorem q_imul (C : q_C p s m args meth c code nL ret Ts own D cc N0) {x y : Int32} (hd : decode code pc = .ok (.imul, 1))  (K : q_WA p l e R s m args below meth c D N0 nL Q kc ks ws (pc + 1) lv (.int (x * y) :: st)) : q_WA p l e R s m args below meth c D N0 nL Q kc ks ws pc lv (.int y :: .int x :: st) :=
  fun H lo ls hP hD hS hl => lv_imul  C.1 C.2.1 hd  (K H lo ls hP hD hS hl)
theorem q_iand (C : q_C p s m args meth c code nL ret Ts own D cc N0) {x y : Int32} (hd : decode code pc = .ok (.iand, 1))  (K : q_WA p l e R s m args below meth c D N0 nL Q kc ks ws (pc + 1) lv (.int (x &&& y) :: st)) : q_WA p l e R s m args below meth c D N0 nL Q kc ks ws pc lv (.int y :: .int x :: st) :=
  fun H lo ls hP hD hS hl => lv_iand  C.1 C.2.1 hd  (K H lo ls hP hD hS hl)
theorem q_ior (C : q_C p s m args meth c code nL ret Ts own D cc N0) {x y : Int32} (hd : decode code pc = .ok (.ior, 1))  (K : q_WA p l e R s m args below meth c D N0 nL Q kc ks ws (pc + 1) lv (.int (x ||| y) :: st)) : q_WA p l e R s m args below meth c D N0 nL Q kc ks ws pc lv (.int y :: .int x :: st) :=
  fun H lo ls hP hD hS hl => lv_ior  C.1 C.2.1 hd  (K H lo ls hP hD hS hl)
theorem q_ixor (C : q_C p s m args meth c code nL ret Ts own D cc N0) {x y : Int32} (hd : decode code pc = .ok (.ixor, 1))  (K : q_WA p l e R s m args below meth c D N0 nL Q kc ks ws (pc + 1) lv (.int (x ^^^ y) :: st)) : q_WA p l e R s m args below meth c D N0 nL Q kc ks ws pc lv (.int y :: .int x :: st) :=
  fun H lo ls hP hD hS hl => lv_ixor  C.1 C.2.1 hd  (K H lo ls hP hD hS hl)
theorem q_idiv (C : q_C p s m args meth c code nL ret Ts own D cc N0) {x y : Int32} (hd : decode code pc = .ok (.idiv, 1)) (hne : ¬ y = 0) (K : q_WA p l e R s m args below meth c D N0 nL Q kc ks ws (pc + 1) lv (.int (x / y) :: st)) : q_WA p l e R s m args below meth c D N0 nL Q kc ks ws pc lv (.int y :: .int x :: st) :=
  fun H lo ls hP hD hS hl => lv_idiv  C.1 C.2.1 hd hne (K H lo ls hP hD hS hl)
theorem q_irem (C : q_C p s m args meth c code nL ret Ts own D cc N0) {x y : Int32} (hd : decode code pc = .ok (.irem, 1)) (hne : ¬ y = 0) (K : q_WA p l e R s m args below meth c D N0 nL Q kc ks ws (pc + 1) lv (.int (x - x / y * y) :: st)) : q_WA p l e R s m args below meth c D N0 nL Q kc ks ws pc lv (.int y :: .int x :: st) :=
  fun H lo ls hP hD hS hl => lv_irem  C.1 C.2.1 hd hne (K H lo ls hP hD hS hl)
theorem q_ineg (C : q_C p s m args meth c code nL ret Ts own D cc N0) {x : Int32} (hd : decode code pc = .ok (.ineg, 1))  (K : q_WA p l e R s m args below meth c D N0 nL Q kc ks ws (pc + 1) lv (.int (-x) :: st)) : q_WA p l e R s m args below meth c D N0 nL Q kc ks ws pc lv (.int x :: st) :=
  fun H lo ls hP hD hS hl => lv_ineg  C.1 C.2.1 hd  (K H lo ls hP hD hS hl)
theorem q_ishl (C : q_C p s m args meth c code nL ret Ts own D cc N0) {x y : Int32} (hd : decode code pc = .ok (.ishl, 1))  (K : q_WA p l e R s m args below meth c D N0 nL Q kc ks ws (pc + 1) lv (.int (x <<< (y &&& 31)) :: st)) : q_WA p l e R s m args below meth c D N0 nL Q kc ks ws pc lv (.int y :: .int x :: st) :=
  fun H lo ls hP hD hS hl => lv_ishl  C.1 C.2.1 hd  (K H lo ls hP hD hS hl)
theorem q_ishr (C : q_C p s m args meth c code nL ret Ts own D cc N0) {x y : Int32} (hd : decode code pc = .ok (.ishr, 1))  (K : q_WA p l e R s m args below meth c D N0 nL Q kc ks ws (pc + 1) lv (.int (x >>> (y &&& 31)) :: st)) : q_WA p l e R s m args below meth c D N0 nL Q kc ks ws pc lv (.int y :: .int x :: st) :=
  fun H lo ls hP hD hS hl => lv_ishr  C.1 C.2.1 hd  (K H lo ls hP hD hS hl)
theorem q_iushr (C : q_C p s m args meth c code nL ret Ts own D cc N0) {x y v : Int32} (hd : decode code pc = .ok (.iushr, 1)) (hv : (x.toUInt32 >>> (y.toUInt32 &&& Int32.toUInt32 31)).toInt32 = v) (K : q_WA p l e R s m args below meth c D N0 nL Q kc ks ws (pc + 1) lv (.int v :: st)) : q_WA p l e R s m args below meth c D N0 nL Q kc ks ws pc lv (.int y :: .int x :: st) :=
  fun H lo ls hP hD hS hl => lv_iushr  C.1 C.2.1 hd hv (K H lo ls hP hD hS hl)
theorem q_ladd (C : q_C p s m args meth c code nL ret Ts own D cc N0) {x y : Int64} (hd : decode code pc = .ok (.ladd, 1))  (K : q_WA p l e R s m args below meth c D N0 nL Q kc ks ws (pc + 1) lv (.long (x + y) :: st)) : q_WA p l e R s m args below meth c D N0 nL Q kc ks ws pc lv (.long y :: .long x :: st) :=
  fun H lo ls hP hD hS hl => lv_ladd  C.1 C.2.1 hd  (K H lo ls hP hD hS hl)
theorem q_lsub (C : q_C p s m args meth c code nL ret Ts own D cc N0) {x y : Int64} (hd : decode code pc = .ok (.lsub, 1))  (K : q_WA p l e R s m args below meth c D N0 nL Q kc ks ws (pc + 1) lv (.long (x - y) :: st)) : q_WA p l e R s m args below meth c D N0 nL Q kc ks ws pc lv (.long y :: .long x :: st) :=
  fun H lo ls hP hD hS hl => lv_lsub  C.1 C.2.1 hd  (K H lo ls hP hD hS hl)
theorem q_lmul (C : q_C p s m args meth c code nL ret Ts own D cc N0) {x y : Int64} (hd : decode code pc = .ok (.lmul, 1))  (K : q_WA p l e R s m args below meth c D N0 nL Q kc ks ws (pc + 1) lv (.long (x * y) :: st)) : q_WA p l e R s m args below meth c D N0 nL Q kc ks ws pc lv (.long y :: .long x :: st) :=
  fun H lo ls hP hD hS hl => lv_lmul  C.1 C.2.1 hd  (K H lo ls hP hD hS hl)
theorem q_land (C : q_C p s m args meth c code nL ret Ts own D cc N0) {x y : Int64} (hd : decode code pc = .ok (.land, 1))  (K : q_WA p l e R s m args below meth c D N0 nL Q kc ks ws (pc + 1) lv (.long (x &&& y) :: st)) : q_WA p l e R s m args below meth c D N0 nL Q kc ks ws pc lv (.long y :: .long x :: st) :=
  fun H lo ls hP hD hS hl => lv_land  C.1 C.2.1 hd  (K H lo ls hP hD hS hl)
theorem q_lor (C : q_C p s m args meth c code nL ret Ts own D cc N0) {x y : Int64} (hd : decode code pc = .ok (.lor, 1))  (K : q_WA p l e R s m args below meth c D N0 nL Q kc ks ws (pc + 1) lv (.long (x ||| y) :: st)) : q_WA p l e R s m args below meth c D N0 nL Q kc ks ws pc lv (.long y :: .long x :: st) :=
  fun H lo ls hP hD hS hl => lv_lor  C.1 C.2.1 hd  (K H lo ls hP hD hS hl)
theorem q_lxor (C : q_C p s m args meth c code nL ret Ts own D cc N0) {x y : Int64} (hd : decode code pc = .ok (.lxor, 1))  (K : q_WA p l e R s m args below meth c D N0 nL Q kc ks ws (pc + 1) lv (.long (x ^^^ y) :: st)) : q_WA p l e R s m args below meth c D N0 nL Q kc ks ws pc lv (.long y :: .long x :: st) :=
  fun H lo ls hP hD hS hl => lv_lxor  C.1 C.2.1 hd  (K H lo ls hP hD hS hl)
theorem q_ldiv (C : q_C p s m args meth c code nL ret Ts own D cc N0) {x y : Int64} (hd : decode code pc = .ok (.ldiv, 1)) (hne : ¬ y = 0) (K : q_WA p l e R s m args below meth c D N0 nL Q kc ks ws (pc + 1) lv (.long (x / y) :: st)) : q_WA p l e R s m args below meth c D N0 nL Q kc ks ws pc lv (.long y :: .long x :: st) :=
  fun H lo ls hP hD hS hl => lv_ldiv  C.1 C.2.1 hd hne (K H lo ls hP hD hS hl)
theorem q_lrem (C : q_C p s m args meth c code nL ret Ts own D cc N0) {x y : Int64} (hd : decode code pc = .ok (.lrem, 1)) (hne : ¬ y = 0) (K : q_WA p l e R s m args below meth c D N0 nL Q kc ks ws (pc + 1) lv (.long (x - x / y * y) :: st)) : q_WA p l e R s m args below meth c D N0 nL Q kc ks ws pc lv (.long y :: .long x :: st) :=
  fun H lo ls hP hD hS hl => lv_lrem  C.1 C.2.1 hd hne (K H lo ls hP hD hS hl)
theorem q_lneg (C : q_C p s m args meth c code nL ret Ts own D cc N0) {x : Int64} (hd : decode code pc = .ok (.lneg, 1))  (K : q_WA p l e R s m args below meth c D N0 nL Q kc ks ws (pc + 1) lv (.long (-x) :: st)) : q_WA p l e R s m args below meth c D N0 nL Q kc ks ws pc lv (.long x :: st) :=
  fun H lo ls hP hD hS hl => lv_lneg  C.1 C.2.1 hd  (K H lo ls hP hD hS hl)
theorem q_lshl (C : q_C p s m args meth c code nL ret Ts own D cc N0) {x v : Int64} {y : Int32} (hd : decode code pc = .ok (.lshl, 1)) (hv : x <<< (y.toInt64 &&& 63) = v) (K : q_WA p l e R s m args below meth c D N0 nL Q kc ks ws (pc + 1) lv (.long v :: st)) : q_WA p l e R s m args below meth c D N0 nL Q kc ks ws pc lv (.int y :: .long x :: st) :=
  fun H lo ls hP hD hS hl => lv_lshl  C.1 C.2.1 hd hv (K H lo ls hP hD hS hl)
theorem q_lshr (C : q_C p s m args meth c code nL ret Ts own D cc N0) {x v : Int64} {y : Int32} (hd : decode code pc = .ok (.lshr, 1)) (hv : x >>> (y.toInt64 &&& 63) = v) (K : q_WA p l e R s m args below meth c D N0 nL Q kc ks ws (pc + 1) lv (.long v :: st)) : q_WA p l e R s m args below meth c D N0 nL Q kc ks ws pc lv (.int y :: .long x :: st) :=
  fun H lo ls hP hD hS hl => lv_lshr  C.1 C.2.1 hd hv (K H lo ls hP hD hS hl)
theorem q_lushr (C : q_C p s m args meth c code nL ret Ts own D cc N0) {x v : Int64} {y : Int32} (hd : decode code pc = .ok (.lushr, 1)) (hv : (x.toUInt64 >>> (y.toInt64.toUInt64 &&& Int64.toUInt64 63)).toInt64 = v) (K : q_WA p l e R s m args below meth c D N0 nL Q kc ks ws (pc + 1) lv (.long v :: st)) : q_WA p l e R s m args below meth c D N0 nL Q kc ks ws pc lv (.int y :: .long x :: st) :=
  fun H lo ls hP hD hS hl => lv_lushr  C.1 C.2.1 hd hv (K H lo ls hP hD hS hl)
theorem q_i2l (C : q_C p s m args meth c code nL ret Ts own D cc N0) {x : Int32} {v : Int64} (hd : decode code pc = .ok (.i2l, 1)) (hv : x.toInt64 = v) (K : q_WA p l e R s m args below meth c D N0 nL Q kc ks ws (pc + 1) lv (.long v :: st)) : q_WA p l e R s m args below meth c D N0 nL Q kc ks ws pc lv (.int x :: st) :=
  fun H lo ls hP hD hS hl => lv_i2l  C.1 C.2.1 hd hv (K H lo ls hP hD hS hl)
theorem q_l2i (C : q_C p s m args meth c code nL ret Ts own D cc N0) {x : Int64} {v : Int32} (hd : decode code pc = .ok (.l2i, 1)) (hv : x.toInt32 = v) (K : q_WA p l e R s m args below meth c D N0 nL Q kc ks ws (pc + 1) lv (.int v :: st)) : q_WA p l e R s m args below meth c D N0 nL Q kc ks ws pc lv (.long x :: st) :=
  fun H lo ls hP hD hS hl => lv_l2i  C.1 C.2.1 hd hv (K H lo ls hP hD hS hl)
theorem q_i2b (C : q_C p s m args meth c code nL ret Ts own D cc N0) {x : Int32} {v : Int32} (hd : decode code pc = .ok (.i2b, 1)) (hv : x.toInt8.toInt32 = v) (K : q_WA p l e R s m args below meth c D N0 nL Q kc ks ws (pc + 1) lv (.int v :: st)) : q_WA p l e R s m args below meth c D N0 nL Q kc ks ws pc lv (.int x :: st) :=
  fun H lo ls hP hD hS hl => lv_i2b  C.1 C.2.1 hd hv (K H lo ls hP hD hS hl)
theorem q_i2c (C : q_C p s m args meth c code nL ret Ts own D cc N0) {x : Int32} {v : Int32} (hd : decode code pc = .ok (.i2c, 1)) (hv : (x.toUInt32 % 65536).toInt32 = v) (K : q_WA p l e R s m args below meth c D N0 nL Q kc ks ws (pc + 1) lv (.int v :: st)) : q_WA p l e R s m args below meth c D N0 nL Q kc ks ws pc lv (.int x :: st) :=
  fun H lo ls hP hD hS hl => lv_i2c  C.1 C.2.1 hd hv (K H lo ls hP hD hS hl)
theorem q_fcmp (C : q_C p s m args meth c code nL ret Ts own D cc N0) {x y : UInt32} {op : CmpOp} (hd : decode code pc = .ok (.fcmp op, 1))  (K : q_WA p l e R s m args below meth c D N0 nL Q kc ks ws (pc + 1) lv (.int (Op.cmpValue (FP.fcmp x y) op) :: st)) : q_WA p l e R s m args below meth c D N0 nL Q kc ks ws pc lv (.float y :: .float x :: st) :=
  fun H lo ls hP hD hS hl => lv_fcmp  C.1 C.2.1 hd  (K H lo ls hP hD hS hl)
theorem q_dcmp (C : q_C p s m args meth c code nL ret Ts own D cc N0) {x y : UInt64} {op : CmpOp} (hd : decode code pc = .ok (.dcmp op, 1))  (K : q_WA p l e R s m args below meth c D N0 nL Q kc ks ws (pc + 1) lv (.int (Op.cmpValue (FP.dcmp x y) op) :: st)) : q_WA p l e R s m args below meth c D N0 nL Q kc ks ws pc lv (.double y :: .double x :: st) :=
  fun H lo ls hP hD hS hl => lv_dcmp  C.1 C.2.1 hd  (K H lo ls hP hD hS hl)
theorem q_i2f (C : q_C p s m args meth c code nL ret Ts own D cc N0) {x : Int32} (hd : decode code pc = .ok (.i2f, 1))  (K : q_WA p l e R s m args below meth c D N0 nL Q kc ks ws (pc + 1) lv (.float (FP.i2f x) :: st)) : q_WA p l e R s m args below meth c D N0 nL Q kc ks ws pc lv (.int x :: st) :=
  fun H lo ls hP hD hS hl => lv_i2f  C.1 C.2.1 hd  (K H lo ls hP hD hS hl)
theorem q_i2d (C : q_C p s m args meth c code nL ret Ts own D cc N0) {x : Int32} (hd : decode code pc = .ok (.i2d, 1))  (K : q_WA p l e R s m args below meth c D N0 nL Q kc ks ws (pc + 1) lv (.double (FP.i2d x) :: st)) : q_WA p l e R s m args below meth c D N0 nL Q kc ks ws pc lv (.int x :: st) :=
  fun H lo ls hP hD hS hl => lv_i2d  C.1 C.2.1 hd  (K H lo ls hP hD hS hl)
theorem q_fdiv (C : q_C p s m args meth c code nL ret Ts own D cc N0) {x y : UInt32} (hd : decode code pc = .ok (.fdiv, 1)) (hne : vf_n32 (FP.fdiv x y)) (K : q_WA p l e R s m args below meth c D N0 nL Q kc ks ws (pc + 1) lv (.float (FP.fdiv x y) :: st)) : q_WA p l e R s m args below meth c D N0 nL Q kc ks ws pc lv (.float y :: .float x :: st) :=
  fun H lo ls hP hD hS hl => lv_fdiv  C.1 C.2.1 hd hne (K H lo ls hP hD hS hl)
theorem q_ddiv (C : q_C p s m args meth c code nL ret Ts own D cc N0) {x y : UInt64} (hd : decode code pc = .ok (.ddiv, 1)) (hne : vf_n64 (FP.ddiv x y)) (K : q_WA p l e R s m args below meth c D N0 nL Q kc ks ws (pc + 1) lv (.double (FP.ddiv x y) :: st)) : q_WA p l e R s m args below meth c D N0 nL Q kc ks ws pc lv (.double y :: .double x :: st) :=
  fun H lo ls hP hD hS hl => lv_ddiv  C.1 C.2.1 hd hne (K H lo ls hP hD hS hl)
theorem q_f2d (C : q_C p s m args meth c code nL ret Ts own D cc N0) {x : UInt32} (hd : decode code pc = .ok (.f2d, 1)) (hne : vf_n64 (FP.f2d x)) (K : q_WA p l e R s m args below meth c D N0 nL Q kc ks ws (pc + 1) lv (.double (FP.f2d x) :: st)) : q_WA p l e R s m args below meth c D N0 nL Q kc ks ws pc lv (.float x :: st) :=
  fun H lo ls hP hD hS hl => lv_f2d  C.1 C.2.1 hd hne (K H lo ls hP hD hS hl)
theorem q_dup (C : q_C p s m args meth c code nL ret Ts own D cc N0) {va : Value} (hd : decode code pc = .ok (.dup, 1)) (hva : va.category = 1) (K : q_WA p l e R s m args below meth c D N0 nL Q kc ks ws (pc + 1) lv (va :: va :: st)) : q_WA p l e R s m args below meth c D N0 nL Q kc ks ws pc lv (va :: st) :=
  fun H lo ls hP hD hS hl => lv_dup  C.1 C.2.1 hd hva (K H lo ls hP hD hS hl)
theorem q_pop (C : q_C p s m args meth c code nL ret Ts own D cc N0) {va : Value} (hd : decode code pc = .ok (.pop, 1)) (hva : va.category = 1) (K : q_WA p l e R s m args below meth c D N0 nL Q kc ks ws (pc + 1) lv (st)) : q_WA p l e R s m args below meth c D N0 nL Q kc ks ws pc lv (va :: st) :=
  fun H lo ls hP hD hS hl => lv_pop  C.1 C.2.1 hd hva (K H lo ls hP hD hS hl)
theorem q_dup_x1 (C : q_C p s m args meth c code nL ret Ts own D cc N0) {va vb : Value} (hd : decode code pc = .ok (.dup_x1, 1)) (hva : va.category = 1) (hvb : vb.category = 1) (K : q_WA p l e R s m args below meth c D N0 nL Q kc ks ws (pc + 1) lv (va :: vb :: va :: st)) : q_WA p l e R s m args below meth c D N0 nL Q kc ks ws pc lv (va :: vb :: st) :=
  fun H lo ls hP hD hS hl => lv_dup_x1  C.1 C.2.1 hd hva hvb (K H lo ls hP hD hS hl)
theorem q_dup2_11 (C : q_C p s m args meth c code nL ret Ts own D cc N0) {va vb : Value} (hd : decode code pc = .ok (.dup2, 1)) (hva : va.category = 1) (hvb : vb.category = 1) (K : q_WA p l e R s m args below meth c D N0 nL Q kc ks ws (pc + 1) lv (va :: vb :: va :: vb :: st)) : q_WA p l e R s m args below meth c D N0 nL Q kc ks ws pc lv (va :: vb :: st) :=
  fun H lo ls hP hD hS hl => lv_dup2_11  C.1 C.2.1 hd hva hvb (K H lo ls hP hD hS hl)
theorem q_dup2_2 (C : q_C p s m args meth c code nL ret Ts own D cc N0) {va : Value} (hd : decode code pc = .ok (.dup2, 1)) (hva : va.category = 2) (K : q_WA p l e R s m args below meth c D N0 nL Q kc ks ws (pc + 1) lv (va :: va :: st)) : q_WA p l e R s m args below meth c D N0 nL Q kc ks ws pc lv (va :: st) :=
  fun H lo ls hP hD hS hl => lv_dup2_2  C.1 C.2.1 hd hva (K H lo ls hP hD hS hl)
theorem q_fconst0 (C : q_C p s m args meth c code nL ret Ts own D cc N0)  (hd : decode code pc = .ok (.fconst 0, 1))  (K : q_WA p l e R s m args below meth c D N0 nL Q kc ks ws (pc + 1) lv (.float FP.fconst0 :: st)) : q_WA p l e R s m args below meth c D N0 nL Q kc ks ws pc lv (st) :=
  fun H lo ls hP hD hS hl => lv_fconst0  C.1 C.2.1 hd  (K H lo ls hP hD hS hl)
theorem q_dconst0 (C : q_C p s m args meth c code nL ret Ts own D cc N0)  (hd : decode code pc = .ok (.dconst 0, 1))  (K : q_WA p l e R s m args below meth c D N0 nL Q kc ks ws (pc + 1) lv (.double FP.dconst0 :: st)) : q_WA p l e R s m args below meth c D N0 nL Q kc ks ws pc lv (st) :=
  fun H lo ls hP hD hS hl => lv_dconst0  C.1 C.2.1 hd  (K H lo ls hP hD hS hl)
theorem q_pop2_2 (C : q_C p s m args meth c code nL ret Ts own D cc N0) {va : Value} (hd : decode code pc = .ok (.pop2, 1)) (hva : va.category = 2) (K : q_WA p l e R s m args below meth c D N0 nL Q kc ks ws (pc + 1) lv (st)) : q_WA p l e R s m args below meth c D N0 nL Q kc ks ws pc lv (va :: st) :=
  fun H lo ls hP hD hS hl => lv_pop2_2  C.1 C.2.1 hd hva (K H lo ls hP hD hS hl)
theorem q_pop2_11 (C : q_C p s m args meth c code nL ret Ts own D cc N0) {va vb : Value} (hd : decode code pc = .ok (.pop2, 1)) (hva : va.category = 1) (hvb : vb.category = 1) (K : q_WA p l e R s m args below meth c D N0 nL Q kc ks ws (pc + 1) lv (st)) : q_WA p l e R s m args below meth c D N0 nL Q kc ks ws pc lv (va :: vb :: st) :=
  fun H lo ls hP hD hS hl => lv_pop2_11  C.1 C.2.1 hd hva hvb (K H lo ls hP hD hS hl)
theorem q_dup_x2 (C : q_C p s m args meth c code nL ret Ts own D cc N0) {va vb vd : Value} (hd : decode code pc = .ok (.dup_x2, 1)) (hva : va.category = 1) (hvb : vb.category = 1) (hvd : vd.category = 1) (K : q_WA p l e R s m args below meth c D N0 nL Q kc ks ws (pc + 1) lv (va :: vb :: vd :: va :: st)) : q_WA p l e R s m args below meth c D N0 nL Q kc ks ws pc lv (va :: vb :: vd :: st) :=
  fun H lo ls hP hD hS hl => lv_dup_x2  C.1 C.2.1 hd hva hvb hvd (K H lo ls hP hD hS hl)
theorem q_if_eq (C : q_C p s m args meth c code nL ret Ts own D cc N0) {x : Int32} {off : Int} {tgt : Nat} (hd : decode code pc = .ok (.ifCond .eq off, 3)) (ht : (pc : Int) + off = (tgt : Int)) (kt : x = 0 → q_WA p l e R s m args below meth c D N0 nL Q kc ks ws tgt lv st) (kf : ¬ x = 0 → q_WA p l e R s m args below meth c D N0 nL Q kc ks ws (pc + 3) lv st) : q_WA p l e R s m args below meth c D N0 nL Q kc ks ws pc lv (.int x :: st) :=
  fun H lo ls hP hD hS hl => lv_if_eq C.1 C.2.1 hd ht (fun h => kt h H lo ls hP hD hS hl) (fun h => kf h H lo ls hP hD hS hl)
theorem q_icmp_eq (C : q_C p s m args meth c code nL ret Ts own D cc N0) {x y : Int32} {off : Int} {tgt : Nat} (hd : decode code pc = .ok (.if_icmp .eq off, 3)) (ht : (pc : Int) + off = (tgt : Int)) (kt : x = y → q_WA p l e R s m args below meth c D N0 nL Q kc ks ws tgt lv st) (kf : ¬ x = y → q_WA p l e R s m args below meth c D N0 nL Q kc ks ws (pc + 3) lv st) : q_WA p l e R s m args below meth c D N0 nL Q kc ks ws pc lv (.int y :: .int x :: st) :=
  fun H lo ls hP hD hS hl => lv_icmp_eq C.1 C.2.1 hd ht (fun h => kt h H lo ls hP hD hS hl) (fun h => kf h H lo ls hP hD hS hl)
theorem q_if_ne (C : q_C p s m args meth c code nL ret Ts own D cc N0) {x : Int32} {off : Int} {tgt : Nat} (hd : decode code pc = .ok (.ifCond .ne off, 3)) (ht : (pc : Int) + off = (tgt : Int)) (kt : ¬ x = 0 → q_WA p l e R s m args below meth c D N0 nL Q kc ks ws tgt lv st) (kf : x = 0 → q_WA p l e R s m args below meth c D N0 nL Q kc ks ws (pc + 3) lv st) : q_WA p l e R s m args below meth c D N0 nL Q kc ks ws pc lv (.int x :: st) :=
  fun H lo ls hP hD hS hl => lv_if_ne C.1 C.2.1 hd ht (fun h => kt h H lo ls hP hD hS hl) (fun h => kf h H lo ls hP hD hS hl)
theorem q_icmp_ne (C : q_C p s m args meth c code nL ret Ts own D cc N0) {x y : Int32} {off : Int} {tgt : Nat} (hd : decode code pc = .ok (.if_icmp .ne off, 3)) (ht : (pc : Int) + off = (tgt : Int)) (kt : ¬ x = y → q_WA p l e R s m args below meth c D N0 nL Q kc ks ws tgt lv st) (kf : x = y → q_WA p l e R s m args below meth c D N0 nL Q kc ks ws (pc + 3) lv st) : q_WA p l e R s m args below meth c D N0 nL Q kc ks ws pc lv (.int y :: .int x :: st) :=
  fun H lo ls hP hD hS hl => lv_icmp_ne C.1 C.2.1 hd ht (fun h => kt h H lo ls hP hD hS hl) (fun h => kf h H lo ls hP hD hS hl)
theorem q_if_lt (C : q_C p s m args meth c code nL ret Ts own D cc N0) {x : Int32} {off : Int} {tgt : Nat} (hd : decode code pc = .ok (.ifCond .lt off, 3)) (ht : (pc : Int) + off = (tgt : Int)) (kt : x < 0 → q_WA p l e R s m args below meth c D N0 nL Q kc ks ws tgt lv st) (kf : ¬ x < 0 → q_WA p l e R s m args below meth c D N0 nL Q kc ks ws (pc + 3) lv st) : q_WA p l e R s m args below meth c D N0 nL Q kc ks ws pc lv (.int x :: st) :=
  fun H lo ls hP hD hS hl => lv_if_lt C.1 C.2.1 hd ht (fun h => kt h H lo ls hP hD hS hl) (fun h => kf h H lo ls hP hD hS hl)
theorem q_icmp_lt (C : q_C p s m args meth c code nL ret Ts own D cc N0) {x y : Int32} {off : Int} {tgt : Nat} (hd : decode code pc = .ok (.if_icmp .lt off, 3)) (ht : (pc : Int) + off = (tgt : Int)) (kt : x < y → q_WA p l e R s m args below meth c D N0 nL Q kc ks ws tgt lv st) (kf : ¬ x < y → q_WA p l e R s m args below meth c D N0 nL Q kc ks ws (pc + 3) lv st) : q_WA p l e R s m args below meth c D N0 nL Q kc ks ws pc lv (.int y :: .int x :: st) :=
  fun H lo ls hP hD hS hl => lv_icmp_lt C.1 C.2.1 hd ht (fun h => kt h H lo ls hP hD hS hl) (fun h => kf h H lo ls hP hD hS hl)
theorem q_if_ge (C : q_C p s m args meth c code nL ret Ts own D cc N0) {x : Int32} {off : Int} {tgt : Nat} (hd : decode code pc = .ok (.ifCond .ge off, 3)) (ht : (pc : Int) + off = (tgt : Int)) (kt : 0 ≤ x → q_WA p l e R s m args below meth c D N0 nL Q kc ks ws tgt lv st) (kf : ¬ 0 ≤ x → q_WA p l e R s m args below meth c D N0 nL Q kc ks ws (pc + 3) lv st) : q_WA p l e R s m args below meth c D N0 nL Q kc ks ws pc lv (.int x :: st) :=
  fun H lo ls hP hD hS hl => lv_if_ge C.1 C.2.1 hd ht (fun h => kt h H lo ls hP hD hS hl) (fun h => kf h H lo ls hP hD hS hl)
theorem q_icmp_ge (C : q_C p s m args meth c code nL ret Ts own D cc N0) {x y : Int32} {off : Int} {tgt : Nat} (hd : decode code pc = .ok (.if_icmp .ge off, 3)) (ht : (pc : Int) + off = (tgt : Int)) (kt : y ≤ x → q_WA p l e R s m args below meth c D N0 nL Q kc ks ws tgt lv st) (kf : ¬ y ≤ x → q_WA p l e R s m args below meth c D N0 nL Q kc ks ws (pc + 3) lv st) : q_WA p l e R s m args below meth c D N0 nL Q kc ks ws pc lv (.int y :: .int x :: st) :=
  fun H lo ls hP hD hS hl => lv_icmp_ge C.1 C.2.1 hd ht (fun h => kt h H lo ls hP hD hS hl) (fun h => kf h H lo ls hP hD hS hl)
theorem q_if_gt (C : q_C p s m args meth c code nL ret Ts own D cc N0) {x : Int32} {off : Int} {tgt : Nat} (hd : decode code pc = .ok (.ifCond .gt off, 3)) (ht : (pc : Int) + off = (tgt : Int)) (kt : 0 < x → q_WA p l e R s m args below meth c D N0 nL Q kc ks ws tgt lv st) (kf : ¬ 0 < x → q_WA p l e R s m args below meth c D N0 nL Q kc ks ws (pc + 3) lv st) : q_WA p l e R s m args below meth c D N0 nL Q kc ks ws pc lv (.int x :: st) :=
  fun H lo ls hP hD hS hl => lv_if_gt C.1 C.2.1 hd ht (fun h => kt h H lo ls hP hD hS hl) (fun h => kf h H lo ls hP hD hS hl)
theorem q_icmp_gt (C : q_C p s m args meth c code nL ret Ts own D cc N0) {x y : Int32} {off : Int} {tgt : Nat} (hd : decode code pc = .ok (.if_icmp .gt off, 3)) (ht : (pc : Int) + off = (tgt : Int)) (kt : y < x → q_WA p l e R s m args below meth c D N0 nL Q kc ks ws tgt lv st) (kf : ¬ y < x → q_WA p l e R s m args below meth c D N0 nL Q kc ks ws (pc + 3) lv st) : q_WA p l e R s m args below meth c D N0 nL Q kc ks ws pc lv (.int y :: .int x :: st) :=
  fun H lo ls hP hD hS hl => lv_icmp_gt C.1 C.2.1 hd ht (fun h => kt h H lo ls hP hD hS hl) (fun h => kf h H lo ls hP hD hS hl)
theorem q_if_le (C : q_C p s m args meth c code nL ret Ts own D cc N0) {x : Int32} {off : Int} {tgt : Nat} (hd : decode code pc = .ok (.ifCond .le off, 3)) (ht : (pc : Int) + off = (tgt : Int)) (kt : x ≤ 0 → q_WA p l e R s m args below meth c D N0 nL Q kc ks ws tgt lv st) (kf : ¬ x ≤ 0 → q_WA p l e R s m args below meth c D N0 nL Q kc ks ws (pc + 3) lv st) : q_WA p l e R s m args below meth c D N0 nL Q kc ks ws pc lv (.int x :: st) :=
  fun H lo ls hP hD hS hl => lv_if_le C.1 C.2.1 hd ht (fun h => kt h H lo ls hP hD hS hl) (fun h => kf h H lo ls hP hD hS hl)
theorem q_icmp_le (C : q_C p s m args meth c code nL ret Ts own D cc N0) {x y : Int32} {off : Int} {tgt : Nat} (hd : decode code pc = .ok (.if_icmp .le off, 3)) (ht : (pc : Int) + off = (tgt : Int)) (kt : x ≤ y → q_WA p l e R s m args below meth c D N0 nL Q kc ks ws tgt lv st) (kf : ¬ x ≤ y → q_WA p l e R s m args below meth c D N0 nL Q kc ks ws (pc + 3) lv st) : q_WA p l e R s m args below meth c D N0 nL Q kc ks ws pc lv (.int y :: .int x :: st) :=
  fun H lo ls hP hD hS hl => lv_icmp_le C.1 C.2.1 hd ht (fun h => kt h H lo ls hP hD hS hl) (fun h => kf h H lo ls hP hD hS hl)
theorem q_goto (C : q_C p s m args meth c code nL ret Ts own D cc N0) {off : Int} {tgt : Nat} (hd : decode code pc = .ok (.goto off, 3)) (ht : (pc : Int) + off = (tgt : Int)) (K : q_WA p l e R s m args below meth c D N0 nL Q kc ks ws tgt lv st) : q_WA p l e R s m args below meth c D N0 nL Q kc ks ws pc lv st :=
  fun H lo ls hP hD hS hl => lv_goto C.1 C.2.1 hd ht (K H lo ls hP hD hS hl)
theorem q_lcmp (C : q_C p s m args meth c code nL ret Ts own D cc N0) {x y : Int64} (hd : decode code pc = .ok (.lcmp, 1)) (K : q_WA p l e R s m args below meth c D N0 nL Q kc ks ws (pc + 1) lv (.int (lg_cmp x y) :: st)) : q_WA p l e R s m args below meth c D N0 nL Q kc ks ws pc lv (.long y :: .long x :: st) :=
  fun H lo ls hP hD hS hl => W.lcmp C.1 C.2.1 hd (K H lo ls hP hD hS hl)
theorem q_ldc (C : q_C p s m args meth c code nL ret Ts own D cc N0) {index : Nat} {v : Int32} (hc : (Jvm.Cond.constant own index v) ∈ Ts) (hd : decode code pc = .ok (.ldc index, 2)) (K : q_WA p l e R s m args below meth c D N0 nL Q kc ks ws (pc + 2) lv (.int v :: st)) : q_WA p l e R s m args below meth c D N0 nL Q kc ks ws pc lv st :=
  fun H lo ls hP hD hS hl => lv_ldc C.1 C.2.1 C.2.2.2.2.1 (C.2.2.2.2.2.1 _ hc) hd (K H lo ls hP hD hS hl)
theorem q_ldcw (C : q_C p s m args meth c code nL ret Ts own D cc N0) {index : Nat} {v : Int32} (hc : (Jvm.Cond.constant own index v) ∈ Ts) (hd : decode code pc = .ok (.ldc_w index, 3)) (K : q_WA p l e R s m args below meth c D N0 nL Q kc ks ws (pc + 3) lv (.int v :: st)) : q_WA p l e R s m args below meth c D N0 nL Q kc ks ws pc lv st :=
  fun H lo ls hP hD hS hl => lv_ldcw C.1 C.2.1 C.2.2.2.2.1 (C.2.2.2.2.2.1 _ hc) hd (K H lo ls hP hD hS hl)
theorem q_ldc2 (C : q_C p s m args meth c code nL ret Ts own D cc N0) {index : Nat} {v : Int64} (hc : (Jvm.Cond.constantLong own index v) ∈ Ts) (hd : decode code pc = .ok (.ldc2_w index, 3)) (K : q_WA p l e R s m args below meth c D N0 nL Q kc ks ws (pc + 3) lv (.long v :: st)) : q_WA p l e R s m args below meth c D N0 nL Q kc ks ws pc lv st :=
  fun H lo ls hP hD hS hl => lv_ldc2 C.1 C.2.1 C.2.2.2.2.1 (C.2.2.2.2.2.1 _ hc) hd (K H lo ls hP hD hS hl)
theorem q_get (C : q_C p s m args meth c code nL ret Ts own D cc N0) {C0 : String} {T : u_T} {N ci index a : Nat} (q0 : Nat) {fs : List Value} (he : ws[q0]? = some (a, .inr (ci, fs))) (hc : vwCl[ci]? = some (C0, T, N)) (hin : ∀ w ∈ u_ws C0 T N, w ∈ Ts) (k : Nat) (hk : k < N) (hlink : Cond.fieldLink own index (T k).1 (T k).2.1 (T k).2.2.1 ∈ Ts) {v : Value} (hv : fs[k]? = some v) (hd : decode code pc = .ok (.getfield index, 3))
    (K : q_WA p l e R s m args below meth c D N0 nL Q kc ks ws (pc + 3) lv (v :: st)) : q_WA p l e R s m args below meth c D N0 nL Q kc ks ws pc lv (.ref a :: st) :=
  fun H lo ls hP hD hS hl => va_get C.1 C.2.1 C.2.2.2.2.2.1 hin C.2.2.2.2.1 C.2.2.2.2.2.2.2.1.1 hP q0 he hc k hk (C.2.2.2.2.2.1 _ hlink) (fun _ h => h) hv hd (K H lo ls hP hD hS hl)
theorem q_getN (C : q_C p s m args meth c code nL ret Ts own D cc N0) {C0 host : String} {T : u_T} {N ci index a : Nat} (q0 : Nat) {fs : List Value} (he : ws[q0]? = some (a, .inr (ci, fs))) (hc : vwCl[ci]? = some (C0, T, N)) (hin : ∀ w ∈ u_ws C0 T N, w ∈ Ts) (k : Nat) (hk : k < N) (hlink : (own, index, (T k).1, (T k).2.1, (T k).2.2.1, host) ∈ q_NF) {v : Value} (hv : fs[k]? = some v) (hd : decode code pc = .ok (.getfield index, 3))
    (K : q_WA p l e R s m args below meth c D N0 nL Q kc ks ws (pc + 3) lv (v :: st)) : q_WA p l e R s m args below meth c D N0 nL Q kc ks ws pc lv (.ref a :: st) :=
  fun H lo ls hP hD hS hl => va_getN C.1 C.2.1 C.2.2.2.2.2.1 hin C.2.2.2.2.1 C.2.2.2.2.2.2.2.1.1 hP q0 he hc k hk (va_Nw.use rfl (C.2.2.2.2.2.2.2.1.2.1.2 _ hlink)) (fun _ h => h) hv hd (K H lo ls hP hD hS hl)
theorem q_put (C : q_C p s m args meth c code nL ret Ts own D cc N0) {C0 : String} {T : u_T} {N ci index a : Nat} (q0 : Nat) {fs : List Value} (he : ws[q0]? = some (a, .inr (ci, fs))) (hc : vwCl[ci]? = some (C0, T, N)) (hin : ∀ w ∈ u_ws C0 T N, w ∈ Ts) (ty0 : Nat → FieldType) (hty : ∀ k, k < N → parseFieldDescriptor (T k).2.2.1 = some (ty0 k)) (hnm : ∀ a, a < N → ∀ b, b < N → a ≠ b → (T a).2.1 ≠ (T b).2.1) (k : Nat) (hk : k < N) (hlink : Cond.fieldLink own index (T k).1 (T k).2.1 (T k).2.2.1 ∈ Ts)
    (hfin : (T k).2.2.2 = false) {v : Value} (hn : narrow (ty0 k) v = v) (hfit : fits (ty0 k) v = true) (hl2 : k < fs.length) (hd : decode code pc = .ok (.putfield index, 3)) {ws1 : va_W} (hw : ws.set q0 (a, .inr (ci, fs.set k v)) = ws1)
    (K : q_WA p l e R s m args below meth c D N0 nL Q kc ks ws1 (pc + 3) lv st) : q_WA p l e R s m args below meth c D N0 nL Q kc ks ws pc lv (v :: .ref a :: st) :=
  fun H lo ls hP hD hS hl => va_put C.1 C.2.1 C.2.2.2.2.2.1 hin ty0 hty hnm C.2.2.2.2.1 C.2.2.2.2.2.2.2.1.1 hP hD hS q0 he hc k hk (C.2.2.2.2.2.1 _ hlink) (fun _ h => h) hfin (hty k hk) hn hfit hl2 hd (fun H1 lo1 hP1 hD1 hS1 => K H1 lo1 ls (hw ▸ hP1) (hw ▸ hD1) hS1 hl)
theorem q_putF (C : q_C p s m args meth c code nL ret Ts own D cc N0) (hin2 : meth.name = "<init>") {C0 : String} {T : u_T} {N ci index a : Nat} (q0 : Nat) {fs : List Value} (he : ws[q0]? = some (a, .inr (ci, fs))) (hc : vwCl[ci]? = some (C0, T, N)) (hin : ∀ w ∈ u_ws C0 T N, w ∈ Ts) (ty0 : Nat → FieldType) (hty : ∀ k, k < N → parseFieldDescriptor (T k).2.2.1 = some (ty0 k)) (hnm : ∀ a, a < N → ∀ b, b < N → a ≠ b → (T a).2.1 ≠ (T b).2.1) (k : Nat) (hk : k < N) (hlink : Cond.fieldLink own index (T k).1 (T k).2.1 (T k).2.2.1 ∈ Ts)
    (hfin : (T k).2.2.2 = true) (hdecl : (T k).1 = own) {v : Value} (hn : narrow (ty0 k) v = v) (hfit : fits (ty0 k) v = true) (hl2 : k < fs.length) (hd : decode code pc = .ok (.putfield index, 3)) {ws1 : va_W} (hw : ws.set q0 (a, .inr (ci, fs.set k v)) = ws1)
    (K : q_WA p l e R s m args below meth c D N0 nL Q kc ks ws1 (pc + 3) lv st) : q_WA p l e R s m args below meth c D N0 nL Q kc ks ws pc lv (v :: .ref a :: st) :=
  fun H lo ls hP hD hS hl => va_putF C.1 C.2.1 C.2.2.2.2.2.1 hin ty0 hty hnm C.2.2.2.2.1 C.2.2.2.2.2.2.2.1.1 hP hD hS q0 he hc k hk (C.2.2.2.2.2.1 _ hlink) (fun _ h => h) hfin hin2 hdecl (hty k hk) hn hfit hl2 hd (fun H1 lo1 hP1 hD1 hS1 => K H1 lo1 ls (hw ▸ hP1) (hw ▸ hD1) hS1 hl)
theorem q_putN (C : q_C p s m args meth c code nL ret Ts own D cc N0) {C0 host : String} {T : u_T} {N ci index a : Nat} (q0 : Nat) {fs : List Value} (he : ws[q0]? = some (a, .inr (ci, fs))) (hc : vwCl[ci]? = some (C0, T, N)) (hin : ∀ w ∈ u_ws C0 T N, w ∈ Ts) (ty0 : Nat → FieldType) (hty : ∀ k, k < N → parseFieldDescriptor (T k).2.2.1 = some (ty0 k)) (hnm : ∀ a, a < N → ∀ b, b < N → a ≠ b → (T a).2.1 ≠ (T b).2.1) (k : Nat) (hk : k < N) (hlink : (own, index, (T k).1, (T k).2.1, (T k).2.2.1, host) ∈ q_NF)
    (hfin : (T k).2.2.2 = false) {v : Value} (hn : narrow (ty0 k) v = v) (hfit : fits (ty0 k) v = true) (hl2 : k < fs.length) (hd : decode code pc = .ok (.putfield index, 3)) {ws1 : va_W} (hw : ws.set q0 (a, .inr (ci, fs.set k v)) = ws1)
    (K : q_WA p l e R s m args below meth c D N0 nL Q kc ks ws1 (pc + 3) lv st) : q_WA p l e R s m args below meth c D N0 nL Q kc ks ws pc lv (v :: .ref a :: st) :=
  fun H lo ls hP hD hS hl => va_putN C.1 C.2.1 C.2.2.2.2.2.1 hin ty0 hty hnm C.2.2.2.2.1 C.2.2.2.2.2.2.2.1.1 hP hD hS q0 he hc k hk (va_Nw.use rfl (C.2.2.2.2.2.2.2.1.2.1.2 _ hlink)) (fun _ h => h) hfin (hty k hk) hn hfit hl2 hd (fun H1 lo1 hP1 hD1 hS1 => K H1 lo1 ls (hw ▸ hP1) (hw ▸ hD1) hS1 hl)
/-- an index in its range, decided -/
abbrev q_in (i : Int32) (n : Nat) : Prop := ¬ i < 0 ∧ i.toNatClampNeg < n
theorem q_in_vp {i : Int32} {n : Nat} (h : q_in i n) : vp_in i n := fun g => g.elim (fun a => h.1 a) (fun a => Nat.not_le_of_lt h.2 a)
theorem q_iald (C : q_C p s m args meth c code nL ret Ts own D cc N0) {a n : Nat} (q0 : Nat) {f : Nat → Int32} (he : ws[q0]? = some (a, .inl (cc 0, n, .inl f))) {i : Int32} (hin : q_in i n) (hd : decode code pc = .ok (.iaload, 1))
    (K : q_WA p l e R s m args below meth c D N0 nL Q kc ks ws (pc + 1) lv (.int (f i.toNatClampNeg) :: st)) : q_WA p l e R s m args below meth c D N0 nL Q kc ks ws pc lv (.int i :: .ref a :: st) :=
  fun H lo ls hP hD hS hl => va_iald C.1 C.2.1 C.2.2.2.2.2.2.2.1.1 hP q0 0 he rfl (q_in_vp hin) hd (K H lo ls hP hD hS hl)
theorem q_iast (C : q_C p s m args meth c code nL ret Ts own D cc N0) {a n : Nat} (q0 : Nat) {f : Nat → Int32} (he : ws[q0]? = some (a, .inl (cc 0, n, .inl f))) {i x : Int32} (hin : q_in i n) (hd : decode code pc = .ok (.iastore, 1)) {ws1 : va_W} (hw : ws.set q0 (a, .inl (cc 0, n, .inl (upd f i.toNatClampNeg x))) = ws1)
    (K : q_WA p l e R s m args below meth c D N0 nL Q kc ks ws1 (pc + 1) lv st) : q_WA p l e R s m args below meth c D N0 nL Q kc ks ws pc lv (.int x :: .int i :: .ref a :: st) :=
  fun H lo ls hP hD hS hl => va_iast C.1 C.2.1 C.2.2.2.2.2.2.2.1.1 hP hD hS q0 0 he rfl (q_in_vp hin) hd (fun H1 lo1 hP1 hD1 hS1 => K H1 lo1 ls (hw ▸ hP1) (hw ▸ hD1) hS1 hl)
theorem q_zald (C : q_C p s m args meth c code nL ret Ts own D cc N0) {a n : Nat} (q0 : Nat) {f : Nat → Int32} (he : ws[q0]? = some (a, .inl (cc 1, n, .inl f))) {i : Int32} (hin : q_in i n) (hd : decode code pc = .ok (.baload, 1))
    (K : q_WA p l e R s m args below meth c D N0 nL Q kc ks ws (pc + 1) lv (.int (f i.toNatClampNeg) :: st)) : q_WA p l e R s m args below meth c D N0 nL Q kc ks ws pc lv (.int i :: .ref a :: st) :=
  fun H lo ls hP hD hS hl => va_zald C.1 C.2.1 C.2.2.2.2.2.2.2.1.1 hP q0 1 he rfl (q_in_vp hin) hd (K H lo ls hP hD hS hl)
theorem q_zast (C : q_C p s m args meth c code nL ret Ts own D cc N0) {a n : Nat} (q0 : Nat) {f : Nat → Int32} (he : ws[q0]? = some (a, .inl (cc 1, n, .inl f))) {i x : Int32} (hin : q_in i n) (hd : decode code pc = .ok (.bastore, 1)) {ws1 : va_W} (hw : ws.set q0 (a, .inl (cc 1, n, .inl (upd f i.toNatClampNeg (vp_nar .boolean x)))) = ws1)
    (K : q_WA p l e R s m args below meth c D N0 nL Q kc ks ws1 (pc + 1) lv st) : q_WA p l e R s m args below meth c D N0 nL Q kc ks ws pc lv (.int x :: .int i :: .ref a :: st) :=
  fun H lo ls hP hD hS hl => va_zast C.1 C.2.1 C.2.2.2.2.2.2.2.1.1 hP hD hS q0 1 he rfl (q_in_vp hin) hd (fun H1 lo1 hP1 hD1 hS1 => K H1 lo1 ls (hw ▸ hP1) (hw ▸ hD1) hS1 hl)
theorem q_alen (C : q_C p s m args meth c code nL ret Ts own D cc N0) {a : Nat} (q0 t0 : Nat) {cA : ClassId} {x : vp_A} (he : ws[q0]? = some (a, .inl (cA, x))) {ty : FieldType} (ht : (q_T cc)[t0]? = some (cA, ty)) {v : Int32} (hv : Int32.ofNat x.1 = v) (hd : decode code pc = .ok (.arraylength, 1))
    (K : q_WA p l e R s m args below meth c D N0 nL Q kc ks ws (pc + 1) lv (.int v :: st)) : q_WA p l e R s m args below meth c D N0 nL Q kc ks ws pc lv (.ref a :: st) :=
  fun H lo ls hP hD hS hl => va_alen C.1 C.2.1 C.2.2.2.2.2.2.2.1.1 hP q0 t0 he ht hv hd (K H lo ls hP hD hS hl)
/-- behind a call -/
theorem q_back {mc ms : Nat} {rest : List Value} {ls : Array Slot} {H : Heap} {lo : List Loc} {a : Array Value} {post : Option Value → va_W → Prop} (hr : va_Run p l e R s m args below meth c H lo kc ks mc ms (F0 m pc ls st) rest (q_Q D N0 post a) (q_A N0)) (hN : N0 ≤ s.heap.size) (hS : va_S (q_A N0) s.heap H lo) (hl : lv_has ls nL lv)
    (K : ∀ (rv : Option Value) (w1 : va_W), post rv w1 → q_WA p l e R s m args below meth c D N0 nL Q (kc + mc) (ks + ms) w1 (pc + 3) lv (rv.toList ++ rest)) : W p l e R s m args below meth c H lo kc ks Q (F0 m pc ls st) := by
  intro T hT X
  obtain ⟨v, st₀, t, T', L, h0, X', hL, e1, e2, ⟨⟨rv, w1, hv, hp, hP1, hD1⟩, hz, hk⟩, st⟩ := hr T hT X
  cases hv
  rw [h0] at hz hk
  have hA : ∀ q, H.size ≤ q → q_A N0 q := fun q hq => Nat.le_trans hN (Nat.le_trans hS.1 hq)
  obtain ⟨t2, a1, b1⟩ := K v w1 hp T'.heap (lo ++ L) ls (e1 ▸ hP1) hD1 ⟨Nat.le_trans hS.1 (by rw [e1]; exact hz), fun q h1 h2 => by rw [e1, hk q (Nat.lt_of_lt_of_le h1 hS.1) h2]; exact hS.2.1 q h1 h2, fun q hq => by
      rcases List.mem_append.mp hq with h | h
      · exact hS.2.2 q h
      · exact hL q h⟩ hl T' rfl X'
  exact ⟨t2, st t2 a1, b1⟩
theorem q_pre {av : List Value} {H : Heap} {lo : List Loc} (hK : q_K D cc s) (hN : N0 ≤ s.heap.size) (hH : q_H cc N0 s) (hP : va_P D vwCl ws H) (hD : va_D (q_A N0) ws) (hS : va_S (q_A N0) s.heap H lo) : ∀ U : State, U.heap = H → s.WarmedH U.vm → q_Pc D cc N0 ws av av.toArray U :=
  fun U hU hW => ⟨rfl, by rw [hU]; exact Nat.le_trans hN hS.1, by rw [hU]; exact hP, hD, q_K.warm hW hK, q_H.warm hW (fun a h1 h2 => by rw [hU]; exact hS.2.1 a h1 h2) hH⟩
abbrev q_dsc (y : MethodName) (n : Nat) : Prop := y.cls ≠ "java/lang/invoke/MethodHandle" ∧ y.cls ≠ "java/lang/invoke/VarHandle" ∧ (parseMethodDescriptor y.desc).map (fun d => d.parameters.length) = some n
theorem q_callV {y : MethodName} {w2 w2' : List Cond} {code2 : ByteArray} {nL2 : Nat} {ret2 : Option FieldType} {fr lo2 mc ms n idx b ci N q0 : Nat} {Cn : String} {T : u_T} {fs As rest : List Value} {post : Option Value → va_W → Prop} (C : q_C p s m args meth c code nL ret Ts own D cc N0) (hM : q_Met l y w2 fr lo2 D cc N0 ws (.ref b :: As) post mc ms) (hG : GoodIn Ts (wsV own idx Cn y w2)) (hw : w2 = .code y code2 nL2 ret2 :: w2') (hy : y.cls = Cn) (hds : q_dsc y n)
    (hR : fr + 1 ≤ R.frames ∧ 8 + (nL2 + 11) + lo2 ≤ R.locals) (he : ws[q0]? = some (b, .inr (ci, fs))) (hc : vwCl[ci]? = some (Cn, T, N)) (hn : As.length = n) (hst : st = As.reverse ++ .ref b :: rest) (hW : (rest.map fun v => v.category).sum ≤ 8) (hd : decode code pc = .ok (.invokevirtual idx, 3)) (hf : kc + mc ≤ R.cells ∧ ks + ms ≤ R.slots)
    (K : ∀ (rv : Option Value) (w1 : va_W), post rv w1 → q_WA p l e R s m args below meth c D N0 nL Q (kc + mc) (ks + ms) w1 (pc + 3) lv (rv.toList ++ rest)) : q_WA p l e R s m args below meth c D N0 nL Q kc ks ws pc lv st := by
  intro H lo ls hP hD hS hl
  obtain ⟨hx, hb, hr, hml, hown, hts, hlocks, hK, hN, hH⟩ := C
  subst hst
  exact q_back (va_runV ⟨hx, hb, hml, hown, hts⟩ hM (cwV n hts hG hw rfl rfl ⟨hy, hds⟩ hR) ⟨q_blind, va_recv hK.1 hP hc he, q_pre hK hN hH hP hD hS⟩ rfl hn hl.1 rfl (lv_room hW) hd hf) hN hS hl K
theorem q_callS {y : MethodName} {w2 w2' : List Cond} {code2 : ByteArray} {nL2 : Nat} {ret2 : Option FieldType} {fr lo2 mc ms n idx : Nat} {As rest : List Value} {post : Option Value → va_W → Prop} (C : q_C p s m args meth c code nL ret Ts own D cc N0) (hM : q_Met l y w2 fr lo2 D cc N0 ws As post mc ms) (hG : GoodIn Ts (va_wsS own idx y w2)) (hw : w2 = .code y code2 nL2 ret2 :: w2') (hds : q_dsc y n)
    (hR : fr + 1 ≤ R.frames ∧ 8 + (nL2 + 11) + lo2 ≤ R.locals) (hn : As.length = n) (hst : st = As.reverse ++ rest) (hW : (rest.map fun v => v.category).sum ≤ 8) (hd : decode code pc = .ok (.invokestatic idx, 3)) (hf : kc + mc ≤ R.cells ∧ ks + ms ≤ R.slots)
    (K : ∀ (rv : Option Value) (w1 : va_W), post rv w1 → q_WA p l e R s m args below meth c D N0 nL Q (kc + mc) (ks + ms) w1 (pc + 3) lv (rv.toList ++ rest)) : q_WA p l e R s m args below meth c D N0 nL Q kc ks ws pc lv st := by
  intro H lo ls hP hD hS hl
  obtain ⟨hx, hb, hr, hml, hown, hts, hlocks, hK, hN, hH⟩ := C
  subst hst
  exact q_back (va_runS ⟨hx, hb, hml, hown, hts⟩ hM (va_cwS n hts hG hw rfl rfl hds hR) ⟨q_blind, q_pre hK hN hH hP hD hS⟩ rfl hn hl.1 rfl (lv_room hW) hd hf) hN hS hl K
theorem q_callSN {y : MethodName} {host : String} {w2 w2' : List Cond} {code2 : ByteArray} {nL2 : Nat} {ret2 : Option FieldType} {fr lo2 mc ms n idx : Nat} {As rest : List Value} {post : Option Value → va_W → Prop} (C : q_C p s m args meth c code nL ret Ts own D cc N0) (hM : q_Met l y w2 fr lo2 D cc N0 ws As post mc ms) (hG : GoodIn Ts w2) (hw : w2 = .code y code2 nL2 ret2 :: w2') (hl2 : (own, idx, y, host) ∈ q_NM) (hini : Cond.initialized y.cls ∈ Ts) (hstt : Cond.static y ∈ Ts) (hds : q_dsc y n)
    (hR : fr + 1 ≤ R.frames ∧ 8 + (nL2 + 11) + lo2 ≤ R.locals) (hn : As.length = n) (hst : st = As.reverse ++ rest) (hW : (rest.map fun v => v.category).sum ≤ 8) (hd : decode code pc = .ok (.invokestatic idx, 3)) (hf : kc + mc ≤ R.cells ∧ ks + ms ≤ R.slots)
    (K : ∀ (rv : Option Value) (w1 : va_W), post rv w1 → q_WA p l e R s m args below meth c D N0 nL Q (kc + mc) (ks + ms) w1 (pc + 3) lv (rv.toList ++ rest)) : q_WA p l e R s m args below meth c D N0 nL Q kc ks ws pc lv st := by
  intro H lo ls hP hD hS hl
  obtain ⟨hx, hb, hr, hml, hown, hts, hlocks, hK, hN, hH⟩ := C
  subst hst
  exact q_back (va_runSN (host := host) ⟨hx, hb, hml, hown, hts⟩ hM ⟨va_cnB n hts hG hw rfl rfl (hK.2.1.1 _ hl2) (hts _ hini) hds hR, hts _ hstt, trivial⟩ ⟨q_blind, q_pre hK hN hH hP hD hS⟩ rfl hn hl.1 rfl (lv_room hW) hd hf) hN hS hl K
theorem q_callIN {y : MethodName} {host : String} {w2 w2' : List Cond} {code2 : ByteArray} {nL2 : Nat} {fr lo2 mc ms n idx b : Nat} {As rest : List Value} {post : Option Value → va_W → Prop} (C : q_C p s m args meth c code nL ret Ts own D cc N0) (hM : q_Met l y w2 fr lo2 D cc N0 ws (.ref b :: As) post mc ms) (hG : GoodIn Ts w2) (hw : w2 = .code y code2 nL2 none :: w2') (hl2 : (own, idx, y, host) ∈ q_NM) (hini : Cond.initialized y.cls ∈ Ts) (hin : Cond.instanceMethod y ∈ Ts) (hy : y.name = "<init>") (hds : q_dsc y n)
    (hR : fr + 1 ≤ R.frames ∧ 8 + (nL2 + 11) + lo2 ≤ R.locals) (hn : As.length = n) (hst : st = As.reverse ++ .ref b :: rest) (hW : (rest.map fun v => v.category).sum ≤ 8) (hd : decode code pc = .ok (.invokespecial idx, 3)) (hf : kc + mc ≤ R.cells ∧ ks + ms ≤ R.slots)
    (K : ∀ (rv : Option Value) (w1 : va_W), post rv w1 → q_WA p l e R s m args below meth c D N0 nL Q (kc + mc) (ks + ms) w1 (pc + 3) lv (rv.toList ++ rest)) : q_WA p l e R s m args below meth c D N0 nL Q kc ks ws pc lv st := by
  intro H lo ls hP hD hS hl
  obtain ⟨hx, hb, hr, hml, hown, hts, hlocks, hK, hN, hH⟩ := C
  subst hst
  exact q_back (va_runIN (host := host) ⟨hx, hb, hml, hown, hts⟩ hM ⟨va_cnB n hts hG hw rfl rfl (hK.2.1.1 _ hl2) (hts _ hini) hds hR, hy, hts _ hin⟩ ⟨q_blind, q_pre hK hN hH hP hD hS⟩ rfl hn hl.1 rfl (lv_room hW) hd hf) hN hS hl K
theorem q_callI {y : MethodName} {w2 w2' : List Cond} {code2 : ByteArray} {nL2 : Nat} {fr lo2 mc ms n idx b : Nat} {As rest : List Value} {post : Option Value → va_W → Prop} (C : q_C p s m args meth c code nL ret Ts own D cc N0) (hM : q_Met l y w2 fr lo2 D cc N0 ws (.ref b :: As) post mc ms) (hG : GoodIn Ts w2) (hw : w2 = .code y code2 nL2 none :: w2') (hl2 : Cond.methodLink own idx y ∈ Ts) (hini : Cond.initialized y.cls ∈ Ts) (hin : Cond.instanceMethod y ∈ Ts) (hy : y.name = "<init>") (hds : q_dsc y n)
    (hR : fr + 1 ≤ R.frames ∧ 8 + (nL2 + 11) + lo2 ≤ R.locals) (hn : As.length = n) (hst : st = As.reverse ++ .ref b :: rest) (hW : (rest.map fun v => v.category).sum ≤ 8) (hd : decode code pc = .ok (.invokespecial idx, 3)) (hf : kc + mc ≤ R.cells ∧ ks + ms ≤ R.slots)
    (K : ∀ (rv : Option Value) (w1 : va_W), post rv w1 → q_WA p l e R s m args below meth c D N0 nL Q (kc + mc) (ks + ms) w1 (pc + 3) lv (rv.toList ++ rest)) : q_WA p l e R s m args below meth c D N0 nL Q kc ks ws pc lv st := by
  intro H lo ls hP hD hS hl
  obtain ⟨hx, hb, hr, hml, hown, hts, hlocks, hK, hN, hH⟩ := C
  subst hst
  exact q_back (va_runI ⟨hx, hb, hml, hown, hts⟩ hM (cwI n hts hG hw rfl rfl (hts _ hini) (hts _ hl2) (hts _ hin) hy hds hR) ⟨q_blind, q_pre hK hN hH hP hD hS⟩ rfl hn hl.1 rfl (lv_room hW) hd hf) hN hS hl K
end QR
section QE
variable {p : Program} {l : Launch} {e : Env} {R : Room} {s : State} {m : MethodId} {args : Array Value} {below : List Frame} {meth : Method} {c : Code} {D : va_G} {cc : Nat → ClassId} {N0 nL : Nat} {mc ms : Nat} {ws : va_W} {pc : Nat} {lv : List (Nat × Value)} {code : ByteArray} {ret : Option FieldType} {Ts : List Cond} {own : String} {post : Option Value → va_W → Prop}
theorem q_vret (C : q_C p s m args meth c code nL none Ts own D cc N0) (hd : decode code pc = .ok (.return_, 1)) (hp : post none ws) : q_WA p l e R s m args below meth c D N0 nL (MQ below (q_Q D N0 post) args s mc ms (q_A N0)) mc ms ws pc lv [] :=
  fun H lo ls hP hD hS hl => W.vret C.1 C.2.1 C.2.2.1 (fun t ht hW => ⟨⟨none, ws, rfl, hp, by rw [ht]; exact hP, hD⟩, hS.F ht⟩) hS.2.2 hd C.2.2.2.2.2.2.1
theorem q_iret {v : Int32} (C : q_C p s m args meth c code nL (some .int) Ts own D cc N0) (hd : decode code pc = .ok (.ireturn, 1)) (hp : post (some (.int v)) ws) : q_WA p l e R s m args below meth c D N0 nL (MQ below (q_Q D N0 post) args s mc ms (q_A N0)) mc ms ws pc lv [.int v] :=
  fun H lo ls hP hD hS hl => W.iret C.1 C.2.1 C.2.2.1 (fun t ht hW => ⟨⟨_, ws, rfl, hp, by rw [ht]; exact hP, hD⟩, hS.F ht⟩) hS.2.2 hd C.2.2.2.2.2.2.1
theorem q_zret {v : Int32} {ty : FieldType} (C : q_C p s m args meth c code nL (some ty) Ts own D cc N0) (hn : narrow ty (.int v) = .int v) (hd : decode code pc = .ok (.ireturn, 1)) (hp : post (some (.int v)) ws) : q_WA p l e R s m args below meth c D N0 nL (MQ below (q_Q D N0 post) args s mc ms (q_A N0)) mc ms ws pc lv [.int v] :=
  fun H lo ls hP hD hS hl => W.zret C.1 C.2.1 C.2.2.1 hn (fun t ht hW => ⟨⟨_, ws, rfl, hp, by rw [ht]; exact hP, hD⟩, hS.F ht⟩) hS.2.2 hd C.2.2.2.2.2.2.1
theorem q_lret {v : Int64} (C : q_C p s m args meth c code nL (some .long) Ts own D cc N0) (hd : decode code pc = .ok (.lreturn, 1)) (hp : post (some (.long v)) ws) : q_WA p l e R s m args below meth c D N0 nL (MQ below (q_Q D N0 post) args s mc ms (q_A N0)) mc ms ws pc lv [.long v] :=
  fun H lo ls hP hD hS hl => W.lret C.1 C.2.1 C.2.2.1 (fun t ht hW => ⟨⟨_, ws, rfl, hp, by rw [ht]; exact hP, hD⟩, hS.F ht⟩) hS.2.2 hd C.2.2.2.2.2.2.1
theorem q_fret {v : UInt32} (C : q_C p s m args meth c code nL (some .float) Ts own D cc N0) (hd : decode code pc = .ok (.freturn, 1)) (hp : post (some (.float v)) ws) : q_WA p l e R s m args below meth c D N0 nL (MQ below (q_Q D N0 post) args s mc ms (q_A N0)) mc ms ws pc lv [.float v] :=
  fun H lo ls hP hD hS hl => W.fret C.1 C.2.1 C.2.2.1 (fun t ht hW => ⟨⟨_, ws, rfl, hp, by rw [ht]; exact hP, hD⟩, hS.F ht⟩) hS.2.2 hd C.2.2.2.2.2.2.1
theorem q_dret {v : UInt64} (C : q_C p s m args meth c code nL (some .double) Ts own D cc N0) (hd : decode code pc = .ok (.dreturn, 1)) (hp : post (some (.double v)) ws) : q_WA p l e R s m args below meth c D N0 nL (MQ below (q_Q D N0 post) args s mc ms (q_A N0)) mc ms ws pc lv [.double v] :=
  fun H lo ls hP hD hS hl => W.dret C.1 C.2.1 C.2.2.1 (fun t ht hW => ⟨⟨_, ws, rfl, hp, by rw [ht]; exact hP, hD⟩, hS.F ht⟩) hS.2.2 hd C.2.2.2.2.2.2.1
theorem q_aret {v : Value} {rt : FieldType} (C : q_C p s m args meth c code nL (some rt) Ts own D cc N0) (hrt : (∃ n, rt = .object n) ∨ ∃ t, rt = .array t) (hv : v = .null ∨ ∃ a, v = .ref a) (hd : decode code pc = .ok (.areturn, 1)) (hp : post (some v) ws) : q_WA p l e R s m args below meth c D N0 nL (MQ below (q_Q D N0 post) args s mc ms (q_A N0)) mc ms ws pc lv [v] :=
  fun H lo ls hP hD hS hl => W.aret C.1 C.2.1 C.2.2.1 hrt hv (fun t ht hW => ⟨⟨_, ws, rfl, hp, by rw [ht]; exact hP, hD⟩, hS.F ht⟩) hS.2.2 hd C.2.2.2.2.2.2.1
end QE
/-- the answer of a truth value -/
def q_b (b : Bool) : Int32 := if b then 1 else 0
theorem q_b_nar (b : Bool) : narrow .boolean (.int (q_b b)) = .int (q_b b) := by cases b <;> decide +kernel
/-- one answer, one world -/
def q_p (rv : Option Value) (w : va_W) : Option Value → va_W → Prop := fun a b => a = rv ∧ b = w

/-- the one way of a branch -/
theorem q_iteT {α : Type} {c : Prop} [Decidable c] {x y v : α} (h : (if c then x else y) = v) (hc : c) : x = v := (if_pos hc).symm.trans h
theorem q_iteF {α : Type} {c : Prop} [Decidable c] {x y v : α} (h : (if c then x else y) = v) (hc : ¬ c) : y = v := (if_neg hc).symm.trans h
theorem q_z01 {α : Type} {x : Int32} {a b v : α} (h : (if x = 0 then some a else if x = 1 then some b else none) = some v) : (x = 0 ∧ some a = some v) ∨ (x = 1 ∧ some b = some v) := by
  by_cases h0 : x = 0
  · exact Or.inl ⟨h0, q_iteT h h0⟩
  · have h := q_iteF h h0
    by_cases h1 : x = 1
    · exact Or.inr ⟨h1, q_iteT h h1⟩
    · cases q_iteF h h1
abbrev q_n32 (r : UInt32) : Prop := r &&& 0x7fffffff ≤ 0x7f800000
abbrev q_n64 (r : UInt64) : Prop := r &&& 0x7fffffffffffffff ≤ 0x7ff0000000000000
abbrev q_ch (v : Int32) : Prop := narrow .char (.int v) = .int v ∧ fits .char (.int v) = true
section QZ
variable {p : Program} {l : Launch} {e : Env} {R : Room} {s : State} {m : MethodId} {args : Array Value} {below : List Frame} {meth : Method} {c : Code} {D : va_G} {cc : Nat → ClassId} {N0 nL : Nat} {Q : State → Prop} {kc ks : Nat} {ws : va_W} {pc : Nat} {lv : List (Nat × Value)} {st : List Value} {code : ByteArray} {ret : Option FieldType} {Ts : List Cond} {own : String}
theorem q_lv {lv2 : List (Nat × Value)} (h : lv = lv2) (K : q_WA p l e R s m args below meth c D N0 nL Q kc ks ws pc lv2 st) : q_WA p l e R s m args below meth c D N0 nL Q kc ks ws pc lv st := h ▸ K
theorem q_after {rv rv0 : Option Value} {w0 w00 : va_W} {rest st2 : List Value} (hw : w00 = w0) (hr : rv0 = rv) (hst : rv.toList ++ rest = st2) (K : q_WA p l e R s m args below meth c D N0 nL Q kc ks w0 pc lv st2) : ∀ (rv1 : Option Value) (w1 : va_W), q_p rv0 w00 rv1 w1 → q_WA p l e R s m args below meth c D N0 nL Q (kc + 0) (ks + 0) w1 pc lv (rv1.toList ++ rest) := by
  rintro _ _ ⟨rfl, rfl⟩
  subst hw hr hst
  exact K
end QZ
/-- a place of a row, 0 outside of it; a row with a place told anew, unless it is outside -/
def q_at (n : Nat) (f : Nat → Int32) (i : Int32) : Int32 := if i < 0 then 0 else if nI n ≤ i then 0 else f i.toNatClampNeg
def q_pu (n : Nat) (f : Nat → Int32) (i v : Int32) : Nat → Int32 := if i < 0 then f else if nI n ≤ i then f else upd f i.toNatClampNeg v
theorem q_inn {i : Int32} {n : Nat} (hn : n < 2 ^ 31) (h : ¬ i < 0) (h2 : ¬ nI n ≤ i) : q_in i n := by
  obtain ⟨j, hj, -, -, e, -⟩ := pk_mu h h2 hn
  exact ⟨h, by rw [e]; exact hj⟩
theorem q_set_id {ws : va_W} {q : Nat} {x : Nat × va_E} (h : ws[q]? = some x) : ws.set q x = ws := by
  apply List.ext_getElem?
  intro i
  rw [List.getElem?_set]
  split
  · next e => subst e; split
              · exact h.symm
              · next hh => rw [List.getElem?_eq_none (by omega)]
  · rfl
def q_min (x y : Int32) : Int32 := if y < x then y else x
def q_max (x y : Int32) : Int32 := if x < y then y else x
theorem q_mmin {p : Program} {l : Launch} {e : Env} {R : Room} {s : State} {m : MethodId} {args : Array Value} {below : List Frame} {meth : Method} {c : Code} {D : va_G} {cc : Nat → ClassId} {N0 nL : Nat} {Q : State → Prop} {kc ks : Nat} {ws : va_W} {pc : Nat} {lv : List (Nat × Value)} {st : List Value} {code : ByteArray} {ret : Option FieldType} {Ts : List Cond} {own : String} (C : q_C p s m args meth c code nL ret Ts own D cc N0) {idx : Nat} (h1 : Cond.methodLink own idx Lib.Math.min.name ∈ Ts) (h2 : Cond.static Lib.Math.min.name ∈ Ts) (h3 : Cond.initialized "java/lang/Math" ∈ Ts) (h4 : Cond.code Lib.Math.min.name Lib.Math.min.code 2 (some .int) ∈ Ts) (hf : 1 ≤ R.frames) (hlo : (st.map fun v => v.category).sum + 13 ≤ R.locals) (hc : kc ≤ R.cells ∧ ks ≤ R.slots) {x y : Int32} (hd : decode code pc = .ok (.invokestatic idx, 3)) (K : q_WA p l e R s m args below meth c D N0 nL Q kc ks ws (pc + 3) lv (.int (q_min x y) :: st)) : q_WA p l e R s m args below meth c D N0 nL Q kc ks ws pc lv (.int y :: .int x :: st) :=
  fun H lo ls hP hD hS hl => va_mmin C.1 C.2.1 (C.2.2.2.1.trans hl.1.symm) C.2.2.2.2.1 (C.2.2.2.2.2.1 _ h1) (C.2.2.2.2.2.1 _ h2) (C.2.2.2.2.2.1 _ h3) (C.2.2.2.2.2.1 _ h4) hf hlo hc.1 hc.2 hd (K H lo ls hP hD hS hl)
theorem q_mmax {p : Program} {l : Launch} {e : Env} {R : Room} {s : State} {m : MethodId} {args : Array Value} {below : List Frame} {meth : Method} {c : Code} {D : va_G} {cc : Nat → ClassId} {N0 nL : Nat} {Q : State → Prop} {kc ks : Nat} {ws : va_W} {pc : Nat} {lv : List (Nat × Value)} {st : List Value} {code : ByteArray} {ret : Option FieldType} {Ts : List Cond} {own : String} (C : q_C p s m args meth c code nL ret Ts own D cc N0) {idx : Nat} (h1 : Cond.methodLink own idx Lib.Math.max.name ∈ Ts) (h2 : Cond.static Lib.Math.max.name ∈ Ts) (h3 : Cond.initialized "java/lang/Math" ∈ Ts) (h4 : Cond.code Lib.Math.max.name Lib.Math.max.code 2 (some .int) ∈ Ts) (hf : 1 ≤ R.frames) (hlo : (st.map fun v => v.category).sum + 13 ≤ R.locals) (hc : kc ≤ R.cells ∧ ks ≤ R.slots) {x y : Int32} (hd : decode code pc = .ok (.invokestatic idx, 3)) (K : q_WA p l e R s m args below meth c D N0 nL Q kc ks ws (pc + 3) lv (.int (q_max x y) :: st)) : q_WA p l e R s m args below meth c D N0 nL Q kc ks ws pc lv (.int y :: .int x :: st) :=
  fun H lo ls hP hD hS hl => va_mmax C.1 C.2.1 (C.2.2.2.1.trans hl.1.symm) C.2.2.2.2.1 (C.2.2.2.2.2.1 _ h1) (C.2.2.2.2.2.1 _ h2) (C.2.2.2.2.2.1 _ h3) (C.2.2.2.2.2.1 _ h4) hf hlo hc.1 hc.2 hd (K H lo ls hP hD hS hl)
