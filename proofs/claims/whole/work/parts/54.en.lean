/-! what the tables and the premises give at the law's entry -/
theorem en_nm : ∀ t ∈ q_NM, Cond.methodLinkNest t.1 t.2.1 t.2.2.1 t.2.2.2 ∈ lw_tbl := by decide +kernel
theorem en_nf : ∀ t ∈ q_NF, Cond.fieldLinkNest t.1 t.2.1 t.2.2.1 t.2.2.2.1 t.2.2.2.2.1 t.2.2.2.2.2 ∈ lw_tbl := by decide +kernel
theorem en_fl : ∀ t ∈ q_FL, Cond.declares t.2.1 ∈ lw_tbl ∧ Cond.interfaceMethod t.2.1.cls t.2.1.cls t.2.1.name t.2.1.desc ∈ lw_tbl ∧ Cond.publicMethod t.2.2 ∈ lw_tbl ∧ Cond.unhidden t.1 t.2.1.name t.2.1.desc ∈ lw_tbl ∧ Cond.castable t.1 t.2.1.cls ∈ lw_tbl := by decide +kernel
theorem en_cl : ∀ t ∈ q_CL, t = ("java/lang/Integer", "java/lang/Integer") ∨ Cond.castable t.1 t.2 ∈ lw_tbl := by decide +kernel
theorem en_xc : ∀ E ∈ q_XC, Cond.castable E E ∈ lw_tbl := by decide +kernel
theorem en_xd : ∀ Y ∈ q_XD, Cond.declares ⟨Y, "<init>", "(Ljava/lang/String;)V"⟩ ∈ lw_tbl := by decide +kernel
theorem en_xs : ∀ t ∈ q_XS, Cond.stringRef RX8 t.1 t.2 ∈ lw_tbl := by decide +kernel
abbrev en_F : List Cond := flatC (Jvm.Cond.and given_1 narrow_1)
theorem en_xs2 : ∀ t ∈ q_XS, Cond.exactly (.string RX8 t.1) "java/lang/String" ∈ en_F := by decide +kernel
theorem en_xn : ∀ t ∈ q_XN, Cond.not (.castable t.1 t.2) ∈ en_F := by decide +kernel
def en_cc (a0 a1 a2 a3 a4 a5 a8 a9 a10 a11 a12 : Nat) (ad : Nat → Nat) (k : Nat) : ClassId := if k < 1000 then (match k with | 0 => a0 | 1 => a1 | 2 => a2 | 3 => a3 | 4 => a4 | 5 => a5 | 8 => a8 | 9 => a9 | 10 => a10 | 11 => a11 | 12 => a12 | _ => 0) else ad (k - 1000)
theorem en_cc_i (a0 a1 a2 a3 a4 a5 a8 a9 a10 a11 a12 : Nat) (ad : Nat → Nat) : (fun k => en_cc a0 a1 a2 a3 a4 a5 a8 a9 a10 a11 a12 ad (1000 + k)) = ad := funext fun k => by
  unfold en_cc
  rw [if_neg (by omega), Nat.add_sub_cancel_left]
theorem en_eqi {s : State} {args : Array Value} {t : Term} {n : Int32} (h : (Cond.eq t (.int n)).before args s = true) : t.eval args s none [] s = some (.int n) := Cond.eq_int (b := .int n) h rfl
theorem en_self {s : State} {C : String} {c : ClassId} (h : s.vm.findClass C = some c) : va_Nw (.castable C C) s := by
  show (Cond.castable C C).before #[] s = true
  have h2 : s.vm.assignable c c = true := by
    show s.vm.assignableAux 256 c c = true
    unfold Vm.assignableAux
    simp
  simp [Cond.before, Cond.holds, Cond.value, h, h2]
theorem en_arr {s : State} {args : Array Value} {ty : FieldType} (hno : ∀ n, ty ≠ .object n) (h : (Cond.arrayClass ty).before args s = true) : ∃ c : ClassId, ArrOfT s c ty ∧ va_RA s c ty := by
  obtain ⟨c, k, comp, h1, h2, h3⟩ := Cond.arrayClass_spec h
  refine ⟨c, fun N z => ⟨(fun k h => by cases h), k, h2, comp, h3⟩, ?_⟩
  cases ty with
  | object n => exact absurd rfl (hno n)
  | _ => exact h1
theorem en_obj {s : State} {args : Array Value} {n : String} (h : (Cond.arrayOver (.object n)).before args s = true) : ∃ c : ClassId, ArrOfT s c (.object n) ∧ va_RA s c (.object n) := by
  obtain ⟨comp, c, k, h1, h2, h3, h4, h5⟩ := Cond.arrayOver_spec h
  exact ⟨c, fun N z => ⟨(fun k h => by cases h), k, h3, comp, h4⟩, k, comp, h3, h4, h1, h5⟩
theorem en_aoa {s : State} {args : Array Value} {t : FieldType} (h : (Cond.arrayOver (.array t)).before args s = true) : ∃ c : ClassId, ArrOfT s c (.array t) ∧ va_RA s c (.array t) := by
  obtain ⟨comp, c, k, h1, h2, h3, h4, h5⟩ := arrayOverA_spec h
  exact ⟨c, fun N z => ⟨(fun k h => by cases h), k, h3, comp, h4⟩, h5⟩
theorem en_vk {s : State} {args : Array Value} {k : Nat} {tx own : String} (h1 : (Cond.stringRef own k tx).before args s = true) (h2 : (Cond.exactly (.string own k) "java/lang/String").before args s = true) : ∃ a, vk_R own k tx a s := by
  obtain ⟨a, -, -, -, h, -⟩ := Cond.exactly_spec h2
  exact ⟨a, vk_R.of h1 h⟩
set_option maxRecDepth 100000 in
set_option maxHeartbeats 4000000 in
theorem en_cls {s : State} {args : Array Value} (hts : ∀ w ∈ lw_tbl, w.before args s = true) : ∃ D : va_G, ∀ (c : Nat) (q : vw_C), vwCl[c]? = some q → u_Kn s q.1 q.2.1 q.2.2 (D.1 c) (D.2 c) := by
  obtain ⟨d0, i0, k0⟩ := u_known (C := RJ6) (T := TJ6) (N := 1) (n := 1) hts inJ6 (hts (.instantiable RJ6 1) (by decide +kernel))
  obtain ⟨d1, i1, k1⟩ := u_known (C := RJx35411) (T := TJx35411) (N := 4) (n := 4) hts inJx35411 (hts (.instantiable RJx35411 4) (by decide +kernel))
  obtain ⟨d2, i2, k2⟩ := u_known (C := RJx4a65c) (T := TJx4a65c) (N := 3) (n := 3) hts inJx4a65c (hts (.instantiable RJx4a65c 3) (by decide +kernel))
  obtain ⟨d3, i3, k3⟩ := u_known (C := RX0) (T := TX0) (N := 3) (n := 3) hts inX0 (hts (.instantiable RX0 3) (by decide +kernel))
  obtain ⟨d4, i4, k4⟩ := u_known (C := RX1) (T := TX1) (N := 4) (n := 4) hts inX1 (hts (.instantiable RX1 4) (by decide +kernel))
  obtain ⟨d5, i5, k5⟩ := u_known (C := RX2) (T := TX2) (N := 4) (n := 4) hts inX2 (hts (.instantiable RX2 4) (by decide +kernel))
  obtain ⟨d6, i6, k6⟩ := u_known (C := RX3) (T := TX3) (N := 3) (n := 3) hts inX3 (hts (.instantiable RX3 3) (by decide +kernel))
  obtain ⟨d7, i7, k7⟩ := u_known (C := RX4) (T := TX4) (N := 3) (n := 3) hts inX4 (hts (.instantiable RX4 3) (by decide +kernel))
  obtain ⟨d8, i8, k8⟩ := u_known (C := RX5) (T := TX5) (N := 8) (n := 8) hts inX5 (hts (.instantiable RX5 8) (by decide +kernel))
  obtain ⟨d9, i9, k9⟩ := u_known (C := RX6) (T := TX6) (N := 3) (n := 3) hts inX6 (hts (.instantiable RX6 3) (by decide +kernel))
  obtain ⟨d10, i10, k10⟩ := u_known (C := RX7) (T := TX7) (N := 6) (n := 6) hts inX7 (hts (.instantiable RX7 6) (by decide +kernel))
  obtain ⟨d11, i11, k11⟩ := u_known (C := RX8) (T := TX8) (N := 8) (n := 8) hts inX8 (hts (.instantiable RX8 8) (by decide +kernel))
  obtain ⟨d12, i12, k12⟩ := u_known (C := RX9) (T := TX9) (N := 17) (n := 17) hts inX9 (hts (.instantiable RX9 17) (by decide +kernel))
  refine ⟨(fun c => (([d0, d1, d2, d3, d4, d5, d6, d7, d8, d9, d10, d11, d12] : List ClassId).getD c 0), fun c => (([i0, i1, i2, i3, i4, i5, i6, i7, i8, i9, i10, i11, i12] : List (Nat → Nat)).getD c (fun _ => 0))), fun c q hq => ?_⟩
  match c, hq with
  | 0, hq => cases hq; exact k0
  | 1, hq => cases hq; exact k1
  | 2, hq => cases hq; exact k2
  | 3, hq => cases hq; exact k3
  | 4, hq => cases hq; exact k4
  | 5, hq => cases hq; exact k5
  | 6, hq => cases hq; exact k6
  | 7, hq => cases hq; exact k7
  | 8, hq => cases hq; exact k8
  | 9, hq => cases hq; exact k9
  | 10, hq => cases hq; exact k10
  | 11, hq => cases hq; exact k11
  | 12, hq => cases hq; exact k12
  | c + 13, hq => cases hq
set_option maxRecDepth 100000 in
set_option maxHeartbeats 4000000 in
theorem en_all {s : State} {args : Array Value} (hts : ∀ w ∈ lw_tbl, w.before args s = true) (hgv : (Jvm.Cond.and given_1 narrow_1).before args s = true) : ∃ (D : va_G) (cc : Nat → ClassId), q_K D cc s ∧ q_H cc s.heap.size s := by
  have hs : ∀ w ∈ en_F, w.before args s = true := flat_of_before _ hgv
  have hA : ∀ a : Nat, a < s.heap.size → ¬ q_A s.heap.size a := fun a h => Nat.not_le.mpr h
  obtain ⟨D, hD⟩ := en_cls hts
  obtain ⟨a0, p0⟩ := en_arr (ty := .int) (fun n h => by cases h) (hts (.arrayClass .int) (by decide +kernel))
  obtain ⟨a1, p1⟩ := en_arr (ty := .boolean) (fun n h => by cases h) (hts (.arrayClass .boolean) (by decide +kernel))
  obtain ⟨a4, p4⟩ := en_arr (ty := .long) (fun n h => by cases h) (hts (.arrayClass .long) (by decide +kernel))
  obtain ⟨a5, p5⟩ := en_arr (ty := .double) (fun n h => by cases h) (hts (.arrayClass .double) (by decide +kernel))
  obtain ⟨a2, p2⟩ := en_obj (n := "java/lang/Object") (hts (.arrayOver (.object "java/lang/Object")) (by decide +kernel))
  have haoa := hts (.arrayOver (.array .boolean)) (by decide +kernel)
  obtain ⟨a3, p3⟩ := en_aoa (t := .boolean) haoa
  obtain ⟨a9, hmi⟩ := va_Mi.of (hs (.isRef (.mirror "[Ljava/lang/Object;")) (by decide +kernel))
  obtain ⟨a8, z8, t8⟩ := va_Tof (tm := .static "java/util/ArrayList" "DEFAULTCAPACITY_EMPTY_ELEMENTDATA" "[Ljava/lang/Object;") (N := 0) (f := fun _ => .null) (by decide) (hs (.arrayOf (.static "java/util/ArrayList" "DEFAULTCAPACITY_EMPTY_ELEMENTDATA" "[Ljava/lang/Object;") (.object "java/lang/Object")) (by decide +kernel)) (en_eqi (n := Int32.ofNat 0) (hs (.eq (.length (.static "java/util/ArrayList" "DEFAULTCAPACITY_EMPTY_ELEMENTDATA" "[Ljava/lang/Object;")) (.int 0)) (by decide +kernel))) (fun j hj => absurd hj (Nat.not_lt_zero j)) hA
  have e8 := va_Zof (hts (.laysStatic "java/util/ArrayList" "DEFAULTCAPACITY_EMPTY_ELEMENTDATA" "[Ljava/lang/Object;") (by decide +kernel)) (hts (.initialized "java/util/ArrayList") (by decide +kernel)) z8 hA
  have l10 := en_eqi (n := Int32.ofNat 256) (hs (.eq (.length (.static "java/lang/Integer$IntegerCache" "cache" "[Ljava/lang/Integer;")) (.int 256)) (by decide +kernel))
  obtain ⟨ad, hC, hel⟩ := vb_Cof (st := .static "java/lang/Integer$IntegerCache" "cache" "[Ljava/lang/Integer;") rfl l10 (hs _ (by decide +kernel)) hA
  obtain ⟨a10, z10, t10⟩ := va_Tof (tm := .static "java/lang/Integer$IntegerCache" "cache" "[Ljava/lang/Integer;") (N := 256) (f := fun k => .ref (ad k)) (by decide) (hs (.arrayOf (.static "java/lang/Integer$IntegerCache" "cache" "[Ljava/lang/Integer;") (.object "java/lang/Integer")) (by decide +kernel)) l10 hel hA
  have e10 := va_Zof (hts (.laysStatic "java/lang/Integer$IntegerCache" "cache" "[Ljava/lang/Integer;") (by decide +kernel)) (hts (.initialized "java/lang/Integer$IntegerCache") (by decide +kernel)) z10 hA
  have eh := va_Zof (hts (.laysStatic "java/lang/Integer$IntegerCache" "high" "I") (by decide +kernel)) (hts (.initialized "java/lang/Integer$IntegerCache") (by decide +kernel)) (en_eqi (n := 127) (hs (.eq (.static "java/lang/Integer$IntegerCache" "high" "I") (.int 127)) (by decide +kernel))) hA
  have ec := va_Zof (hts (.laysStatic "java/lang/String" "COMPACT_STRINGS" "Z") (by decide +kernel)) (hts (.initialized "java/lang/String") (by decide +kernel)) (en_eqi (n := 1) (hs (.eq (.static "java/lang/String" "COMPACT_STRINGS" "Z") (.int 1)) (by decide +kernel))) hA
  obtain ⟨adK, adV, hvS, hev⟩ := vk_Sof (N := 1) (tm := fun _ => .string RX9 104) (len := [4]) (byt := [[116, 115, 105, 112]]) (s := s) (args := args) (fun i hi => by rw [Nat.lt_one_iff.mp hi]; decide) (fun _ _ => hs _ (by decide +kernel)) (fun _ _ => hs _ (by decide +kernel)) (fun _ _ => hs _ (by decide +kernel)) (fun i hi => by rw [Nat.lt_one_iff.mp hi]; exact hs _ (by decide +kernel)) (fun i hi j hj => by
    rw [Nat.lt_one_iff.mp hi] at hj ⊢
    match j, hj with
    | 0, _ => exact hs _ (by decide +kernel)
    | 1, _ => exact hs _ (by decide +kernel)
    | 2, _ => exact hs _ (by decide +kernel)
    | 3, _ => exact hs _ (by decide +kernel)
    | n + 4, h => exact absurd h (by show ¬ n + 4 < 4; omega)) (fun i j hi hj h => absurd ((Nat.lt_one_iff.mp hi).trans (Nat.lt_one_iff.mp hj).symm) h) hA
  obtain ⟨a11, h11⟩ : ∃ z, z = adK 0 := ⟨_, rfl⟩
  obtain ⟨a12, h12⟩ : ∃ z, z = adV 0 := ⟨_, rfl⟩
  have hvS2 : vk_S 1 [4] [[116, 115, 105, 112]] (fun _ => a11) (fun _ => a12) (q_A s.heap.size) s s.heap := ⟨fun i hi => by
    have h := hvS.1 i hi
    rw [Nat.lt_one_iff.mp hi] at h ⊢
    rw [← h11, ← h12] at h
    exact h, fun i j hi hj _ => (Nat.lt_one_iff.mp hi).trans (Nat.lt_one_iff.mp hj).symm⟩
  have hev2 : vk_R RX9 104 "tsip" a11 s := vk_R.of (hts (.stringRef RX9 104 "tsip") (by decide +kernel)) (by rw [h11]; exact hev 0 (by decide))
  obtain ⟨cc, c0, c1, c2, c3, c4, c5, c8, c9, c10, c11, c12, cI⟩ : ∃ cc : Nat → ClassId, cc 0 = a0 ∧ cc 1 = a1 ∧ cc 2 = a2 ∧ cc 3 = a3 ∧ cc 4 = a4 ∧ cc 5 = a5 ∧ cc 8 = a8 ∧ cc 9 = a9 ∧ cc 10 = a10 ∧ cc 11 = a11 ∧ cc 12 = a12 ∧ (fun k => cc (1000 + k)) = ad := ⟨en_cc a0 a1 a2 a3 a4 a5 a8 a9 a10 a11 a12 ad, rfl, rfl, rfl, rfl, rfl, rfl, rfl, rfl, rfl, rfl, rfl, en_cc_i _ _ _ _ _ _ _ _ _ _ _ _⟩
  rw [← c0] at p0
  rw [← c1] at p1
  rw [← c2] at p2
  rw [← c3] at p3
  rw [← c4] at p4
  rw [← c5] at p5
  rw [← c8] at e8 t8
  rw [← c9] at hmi
  rw [← c10] at e10 t10
  rw [← c11] at hvS2 hev2
  rw [← c12] at hvS2
  rw [← cI] at hC t10
  refine ⟨D, cc, ⟨⟨hD, fun k q hq => ?_⟩, ⟨fun t ht => va_Nw.of rfl (hts _ (en_nm t ht)), fun t ht => va_Nw.of rfl (hts _ (en_nf t ht))⟩, fun t ht => ?_, ⟨fun t ht => (en_cl t ht).elim (fun e => by rw [e]; exact en_self (hD 0 _ rfl).2.1) (fun h => va_Nw.of rfl (hts _ h)), va_AO.of (hts _ (by decide +kernel)), haoa, hmi, va_Dc.of (hts _ (by decide +kernel))⟩⟩, ⟨⟨fun E hE => va_Nw.of rfl (hts _ (en_xc E hE)), fun Y hY => va_Nw.of rfl (hts _ (en_xd Y hY)), fun t ht => en_vk (hts _ (en_xs t ht)) (hs _ (en_xs2 t ht)), vx_Zqof (hts _ (by decide +kernel)) (hts _ (by decide +kernel)) (hs _ (by decide +kernel)) hA, vx_Zqof (hts _ (by decide +kernel)) (hts _ (by decide +kernel)) (hs _ (by decide +kernel)) hA⟩, e8, t8, eh, e10, t10, hC, ec, hev2, hvS2, fun t ht => va_Nc.of (hs _ (en_xn t ht))⟩⟩
  · match k, hq with
    | 0, hq => cases hq; exact p0
    | 1, hq => cases hq; exact p1
    | 2, hq => cases hq; exact p2
    | 3, hq => cases hq; exact p3
    | 4, hq => cases hq; exact p4
    | 5, hq => cases hq; exact p5
    | k + 6, hq => cases hq
  · obtain ⟨h1, h2, h3, h4, h5⟩ := en_fl t ht
    exact va_Fw.of (hts _ h1) (hts _ h2) (hts _ h3) (hts _ h4) (hts _ h5)
