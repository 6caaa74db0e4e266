/-- a list's cell: how often it was changed, its row, its size; a walker's cell: where it is, where it was, what it saw, whose it is -/
abbrev q_al (mo : Int32) (ev : Nat) (n : Int32) : va_E := .inr (2, [.int mo, .ref ev, .int n])
abbrev q_it (cur last xp : Int32) (a : Nat) : va_E := .inr (1, [.int cur, .int last, .int xp, .ref a])
abbrev q_ar (cc : Nat → ClassId) (n : Nat) (f : Nat → Option Nat) : va_E := .inl (cc 2, n, .inr (.inr (.inr (.inr f))))
theorem n_Jx4a65c_size_8abf5_Jx4a65c : ∀ w ∈ wsJx4a65c0, w ∈ wsJx4a65c_size_8abf5 := fun _ h => (List.mem_cons_of_mem _ (List.mem_append_right _ h))
theorem z_Jx4a65c_size_8abf5 : q_dsc yJx4a65c_size_8abf5 0 := ⟨by decide +kernel, by decide +kernel, by decide +kernel⟩
set_option maxRecDepth 100000 in
set_option maxHeartbeats 4000000 in
theorem c_al_size (l : Launch) (D : va_G) (cc : Nat → ClassId) (N0 : Nat) (E : va_W) (a ev : Nat) (mo n : Int32) : q_Met l yJx4a65c_size_8abf5 wsJx4a65c_size_8abf5 0 0 D cc N0 ((a, q_al mo ev n) :: E) [.ref a] (q_p (some (.int n)) ((a, q_al mo ev n) :: E)) 0 0 := by
  refine q_ofW (code := cJx4a65c_size_8abf5) (nL := 1) (ret := (some .int)) (by decide +kernel) rfl (Nat.le_of_ble_eq_true rfl) (fun p e s m below meth c C hini => ?_)
  refine q_lv (lv2 := [(0, .ref a)]) rfl ?_
  refine q_aload_n (pc := 0) C dJx4a65c_size_8abf5_0 rfl 0 rfl ?_
  refine q_get (pc := 1) C 0 rfl rfl n_Jx4a65c_size_8abf5_Jx4a65c 2 (by decide) (List.mem_of_getElem? (i := 1) rfl) rfl dJx4a65c_size_8abf5_1 ?_
  exact q_iret (pc := 4) C dJx4a65c_size_8abf5_4 ⟨rfl, rfl⟩
theorem n_Jx4a65c_isEmpty_aae02_Jx4a65c : ∀ w ∈ wsJx4a65c0, w ∈ wsJx4a65c_isEmpty_aae02 := fun _ h => (List.mem_cons_of_mem _ (List.mem_append_right _ h))
theorem z_Jx4a65c_isEmpty_aae02 : q_dsc yJx4a65c_isEmpty_aae02 0 := ⟨by decide +kernel, by decide +kernel, by decide +kernel⟩
set_option maxRecDepth 100000 in
set_option maxHeartbeats 4000000 in
theorem c_al_isEmpty (l : Launch) (D : va_G) (cc : Nat → ClassId) (N0 : Nat) (E : va_W) (a ev : Nat) (mo n : Int32) : q_Met l yJx4a65c_isEmpty_aae02 wsJx4a65c_isEmpty_aae02 0 0 D cc N0 ((a, q_al mo ev n) :: E) [.ref a] (q_p (some (.int (q_b (decide (n = 0))))) ((a, q_al mo ev n) :: E)) 0 0 := by
  refine q_ofW (code := cJx4a65c_isEmpty_aae02) (nL := 1) (ret := (some .boolean)) (by decide +kernel) rfl (Nat.le_of_ble_eq_true rfl) (fun p e s m below meth c C hini => ?_)
  refine q_lv (lv2 := [(0, .ref a)]) rfl ?_
  refine q_aload_n (pc := 0) C dJx4a65c_isEmpty_aae02_0 rfl 0 rfl ?_
  refine q_get (pc := 1) C 0 rfl rfl n_Jx4a65c_isEmpty_aae02_Jx4a65c 2 (by decide) (List.mem_of_getElem? (i := 1) rfl) rfl dJx4a65c_isEmpty_aae02_1 ?_
  refine q_if_ne (pc := 4) (tgt := 11) C dJx4a65c_isEmpty_aae02_4 (by decide) (fun c1 => ?_) (fun c1 => ?_)
  · refine q_iconst (pc := 11) C 0 dJx4a65c_isEmpty_aae02_11 q_ci_0 ?_
    exact q_zret (pc := 12) C (by decide +kernel) dJx4a65c_isEmpty_aae02_12 ⟨by rw [decide_eq_false c1]; rfl, rfl⟩
  · refine q_iconst (pc := 7) C 1 dJx4a65c_isEmpty_aae02_7 q_ci_1 ?_
    refine q_goto (pc := 8) (tgt := 12) C dJx4a65c_isEmpty_aae02_8 (by decide) ?_
    exact q_zret (pc := 12) C (by decide +kernel) dJx4a65c_isEmpty_aae02_12 ⟨by rw [decide_eq_true c1]; rfl, rfl⟩
theorem n_Jx4a65c_elementData_915e3_Jx4a65c : ∀ w ∈ wsJx4a65c0, w ∈ wsJx4a65c_elementData_915e3 := fun _ h => (List.mem_cons_of_mem _ (List.mem_append_right _ h))
theorem z_Jx4a65c_elementData_915e3 : q_dsc yJx4a65c_elementData_915e3 1 := ⟨by decide +kernel, by decide +kernel, by decide +kernel⟩
set_option maxRecDepth 100000 in
set_option maxHeartbeats 4000000 in
theorem c_al_ed (l : Launch) (D : va_G) (cc : Nat → ClassId) (N0 : Nat) (E : va_W) (a ev y cap : Nat) (mo n i : Int32) (el : Nat → Option Nat) (hin : q_in i cap) (hy : el i.toNatClampNeg = some y) : q_Met l yJx4a65c_elementData_915e3 wsJx4a65c_elementData_915e3 0 0 D cc N0 ((a, q_al mo ev n) :: (ev, q_ar cc cap el) :: E) [.ref a, .int i] (q_p (some (.ref y)) ((a, q_al mo ev n) :: (ev, q_ar cc cap el) :: E)) 0 0 := by
  refine q_ofW (code := cJx4a65c_elementData_915e3) (nL := 2) (ret := (some (.object "java/lang/Object"))) (by decide +kernel) rfl (Nat.le_of_ble_eq_true rfl) (fun p e s m below meth c C hini => ?_)
  refine q_lv (lv2 := [(0, .ref a), (1, .int i)]) rfl ?_
  refine q_aload_n (pc := 0) C dJx4a65c_elementData_915e3_0 rfl 0 rfl ?_
  refine q_get (pc := 1) C 0 rfl rfl n_Jx4a65c_elementData_915e3_Jx4a65c 1 (by decide) (List.mem_of_getElem? (i := 1) rfl) rfl dJx4a65c_elementData_915e3_1 ?_
  refine q_iload_n (pc := 4) C dJx4a65c_elementData_915e3_4 rfl 1 rfl ?_
  refine q_aald (pc := 5) C 1 rfl hin hy dJx4a65c_elementData_915e3_5 ?_
  exact q_aret (pc := 6) C (Or.inl ⟨_, rfl⟩) (Or.inr ⟨_, rfl⟩) dJx4a65c_elementData_915e3_6 ⟨rfl, rfl⟩
theorem z_J3_checkIndex_8e157 : q_dsc yJ3_checkIndex_8e157 3 := ⟨by decide +kernel, by decide +kernel, by decide +kernel⟩
set_option maxRecDepth 100000 in
set_option maxHeartbeats 4000000 in
theorem c_ci3 (l : Launch) (D : va_G) (cc : Nat → ClassId) (N0 : Nat) (E : va_W) (i n : Int32) (h0 : ¬ i < 0) (h1 : i < n) : q_Met l yJ3_checkIndex_8e157 wsJ3_checkIndex_8e157 0 0 D cc N0 E [.int i, .int n, .null] (q_p (some (.int i)) E) 0 0 := by
  refine q_ofW (code := cJ3_checkIndex_8e157) (nL := 3) (ret := (some .int)) (by decide +kernel) rfl (Nat.le_of_ble_eq_true rfl) (fun p e s m below meth c C hini => ?_)
  refine q_lv (lv2 := [(0, .int i), (1, .int n), (2, .null)]) rfl ?_
  refine q_iload_n (pc := 0) C dJ3_checkIndex_8e157_0 rfl 0 rfl ?_
  refine q_if_lt (pc := 1) (tgt := 9) C dJ3_checkIndex_8e157_1 (by decide) (fun c1 => absurd c1 h0) (fun c1 => ?_)
  refine q_iload_n (pc := 4) C dJ3_checkIndex_8e157_4 rfl 0 rfl ?_
  refine q_iload_n (pc := 5) C dJ3_checkIndex_8e157_5 rfl 1 rfl ?_
  refine q_icmp_lt (pc := 6) (tgt := 16) C dJ3_checkIndex_8e157_6 (by decide) (fun c2 => ?_) (fun c2 => absurd h1 c2)
  refine q_iload_n (pc := 16) C dJ3_checkIndex_8e157_16 rfl 0 rfl ?_
  exact q_iret (pc := 17) C dJ3_checkIndex_8e157_17 ⟨rfl, rfl⟩
theorem z_J15_checkIndex_7cf53 : q_dsc yJ15_checkIndex_7cf53 2 := ⟨by decide +kernel, by decide +kernel, by decide +kernel⟩
set_option maxRecDepth 100000 in
set_option maxHeartbeats 4000000 in
theorem c_ci15 (l : Launch) (D : va_G) (cc : Nat → ClassId) (N0 : Nat) (E : va_W) (i n : Int32) (h0 : ¬ i < 0) (h1 : i < n) : q_Met l yJ15_checkIndex_7cf53 wsJ15_checkIndex_7cf53 1 22 D cc N0 E [.int i, .int n] (q_p (some (.int i)) E) 0 0 := by
  refine q_ofW (code := cJ15_checkIndex_7cf53) (nL := 2) (ret := (some .int)) (by decide +kernel) rfl (Nat.le_of_ble_eq_true rfl) (fun p e s m below meth c C hini => ?_)
  refine q_lv (lv2 := [(0, .int i), (1, .int n)]) rfl ?_
  refine q_iload_n (pc := 0) C dJ15_checkIndex_7cf53_0 rfl 0 rfl ?_
  refine q_iload_n (pc := 1) C dJ15_checkIndex_7cf53_1 rfl 1 rfl ?_
  refine q_null (pc := 2) C dJ15_checkIndex_7cf53_2 ?_
  refine q_callS (pc := 3) (As := [.int i, .int n, .null]) (rest := []) C (c_ci3 l D cc N0 E i n h0 h1) gJ15_checkIndex_7cf53_J3_checkIndex_8e157 rfl z_J3_checkIndex_8e157 ⟨(Nat.le_of_ble_eq_true rfl), (Nat.le_of_ble_eq_true rfl)⟩ rfl rfl (Nat.le_of_ble_eq_true rfl) dJ15_checkIndex_7cf53_3 ⟨(Nat.le_of_ble_eq_true rfl), (Nat.le_of_ble_eq_true rfl)⟩ ?_
  refine q_after (rv := (some (.int i))) (w0 := E) (st2 := [.int i]) rfl rfl rfl ?_
  exact q_iret (pc := 6) C dJ15_checkIndex_7cf53_6 ⟨rfl, rfl⟩
theorem n_Jx4a65c_get_915e3_Jx4a65c : ∀ w ∈ wsJx4a65c0, w ∈ wsJx4a65c_get_915e3 := fun _ h => (List.mem_cons_of_mem _ (List.mem_append_right _ h))
theorem z_Jx4a65c_get_915e3 : q_dsc yJx4a65c_get_915e3 1 := ⟨by decide +kernel, by decide +kernel, by decide +kernel⟩
set_option maxRecDepth 100000 in
set_option maxHeartbeats 4000000 in
theorem c_al_get (l : Launch) (D : va_G) (cc : Nat → ClassId) (N0 : Nat) (E : va_W) (a ev y cap : Nat) (mo n i : Int32) (el : Nat → Option Nat) (h0 : ¬ i < 0) (h1 : i < n) (hin : q_in i cap) (hy : el i.toNatClampNeg = some y) : q_Met l yJx4a65c_get_915e3 wsJx4a65c_get_915e3 2 43 D cc N0 ((a, q_al mo ev n) :: (ev, q_ar cc cap el) :: E) [.ref a, .int i] (q_p (some (.ref y)) ((a, q_al mo ev n) :: (ev, q_ar cc cap el) :: E)) 0 0 := by
  refine q_ofW (code := cJx4a65c_get_915e3) (nL := 2) (ret := (some (.object "java/lang/Object"))) (by decide +kernel) rfl (Nat.le_of_ble_eq_true rfl) (fun p e s m below meth c C hini => ?_)
  refine q_lv (lv2 := [(0, .ref a), (1, .int i)]) rfl ?_
  refine q_iload_n (pc := 0) C dJx4a65c_get_915e3_0 rfl 1 rfl ?_
  refine q_aload_n (pc := 1) C dJx4a65c_get_915e3_1 rfl 0 rfl ?_
  refine q_get (pc := 2) C 0 rfl rfl n_Jx4a65c_get_915e3_Jx4a65c 2 (by decide) (List.mem_of_getElem? (i := 1) rfl) rfl dJx4a65c_get_915e3_2 ?_
  refine q_callS (pc := 5) (As := [.int i, .int n]) (rest := []) C (c_ci15 l D cc N0 ((a, q_al mo ev n) :: (ev, q_ar cc cap el) :: E) i n h0 h1) gJx4a65c_get_915e3_J15_checkIndex_7cf53 rfl z_J15_checkIndex_7cf53 ⟨(Nat.le_of_ble_eq_true rfl), (Nat.le_of_ble_eq_true rfl)⟩ rfl rfl (Nat.le_of_ble_eq_true rfl) dJx4a65c_get_915e3_5 ⟨(Nat.le_of_ble_eq_true rfl), (Nat.le_of_ble_eq_true rfl)⟩ ?_
  refine q_after (rv := (some (.int i))) (w0 := ((a, q_al mo ev n) :: (ev, q_ar cc cap el) :: E)) (st2 := [.int i]) rfl rfl rfl ?_
  refine q_pop (pc := 8) C dJx4a65c_get_915e3_8 rfl ?_
  refine q_aload_n (pc := 9) C dJx4a65c_get_915e3_9 rfl 0 rfl ?_
  refine q_iload_n (pc := 10) C dJx4a65c_get_915e3_10 rfl 1 rfl ?_
  refine q_callV (pc := 11) (As := [.int i]) (rest := []) C (c_al_ed l D cc N0 E a ev y cap mo n i el hin hy) gJx4a65c_get_915e3_Jx4a65c_elementData_915e3 rfl rfl z_Jx4a65c_elementData_915e3 ⟨(Nat.le_of_ble_eq_true rfl), (Nat.le_of_ble_eq_true rfl)⟩ (show _ = some (a, q_al mo ev n) from rfl : ((a, q_al mo ev n) :: (ev, q_ar cc cap el) :: E)[0]? = some (a, q_al mo ev n)) rfl rfl rfl (Nat.le_of_ble_eq_true rfl) dJx4a65c_get_915e3_11 ⟨(Nat.le_of_ble_eq_true rfl), (Nat.le_of_ble_eq_true rfl)⟩ ?_
  refine q_after (rv := (some (.ref y))) (w0 := ((a, q_al mo ev n) :: (ev, q_ar cc cap el) :: E)) (st2 := [.ref y]) rfl rfl rfl ?_
  exact q_aret (pc := 14) C (Or.inl ⟨_, rfl⟩) (Or.inr ⟨_, rfl⟩) dJx4a65c_get_915e3_14 ⟨rfl, rfl⟩
theorem n_Jx35411_init_45d68_Jx35411 : ∀ w ∈ wsJx354110, w ∈ wsJx35411_init_45d68 := fun _ h => (List.mem_cons_of_mem _ (List.mem_append_left _ (List.mem_append_right _ h)))
theorem n_Jx35411_init_45d68_Jx4a65c : ∀ w ∈ wsJx4a65c0, w ∈ wsJx35411_init_45d68 := fun _ h => (List.mem_cons_of_mem _ (List.mem_append_right _ h))
theorem z_Jx35411_init_45d68 : q_dsc yJx35411_init_45d68 1 := ⟨by decide +kernel, by decide +kernel, by decide +kernel⟩
set_option maxRecDepth 100000 in
set_option maxHeartbeats 4000000 in
theorem c_it_init (l : Launch) (D : va_G) (cc : Nat → ClassId) (N0 : Nat) (E : va_W) (it a ev : Nat) (mo n : Int32) : q_Met l yJx35411_init_45d68 wsJx35411_init_45d68 1 20 D cc N0 ((it, .inr (1, [.int 0, .int 0, .int 0, .null])) :: (a, q_al mo ev n) :: E) [.ref it, .ref a] (q_p none ((it, q_it 0 (-1) mo a) :: (a, q_al mo ev n) :: E)) 0 0 := by
  refine q_ofW (code := cJx35411_init_45d68) (nL := 2) (ret := none) (by decide +kernel) rfl (Nat.le_of_ble_eq_true rfl) (fun p e s m below meth c C hini => ?_)
  refine q_lv (lv2 := [(0, .ref it), (1, .ref a)]) rfl ?_
  refine q_aload_n (pc := 0) C dJx35411_init_45d68_0 rfl 0 rfl ?_
  refine q_aload_n (pc := 1) C dJx35411_init_45d68_1 rfl 1 rfl ?_
  refine q_putF (pc := 2) C (hini rfl) 0 rfl rfl n_Jx35411_init_45d68_Jx35411 tyJx35411 tyJx35411_ok nmJx35411 3 (by decide) (List.mem_of_getElem? (i := 1) rfl) rfl rfl rfl rfl (Nat.le_of_ble_eq_true rfl) dJx35411_init_45d68_2 (ws1 := ((it, .inr (1, [.int 0, .int 0, .int 0, .ref a])) :: (a, q_al mo ev n) :: E)) rfl ?_
  refine q_aload_n (pc := 5) C dJx35411_init_45d68_5 rfl 0 rfl ?_
  refine q_objInit (pc := 6) C (List.mem_of_getElem? (i := 2) rfl) (List.mem_of_getElem? (i := 3) rfl) (List.mem_of_getElem? (i := 4) rfl) dJx35411_init_45d68_6 (Nat.le_of_ble_eq_true rfl) (Nat.le_of_ble_eq_true rfl) ?_
  refine q_aload_n (pc := 9) C dJx35411_init_45d68_9 rfl 0 rfl ?_
  refine q_iconst (pc := 10) C (-1 : Int32) dJx35411_init_45d68_10 q_ci_m1 ?_
  refine q_put (pc := 11) C 0 rfl rfl n_Jx35411_init_45d68_Jx35411 tyJx35411 tyJx35411_ok nmJx35411 1 (by decide) (List.mem_of_getElem? (i := 5) rfl) rfl rfl rfl (Nat.le_of_ble_eq_true rfl) dJx35411_init_45d68_11 (ws1 := ((it, .inr (1, [.int 0, .int (-1), .int 0, .ref a])) :: (a, q_al mo ev n) :: E)) rfl ?_
  refine q_aload_n (pc := 14) C dJx35411_init_45d68_14 rfl 0 rfl ?_
  refine q_aload_n (pc := 15) C dJx35411_init_45d68_15 rfl 0 rfl ?_
  refine q_get (pc := 16) C 0 rfl rfl n_Jx35411_init_45d68_Jx35411 3 (by decide) (List.mem_of_getElem? (i := 1) rfl) rfl dJx35411_init_45d68_16 ?_
  refine q_getS (pc := 19) C 1 rfl rfl n_Jx35411_init_45d68_Jx4a65c 0 (by decide) (List.mem_of_getElem? (i := 6) rfl) (List.mem_of_getElem? (i := 7) rfl) rfl dJx35411_init_45d68_19 ?_
  refine q_put (pc := 22) C 0 rfl rfl n_Jx35411_init_45d68_Jx35411 tyJx35411 tyJx35411_ok nmJx35411 2 (by decide) (List.mem_of_getElem? (i := 8) rfl) rfl rfl rfl (Nat.le_of_ble_eq_true rfl) dJx35411_init_45d68_22 (ws1 := ((it, q_it 0 (-1) mo a) :: (a, q_al mo ev n) :: E)) rfl ?_
  exact q_vret (pc := 25) C dJx35411_init_45d68_25 ⟨rfl, rfl⟩
theorem n_Jx4a65c_iterator_32c93_Jx35411 : ∀ w ∈ wsJx354110, w ∈ wsJx4a65c_iterator_32c93 := fun _ h => (List.mem_cons_of_mem _ (List.mem_append_left _ (List.mem_append_right _ h)))
theorem z_Jx4a65c_iterator_32c93 : q_dsc yJx4a65c_iterator_32c93 0 := ⟨by decide +kernel, by decide +kernel, by decide +kernel⟩
set_option maxRecDepth 100000 in
set_option maxHeartbeats 4000000 in
theorem c_al_iter (l : Launch) (D : va_G) (cc : Nat → ClassId) (N0 : Nat) (E : va_W) (a ev : Nat) (mo n : Int32) : q_Met l yJx4a65c_iterator_32c93 wsJx4a65c_iterator_32c93 2 41 D cc N0 ((a, q_al mo ev n) :: E) [.ref a] (fun rv w1 => ∃ it : Nat, rv = some (.ref it) ∧ w1 = (it, q_it 0 (-1) mo a) :: (a, q_al mo ev n) :: E) 1 4 := by
  refine q_ofW (code := cJx4a65c_iterator_32c93) (nL := 1) (ret := (some (.object "java/util/Iterator"))) (by decide +kernel) rfl (Nat.le_of_ble_eq_true rfl) (fun p e s m below meth c C hini => ?_)
  refine q_lv (lv2 := [(0, .ref a)]) rfl ?_
  refine q_new (pc := 0) C n_Jx4a65c_iterator_32c93_Jx35411 tyJx35411 tyJx35411_ok (List.mem_of_getElem? (i := 1) rfl) (List.mem_of_getElem? (i := 2) rfl) (List.mem_of_getElem? (i := 3) rfl) (ci := 1) rfl [.int 0, .int 0, .int 0, .null] (by intro j hj; match j, hj with | 0, _ => rfl | 1, _ => rfl | 2, _ => rfl | 3, _ => rfl | n + 4, hj => exact absurd hj (by omega)) (Nat.le_of_ble_eq_true rfl) (Nat.le_of_ble_eq_true rfl) dJx4a65c_iterator_32c93_0 (fun it => ?_)
  refine q_nm (wz := ((it, .inr (1, [.int 0, .int 0, .int 0, .null])) :: (a, q_al mo ev n) :: E)) (ka := 1) (kb := 4) (sz := [.ref it]) rfl rfl rfl rfl ?_
  refine q_dup (pc := 3) C dJx4a65c_iterator_32c93_3 rfl ?_
  refine q_aload_n (pc := 4) C dJx4a65c_iterator_32c93_4 rfl 0 rfl ?_
  refine q_callI (pc := 5) (As := [.ref a]) (rest := [.ref it]) C (c_it_init l D cc N0 E it a ev mo n) gJx4a65c_iterator_32c93_Jx35411_init_45d68 rfl (List.mem_of_getElem? (i := 4) rfl) (List.mem_of_getElem? (i := 3) rfl) (List.mem_of_getElem? (i := 5) rfl) rfl z_Jx35411_init_45d68 ⟨(Nat.le_of_ble_eq_true rfl), (Nat.le_of_ble_eq_true rfl)⟩ rfl rfl (Nat.le_of_ble_eq_true rfl) dJx4a65c_iterator_32c93_5 ⟨(Nat.le_of_ble_eq_true rfl), (Nat.le_of_ble_eq_true rfl)⟩ ?_
  rintro _ _ ⟨rfl, rfl⟩
  refine q_nm (wz := ((it, q_it 0 (-1) mo a) :: (a, q_al mo ev n) :: E)) (ka := 1) (kb := 4) (sz := [.ref it]) rfl rfl rfl rfl ?_
  exact q_aret (pc := 8) C (Or.inl ⟨_, rfl⟩) (Or.inr ⟨_, rfl⟩) dJx4a65c_iterator_32c93_8 ⟨it, rfl, rfl⟩
theorem n_Jx35411_hasNext_aae02_Jx35411 : ∀ w ∈ wsJx354110, w ∈ wsJx35411_hasNext_aae02 := fun _ h => (List.mem_cons_of_mem _ (List.mem_append_left _ (List.mem_append_right _ h)))
theorem n_Jx35411_hasNext_aae02_Jx4a65c : ∀ w ∈ wsJx4a65c0, w ∈ wsJx35411_hasNext_aae02 := fun _ h => (List.mem_cons_of_mem _ (List.mem_append_right _ h))
theorem z_Jx35411_hasNext_aae02 : q_dsc yJx35411_hasNext_aae02 0 := ⟨by decide +kernel, by decide +kernel, by decide +kernel⟩
set_option maxRecDepth 100000 in
set_option maxHeartbeats 4000000 in
theorem c_it_has (l : Launch) (D : va_G) (cc : Nat → ClassId) (N0 : Nat) (E : va_W) (it a ev : Nat) (cur last xp mo n : Int32) : q_Met l yJx35411_hasNext_aae02 wsJx35411_hasNext_aae02 0 0 D cc N0 ((it, q_it cur last xp a) :: (a, q_al mo ev n) :: E) [.ref it] (q_p (some (.int (q_b (!decide (cur = n))))) ((it, q_it cur last xp a) :: (a, q_al mo ev n) :: E)) 0 0 := by
  refine q_ofW (code := cJx35411_hasNext_aae02) (nL := 1) (ret := (some .boolean)) (by decide +kernel) rfl (Nat.le_of_ble_eq_true rfl) (fun p e s m below meth c C hini => ?_)
  refine q_lv (lv2 := [(0, .ref it)]) rfl ?_
  refine q_aload_n (pc := 0) C dJx35411_hasNext_aae02_0 rfl 0 rfl ?_
  refine q_get (pc := 1) C 0 rfl rfl n_Jx35411_hasNext_aae02_Jx35411 0 (by decide) (List.mem_of_getElem? (i := 1) rfl) rfl dJx35411_hasNext_aae02_1 ?_
  refine q_aload_n (pc := 4) C dJx35411_hasNext_aae02_4 rfl 0 rfl ?_
  refine q_get (pc := 5) C 0 rfl rfl n_Jx35411_hasNext_aae02_Jx35411 3 (by decide) (List.mem_of_getElem? (i := 2) rfl) rfl dJx35411_hasNext_aae02_5 ?_
  refine q_getN (pc := 8) (host := "java/util/ArrayList") C 1 rfl rfl n_Jx35411_hasNext_aae02_Jx4a65c 2 (by decide) (List.mem_of_getElem? (i := 16) rfl) rfl dJx35411_hasNext_aae02_8 ?_
  refine q_icmp_eq (pc := 11) (tgt := 18) C dJx35411_hasNext_aae02_11 (by decide) (fun c1 => ?_) (fun c1 => ?_)
  · refine q_iconst (pc := 18) C 0 dJx35411_hasNext_aae02_18 q_ci_0 ?_
    exact q_zret (pc := 19) C (by decide +kernel) dJx35411_hasNext_aae02_19 ⟨by rw [decide_eq_true c1]; rfl, rfl⟩
  · refine q_iconst (pc := 14) C 1 dJx35411_hasNext_aae02_14 q_ci_1 ?_
    refine q_goto (pc := 15) (tgt := 19) C dJx35411_hasNext_aae02_15 (by decide) ?_
    exact q_zret (pc := 19) C (by decide +kernel) dJx35411_hasNext_aae02_19 ⟨by rw [decide_eq_false c1]; rfl, rfl⟩
theorem n_Jx35411_checkForComodification_da8c8_Jx35411 : ∀ w ∈ wsJx354110, w ∈ wsJx35411_checkForComodification_da8c8 := fun _ h => (List.mem_cons_of_mem _ (List.mem_append_left _ (List.mem_append_right _ h)))
theorem n_Jx35411_checkForComodification_da8c8_Jx4a65c : ∀ w ∈ wsJx4a65c0, w ∈ wsJx35411_checkForComodification_da8c8 := fun _ h => (List.mem_cons_of_mem _ (List.mem_append_right _ h))
theorem z_Jx35411_checkForComodification_da8c8 : q_dsc yJx35411_checkForComodification_da8c8 0 := ⟨by decide +kernel, by decide +kernel, by decide +kernel⟩
set_option maxRecDepth 100000 in
set_option maxHeartbeats 4000000 in
theorem c_it_cfc (l : Launch) (D : va_G) (cc : Nat → ClassId) (N0 : Nat) (E : va_W) (it a ev : Nat) (cur last mo n : Int32) : q_Met l yJx35411_checkForComodification_da8c8 wsJx35411_checkForComodification_da8c8 0 0 D cc N0 ((it, q_it cur last mo a) :: (a, q_al mo ev n) :: E) [.ref it] (q_p none ((it, q_it cur last mo a) :: (a, q_al mo ev n) :: E)) 0 0 := by
  refine q_ofW (code := cJx35411_checkForComodification_da8c8) (nL := 1) (ret := none) (by decide +kernel) rfl (Nat.le_of_ble_eq_true rfl) (fun p e s m below meth c C hini => ?_)
  refine q_lv (lv2 := [(0, .ref it)]) rfl ?_
  refine q_aload_n (pc := 0) C dJx35411_checkForComodification_da8c8_0 rfl 0 rfl ?_
  refine q_get (pc := 1) C 0 rfl rfl n_Jx35411_checkForComodification_da8c8_Jx35411 3 (by decide) (List.mem_of_getElem? (i := 1) rfl) rfl dJx35411_checkForComodification_da8c8_1 ?_
  refine q_getS (pc := 4) C 1 rfl rfl n_Jx35411_checkForComodification_da8c8_Jx4a65c 0 (by decide) (List.mem_of_getElem? (i := 2) rfl) (List.mem_of_getElem? (i := 3) rfl) rfl dJx35411_checkForComodification_da8c8_4 ?_
  refine q_aload_n (pc := 7) C dJx35411_checkForComodification_da8c8_7 rfl 0 rfl ?_
  refine q_get (pc := 8) C 0 rfl rfl n_Jx35411_checkForComodification_da8c8_Jx35411 2 (by decide) (List.mem_of_getElem? (i := 4) rfl) rfl dJx35411_checkForComodification_da8c8_8 ?_
  refine q_icmp_eq (pc := 11) (tgt := 22) C dJx35411_checkForComodification_da8c8_11 (by decide) (fun c1 => ?_) (fun c1 => absurd rfl c1)
  exact q_vret (pc := 22) C dJx35411_checkForComodification_da8c8_22 ⟨rfl, rfl⟩
theorem n_Jx35411_next_0502b_Jx35411 : ∀ w ∈ wsJx354110, w ∈ wsJx35411_next_0502b := fun _ h => (List.mem_cons_of_mem _ (List.mem_append_left _ (List.mem_append_right _ h)))
theorem n_Jx35411_next_0502b_Jx4a65c : ∀ w ∈ wsJx4a65c0, w ∈ wsJx35411_next_0502b := fun _ h => (List.mem_cons_of_mem _ (List.mem_append_right _ h))
theorem z_Jx35411_next_0502b : q_dsc yJx35411_next_0502b 0 := ⟨by decide +kernel, by decide +kernel, by decide +kernel⟩
set_option maxRecDepth 100000 in
set_option maxHeartbeats 4000000 in
theorem c_it_next (l : Launch) (D : va_G) (cc : Nat → ClassId) (N0 : Nat) (E : va_W) (it a ev y cap : Nat) (cur last mo n : Int32) (el : Nat → Option Nat) (h1 : cur < n) (h2 : cur < nI cap) (hin : q_in cur cap) (hy : el cur.toNatClampNeg = some y) : q_Met l yJx35411_next_0502b wsJx35411_next_0502b 1 20 D cc N0 ((it, q_it cur last mo a) :: (a, q_al mo ev n) :: (ev, q_ar cc cap el) :: E) [.ref it] (q_p (some (.ref y)) ((it, q_it (cur + 1) cur mo a) :: (a, q_al mo ev n) :: (ev, q_ar cc cap el) :: E)) 0 0 := by
  refine q_ofW (code := cJx35411_next_0502b) (nL := 3) (ret := (some (.object "java/lang/Object"))) (by decide +kernel) rfl (Nat.le_of_ble_eq_true rfl) (fun p e s m below meth c C hini => ?_)
  refine q_lv (lv2 := [(0, .ref it)]) rfl ?_
  refine q_aload_n (pc := 0) C dJx35411_next_0502b_0 rfl 0 rfl ?_
  refine q_callV (pc := 1) (As := []) (rest := []) C (c_it_cfc l D cc N0 ((ev, q_ar cc cap el) :: E) it a ev cur last mo n) gJx35411_next_0502b_Jx35411_checkForComodification_da8c8 rfl rfl z_Jx35411_checkForComodification_da8c8 ⟨(Nat.le_of_ble_eq_true rfl), (Nat.le_of_ble_eq_true rfl)⟩ (show ((it, q_it cur last mo a) :: (a, q_al mo ev n) :: (ev, q_ar cc cap el) :: E)[0]? = some (it, q_it cur last mo a) from rfl) rfl rfl rfl (Nat.le_of_ble_eq_true rfl) dJx35411_next_0502b_1 ⟨(Nat.le_of_ble_eq_true rfl), (Nat.le_of_ble_eq_true rfl)⟩ ?_
  refine q_after (rv := none) (w0 := ((it, q_it cur last mo a) :: (a, q_al mo ev n) :: (ev, q_ar cc cap el) :: E)) (st2 := []) rfl rfl rfl ?_
  refine q_aload_n (pc := 4) C dJx35411_next_0502b_4 rfl 0 rfl ?_
  refine q_get (pc := 5) C 0 rfl rfl n_Jx35411_next_0502b_Jx35411 0 (by decide) (List.mem_of_getElem? (i := 1) rfl) rfl dJx35411_next_0502b_5 ?_
  refine q_istore_n (pc := 8) (lvq := [(1, .int cur), (0, .ref it)]) C dJx35411_next_0502b_8 rfl (by decide) rfl ?_
  refine q_iload_n (pc := 9) C dJx35411_next_0502b_9 rfl 0 rfl ?_
  refine q_aload_n (pc := 10) C dJx35411_next_0502b_10 rfl 1 rfl ?_
  refine q_get (pc := 11) C 0 rfl rfl n_Jx35411_next_0502b_Jx35411 3 (by decide) (List.mem_of_getElem? (i := 2) rfl) rfl dJx35411_next_0502b_11 ?_
  refine q_getN (pc := 14) (host := "java/util/ArrayList") C 1 rfl rfl n_Jx35411_next_0502b_Jx4a65c 2 (by decide) (List.mem_of_getElem? (i := 16) rfl) rfl dJx35411_next_0502b_14 ?_
  refine q_icmp_lt (pc := 17) (tgt := 28) C dJx35411_next_0502b_17 (by decide) (fun c1 => ?_) (fun c1 => absurd h1 c1)
  refine q_aload_n (pc := 28) C dJx35411_next_0502b_28 rfl 1 rfl ?_
  refine q_get (pc := 29) C 0 rfl rfl n_Jx35411_next_0502b_Jx35411 3 (by decide) (List.mem_of_getElem? (i := 2) rfl) rfl dJx35411_next_0502b_29 ?_
  refine q_get (pc := 32) C 1 rfl rfl n_Jx35411_next_0502b_Jx4a65c 1 (by decide) (List.mem_of_getElem? (i := 3) rfl) rfl dJx35411_next_0502b_32 ?_
  refine q_astore_n (pc := 35) (lvq := [(2, .ref ev), (1, .int cur), (0, .ref it)]) C dJx35411_next_0502b_35 rfl (by decide) rfl ?_
  refine q_iload_n (pc := 36) C dJx35411_next_0502b_36 rfl 1 rfl ?_
  refine q_aload_n (pc := 37) C dJx35411_next_0502b_37 rfl 0 rfl ?_
  refine q_alen (pc := 38) C 2 2 rfl rfl (v := nI cap) rfl dJx35411_next_0502b_38 ?_
  refine q_icmp_lt (pc := 39) (tgt := 50) C dJx35411_next_0502b_39 (by decide) (fun c2 => ?_) (fun c2 => absurd h2 c2)
  refine q_aload_n (pc := 50) C dJx35411_next_0502b_50 rfl 2 rfl ?_
  refine q_iload_n (pc := 51) C dJx35411_next_0502b_51 rfl 1 rfl ?_
  refine q_iconst (pc := 52) C (1 : Int32) dJx35411_next_0502b_52 q_ci_1 ?_
  refine q_iadd (pc := 53) C dJx35411_next_0502b_53 ?_
  refine q_put (pc := 54) C 0 rfl rfl n_Jx35411_next_0502b_Jx35411 tyJx35411 tyJx35411_ok nmJx35411 0 (by decide) (List.mem_of_getElem? (i := 1) rfl) rfl rfl rfl (Nat.le_of_ble_eq_true rfl) dJx35411_next_0502b_54 (ws1 := ((it, q_it (cur + 1) last mo a) :: (a, q_al mo ev n) :: (ev, q_ar cc cap el) :: E)) rfl ?_
  refine q_aload_n (pc := 57) C dJx35411_next_0502b_57 rfl 0 rfl ?_
  refine q_aload_n (pc := 58) C dJx35411_next_0502b_58 rfl 2 rfl ?_
  refine q_iload_n (pc := 59) C dJx35411_next_0502b_59 rfl 1 rfl ?_
  refine q_dup_x1 (pc := 60) C dJx35411_next_0502b_60 rfl rfl ?_
  refine q_put (pc := 61) C 0 rfl rfl n_Jx35411_next_0502b_Jx35411 tyJx35411 tyJx35411_ok nmJx35411 1 (by decide) (List.mem_of_getElem? (i := 4) rfl) rfl rfl rfl (Nat.le_of_ble_eq_true rfl) dJx35411_next_0502b_61 (ws1 := ((it, q_it (cur + 1) cur mo a) :: (a, q_al mo ev n) :: (ev, q_ar cc cap el) :: E)) rfl ?_
  refine q_aald (pc := 64) C 2 rfl hin hy dJx35411_next_0502b_64 ?_
  exact q_aret (pc := 65) C (Or.inl ⟨_, rfl⟩) (Or.inr ⟨_, rfl⟩) dJx35411_next_0502b_65 ⟨rfl, rfl⟩
theorem z_Jxa1e45_init_da8c8 : q_dsc yJxa1e45_init_da8c8 0 := ⟨by decide +kernel, by decide +kernel, by decide +kernel⟩
set_option maxRecDepth 100000 in
set_option maxHeartbeats 4000000 in
theorem c_ac_init (l : Launch) (D : va_G) (cc : Nat → ClassId) (N0 : Nat) (E : va_W) (a : Nat) : q_Met l yJxa1e45_init_da8c8 wsJxa1e45_init_da8c8 1 20 D cc N0 E [.ref a] (q_p none E) 0 0 := by
  refine q_ofW (code := cJxa1e45_init_da8c8) (nL := 1) (ret := none) (by decide +kernel) rfl (Nat.le_of_ble_eq_true rfl) (fun p e s m below meth c C hini => ?_)
  refine q_lv (lv2 := [(0, .ref a)]) rfl ?_
  refine q_aload_n (pc := 0) C dJxa1e45_init_da8c8_0 rfl 0 rfl ?_
  refine q_objInit (pc := 1) C (List.mem_of_getElem? (i := 1) rfl) (List.mem_of_getElem? (i := 2) rfl) (List.mem_of_getElem? (i := 3) rfl) dJxa1e45_init_da8c8_1 (Nat.le_of_ble_eq_true rfl) (Nat.le_of_ble_eq_true rfl) ?_
  exact q_vret (pc := 4) C dJxa1e45_init_da8c8_4 ⟨rfl, rfl⟩
theorem n_Jxc12de_init_da8c8_Jx4a65c : ∀ w ∈ wsJx4a65c0, w ∈ wsJxc12de_init_da8c8 := fun _ h => (List.mem_cons_of_mem _ (List.mem_append_right _ h))
theorem z_Jxc12de_init_da8c8 : q_dsc yJxc12de_init_da8c8 0 := ⟨by decide +kernel, by decide +kernel, by decide +kernel⟩
set_option maxRecDepth 100000 in
set_option maxHeartbeats 4000000 in
theorem c_abl_init (l : Launch) (D : va_G) (cc : Nat → ClassId) (N0 : Nat) (E : va_W) (a : Nat) : q_Met l yJxc12de_init_da8c8 wsJxc12de_init_da8c8 2 40 D cc N0 ((a, .inr (2, [.int 0, .null, .int 0])) :: E) [.ref a] (q_p none ((a, .inr (2, [.int 0, .null, .int 0])) :: E)) 0 0 := by
  refine q_ofW (code := cJxc12de_init_da8c8) (nL := 1) (ret := none) (by decide +kernel) rfl (Nat.le_of_ble_eq_true rfl) (fun p e s m below meth c C hini => ?_)
  refine q_lv (lv2 := [(0, .ref a)]) rfl ?_
  refine q_aload_n (pc := 0) C dJxc12de_init_da8c8_0 rfl 0 rfl ?_
  refine q_callI (pc := 1) (As := []) (rest := []) C (c_ac_init l D cc N0 ((a, .inr (2, [.int 0, .null, .int 0])) :: E) a) gJxc12de_init_da8c8_Jxa1e45_init_da8c8 rfl (List.mem_of_getElem? (i := 2) rfl) (List.mem_of_getElem? (i := 4) rfl) (List.mem_of_getElem? (i := 3) rfl) rfl z_Jxa1e45_init_da8c8 ⟨(Nat.le_of_ble_eq_true rfl), (Nat.le_of_ble_eq_true rfl)⟩ rfl rfl (Nat.le_of_ble_eq_true rfl) dJxc12de_init_da8c8_1 ⟨(Nat.le_of_ble_eq_true rfl), (Nat.le_of_ble_eq_true rfl)⟩ ?_
  rintro _ _ ⟨rfl, rfl⟩
  refine q_nm (wz := ((a, .inr (2, [.int 0, .null, .int 0])) :: E)) (ka := 0) (kb := 0) (sz := []) rfl rfl rfl rfl ?_
  refine q_aload_n (pc := 4) C dJxc12de_init_da8c8_4 rfl 0 rfl ?_
  refine q_iconst (pc := 5) C (0 : Int32) dJxc12de_init_da8c8_5 q_ci_0 ?_
  refine q_put (pc := 6) C 0 rfl rfl n_Jxc12de_init_da8c8_Jx4a65c tyJx4a65c tyJx4a65c_ok nmJx4a65c 0 (by decide) (List.mem_of_getElem? (i := 1) rfl) rfl rfl rfl (Nat.le_of_ble_eq_true rfl) dJxc12de_init_da8c8_6 (ws1 := ((a, .inr (2, [.int 0, .null, .int 0])) :: E)) rfl ?_
  exact q_vret (pc := 9) C dJxc12de_init_da8c8_9 ⟨rfl, rfl⟩
theorem n_Jx4a65c_init_da8c8_Jx4a65c : ∀ w ∈ wsJx4a65c0, w ∈ wsJx4a65c_init_da8c8 := fun _ h => (List.mem_cons_of_mem _ (List.mem_append_right _ h))
theorem z_Jx4a65c_init_da8c8 : q_dsc yJx4a65c_init_da8c8 0 := ⟨by decide +kernel, by decide +kernel, by decide +kernel⟩
set_option maxRecDepth 100000 in
set_option maxHeartbeats 4000000 in
theorem c_al_init (l : Launch) (D : va_G) (cc : Nat → ClassId) (N0 : Nat) (E : va_W) (a : Nat) : q_Met l yJx4a65c_init_da8c8 wsJx4a65c_init_da8c8 3 60 D cc N0 ((a, .inr (2, [.int 0, .null, .int 0])) :: E) [.ref a] (q_p none ((a, q_al 0 (cc 8) 0) :: E)) 0 0 := by
  refine q_ofW (code := cJx4a65c_init_da8c8) (nL := 1) (ret := none) (by decide +kernel) rfl (Nat.le_of_ble_eq_true rfl) (fun p e s m below meth c C hini => ?_)
  refine q_lv (lv2 := [(0, .ref a)]) rfl ?_
  refine q_aload_n (pc := 0) C dJx4a65c_init_da8c8_0 rfl 0 rfl ?_
  refine q_callI (pc := 1) (As := []) (rest := []) C (c_abl_init l D cc N0 E a) gJx4a65c_init_da8c8_Jxc12de_init_da8c8 rfl (List.mem_of_getElem? (i := 3) rfl) (List.mem_of_getElem? (i := 5) rfl) (List.mem_of_getElem? (i := 4) rfl) rfl z_Jxc12de_init_da8c8 ⟨(Nat.le_of_ble_eq_true rfl), (Nat.le_of_ble_eq_true rfl)⟩ rfl rfl (Nat.le_of_ble_eq_true rfl) dJx4a65c_init_da8c8_1 ⟨(Nat.le_of_ble_eq_true rfl), (Nat.le_of_ble_eq_true rfl)⟩ ?_
  rintro _ _ ⟨rfl, rfl⟩
  refine q_nm (wz := ((a, .inr (2, [.int 0, .null, .int 0])) :: E)) (ka := 0) (kb := 0) (sz := []) rfl rfl rfl rfl ?_
  refine q_aload_n (pc := 4) C dJx4a65c_init_da8c8_4 rfl 0 rfl ?_
  refine q_gets (pc := 5) C C.2.2.2.2.2.2.2.2.2.2.1 (List.mem_of_getElem? (i := 1) rfl) dJx4a65c_init_da8c8_5 ?_
  refine q_put (pc := 8) C 0 rfl rfl n_Jx4a65c_init_da8c8_Jx4a65c tyJx4a65c tyJx4a65c_ok nmJx4a65c 1 (by decide) (List.mem_of_getElem? (i := 2) rfl) rfl rfl rfl (Nat.le_of_ble_eq_true rfl) dJx4a65c_init_da8c8_8 (ws1 := ((a, q_al 0 (cc 8) 0) :: E)) rfl ?_
  exact q_vret (pc := 11) C dJx4a65c_init_da8c8_11 ⟨rfl, rfl⟩
theorem n_Jx4a65c_clear_da8c8_Jx4a65c : ∀ w ∈ wsJx4a65c0, w ∈ wsJx4a65c_clear_da8c8 := fun _ h => (List.mem_cons_of_mem _ (List.mem_append_right _ h))
theorem z_Jx4a65c_clear_da8c8 : q_dsc yJx4a65c_clear_da8c8 0 := ⟨by decide +kernel, by decide +kernel, by decide +kernel⟩
set_option maxRecDepth 100000 in
set_option maxHeartbeats 4000000 in
theorem c_al_clear0 (l : Launch) (D : va_G) (cc : Nat → ClassId) (N0 : Nat) (E : va_W) (a ev : Nat) (mo n : Int32) (hn : n = 0) : q_Met l yJx4a65c_clear_da8c8 wsJx4a65c_clear_da8c8 0 0 D cc N0 ((a, q_al mo ev n) :: E) [.ref a] (q_p none ((a, q_al (mo + 1) ev 0) :: E)) 0 0 := by
  refine q_ofW (code := cJx4a65c_clear_da8c8) (nL := 4) (ret := none) (by decide +kernel) rfl (Nat.le_of_ble_eq_true rfl) (fun p e s m below meth c C hini => ?_)
  refine q_lv (lv2 := [(0, .ref a)]) rfl ?_
  obtain rfl := hn
  refine q_aload_n (pc := 0) C dJx4a65c_clear_da8c8_0 rfl 0 rfl ?_
  refine q_dup (pc := 1) C dJx4a65c_clear_da8c8_1 rfl ?_
  refine q_getS (pc := 2) C 0 rfl rfl n_Jx4a65c_clear_da8c8_Jx4a65c 0 (by decide) (List.mem_of_getElem? (i := 1) rfl) (List.mem_of_getElem? (i := 2) rfl) rfl dJx4a65c_clear_da8c8_2 ?_
  refine q_iconst (pc := 5) C (1 : Int32) dJx4a65c_clear_da8c8_5 q_ci_1 ?_
  refine q_iadd (pc := 6) C dJx4a65c_clear_da8c8_6 ?_
  refine q_putS (pc := 7) C 0 rfl rfl n_Jx4a65c_clear_da8c8_Jx4a65c tyJx4a65c tyJx4a65c_ok nmJx4a65c 0 (by decide) (List.mem_of_getElem? (i := 1) rfl) (List.mem_of_getElem? (i := 2) rfl) rfl rfl rfl (Nat.le_of_ble_eq_true rfl) dJx4a65c_clear_da8c8_7 (ws1 := ((a, q_al (mo + 1) ev 0) :: E)) rfl ?_
  refine q_aload_n (pc := 10) C dJx4a65c_clear_da8c8_10 rfl 0 rfl ?_
  refine q_get (pc := 11) C 0 rfl rfl n_Jx4a65c_clear_da8c8_Jx4a65c 1 (by decide) (List.mem_of_getElem? (i := 3) rfl) rfl dJx4a65c_clear_da8c8_11 ?_
  refine q_astore_n (pc := 14) (lvq := [(1, .ref ev), (0, .ref a)]) C dJx4a65c_clear_da8c8_14 rfl (by decide) rfl ?_
  refine q_aload_n (pc := 15) C dJx4a65c_clear_da8c8_15 rfl 1 rfl ?_
  refine q_get (pc := 16) C 0 rfl rfl n_Jx4a65c_clear_da8c8_Jx4a65c 2 (by decide) (List.mem_of_getElem? (i := 4) rfl) rfl dJx4a65c_clear_da8c8_16 ?_
  refine q_istore_n (pc := 19) (lvq := [(2, .int 0), (1, .ref ev), (0, .ref a)]) C dJx4a65c_clear_da8c8_19 rfl (by decide) rfl ?_
  refine q_aload_n (pc := 20) C dJx4a65c_clear_da8c8_20 rfl 2 rfl ?_
  refine q_iconst (pc := 21) C (0 : Int32) dJx4a65c_clear_da8c8_21 q_ci_0 ?_
  refine q_dup_x1 (pc := 22) C dJx4a65c_clear_da8c8_22 rfl rfl ?_
  refine q_put (pc := 23) C 0 rfl rfl n_Jx4a65c_clear_da8c8_Jx4a65c tyJx4a65c tyJx4a65c_ok nmJx4a65c 2 (by decide) (List.mem_of_getElem? (i := 4) rfl) rfl rfl rfl (Nat.le_of_ble_eq_true rfl) dJx4a65c_clear_da8c8_23 (ws1 := ((a, q_al (mo + 1) ev 0) :: E)) rfl ?_
  refine q_istore_n (pc := 26) (lvq := [(3, .int 0), (2, .int 0), (1, .ref ev), (0, .ref a)]) C dJx4a65c_clear_da8c8_26 rfl (by decide) rfl ?_
  refine q_iload_n (pc := 27) C dJx4a65c_clear_da8c8_27 rfl 0 rfl ?_
  refine q_iload_n (pc := 28) C dJx4a65c_clear_da8c8_28 rfl 1 rfl ?_
  refine q_icmp_ge (pc := 29) (tgt := 42) C dJx4a65c_clear_da8c8_29 (by decide) (fun c1 => ?_) (fun c1 => absurd (Int32.le_refl 0) c1)
  exact q_vret (pc := 42) C dJx4a65c_clear_da8c8_42 ⟨rfl, rfl⟩
theorem q_in_nI {i n : Nat} (h : i < n) (hn : n < 2 ^ 31) : q_in (nI i) n := ⟨nI_pos (by omega), by rw [nI_clamp (by omega)]; exact h⟩
set_option maxHeartbeats 4000000 in
theorem c_al_clearL {p : Program} {l : Launch} {e : Env} {s : State} {m : MethodId} {args : Array Value} {below : List Frame} {meth : Method} {c : Code} {D : va_G} {cc : Nat → ClassId} {N0 : Nat} {E : va_W} {a ev cap : Nat} {mo : Int32} {k : Nat} (hk : k ≤ cap) (hcap : cap < 2 ^ 31) (C : q_C p s m args meth c cJx4a65c_clear_da8c8 4 none wsJx4a65c_clear_da8c8 RJx4a65c D cc N0) : ∀ (r i : Nat) (el : Nat → Option Nat), i + r = k →
    q_WA p l e (q_rm 0 0 0 0) s m args below meth c D N0 4 (MQ below (q_Q D N0 (fun rv w1 => rv = none ∧ ∃ el' : Nat → Option Nat, w1 = (a, q_al mo ev 0) :: (ev, q_ar cc cap el') :: E)) args s 0 0 (q_A N0)) 0 0 ((a, q_al mo ev 0) :: (ev, q_ar cc cap el) :: E) 27 [(3, .int (nI i)), (2, .int (nI k)), (1, .ref ev), (0, .ref a)] [] := by
  intro r
  induction r with
  | zero =>
    intro i el hi
    refine q_iload_n (pc := 27) C dJx4a65c_clear_da8c8_27 rfl 0 rfl ?_
    refine q_iload_n (pc := 28) C dJx4a65c_clear_da8c8_28 rfl 1 rfl ?_
    refine q_icmp_ge (pc := 29) (tgt := 42) C dJx4a65c_clear_da8c8_29 (by decide) (fun c1 => ?_) (fun c1 => absurd (nI_le (by omega) (by omega)) c1)
    exact q_vret (pc := 42) C dJx4a65c_clear_da8c8_42 ⟨rfl, el, rfl⟩
  | succ r ih =>
    intro i el hi
    refine q_iload_n (pc := 27) C dJx4a65c_clear_da8c8_27 rfl 0 rfl ?_
    refine q_iload_n (pc := 28) C dJx4a65c_clear_da8c8_28 rfl 1 rfl ?_
    refine q_icmp_ge (pc := 29) (tgt := 42) C dJx4a65c_clear_da8c8_29 (by decide) (fun c1 => absurd c1 (nI_ge (by omega) (by omega))) (fun c1 => ?_)
    refine q_aload_n (pc := 32) C dJx4a65c_clear_da8c8_32 rfl 2 rfl ?_
    refine q_iload_n (pc := 33) C dJx4a65c_clear_da8c8_33 rfl 0 rfl ?_
    refine q_null (pc := 34) C dJx4a65c_clear_da8c8_34 ?_
    refine q_aastN (pc := 35) C 1 rfl (q_in_nI (show i < cap by omega) hcap) dJx4a65c_clear_da8c8_35 (ws1 := (a, q_al mo ev 0) :: (ev, q_ar cc cap (va_up el (nI i).toNatClampNeg none)) :: E) rfl ?_
    refine q_iinc (pc := 36) (lvq := [(3, .int (nI (i + 1))), (2, .int (nI k)), (1, .ref ev), (0, .ref a)]) C (nI (i + 1)) dJx4a65c_clear_da8c8_36 0 rfl (q_ca_1.trans (nI_1 i)) (by decide) rfl ?_
    refine q_goto (pc := 39) (tgt := 27) C dJx4a65c_clear_da8c8_39 (by decide) ?_
    exact ih (i + 1) _ (by omega)
set_option maxRecDepth 100000 in
set_option maxHeartbeats 4000000 in
theorem c_al_clear (l : Launch) (D : va_G) (cc : Nat → ClassId) (N0 : Nat) (E : va_W) (a ev cap k : Nat) (mo : Int32) (el : Nat → Option Nat) (hk : k ≤ cap) (hcap : cap < 2 ^ 31) : q_Met l yJx4a65c_clear_da8c8 wsJx4a65c_clear_da8c8 0 0 D cc N0 ((a, q_al mo ev (nI k)) :: (ev, q_ar cc cap el) :: E) [.ref a] (fun rv w1 => rv = none ∧ ∃ el' : Nat → Option Nat, w1 = (a, q_al (mo + 1) ev 0) :: (ev, q_ar cc cap el') :: E) 0 0 := by
  refine q_ofW (code := cJx4a65c_clear_da8c8) (nL := 4) (ret := none) (by decide +kernel) rfl (Nat.le_of_ble_eq_true rfl) (fun p e s m below meth c C hini => ?_)
  refine q_lv (lv2 := [(0, .ref a)]) rfl ?_
  refine q_aload_n (pc := 0) C dJx4a65c_clear_da8c8_0 rfl 0 rfl ?_
  refine q_dup (pc := 1) C dJx4a65c_clear_da8c8_1 rfl ?_
  refine q_getS (pc := 2) C 0 rfl rfl n_Jx4a65c_clear_da8c8_Jx4a65c 0 (by decide) (List.mem_of_getElem? (i := 1) rfl) (List.mem_of_getElem? (i := 2) rfl) rfl dJx4a65c_clear_da8c8_2 ?_
  refine q_iconst (pc := 5) C (1 : Int32) dJx4a65c_clear_da8c8_5 q_ci_1 ?_
  refine q_iadd (pc := 6) C dJx4a65c_clear_da8c8_6 ?_
  refine q_putS (pc := 7) C 0 rfl rfl n_Jx4a65c_clear_da8c8_Jx4a65c tyJx4a65c tyJx4a65c_ok nmJx4a65c 0 (by decide) (List.mem_of_getElem? (i := 1) rfl) (List.mem_of_getElem? (i := 2) rfl) rfl rfl rfl (Nat.le_of_ble_eq_true rfl) dJx4a65c_clear_da8c8_7 (ws1 := ((a, q_al (mo + 1) ev (nI k)) :: (ev, q_ar cc cap el) :: E)) rfl ?_
  refine q_aload_n (pc := 10) C dJx4a65c_clear_da8c8_10 rfl 0 rfl ?_
  refine q_get (pc := 11) C 0 rfl rfl n_Jx4a65c_clear_da8c8_Jx4a65c 1 (by decide) (List.mem_of_getElem? (i := 3) rfl) rfl dJx4a65c_clear_da8c8_11 ?_
  refine q_astore_n (pc := 14) (lvq := [(1, .ref ev), (0, .ref a)]) C dJx4a65c_clear_da8c8_14 rfl (by decide) rfl ?_
  refine q_aload_n (pc := 15) C dJx4a65c_clear_da8c8_15 rfl 1 rfl ?_
  refine q_get (pc := 16) C 0 rfl rfl n_Jx4a65c_clear_da8c8_Jx4a65c 2 (by decide) (List.mem_of_getElem? (i := 4) rfl) rfl dJx4a65c_clear_da8c8_16 ?_
  refine q_istore_n (pc := 19) (lvq := [(2, .int (nI k)), (1, .ref ev), (0, .ref a)]) C dJx4a65c_clear_da8c8_19 rfl (by decide) rfl ?_
  refine q_aload_n (pc := 20) C dJx4a65c_clear_da8c8_20 rfl 2 rfl ?_
  refine q_iconst (pc := 21) C (0 : Int32) dJx4a65c_clear_da8c8_21 q_ci_0 ?_
  refine q_dup_x1 (pc := 22) C dJx4a65c_clear_da8c8_22 rfl rfl ?_
  refine q_put (pc := 23) C 0 rfl rfl n_Jx4a65c_clear_da8c8_Jx4a65c tyJx4a65c tyJx4a65c_ok nmJx4a65c 2 (by decide) (List.mem_of_getElem? (i := 4) rfl) rfl rfl rfl (Nat.le_of_ble_eq_true rfl) dJx4a65c_clear_da8c8_23 (ws1 := ((a, q_al (mo + 1) ev 0) :: (ev, q_ar cc cap el) :: E)) rfl ?_
  refine q_istore_n (pc := 26) (lvq := [(3, .int 0), (2, .int (nI k)), (1, .ref ev), (0, .ref a)]) C dJx4a65c_clear_da8c8_26 rfl (by decide) rfl ?_
  exact c_al_clearL hk hcap C k 0 el (by omega)
theorem z_J8_newLength_cabcc : q_dsc yJ8_newLength_cabcc 3 := ⟨by decide +kernel, by decide +kernel, by decide +kernel⟩
set_option maxRecDepth 100000 in
set_option maxHeartbeats 4000000 in
theorem c_newLen (l : Launch) (D : va_G) (cc : Nat → ClassId) (N0 : Nat) (E : va_W) (o mi pr : Int32) (h0 : ¬ (o + q_max mi pr) ≤ 0) (h1 : ¬ (2147483639 : Int32) < (o + q_max mi pr)) : q_Met l yJ8_newLength_cabcc wsJ8_newLength_cabcc 1 21 D cc N0 E [.int o, .int mi, .int pr] (q_p (some (.int (o + q_max mi pr))) E) 0 0 := by
  refine q_ofW (code := cJ8_newLength_cabcc) (nL := 4) (ret := (some .int)) (by decide +kernel) rfl (Nat.le_of_ble_eq_true rfl) (fun p e s m below meth c C hini => ?_)
  refine q_lv (lv2 := [(0, .int o), (1, .int mi), (2, .int pr)]) rfl ?_
  refine q_iload_n (pc := 0) C dJ8_newLength_cabcc_0 rfl 0 rfl ?_
  refine q_iload_n (pc := 1) C dJ8_newLength_cabcc_1 rfl 1 rfl ?_
  refine q_iload_n (pc := 2) C dJ8_newLength_cabcc_2 rfl 2 rfl ?_
  refine q_mmax (pc := 3) C (List.mem_of_getElem? (i := 1) rfl) (List.mem_of_getElem? (i := 2) rfl) (List.mem_of_getElem? (i := 3) rfl) (List.mem_of_getElem? (i := 4) rfl) (Nat.le_of_ble_eq_true rfl) (Nat.le_of_ble_eq_true rfl) ⟨(Nat.le_of_ble_eq_true rfl), (Nat.le_of_ble_eq_true rfl)⟩ dJ8_newLength_cabcc_3 ?_
  refine q_iadd (pc := 6) C dJ8_newLength_cabcc_6 ?_
  refine q_istore_n (pc := 7) (lvq := [(3, .int (o + q_max mi pr)), (0, .int o), (1, .int mi), (2, .int pr)]) C dJ8_newLength_cabcc_7 rfl (by decide) rfl ?_
  refine q_iconst (pc := 8) C (0 : Int32) dJ8_newLength_cabcc_8 q_ci_0 ?_
  refine q_iload_n (pc := 9) C dJ8_newLength_cabcc_9 rfl 0 rfl ?_
  refine q_icmp_ge (pc := 10) (tgt := 21) C dJ8_newLength_cabcc_10 (by decide) (fun c1 => absurd c1 h0) (fun c1 => ?_)
  refine q_iload_n (pc := 13) C dJ8_newLength_cabcc_13 rfl 0 rfl ?_
  refine q_ldc (pc := 14) (v := (2147483639 : Int32)) C (List.mem_of_getElem? (i := 5) rfl) dJ8_newLength_cabcc_14 ?_
  refine q_icmp_gt (pc := 16) (tgt := 21) C dJ8_newLength_cabcc_16 (by decide) (fun c2 => absurd c2 h1) (fun c2 => ?_)
  refine q_iload_n (pc := 19) C dJ8_newLength_cabcc_19 rfl 0 rfl ?_
  exact q_iret (pc := 20) C dJ8_newLength_cabcc_20 ⟨rfl, rfl⟩
theorem z_J7_copyOf_6403c : q_dsc yJ7_copyOf_6403c 3 := ⟨by decide +kernel, by decide +kernel, by decide +kernel⟩
set_option maxRecDepth 100000 in
set_option maxHeartbeats 4000000 in
theorem c_copy3 (l : Launch) (D : va_G) (cc : Nat → ClassId) (N0 : Nat) (E : va_W) (ev cap N : Nat) (el : Nat → Option Nat) (hN : cap ≤ N) (hN2 : N ≤ 1000) (hel : ∀ i : Nat, i < cap → ∀ y : Nat, el i = some y → q_Any D cc N0 ((ev, q_ar cc cap el) :: E) y) : q_Met l yJ7_copyOf_6403c wsJ7_copyOf_6403c 1 70 D cc N0 ((ev, q_ar cc cap el) :: E) [.ref ev, .int (nI N), .ref (cc 9)] (fun rv w1 => ∃ q : Nat, rv = some (.ref q) ∧ w1 = ((q, q_ar cc N (va_cpy el (fun _ => none) 0 0 cap)) :: (ev, q_ar cc cap el) :: E)) 1 N := by
  refine q_ofW (code := cJ7_copyOf_6403c) (nL := 4) (ret := (some (.array (.object "java/lang/Object")))) (by decide +kernel) rfl (Nat.le_of_ble_eq_true rfl) (fun p e s m below meth c C hini => ?_)
  refine q_lv (lv2 := [(0, .ref ev), (1, .int (nI N)), (2, .ref (cc 9))]) rfl ?_
  refine q_aload_n (pc := 0) C dJ7_copyOf_6403c_0 rfl 2 rfl ?_
  refine q_ldcM (pc := 1) C (List.mem_of_getElem? (i := 1) rfl) dJ7_copyOf_6403c_1 ?_
  refine q_acmp_ne (pc := 3) (tgt := 13) C dJ7_copyOf_6403c_3 (by decide) (fun c1 => absurd rfl c1) (fun c1 => ?_)
  refine q_iload_n (pc := 6) C dJ7_copyOf_6403c_6 rfl 1 rfl ?_
  refine q_anew (pc := 7) C (List.mem_of_getElem? (i := 2) rfl) (nI_pos (by omega)) (N' := N) (nI_clamp (by omega)) (by omega) (by show 0 + 1 ≤ 1; omega) (by show 0 + N ≤ N; omega) dJ7_copyOf_6403c_7 (fun q => ?_)
  refine q_nm (wz := ((q, q_ar cc N (fun _ => none)) :: (ev, q_ar cc cap el) :: E)) (ka := 1) (kb := N) (sz := [.ref q]) rfl rfl (Nat.zero_add N) rfl ?_
  refine q_goto (pc := 10) (tgt := 24) C dJ7_copyOf_6403c_10 (by decide) ?_
  refine q_astore_n (pc := 24) (lvq := [(3, .ref q), (0, .ref ev), (1, .int (nI N)), (2, .ref (cc 9))]) C dJ7_copyOf_6403c_24 rfl (by decide) rfl ?_
  refine q_aload_n (pc := 25) C dJ7_copyOf_6403c_25 rfl 1 rfl ?_
  refine q_iconst (pc := 26) C (0 : Int32) dJ7_copyOf_6403c_26 q_ci_0 ?_
  refine q_aload_n (pc := 27) C dJ7_copyOf_6403c_27 rfl 0 rfl ?_
  refine q_iconst (pc := 28) C (0 : Int32) dJ7_copyOf_6403c_28 q_ci_0 ?_
  refine q_aload_n (pc := 29) C dJ7_copyOf_6403c_29 rfl 1 rfl ?_
  refine q_alen (pc := 30) C 1 2 rfl rfl (v := nI cap) rfl dJ7_copyOf_6403c_30 ?_
  refine q_iload_n (pc := 31) C dJ7_copyOf_6403c_31 rfl 2 rfl ?_
  refine q_mmin (pc := 32) C (List.mem_of_getElem? (i := 3) rfl) (List.mem_of_getElem? (i := 4) rfl) (List.mem_of_getElem? (i := 5) rfl) (List.mem_of_getElem? (i := 6) rfl) (Nat.le_of_ble_eq_true rfl) (Nat.le_of_ble_eq_true rfl) ⟨Nat.le_refl _, Nat.le_refl _⟩ dJ7_copyOf_6403c_32 ?_
  have hmin : q_min (nI cap) (nI N) = nI cap := if_neg (nI_nlt hN (by omega))
  rw [hmin]
  have hcl : (nI cap).toNatClampNeg = cap := nI_clamp (by omega)
  refine q_copy (pc := 35) C (List.mem_of_getElem? (i := 7) rfl) (List.mem_of_getElem? (i := 8) rfl) (List.mem_of_getElem? (i := 9) rfl) (List.mem_of_getElem? (i := 10) rfl) 1 0 rfl rfl (nI_pos (by omega)) (by omega) (by omega) (fun i hi y hy => (hel i (by omega) y hy).mono (fun x hx => List.mem_cons_of_mem _ hx)) (by show 1 ≤ 1; omega) (by show _ ≤ 70; decide +kernel) dJ7_copyOf_6403c_35 (ws1 := ((q, q_ar cc N (va_cpy el (fun _ => none) 0 0 cap)) :: (ev, q_ar cc cap el) :: E)) (by rw [hcl]; rfl) ?_
  refine q_aload_n (pc := 38) C dJ7_copyOf_6403c_38 rfl 0 rfl ?_
  exact q_aret (pc := 39) C (Or.inr ⟨_, rfl⟩) (Or.inr ⟨_, rfl⟩) dJ7_copyOf_6403c_39 ⟨q, rfl, rfl⟩
theorem z_J7_copyOf_1904c : q_dsc yJ7_copyOf_1904c 2 := ⟨by decide +kernel, by decide +kernel, by decide +kernel⟩
set_option maxRecDepth 100000 in
set_option maxHeartbeats 4000000 in
theorem c_copy2 (l : Launch) (D : va_G) (cc : Nat → ClassId) (N0 : Nat) (E : va_W) (ev cap N : Nat) (el : Nat → Option Nat) (hN : cap ≤ N) (hN2 : N ≤ 1000) (hel : ∀ i : Nat, i < cap → ∀ y : Nat, el i = some y → q_Any D cc N0 ((ev, q_ar cc cap el) :: E) y) : q_Met l yJ7_copyOf_1904c wsJ7_copyOf_1904c 2 93 D cc N0 ((ev, q_ar cc cap el) :: E) [.ref ev, .int (nI N)] (fun rv w1 => ∃ q : Nat, rv = some (.ref q) ∧ w1 = ((q, q_ar cc N (va_cpy el (fun _ => none) 0 0 cap)) :: (ev, q_ar cc cap el) :: E)) 1 N := by
  refine q_ofW (code := cJ7_copyOf_1904c) (nL := 2) (ret := (some (.array (.object "java/lang/Object")))) (by decide +kernel) rfl (Nat.le_of_ble_eq_true rfl) (fun p e s m below meth c C hini => ?_)
  refine q_lv (lv2 := [(0, .ref ev), (1, .int (nI N))]) rfl ?_
  refine q_aload_n (pc := 0) C dJ7_copyOf_1904c_0 rfl 0 rfl ?_
  refine q_iload_n (pc := 1) C dJ7_copyOf_1904c_1 rfl 1 rfl ?_
  refine q_aload_n (pc := 2) C dJ7_copyOf_1904c_2 rfl 0 rfl ?_
  refine q_getC (pc := 3) (q0 := 0) C (List.mem_of_getElem? (i := 1) rfl) (List.mem_of_getElem? (i := 2) rfl) (List.mem_of_getElem? (i := 3) rfl) (List.mem_of_getElem? (i := 4) rfl) rfl (Nat.le_of_ble_eq_true rfl) (Nat.le_of_ble_eq_true rfl) dJ7_copyOf_1904c_3 ?_
  refine q_callS (pc := 6) (As := [.ref ev, .int (nI N), .ref (cc 9)]) (rest := []) C (c_copy3 l D cc N0 E ev cap N el hN hN2 hel) gJ7_copyOf_1904c_J7_copyOf_6403c rfl z_J7_copyOf_6403c ⟨(Nat.le_of_ble_eq_true rfl), (Nat.le_of_ble_eq_true rfl)⟩ rfl rfl (Nat.le_of_ble_eq_true rfl) dJ7_copyOf_1904c_6 ⟨by show 0 + 1 ≤ 1; omega, by show 0 + N ≤ N; omega⟩ ?_
  rintro _ _ ⟨q, rfl, rfl⟩
  refine q_nm (wz := ((q, q_ar cc N (va_cpy el (fun _ => none) 0 0 cap)) :: (ev, q_ar cc cap el) :: E)) (ka := 1) (kb := N) (sz := [.ref q]) rfl rfl (Nat.zero_add N) rfl ?_
  exact q_aret (pc := 9) C (Or.inr ⟨_, rfl⟩) (Or.inr ⟨_, rfl⟩) dJ7_copyOf_1904c_9 ⟨q, rfl, rfl⟩
theorem n_Jx4a65c_grow_92f84_Jx4a65c : ∀ w ∈ wsJx4a65c0, w ∈ wsJx4a65c_grow_92f84 := fun _ h => (List.mem_cons_of_mem _ (List.mem_append_right _ h))
theorem z_Jx4a65c_grow_92f84 : q_dsc yJx4a65c_grow_92f84 1 := ⟨by decide +kernel, by decide +kernel, by decide +kernel⟩
set_option maxRecDepth 100000 in
set_option maxHeartbeats 4000000 in
theorem c_grow0 (l : Launch) (D : va_G) (cc : Nat → ClassId) (N0 : Nat) (E : va_W) (a : Nat) (mo n mi : Int32) (hmi : q_max 10 mi = 10) : q_Met l yJx4a65c_grow_92f84 wsJx4a65c_grow_92f84 1 21 D cc N0 ((a, q_al mo (cc 8) n) :: E) [.ref a, .int mi] (fun rv w1 => ∃ q : Nat, rv = some (.ref q) ∧ w1 = ((q, q_ar cc 10 (fun _ => none)) :: (a, q_al mo q n) :: E)) 1 10 := by
  refine q_ofW (code := cJx4a65c_grow_92f84) (nL := 4) (ret := (some (.array (.object "java/lang/Object")))) (by decide +kernel) rfl (Nat.le_of_ble_eq_true rfl) (fun p e s m below meth c C hini => ?_)
  refine q_lv (lv2 := [(0, .ref a), (1, .int mi)]) rfl ?_
  refine q_aload_n (pc := 0) C dJx4a65c_grow_92f84_0 rfl 0 rfl ?_
  refine q_get (pc := 1) C 0 rfl rfl n_Jx4a65c_grow_92f84_Jx4a65c 1 (by decide) (List.mem_of_getElem? (i := 1) rfl) rfl dJx4a65c_grow_92f84_1 ?_
  refine q_tlen (pc := 4) C C.2.2.2.2.2.2.2.2.2.2.2.1 (v := 0) rfl dJx4a65c_grow_92f84_4 ?_
  refine q_istore_n (pc := 5) (lvq := [(2, .int 0), (0, .ref a), (1, .int mi)]) C dJx4a65c_grow_92f84_5 rfl (by decide) rfl ?_
  refine q_iload_n (pc := 6) C dJx4a65c_grow_92f84_6 rfl 0 rfl ?_
  refine q_if_gt (pc := 7) (tgt := 20) C dJx4a65c_grow_92f84_7 (by decide) (fun c1 => absurd c1 (by decide)) (fun c1 => ?_)
  refine q_aload_n (pc := 10) C dJx4a65c_grow_92f84_10 rfl 1 rfl ?_
  refine q_get (pc := 11) C 0 rfl rfl n_Jx4a65c_grow_92f84_Jx4a65c 1 (by decide) (List.mem_of_getElem? (i := 1) rfl) rfl dJx4a65c_grow_92f84_11 ?_
  refine q_gets (pc := 14) C C.2.2.2.2.2.2.2.2.2.2.1 (List.mem_of_getElem? (i := 2) rfl) dJx4a65c_grow_92f84_14 ?_
  refine q_acmp_eq (pc := 17) (tgt := 45) C dJx4a65c_grow_92f84_17 (by decide) (fun c2 => ?_) (fun c2 => absurd rfl c2)
  refine q_aload_n (pc := 45) C dJx4a65c_grow_92f84_45 rfl 1 rfl ?_
  refine q_bipush (pc := 46) C (10 : Int32) dJx4a65c_grow_92f84_46 q_cb_10 ?_
  refine q_iload_n (pc := 48) C dJx4a65c_grow_92f84_48 rfl 2 rfl ?_
  refine q_mmax (pc := 49) C (List.mem_of_getElem? (i := 3) rfl) (List.mem_of_getElem? (i := 4) rfl) (List.mem_of_getElem? (i := 5) rfl) (List.mem_of_getElem? (i := 6) rfl) (Nat.le_of_ble_eq_true rfl) (Nat.le_of_ble_eq_true rfl) ⟨(Nat.le_of_ble_eq_true rfl), (Nat.le_of_ble_eq_true rfl)⟩ dJx4a65c_grow_92f84_49 ?_
  rw [hmi]
  refine q_anew (pc := 52) C (List.mem_of_getElem? (i := 7) rfl) (by decide) (N' := 10) (by decide) (by decide) (Nat.le_of_ble_eq_true rfl) (Nat.le_of_ble_eq_true rfl) dJx4a65c_grow_92f84_52 (fun q => ?_)
  refine q_nm (wz := ((q, q_ar cc 10 (fun _ => none)) :: (a, q_al mo (cc 8) n) :: E)) (ka := 1) (kb := 10) (sz := [.ref q, .ref a]) rfl rfl rfl rfl ?_
  refine q_dup_x1 (pc := 55) C dJx4a65c_grow_92f84_55 rfl rfl ?_
  refine q_put (pc := 56) C 1 rfl rfl n_Jx4a65c_grow_92f84_Jx4a65c tyJx4a65c tyJx4a65c_ok nmJx4a65c 1 (by decide) (List.mem_of_getElem? (i := 1) rfl) rfl rfl rfl (Nat.le_of_ble_eq_true rfl) dJx4a65c_grow_92f84_56 (ws1 := ((q, q_ar cc 10 (fun _ => none)) :: (a, q_al mo q n) :: E)) rfl ?_
  exact q_aret (pc := 59) C (Or.inr ⟨_, rfl⟩) (Or.inr ⟨_, rfl⟩) dJx4a65c_grow_92f84_59 ⟨q, rfl, rfl⟩
set_option maxRecDepth 100000 in
set_option maxHeartbeats 4000000 in
theorem c_growN (l : Launch) (D : va_G) (cc : Nat → ClassId) (N0 : Nat) (E : va_W) (a ev cap : Nat) (mo n : Int32) (el : Nat → Option Nat) (h2 : 2 ≤ cap) (h3 : cap ≤ 400) (hel : ∀ i : Nat, i < cap → ∀ y : Nat, el i = some y → q_Any D cc N0 ((a, q_al mo ev n) :: (ev, q_ar cc cap el) :: E) y) : q_Met l yJx4a65c_grow_92f84 wsJx4a65c_grow_92f84 3 114 D cc N0 ((a, q_al mo ev n) :: (ev, q_ar cc cap el) :: E) [.ref a, .int (nI (cap + 1))] (fun rv w1 => ∃ q : Nat, rv = some (.ref q) ∧ w1 = ((q, q_ar cc (cap + cap / 2) (va_cpy el (fun _ => none) 0 0 cap)) :: (ev, q_ar cc cap el) :: (a, q_al mo q n) :: E)) 1 (cap + cap / 2) := by
  refine q_ofW (code := cJx4a65c_grow_92f84) (nL := 4) (ret := (some (.array (.object "java/lang/Object")))) (by decide +kernel) rfl (Nat.le_of_ble_eq_true rfl) (fun p e s m below meth c C hini => ?_)
  refine q_lv (lv2 := [(0, .ref a), (1, .int (nI (cap + 1)))]) rfl ?_
  refine q_aload_n (pc := 0) C dJx4a65c_grow_92f84_0 rfl 0 rfl ?_
  refine q_get (pc := 1) C 0 rfl rfl n_Jx4a65c_grow_92f84_Jx4a65c 1 (by decide) (List.mem_of_getElem? (i := 1) rfl) rfl dJx4a65c_grow_92f84_1 ?_
  refine q_alen (pc := 4) C 1 2 rfl rfl (v := nI cap) rfl dJx4a65c_grow_92f84_4 ?_
  refine q_istore_n (pc := 5) (lvq := [(2, .int (nI cap)), (0, .ref a), (1, .int (nI (cap + 1)))]) C dJx4a65c_grow_92f84_5 rfl (by decide) rfl ?_
  refine q_iload_n (pc := 6) C dJx4a65c_grow_92f84_6 rfl 0 rfl ?_
  refine q_if_gt (pc := 7) (tgt := 20) C dJx4a65c_grow_92f84_7 (by decide) (fun c1 => ?_) (fun c1 => absurd (by have := nI_lt (a := 0) (b := cap) (by omega) (by omega); exact this) c1)
  refine q_iload_n (pc := 20) C dJx4a65c_grow_92f84_20 rfl 0 rfl ?_
  refine q_iload_n (pc := 21) C dJx4a65c_grow_92f84_21 rfl 2 rfl ?_
  refine q_iload_n (pc := 22) C dJx4a65c_grow_92f84_22 rfl 0 rfl ?_
  refine q_isub (pc := 23) C dJx4a65c_grow_92f84_23 ?_
  refine q_iload_n (pc := 24) C dJx4a65c_grow_92f84_24 rfl 0 rfl ?_
  refine q_iconst (pc := 25) C (1 : Int32) dJx4a65c_grow_92f84_25 q_ci_1 ?_
  refine q_ishr (pc := 26) C dJx4a65c_grow_92f84_26 ?_
  have e1 : nI (cap + 1) - nI cap = nI 1 := by rw [pk_sub (by omega)]; congr 1; omega
  have e2 : nI cap >>> ((1 : Int32) &&& 31) = nI (cap / 2) := by have := pk_shrN (n := cap) (by omega) ((1 : Int32) &&& 31) 1 (by decide); simpa using this
  have e3 : nI cap + q_max (nI 1) (nI (cap / 2)) = nI (cap + cap / 2) := by
    rw [show q_max (nI 1) (nI (cap / 2)) = nI (cap / 2) from ?_, nI_add]
    unfold q_max
    by_cases h : 1 < cap / 2
    · rw [if_pos (nI_lt h (by omega))]
    · rw [if_neg (nI_nlt (by omega) (by omega)), show cap / 2 = 1 by omega]
  rw [e1, e2]
  refine q_callS (pc := 27) (As := [.int (nI cap), .int (nI 1), .int (nI (cap / 2))]) (rest := []) C (c_newLen l D cc N0 ((a, q_al mo ev n) :: (ev, q_ar cc cap el) :: E) _ _ _ (by rw [e3]; exact nI_nle (by omega) (by omega)) (by rw [e3]; exact (show ¬ nI 2147483639 < nI (cap + cap / 2) from nI_nlt (by omega) (by omega)))) gJx4a65c_grow_92f84_J8_newLength_cabcc rfl z_J8_newLength_cabcc ⟨(Nat.le_of_ble_eq_true rfl), (Nat.le_of_ble_eq_true rfl)⟩ rfl rfl (Nat.le_of_ble_eq_true rfl) dJx4a65c_grow_92f84_27 ⟨Nat.zero_le _, Nat.zero_le _⟩ ?_
  rw [e3]
  refine q_after (rv := (some (.int (nI (cap + cap / 2))))) (w0 := ((a, q_al mo ev n) :: (ev, q_ar cc cap el) :: E)) (st2 := [.int (nI (cap + cap / 2))]) rfl rfl rfl ?_
  refine q_istore_n (pc := 30) (lvq := [(3, .int (nI (cap + cap / 2))), (2, .int (nI cap)), (0, .ref a), (1, .int (nI (cap + 1)))]) C dJx4a65c_grow_92f84_30 rfl (by decide) rfl ?_
  refine q_aload_n (pc := 31) C dJx4a65c_grow_92f84_31 rfl 2 rfl ?_
  refine q_aload_n (pc := 32) C dJx4a65c_grow_92f84_32 rfl 2 rfl ?_
  refine q_get (pc := 33) C 0 rfl rfl n_Jx4a65c_grow_92f84_Jx4a65c 1 (by decide) (List.mem_of_getElem? (i := 1) rfl) rfl dJx4a65c_grow_92f84_33 ?_
  refine q_iload_n (pc := 36) C dJx4a65c_grow_92f84_36 rfl 0 rfl ?_
  refine q_perm (ws' := ((ev, q_ar cc cap el) :: (a, q_al mo ev n) :: E)) (List.Perm.swap _ _ _) ?_
  refine q_callS (pc := 37) (As := [.ref ev, .int (nI (cap + cap / 2))]) (rest := [.ref a]) C (c_copy2 l D cc N0 ((a, q_al mo ev n) :: E) ev cap (cap + cap / 2) el (by omega) (by omega) (fun i hi y hy => (hel i hi y hy).mono (fun x hx => (List.Perm.swap _ _ _).mem_iff.mp hx))) gJx4a65c_grow_92f84_J7_copyOf_1904c rfl z_J7_copyOf_1904c ⟨(Nat.le_of_ble_eq_true rfl), (Nat.le_of_ble_eq_true rfl)⟩ rfl rfl (Nat.le_of_ble_eq_true rfl) dJx4a65c_grow_92f84_37 ⟨by show 0 + 1 ≤ 1; omega, by show 0 + (cap + cap / 2) ≤ (cap + cap / 2); omega⟩ ?_
  rintro _ _ ⟨q, rfl, rfl⟩
  refine q_nm (wz := ((q, q_ar cc (cap + cap / 2) (va_cpy el (fun _ => none) 0 0 cap)) :: (ev, q_ar cc cap el) :: (a, q_al mo ev n) :: E)) (ka := 1) (kb := (cap + cap / 2)) (sz := [.ref q, .ref a]) rfl rfl (Nat.zero_add _) rfl ?_
  refine q_dup_x1 (pc := 40) C dJx4a65c_grow_92f84_40 rfl rfl ?_
  refine q_put (pc := 41) C 2 rfl rfl n_Jx4a65c_grow_92f84_Jx4a65c tyJx4a65c tyJx4a65c_ok nmJx4a65c 1 (by decide) (List.mem_of_getElem? (i := 1) rfl) rfl rfl rfl (Nat.le_of_ble_eq_true rfl) dJx4a65c_grow_92f84_41 (ws1 := ((q, q_ar cc (cap + cap / 2) (va_cpy el (fun _ => none) 0 0 cap)) :: (ev, q_ar cc cap el) :: (a, q_al mo q n) :: E)) rfl ?_
  exact q_aret (pc := 44) C (Or.inr ⟨_, rfl⟩) (Or.inr ⟨_, rfl⟩) dJx4a65c_grow_92f84_44 ⟨q, rfl, rfl⟩
theorem n_Jx4a65c_grow_d5877_Jx4a65c : ∀ w ∈ wsJx4a65c0, w ∈ wsJx4a65c_grow_d5877 := fun _ h => (List.mem_cons_of_mem _ (List.mem_append_right _ h))
theorem z_Jx4a65c_grow_d5877 : q_dsc yJx4a65c_grow_d5877 0 := ⟨by decide +kernel, by decide +kernel, by decide +kernel⟩
set_option maxRecDepth 100000 in
set_option maxHeartbeats 4000000 in
theorem c_g0 (l : Launch) (D : va_G) (cc : Nat → ClassId) (N0 : Nat) (E : va_W) (a : Nat) (mo : Int32) : q_Met l yJx4a65c_grow_d5877 wsJx4a65c_grow_d5877 2 44 D cc N0 ((a, q_al mo (cc 8) 0) :: E) [.ref a] (fun rv w1 => ∃ q : Nat, rv = some (.ref q) ∧ w1 = ((q, q_ar cc 10 (fun _ => none)) :: (a, q_al mo q 0) :: E)) 1 10 := by
  refine q_ofW (code := cJx4a65c_grow_d5877) (nL := 1) (ret := (some (.array (.object "java/lang/Object")))) (by decide +kernel) rfl (Nat.le_of_ble_eq_true rfl) (fun p e s m below meth c C hini => ?_)
  refine q_lv (lv2 := [(0, .ref a)]) rfl ?_
  refine q_aload_n (pc := 0) C dJx4a65c_grow_d5877_0 rfl 0 rfl ?_
  refine q_aload_n (pc := 1) C dJx4a65c_grow_d5877_1 rfl 0 rfl ?_
  refine q_get (pc := 2) C 0 rfl rfl n_Jx4a65c_grow_d5877_Jx4a65c 2 (by decide) (List.mem_of_getElem? (i := 1) rfl) rfl dJx4a65c_grow_d5877_2 ?_
  refine q_iconst (pc := 5) C (1 : Int32) dJx4a65c_grow_d5877_5 q_ci_1 ?_
  refine q_iadd (pc := 6) C dJx4a65c_grow_d5877_6 ?_
  refine q_callV (pc := 7) (As := [.int 1]) (rest := []) C (c_grow0 l D cc N0 E a mo 0 1 (by decide)) gJx4a65c_grow_d5877_Jx4a65c_grow_92f84 rfl rfl z_Jx4a65c_grow_92f84 ⟨(Nat.le_of_ble_eq_true rfl), (Nat.le_of_ble_eq_true rfl)⟩ (show ((a, q_al mo (cc 8) 0) :: E)[0]? = some (a, _) from rfl) rfl rfl rfl (Nat.le_of_ble_eq_true rfl) dJx4a65c_grow_d5877_7 ⟨by show 0 + 1 ≤ 1; omega, by show 0 + 10 ≤ 10; omega⟩ ?_
  rintro _ _ ⟨q, rfl, rfl⟩
  refine q_nm (wz := _) (ka := 1) (kb := 10) (sz := [.ref q]) rfl rfl (Nat.zero_add _) rfl ?_
  exact q_aret (pc := 10) C (Or.inr ⟨_, rfl⟩) (Or.inr ⟨_, rfl⟩) dJx4a65c_grow_d5877_10 ⟨q, rfl, rfl⟩
set_option maxRecDepth 100000 in
set_option maxHeartbeats 4000000 in
theorem c_gN (l : Launch) (D : va_G) (cc : Nat → ClassId) (N0 : Nat) (E : va_W) (a ev cap : Nat) (mo : Int32) (el : Nat → Option Nat) (h2 : 2 ≤ cap) (h3 : cap ≤ 400) (hel : ∀ i : Nat, i < cap → ∀ y : Nat, el i = some y → q_Any D cc N0 ((a, q_al mo ev (nI cap)) :: (ev, q_ar cc cap el) :: E) y) : q_Met l yJx4a65c_grow_d5877 wsJx4a65c_grow_d5877 4 137 D cc N0 ((a, q_al mo ev (nI cap)) :: (ev, q_ar cc cap el) :: E) [.ref a] (fun rv w1 => ∃ q : Nat, rv = some (.ref q) ∧ w1 = ((q, q_ar cc (cap + cap / 2) (va_cpy el (fun _ => none) 0 0 cap)) :: (ev, q_ar cc cap el) :: (a, q_al mo q (nI cap)) :: E)) 1 (cap + cap / 2) := by
  refine q_ofW (code := cJx4a65c_grow_d5877) (nL := 1) (ret := (some (.array (.object "java/lang/Object")))) (by decide +kernel) rfl (Nat.le_of_ble_eq_true rfl) (fun p e s m below meth c C hini => ?_)
  refine q_lv (lv2 := [(0, .ref a)]) rfl ?_
  refine q_aload_n (pc := 0) C dJx4a65c_grow_d5877_0 rfl 0 rfl ?_
  refine q_aload_n (pc := 1) C dJx4a65c_grow_d5877_1 rfl 0 rfl ?_
  refine q_get (pc := 2) C 0 rfl rfl n_Jx4a65c_grow_d5877_Jx4a65c 2 (by decide) (List.mem_of_getElem? (i := 1) rfl) rfl dJx4a65c_grow_d5877_2 ?_
  refine q_iconst (pc := 5) C (1 : Int32) dJx4a65c_grow_d5877_5 q_ci_1 ?_
  refine q_iadd (pc := 6) C dJx4a65c_grow_d5877_6 ?_
  rw [nI_1]
  refine q_callV (pc := 7) (As := [.int (nI (cap + 1))]) (rest := []) C (c_growN l D cc N0 E a ev cap mo (nI cap) el h2 h3 hel) gJx4a65c_grow_d5877_Jx4a65c_grow_92f84 rfl rfl z_Jx4a65c_grow_92f84 ⟨(Nat.le_of_ble_eq_true rfl), (Nat.le_of_ble_eq_true rfl)⟩ (show ((a, q_al mo ev (nI cap)) :: (ev, q_ar cc cap el) :: E)[0]? = some (a, _) from rfl) rfl rfl rfl (Nat.le_of_ble_eq_true rfl) dJx4a65c_grow_d5877_7 ⟨by show 0 + 1 ≤ 1; omega, by show 0 + (cap + cap / 2) ≤ (cap + cap / 2); omega⟩ ?_
  rintro _ _ ⟨q, rfl, rfl⟩
  refine q_nm (wz := _) (ka := 1) (kb := (cap + cap / 2)) (sz := [.ref q]) rfl rfl (Nat.zero_add _) rfl ?_
  exact q_aret (pc := 10) C (Or.inr ⟨_, rfl⟩) (Or.inr ⟨_, rfl⟩) dJx4a65c_grow_d5877_10 ⟨q, rfl, rfl⟩
theorem n_Jx4a65c_add_72be8_Jx4a65c : ∀ w ∈ wsJx4a65c0, w ∈ wsJx4a65c_add_72be8 := fun _ h => (List.mem_cons_of_mem _ (List.mem_append_right _ h))
theorem z_Jx4a65c_add_72be8 : q_dsc yJx4a65c_add_72be8 3 := ⟨by decide +kernel, by decide +kernel, by decide +kernel⟩
set_option maxRecDepth 100000 in
set_option maxHeartbeats 4000000 in
theorem c_addB (l : Launch) (D : va_G) (cc : Nat → ClassId) (N0 : Nat) (E : va_W) (a ev x cap n : Nat) (mo : Int32) (el : Nat → Option Nat) (hn : n < cap) (hcap : cap < 2 ^ 31) (hx : q_Any D cc N0 ((a, q_al mo ev (nI n)) :: (ev, q_ar cc cap el) :: E) x) : q_Met l yJx4a65c_add_72be8 wsJx4a65c_add_72be8 0 0 D cc N0 ((a, q_al mo ev (nI n)) :: (ev, q_ar cc cap el) :: E) [.ref a, .ref x, .ref ev, .int (nI n)] (q_p none ((a, q_al mo ev (nI (n + 1))) :: (ev, q_ar cc cap (va_up el n (some x))) :: E)) 0 0 := by
  refine q_ofW (code := cJx4a65c_add_72be8) (nL := 4) (ret := none) (by decide +kernel) rfl (Nat.le_of_ble_eq_true rfl) (fun p e s m below meth c C hini => ?_)
  refine q_lv (lv2 := [(0, .ref a), (1, .ref x), (2, .ref ev), (3, .int (nI n))]) rfl ?_
  refine q_iload_n (pc := 0) C dJx4a65c_add_72be8_0 rfl 3 rfl ?_
  refine q_aload_n (pc := 1) C dJx4a65c_add_72be8_1 rfl 2 rfl ?_
  refine q_alen (pc := 2) C 1 2 rfl rfl (v := nI cap) rfl dJx4a65c_add_72be8_2 ?_
  refine q_icmp_ne (pc := 3) (tgt := 11) C dJx4a65c_add_72be8_3 (by decide) (fun c1 => ?_) (fun c1 => absurd ((nI_eq (by omega) (by omega)).mp c1) (by omega))
  refine q_aload_n (pc := 11) C dJx4a65c_add_72be8_11 rfl 2 rfl ?_
  refine q_iload_n (pc := 12) C dJx4a65c_add_72be8_12 rfl 3 rfl ?_
  refine q_aload_n (pc := 13) C dJx4a65c_add_72be8_13 rfl 1 rfl ?_
  refine q_aast (pc := 14) C 1 rfl hx (q_in_nI hn hcap) dJx4a65c_add_72be8_14 (ws1 := ((a, q_al mo ev (nI n)) :: (ev, q_ar cc cap (va_up el n (some x))) :: E)) (by rw [nI_clamp (by omega)]; rfl) ?_
  refine q_aload_n (pc := 15) C dJx4a65c_add_72be8_15 rfl 0 rfl ?_
  refine q_iload_n (pc := 16) C dJx4a65c_add_72be8_16 rfl 3 rfl ?_
  refine q_iconst (pc := 17) C (1 : Int32) dJx4a65c_add_72be8_17 q_ci_1 ?_
  refine q_iadd (pc := 18) C dJx4a65c_add_72be8_18 ?_
  rw [nI_1]
  refine q_put (pc := 19) C 0 rfl rfl n_Jx4a65c_add_72be8_Jx4a65c tyJx4a65c tyJx4a65c_ok nmJx4a65c 2 (by decide) (List.mem_of_getElem? (i := 1) rfl) rfl rfl rfl (Nat.le_of_ble_eq_true rfl) dJx4a65c_add_72be8_19 (ws1 := ((a, q_al mo ev (nI (n + 1))) :: (ev, q_ar cc cap (va_up el n (some x))) :: E)) rfl ?_
  exact q_vret (pc := 22) C dJx4a65c_add_72be8_22 ⟨rfl, rfl⟩
set_option maxRecDepth 100000 in
set_option maxHeartbeats 4000000 in
theorem c_addA (l : Launch) (D : va_G) (cc : Nat → ClassId) (N0 : Nat) (E : va_W) (a x : Nat) (mo : Int32) (hx : ∀ q, q_Any D cc N0 ((q, q_ar cc 10 (fun _ => none)) :: (a, q_al mo q 0) :: E) x) : q_Met l yJx4a65c_add_72be8 wsJx4a65c_add_72be8 3 64 D cc N0 ((a, q_al mo (cc 8) 0) :: E) [.ref a, .ref x, .ref (cc 8), .int 0] (fun rv w1 => rv = none ∧ ∃ q : Nat, w1 = ((q, q_ar cc 10 (va_up (fun _ => none) 0 (some x))) :: (a, q_al mo q 1) :: E)) 1 10 := by
  refine q_ofW (code := cJx4a65c_add_72be8) (nL := 4) (ret := none) (by decide +kernel) rfl (Nat.le_of_ble_eq_true rfl) (fun p e s m below meth c C hini => ?_)
  refine q_lv (lv2 := [(0, .ref a), (1, .ref x), (2, .ref (cc 8)), (3, .int 0)]) rfl ?_
  refine q_iload_n (pc := 0) C dJx4a65c_add_72be8_0 rfl 3 rfl ?_
  refine q_aload_n (pc := 1) C dJx4a65c_add_72be8_1 rfl 2 rfl ?_
  refine q_tlen (pc := 2) C C.2.2.2.2.2.2.2.2.2.2.2.1 (v := 0) rfl dJx4a65c_add_72be8_2 ?_
  refine q_icmp_ne (pc := 3) (tgt := 11) C dJx4a65c_add_72be8_3 (by decide) (fun c1 => absurd rfl c1) (fun c1 => ?_)
  refine q_aload_n (pc := 6) C dJx4a65c_add_72be8_6 rfl 0 rfl ?_
  refine q_callV (pc := 7) (As := []) (rest := []) C (c_g0 l D cc N0 E a mo) gJx4a65c_add_72be8_Jx4a65c_grow_d5877 rfl rfl z_Jx4a65c_grow_d5877 ⟨(Nat.le_of_ble_eq_true rfl), (Nat.le_of_ble_eq_true rfl)⟩ (show ((a, q_al mo (cc 8) 0) :: E)[0]? = some (a, _) from rfl) rfl rfl rfl (Nat.le_of_ble_eq_true rfl) dJx4a65c_add_72be8_7 ⟨(Nat.le_of_ble_eq_true rfl), (Nat.le_of_ble_eq_true rfl)⟩ ?_
  rintro _ _ ⟨q, rfl, rfl⟩
  refine q_nm (wz := ((q, q_ar cc 10 (fun _ => none)) :: (a, q_al mo q 0) :: E)) (ka := 1) (kb := 10) (sz := [.ref q]) rfl rfl rfl rfl ?_
  refine q_astore_n (pc := 10) (lvq := [(2, .ref q), (0, .ref a), (1, .ref x), (3, .int 0)]) C dJx4a65c_add_72be8_10 rfl (by decide) rfl ?_
  refine q_aload_n (pc := 11) C dJx4a65c_add_72be8_11 rfl 0 rfl ?_
  refine q_iload_n (pc := 12) C dJx4a65c_add_72be8_12 rfl 3 rfl ?_
  refine q_aload_n (pc := 13) C dJx4a65c_add_72be8_13 rfl 2 rfl ?_
  refine q_aast (pc := 14) C 0 rfl (hx q) (by decide) dJx4a65c_add_72be8_14 (ws1 := ((q, q_ar cc 10 (va_up (fun _ => none) 0 (some x))) :: (a, q_al mo q 0) :: E)) rfl ?_
  refine q_aload_n (pc := 15) C dJx4a65c_add_72be8_15 rfl 1 rfl ?_
  refine q_iload_n (pc := 16) C dJx4a65c_add_72be8_16 rfl 3 rfl ?_
  refine q_iconst (pc := 17) C (1 : Int32) dJx4a65c_add_72be8_17 q_ci_1 ?_
  refine q_iadd (pc := 18) C dJx4a65c_add_72be8_18 ?_
  rw [show (0 : Int32) + 1 = 1 from rfl]
  refine q_put (pc := 19) C 1 rfl rfl n_Jx4a65c_add_72be8_Jx4a65c tyJx4a65c tyJx4a65c_ok nmJx4a65c 2 (by decide) (List.mem_of_getElem? (i := 1) rfl) rfl rfl rfl (Nat.le_of_ble_eq_true rfl) dJx4a65c_add_72be8_19 (ws1 := ((q, q_ar cc 10 (va_up (fun _ => none) 0 (some x))) :: (a, q_al mo q 1) :: E)) rfl ?_
  exact q_vret (pc := 22) C dJx4a65c_add_72be8_22 ⟨rfl, q, rfl⟩
set_option maxRecDepth 100000 in
set_option maxHeartbeats 4000000 in
theorem c_addC (l : Launch) (D : va_G) (cc : Nat → ClassId) (N0 : Nat) (E : va_W) (a ev x cap : Nat) (mo : Int32) (el : Nat → Option Nat) (h2 : 2 ≤ cap) (h3 : cap ≤ 400) (hel : ∀ i : Nat, i < cap → ∀ y : Nat, el i = some y → q_Any D cc N0 ((a, q_al mo ev (nI cap)) :: (ev, q_ar cc cap el) :: E) y) (hx : ∀ q, q_Any D cc N0 ((q, q_ar cc (cap + cap / 2) (va_cpy el (fun _ => none) 0 0 cap)) :: (ev, q_ar cc cap el) :: (a, q_al mo q (nI cap)) :: E) x) : q_Met l yJx4a65c_add_72be8 wsJx4a65c_add_72be8 5 157 D cc N0 ((a, q_al mo ev (nI cap)) :: (ev, q_ar cc cap el) :: E) [.ref a, .ref x, .ref ev, .int (nI cap)] (fun rv w1 => rv = none ∧ ∃ q : Nat, w1 = ((q, q_ar cc (cap + cap / 2) (va_up (va_cpy el (fun _ => none) 0 0 cap) cap (some x))) :: (ev, q_ar cc cap el) :: (a, q_al mo q (nI (cap + 1))) :: E)) 1 (cap + cap / 2) := by
  refine q_ofW (code := cJx4a65c_add_72be8) (nL := 4) (ret := none) (by decide +kernel) rfl (Nat.le_of_ble_eq_true rfl) (fun p e s m below meth c C hini => ?_)
  refine q_lv (lv2 := [(0, .ref a), (1, .ref x), (2, .ref ev), (3, .int (nI cap))]) rfl ?_
  refine q_iload_n (pc := 0) C dJx4a65c_add_72be8_0 rfl 3 rfl ?_
  refine q_aload_n (pc := 1) C dJx4a65c_add_72be8_1 rfl 2 rfl ?_
  refine q_alen (pc := 2) C 1 2 rfl rfl (v := nI cap) rfl dJx4a65c_add_72be8_2 ?_
  refine q_icmp_ne (pc := 3) (tgt := 11) C dJx4a65c_add_72be8_3 (by decide) (fun c1 => absurd rfl c1) (fun c1 => ?_)
  refine q_aload_n (pc := 6) C dJx4a65c_add_72be8_6 rfl 0 rfl ?_
  refine q_callV (pc := 7) (As := []) (rest := []) C (c_gN l D cc N0 E a ev cap mo el h2 h3 hel) gJx4a65c_add_72be8_Jx4a65c_grow_d5877 rfl rfl z_Jx4a65c_grow_d5877 ⟨(Nat.le_of_ble_eq_true rfl), (Nat.le_of_ble_eq_true rfl)⟩ (show ((a, q_al mo ev (nI cap)) :: (ev, q_ar cc cap el) :: E)[0]? = some (a, _) from rfl) rfl rfl rfl (Nat.le_of_ble_eq_true rfl) dJx4a65c_add_72be8_7 ⟨by show 0 + 1 ≤ 1; omega, by show 0 + (cap + cap / 2) ≤ (cap + cap / 2); omega⟩ ?_
  rintro _ _ ⟨q, rfl, rfl⟩
  refine q_nm (wz := ((q, q_ar cc (cap + cap / 2) (va_cpy el (fun _ => none) 0 0 cap)) :: (ev, q_ar cc cap el) :: (a, q_al mo q (nI cap)) :: E)) (ka := 1) (kb := (cap + cap / 2)) (sz := [.ref q]) rfl rfl (Nat.zero_add _) rfl ?_
  refine q_astore_n (pc := 10) (lvq := [(2, .ref q), (0, .ref a), (1, .ref x), (3, .int (nI cap))]) C dJx4a65c_add_72be8_10 rfl (by decide) rfl ?_
  refine q_aload_n (pc := 11) C dJx4a65c_add_72be8_11 rfl 0 rfl ?_
  refine q_iload_n (pc := 12) C dJx4a65c_add_72be8_12 rfl 3 rfl ?_
  refine q_aload_n (pc := 13) C dJx4a65c_add_72be8_13 rfl 2 rfl ?_
  refine q_aast (pc := 14) C 0 rfl (hx q) (q_in_nI (show cap < (cap + cap / 2) by omega) (by omega)) dJx4a65c_add_72be8_14 (ws1 := ((q, q_ar cc (cap + cap / 2) (va_up (va_cpy el (fun _ => none) 0 0 cap) cap (some x))) :: (ev, q_ar cc cap el) :: (a, q_al mo q (nI cap)) :: E)) (by rw [nI_clamp (by omega)]; rfl) ?_
  refine q_aload_n (pc := 15) C dJx4a65c_add_72be8_15 rfl 1 rfl ?_
  refine q_iload_n (pc := 16) C dJx4a65c_add_72be8_16 rfl 3 rfl ?_
  refine q_iconst (pc := 17) C (1 : Int32) dJx4a65c_add_72be8_17 q_ci_1 ?_
  refine q_iadd (pc := 18) C dJx4a65c_add_72be8_18 ?_
  rw [nI_1]
  refine q_put (pc := 19) C 2 rfl rfl n_Jx4a65c_add_72be8_Jx4a65c tyJx4a65c tyJx4a65c_ok nmJx4a65c 2 (by decide) (List.mem_of_getElem? (i := 1) rfl) rfl rfl rfl (Nat.le_of_ble_eq_true rfl) dJx4a65c_add_72be8_19 (ws1 := ((q, q_ar cc (cap + cap / 2) (va_up (va_cpy el (fun _ => none) 0 0 cap) cap (some x))) :: (ev, q_ar cc cap el) :: (a, q_al mo q (nI (cap + 1))) :: E)) rfl ?_
  exact q_vret (pc := 22) C dJx4a65c_add_72be8_22 ⟨rfl, q, rfl⟩
theorem n_Jx4a65c_add_9ea2d_Jx4a65c : ∀ w ∈ wsJx4a65c0, w ∈ wsJx4a65c_add_9ea2d := fun _ h => (List.mem_cons_of_mem _ (List.mem_append_right _ h))
theorem z_Jx4a65c_add_9ea2d : q_dsc yJx4a65c_add_9ea2d 1 := ⟨by decide +kernel, by decide +kernel, by decide +kernel⟩
set_option maxRecDepth 100000 in
set_option maxHeartbeats 4000000 in
theorem c_al_addB (l : Launch) (D : va_G) (cc : Nat → ClassId) (N0 : Nat) (E : va_W) (a ev x cap n : Nat) (mo : Int32) (el : Nat → Option Nat) (hn : n < cap) (hcap : cap < 2 ^ 31) (hx : q_Any D cc N0 ((a, q_al (mo + 1) ev (nI n)) :: (ev, q_ar cc cap el) :: E) x) : q_Met l yJx4a65c_add_9ea2d wsJx4a65c_add_9ea2d 1 23 D cc N0 ((a, q_al mo ev (nI n)) :: (ev, q_ar cc cap el) :: E) [.ref a, .ref x] (q_p (some (.int 1)) ((a, q_al (mo + 1) ev (nI (n + 1))) :: (ev, q_ar cc cap (va_up el n (some x))) :: E)) 0 0 := by
  refine q_ofW (code := cJx4a65c_add_9ea2d) (nL := 2) (ret := (some .boolean)) (by decide +kernel) rfl (Nat.le_of_ble_eq_true rfl) (fun p e s m below meth c C hini => ?_)
  refine q_lv (lv2 := [(0, .ref a), (1, .ref x)]) rfl ?_
  refine q_aload_n (pc := 0) C dJx4a65c_add_9ea2d_0 rfl 0 rfl ?_
  refine q_dup (pc := 1) C dJx4a65c_add_9ea2d_1 rfl ?_
  refine q_getS (pc := 2) C 0 rfl rfl n_Jx4a65c_add_9ea2d_Jx4a65c 0 (by decide) (List.mem_of_getElem? (i := 1) rfl) (List.mem_of_getElem? (i := 2) rfl) rfl dJx4a65c_add_9ea2d_2 ?_
  refine q_iconst (pc := 5) C (1 : Int32) dJx4a65c_add_9ea2d_5 q_ci_1 ?_
  refine q_iadd (pc := 6) C dJx4a65c_add_9ea2d_6 ?_
  refine q_putS (pc := 7) C 0 rfl rfl n_Jx4a65c_add_9ea2d_Jx4a65c tyJx4a65c tyJx4a65c_ok nmJx4a65c 0 (by decide) (List.mem_of_getElem? (i := 1) rfl) (List.mem_of_getElem? (i := 2) rfl) rfl rfl rfl (Nat.le_of_ble_eq_true rfl) dJx4a65c_add_9ea2d_7 (ws1 := ((a, q_al (mo + 1) ev (nI n)) :: (ev, q_ar cc cap el) :: E)) rfl ?_
  refine q_aload_n (pc := 10) C dJx4a65c_add_9ea2d_10 rfl 0 rfl ?_
  refine q_aload_n (pc := 11) C dJx4a65c_add_9ea2d_11 rfl 1 rfl ?_
  refine q_aload_n (pc := 12) C dJx4a65c_add_9ea2d_12 rfl 0 rfl ?_
  refine q_get (pc := 13) C 0 rfl rfl n_Jx4a65c_add_9ea2d_Jx4a65c 1 (by decide) (List.mem_of_getElem? (i := 3) rfl) rfl dJx4a65c_add_9ea2d_13 ?_
  refine q_aload_n (pc := 16) C dJx4a65c_add_9ea2d_16 rfl 0 rfl ?_
  refine q_get (pc := 17) C 0 rfl rfl n_Jx4a65c_add_9ea2d_Jx4a65c 2 (by decide) (List.mem_of_getElem? (i := 4) rfl) rfl dJx4a65c_add_9ea2d_17 ?_
  refine q_callV (pc := 20) (As := [.ref x, .ref ev, .int (nI n)]) (rest := []) C (c_addB l D cc N0 E a ev x cap n (mo + 1) el hn hcap hx) gJx4a65c_add_9ea2d_Jx4a65c_add_72be8 rfl rfl z_Jx4a65c_add_72be8 ⟨(Nat.le_of_ble_eq_true rfl), (Nat.le_of_ble_eq_true rfl)⟩ (show ((a, q_al (mo + 1) ev (nI n)) :: (ev, q_ar cc cap el) :: E)[0]? = some (a, _) from rfl) rfl rfl rfl (Nat.le_of_ble_eq_true rfl) dJx4a65c_add_9ea2d_20 ⟨by show 0 + 0 ≤ 0; omega, by show 0 + 0 ≤ 0; omega⟩ ?_
  rintro _ _ ⟨rfl, rfl⟩
  refine q_nm (wz := ((a, q_al (mo + 1) ev (nI (n + 1))) :: (ev, q_ar cc cap (va_up el n (some x))) :: E)) (ka := 0) (kb := 0) (sz := []) rfl (Nat.zero_add _) (Nat.zero_add _) rfl ?_
  refine q_iconst (pc := 23) C (1 : Int32) dJx4a65c_add_9ea2d_23 q_ci_1 ?_
  exact q_zret (pc := 24) C (by decide +kernel) dJx4a65c_add_9ea2d_24 ⟨rfl, rfl⟩
set_option maxRecDepth 100000 in
set_option maxHeartbeats 4000000 in
theorem c_al_addA (l : Launch) (D : va_G) (cc : Nat → ClassId) (N0 : Nat) (E : va_W) (a x : Nat) (mo : Int32) (hx : ∀ q, q_Any D cc N0 ((q, q_ar cc 10 (fun _ => none)) :: (a, q_al (mo + 1) q 0) :: E) x) : q_Met l yJx4a65c_add_9ea2d wsJx4a65c_add_9ea2d 4 87 D cc N0 ((a, q_al mo (cc 8) 0) :: E) [.ref a, .ref x] (fun rv w1 => rv = some (.int 1) ∧ ∃ q : Nat, w1 = ((q, q_ar cc 10 (va_up (fun _ => none) 0 (some x))) :: (a, q_al (mo + 1) q 1) :: E)) 1 10 := by
  refine q_ofW (code := cJx4a65c_add_9ea2d) (nL := 2) (ret := (some .boolean)) (by decide +kernel) rfl (Nat.le_of_ble_eq_true rfl) (fun p e s m below meth c C hini => ?_)
  refine q_lv (lv2 := [(0, .ref a), (1, .ref x)]) rfl ?_
  refine q_aload_n (pc := 0) C dJx4a65c_add_9ea2d_0 rfl 0 rfl ?_
  refine q_dup (pc := 1) C dJx4a65c_add_9ea2d_1 rfl ?_
  refine q_getS (pc := 2) C 0 rfl rfl n_Jx4a65c_add_9ea2d_Jx4a65c 0 (by decide) (List.mem_of_getElem? (i := 1) rfl) (List.mem_of_getElem? (i := 2) rfl) rfl dJx4a65c_add_9ea2d_2 ?_
  refine q_iconst (pc := 5) C (1 : Int32) dJx4a65c_add_9ea2d_5 q_ci_1 ?_
  refine q_iadd (pc := 6) C dJx4a65c_add_9ea2d_6 ?_
  refine q_putS (pc := 7) C 0 rfl rfl n_Jx4a65c_add_9ea2d_Jx4a65c tyJx4a65c tyJx4a65c_ok nmJx4a65c 0 (by decide) (List.mem_of_getElem? (i := 1) rfl) (List.mem_of_getElem? (i := 2) rfl) rfl rfl rfl (Nat.le_of_ble_eq_true rfl) dJx4a65c_add_9ea2d_7 (ws1 := ((a, q_al (mo + 1) (cc 8) 0) :: E)) rfl ?_
  refine q_aload_n (pc := 10) C dJx4a65c_add_9ea2d_10 rfl 0 rfl ?_
  refine q_aload_n (pc := 11) C dJx4a65c_add_9ea2d_11 rfl 1 rfl ?_
  refine q_aload_n (pc := 12) C dJx4a65c_add_9ea2d_12 rfl 0 rfl ?_
  refine q_get (pc := 13) C 0 rfl rfl n_Jx4a65c_add_9ea2d_Jx4a65c 1 (by decide) (List.mem_of_getElem? (i := 3) rfl) rfl dJx4a65c_add_9ea2d_13 ?_
  refine q_aload_n (pc := 16) C dJx4a65c_add_9ea2d_16 rfl 0 rfl ?_
  refine q_get (pc := 17) C 0 rfl rfl n_Jx4a65c_add_9ea2d_Jx4a65c 2 (by decide) (List.mem_of_getElem? (i := 4) rfl) rfl dJx4a65c_add_9ea2d_17 ?_
  refine q_callV (pc := 20) (As := [.ref x, .ref (cc 8), .int 0]) (rest := []) C (c_addA l D cc N0 E a x (mo + 1) hx) gJx4a65c_add_9ea2d_Jx4a65c_add_72be8 rfl rfl z_Jx4a65c_add_72be8 ⟨(Nat.le_of_ble_eq_true rfl), (Nat.le_of_ble_eq_true rfl)⟩ (show ((a, q_al (mo + 1) (cc 8) 0) :: E)[0]? = some (a, _) from rfl) rfl rfl rfl (Nat.le_of_ble_eq_true rfl) dJx4a65c_add_9ea2d_20 ⟨by show 0 + 1 ≤ 1; omega, by show 0 + 10 ≤ 10; omega⟩ ?_
  rintro _ _ ⟨rfl, q, rfl⟩
  refine q_nm (wz := ((q, q_ar cc 10 (va_up (fun _ => none) 0 (some x))) :: (a, q_al (mo + 1) q 1) :: E)) (ka := 1) (kb := 10) (sz := []) rfl (Nat.zero_add _) (Nat.zero_add _) rfl ?_
  refine q_iconst (pc := 23) C (1 : Int32) dJx4a65c_add_9ea2d_23 q_ci_1 ?_
  exact q_zret (pc := 24) C (by decide +kernel) dJx4a65c_add_9ea2d_24 ⟨rfl, q, rfl⟩
set_option maxRecDepth 100000 in
set_option maxHeartbeats 4000000 in
theorem c_al_addC (l : Launch) (D : va_G) (cc : Nat → ClassId) (N0 : Nat) (E : va_W) (a ev x cap : Nat) (mo : Int32) (el : Nat → Option Nat) (h2 : 2 ≤ cap) (h3 : cap ≤ 400) (hel : ∀ i : Nat, i < cap → ∀ y : Nat, el i = some y → q_Any D cc N0 ((a, q_al (mo + 1) ev (nI cap)) :: (ev, q_ar cc cap el) :: E) y) (hx : ∀ q, q_Any D cc N0 ((q, q_ar cc (cap + cap / 2) (va_cpy el (fun _ => none) 0 0 cap)) :: (ev, q_ar cc cap el) :: (a, q_al (mo + 1) q (nI cap)) :: E) x) : q_Met l yJx4a65c_add_9ea2d wsJx4a65c_add_9ea2d 6 180 D cc N0 ((a, q_al mo ev (nI cap)) :: (ev, q_ar cc cap el) :: E) [.ref a, .ref x] (fun rv w1 => rv = some (.int 1) ∧ ∃ q : Nat, w1 = ((q, q_ar cc (cap + cap / 2) (va_up (va_cpy el (fun _ => none) 0 0 cap) cap (some x))) :: (ev, q_ar cc cap el) :: (a, q_al (mo + 1) q (nI (cap + 1))) :: E)) 1 (cap + cap / 2) := by
  refine q_ofW (code := cJx4a65c_add_9ea2d) (nL := 2) (ret := (some .boolean)) (by decide +kernel) rfl (Nat.le_of_ble_eq_true rfl) (fun p e s m below meth c C hini => ?_)
  refine q_lv (lv2 := [(0, .ref a), (1, .ref x)]) rfl ?_
  refine q_aload_n (pc := 0) C dJx4a65c_add_9ea2d_0 rfl 0 rfl ?_
  refine q_dup (pc := 1) C dJx4a65c_add_9ea2d_1 rfl ?_
  refine q_getS (pc := 2) C 0 rfl rfl n_Jx4a65c_add_9ea2d_Jx4a65c 0 (by decide) (List.mem_of_getElem? (i := 1) rfl) (List.mem_of_getElem? (i := 2) rfl) rfl dJx4a65c_add_9ea2d_2 ?_
  refine q_iconst (pc := 5) C (1 : Int32) dJx4a65c_add_9ea2d_5 q_ci_1 ?_
  refine q_iadd (pc := 6) C dJx4a65c_add_9ea2d_6 ?_
  refine q_putS (pc := 7) C 0 rfl rfl n_Jx4a65c_add_9ea2d_Jx4a65c tyJx4a65c tyJx4a65c_ok nmJx4a65c 0 (by decide) (List.mem_of_getElem? (i := 1) rfl) (List.mem_of_getElem? (i := 2) rfl) rfl rfl rfl (Nat.le_of_ble_eq_true rfl) dJx4a65c_add_9ea2d_7 (ws1 := ((a, q_al (mo + 1) ev (nI cap)) :: (ev, q_ar cc cap el) :: E)) rfl ?_
  refine q_aload_n (pc := 10) C dJx4a65c_add_9ea2d_10 rfl 0 rfl ?_
  refine q_aload_n (pc := 11) C dJx4a65c_add_9ea2d_11 rfl 1 rfl ?_
  refine q_aload_n (pc := 12) C dJx4a65c_add_9ea2d_12 rfl 0 rfl ?_
  refine q_get (pc := 13) C 0 rfl rfl n_Jx4a65c_add_9ea2d_Jx4a65c 1 (by decide) (List.mem_of_getElem? (i := 3) rfl) rfl dJx4a65c_add_9ea2d_13 ?_
  refine q_aload_n (pc := 16) C dJx4a65c_add_9ea2d_16 rfl 0 rfl ?_
  refine q_get (pc := 17) C 0 rfl rfl n_Jx4a65c_add_9ea2d_Jx4a65c 2 (by decide) (List.mem_of_getElem? (i := 4) rfl) rfl dJx4a65c_add_9ea2d_17 ?_
  refine q_callV (pc := 20) (As := [.ref x, .ref ev, .int (nI cap)]) (rest := []) C (c_addC l D cc N0 E a ev x cap (mo + 1) el h2 h3 hel hx) gJx4a65c_add_9ea2d_Jx4a65c_add_72be8 rfl rfl z_Jx4a65c_add_72be8 ⟨(Nat.le_of_ble_eq_true rfl), (Nat.le_of_ble_eq_true rfl)⟩ (show ((a, q_al (mo + 1) ev (nI cap)) :: (ev, q_ar cc cap el) :: E)[0]? = some (a, _) from rfl) rfl rfl rfl (Nat.le_of_ble_eq_true rfl) dJx4a65c_add_9ea2d_20 ⟨by show 0 + 1 ≤ 1; omega, by show 0 + (cap + cap / 2) ≤ (cap + cap / 2); omega⟩ ?_
  rintro _ _ ⟨rfl, q, rfl⟩
  refine q_nm (wz := ((q, q_ar cc (cap + cap / 2) (va_up (va_cpy el (fun _ => none) 0 0 cap) cap (some x))) :: (ev, q_ar cc cap el) :: (a, q_al (mo + 1) q (nI (cap + 1))) :: E)) (ka := 1) (kb := (cap + cap / 2)) (sz := []) rfl (Nat.zero_add _) (Nat.zero_add _) rfl ?_
  refine q_iconst (pc := 23) C (1 : Int32) dJx4a65c_add_9ea2d_23 q_ci_1 ?_
  exact q_zret (pc := 24) C (by decide +kernel) dJx4a65c_add_9ea2d_24 ⟨rfl, q, rfl⟩
