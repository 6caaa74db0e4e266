theorem room_c : 822100 ≤ room_1.cells := by decide
theorem room_s : 5326600 ≤ room_1.slots := by decide
theorem ite_go {c : Prop} [Decidable c] {a b : Option Bool} (ha : a = some true) (hb : ¬ c → b = some true) : (if c then a else b) = some true := by
  by_cases h : c
  · rw [if_pos h]; exact ha
  · rw [if_neg h]; exact hb h
theorem no_other {op : Int32} (h : ¬ (op.toInt < 0 ∨ 45 < op.toInt)) (hn : ∀ k, k < 46 → ¬ op = nI k) : False := by
  have h0 : ¬ op < 0 := fun e => h (Or.inl ((fa_lt op 0).mp e))
  obtain ⟨j, hj, rfl⟩ := nI_of h0
  have e := nI_toInt hj
  rw [e] at h
  exact hn j (by omega) rfl
theorem ends {L t : Nat} (hL : L ≤ 2048) (ht : t ≤ 512) (h : L < 4 * t + 4) : (Int32.ofNat L) - (4 : Int32) < nI (4 * t) := by
  show nI L - nI 4 < nI (4 * t)
  rcases Nat.lt_or_ge L 4 with c | c
  · have hz : nI L - nI 4 < 0 := by
      match L, c with
      | 0, _ => decide
      | 1, _ => decide
      | 2, _ => decide
      | 3, _ => decide
    exact Int32.lt_of_lt_of_le hz (i32_lt.mp (nI_pos (by omega)))
  · rw [nI_sub c]
    exact nI_lt (by omega) (by omega)
theorem goes {L t : Nat} (hL : L ≤ 2048) (h : 4 * t + 4 ≤ L) : ¬ (Int32.ofNat L) - (4 : Int32) < nI (4 * t) := by
  show ¬ nI L - nI 4 < nI (4 * t)
  rw [nI_sub (by omega)]
  exact nI_nlt (by omega) (by omega)
theorem b0 {a b c k q : Nat} (hs : k ≤ a + b) (h : q ≤ k + c) : q ≤ a + (b + c) := by omega
theorem b1 {a b c c' d e : Nat} (h : c ≤ c') : (a + b + c) + d + e ≤ a + (b + d) + (c' + e) := by omega
theorem b2 {a b d : Nat} : (a + b + 0) + d + 0 ≤ a + (b + d) + 0 := by omega
theorem b4 {ks t q : Nat} (hs : ks ≤ 1707 + 10400 * t) (h : q ≤ ks + 10400) : q ≤ 1707 + 10400 * (t + 1) := by
  rw [Nat.mul_succ 10400 t]
  exact b0 hs h
theorem b5 {kc kc' n n' t : Nat} (hB : kc + 1591 * n ≤ 36 + 1601 * t + (if n = 5 then 20 * t else 0)) (i2 : n ≤ n') (h5 : n' ≤ 5) (i3 : kc' + 1591 * n' ≤ kc + 1591 * n + 1601 + (if n' = 5 then 20 else 0)) : kc' + 1591 * n' ≤ 36 + 1601 * (t + 1) + (if n' = 5 then 20 * (t + 1) else 0) := by
  rw [Nat.mul_succ 1601 t, Nat.mul_succ 20 t]
  refine Nat.le_trans i3 (Nat.le_trans (Nat.add_le_add_right (Nat.add_le_add_right hB _) _) ?_)
  by_cases c5 : n' = 5
  · rw [if_pos c5, if_pos c5]
    refine b1 ?_
    split
    · exact Nat.le_refl _
    · exact Nat.zero_le _
  · rw [if_neg c5, if_neg c5, if_neg (show ¬ n = 5 by omega)]
    exact b2
set_option maxRecDepth 8192 in
theorem law_go {L : Nat} {xs : Nat → Int32} (hL : L ≤ 2048) : ∀ d t kc ks (S : LSt), t + d = 512 → INV S.2.1 S.1 → kc + 1591 * S.1.2.1 2 ≤ 36 + 1601 * t + (if S.1.2.1 2 = 5 then 20 * t else 0) → ks ≤ 1707 + 10400 * t → f_L_law_28 L xs (d + 1) kc ks (nI (4 * t)) S = some true
  | 0, t, kc, ks, S, ht, hI, hB, hs => by
    have r1 := room_c
    have r2 := room_s
    have hkc : kc ≤ room_1.cells := by
      by_cases c : S.1.2.1 2 = 5
      · rw [if_pos c] at hB; omega
      · rw [if_neg c] at hB; omega
    show f_L_law_28b L xs (f_L_law_28 L xs 0) kc ks (nI (4 * t)) S = _
    unfold f_L_law_28b
    rw [if_pos (ends hL (by omega) (by omega)), if_pos ⟨hkc, by omega⟩]
  | d + 1, t, kc, ks, S, ht, hI, hB, hs => by
    have r1 := room_c
    have r2 := room_s
    have hn5 : S.1.2.1 2 ≤ 5 := by
      obtain ⟨-, -, ⟨n, ac, mv, h1, -, -, -, h5, -⟩, -⟩ := hI
      omega
    have hkc : kc + 1601 ≤ room_1.cells := by
      by_cases c : S.1.2.1 2 = 5
      · rw [if_pos c] at hB; omega
      · rw [if_neg c] at hB; omega
    have hk5 : S.1.2.1 2 = 5 → kc + 1621 ≤ room_1.cells := fun c => by
      rw [if_pos c] at hB; omega
    have hks : ks + 10400 ≤ room_1.slots := by omega
    have ht2 : t + 1 + d = 512 := by omega
    have hb4 : ∀ q, q ≤ ks + 10400 → q ≤ 1707 + 10400 * (t + 1) := fun q h => b4 hs h
    show f_L_law_28b L xs (f_L_law_28 L xs (d + 1)) kc ks (nI (4 * t)) S = _
    unfold f_L_law_28b
    rcases Nat.lt_or_ge L (4 * t + 4) with c | c
    · rw [if_pos (ends hL (by omega) c), if_pos ⟨by omega, by omega⟩]
    · have hq : qs3 L (nI (4 * t)) := by
        refine ⟨?_, ?_, ?_⟩
        · rw [show nI (4 * t) + (1 : Int32) = nI (4 * t + 1) from nI_add _ 1]; exact q_in_nI (by omega) (by omega)
        · rw [show nI (4 * t) + (2 : Int32) = nI (4 * t + 2) from nI_add _ 2]; exact q_in_nI (by omega) (by omega)
        · rw [show nI (4 * t) + (3 : Int32) = nI (4 * t + 3) from nI_add _ 3]; exact q_in_nI (by omega) (by omega)
      have fin : ∀ r, okT (f_L_law_28 L xs (d + 1)) kc ks (nI (4 * t)) S r → r = some true := by
        rintro r ⟨kc', ks', S', e, i1, i2, i3, i4⟩
        rw [e, show nI (4 * t) + (4 : Int32) = nI (4 * (t + 1)) from nI_add _ 4]
        have hm5 : S'.1.2.1 2 ≤ 5 := by
          obtain ⟨-, -, ⟨n, ac, mv, h1, -, -, -, h5, -⟩, -⟩ := i1
          omega
        exact law_go hL d (t + 1) kc' ks' S' ht2 i1 (b5 hB i2 hm5 i3) (hb4 ks' i4)
      rw [if_neg (goes hL c), if_pos (q_in_nI (by omega) (by omega))]
      refine ite_go (fin _ (okT.mk (c := 0) (s := 0) (S' := S) rfl ⟨hI, rfl⟩ (by decide) (by decide))) (fun hop => ?_)
      refine ite_go (fin _ (u_0 hI hq hkc hks)) (fun h0 => ?_)
      refine ite_go (fin _ (u_1 hI hq hkc hks)) (fun h1 => ?_)
      refine ite_go (fin _ (u_2 hI hq hkc hks)) (fun h2 => ?_)
      refine ite_go (fin _ (u_3 hI hq hkc hks)) (fun h3 => ?_)
      refine ite_go (fin _ (u_4 hI hq hkc hks)) (fun h4 => ?_)
      refine ite_go (fin _ (u_5 hI hq hkc hks)) (fun h5 => ?_)
      refine ite_go (fin _ (u_6 hI hq hkc hks)) (fun h6 => ?_)
      refine ite_go (fin _ (u_7 hI hq hkc hks)) (fun h7 => ?_)
      refine ite_go (fin _ (u_8 hI hq hkc hks)) (fun h8 => ?_)
      refine ite_go (fin _ (u_9 hI hq hkc hks)) (fun h9 => ?_)
      refine ite_go (fin _ (u_10 hI hq hkc hks)) (fun h10 => ?_)
      refine ite_go (fin _ (u_11 hI hq hkc hks)) (fun h11 => ?_)
      refine ite_go (fin _ (u_12 hI hq hkc hks)) (fun h12 => ?_)
      refine ite_go (fin _ (u_13 hI hq hkc hks)) (fun h13 => ?_)
      refine ite_go (fin _ (u_14 hI hq hkc hks)) (fun h14 => ?_)
      refine ite_go (fin _ (u_15 hI hq hkc hks)) (fun h15 => ?_)
      refine ite_go (fin _ (u_16 hI hq hkc hks)) (fun h16 => ?_)
      refine ite_go (fin _ (u_17 hI hq hkc hks)) (fun h17 => ?_)
      refine ite_go (fin _ (u_18 hI hq hkc hks)) (fun h18 => ?_)
      refine ite_go (fin _ (u_19 hI hq hkc hks)) (fun h19 => ?_)
      refine ite_go (fin _ (u_20 hI hq hkc hks)) (fun h20 => ?_)
      refine ite_go (fin _ (u_21 hI hq hkc hks)) (fun h21 => ?_)
      refine ite_go (fin _ (u_22 hI hq hkc hks)) (fun h22 => ?_)
      refine ite_go (fin _ (u_23 hI hq hkc hks)) (fun h23 => ?_)
      refine ite_go (fin _ (u_24 hI hq hkc hks)) (fun h24 => ?_)
      refine ite_go (fin _ (u_25 hI hq hkc hks)) (fun h25 => ?_)
      refine ite_go (fin _ (u_26 hI hq hkc hks)) (fun h26 => ?_)
      refine ite_go (fin _ (u_27 hI hq hkc hks)) (fun h27 => ?_)
      refine ite_go (fin _ (u_28 hI hq hkc hks)) (fun h28 => ?_)
      refine ite_go (fin _ (u_29 hI hq hkc hks)) (fun h29 => ?_)
      refine ite_go (fin _ (u_30 hI hq hkc hk5 hks)) (fun h30 => ?_)
      refine ite_go (fin _ (u_31 hI hq hkc hks)) (fun h31 => ?_)
      refine ite_go (fin _ (u_32 hI hq hkc hks)) (fun h32 => ?_)
      refine ite_go (fin _ (u_33 hI hq hkc hks)) (fun h33 => ?_)
      refine ite_go (fin _ (u_34 hI hq hkc hks)) (fun h34 => ?_)
      refine ite_go (fin _ (u_35 hI hq hkc hks)) (fun h35 => ?_)
      refine ite_go (fin _ (u_36 hI hq hkc hks)) (fun h36 => ?_)
      refine ite_go (fin _ (u_37 hI hq hkc hks)) (fun h37 => ?_)
      refine ite_go (fin _ (u_38 hI hq hkc hks)) (fun h38 => ?_)
      refine ite_go (fin _ (u_39 hI hq hkc hks)) (fun h39 => ?_)
      refine ite_go (fin _ (u_40 hI hq hkc hks)) (fun h40 => ?_)
      refine ite_go (fin _ (u_41 hI hq hkc hks)) (fun h41 => ?_)
      refine ite_go (fin _ (u_42 hI hq hkc hks)) (fun h42 => ?_)
      refine ite_go (fin _ (u_43 hI hq hkc hks)) (fun h43 => ?_)
      refine ite_go (fin _ (u_44 hI hq hkc hks)) (fun h44 => ?_)
      refine ite_go (fin _ (u_45 hI hq hkc hks)) (fun h45 => ?_)
      refine (no_other hop (fun k hk => ?_)).elim
      have hk2 : k = 0 ∨ k = 1 ∨ k = 2 ∨ k = 3 ∨ k = 4 ∨ k = 5 ∨ k = 6 ∨ k = 7 ∨ k = 8 ∨ k = 9 ∨ k = 10 ∨ k = 11 ∨ k = 12 ∨ k = 13 ∨ k = 14 ∨ k = 15 ∨ k = 16 ∨ k = 17 ∨ k = 18 ∨ k = 19 ∨ k = 20 ∨ k = 21 ∨ k = 22 ∨ k = 23 ∨ k = 24 ∨ k = 25 ∨ k = 26 ∨ k = 27 ∨ k = 28 ∨ k = 29 ∨ k = 30 ∨ k = 31 ∨ k = 32 ∨ k = 33 ∨ k = 34 ∨ k = 35 ∨ k = 36 ∨ k = 37 ∨ k = 38 ∨ k = 39 ∨ k = 40 ∨ k = 41 ∨ k = 42 ∨ k = 43 ∨ k = 44 ∨ k = 45 := by omega
      rcases hk2 with rfl | rfl | rfl | rfl | rfl | rfl | rfl | rfl | rfl | rfl | rfl | rfl | rfl | rfl | rfl | rfl | rfl | rfl | rfl | rfl | rfl | rfl | rfl | rfl | rfl | rfl | rfl | rfl | rfl | rfl | rfl | rfl | rfl | rfl | rfl | rfl | rfl | rfl | rfl | rfl | rfl | rfl | rfl | rfl | rfl | rfl
      · exact h0
      · exact h1
      · exact h2
      · exact h3
      · exact h4
      · exact h5
      · exact h6
      · exact h7
      · exact h8
      · exact h9
      · exact h10
      · exact h11
      · exact h12
      · exact h13
      · exact h14
      · exact h15
      · exact h16
      · exact h17
      · exact h18
      · exact h19
      · exact h20
      · exact h21
      · exact h22
      · exact h23
      · exact h24
      · exact h25
      · exact h26
      · exact h27
      · exact h28
      · exact h29
      · exact h30
      · exact h31
      · exact h32
      · exact h33
      · exact h34
      · exact h35
      · exact h36
      · exact h37
      · exact h38
      · exact h39
      · exact h40
      · exact h41
      · exact h42
      · exact h43
      · exact h44
      · exact h45
