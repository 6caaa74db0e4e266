section AY
variable {S : CS} {M : MS} {n : Nat} {ac : Nat → Bool} {mv : Nat → Nat → Nat} {a b : Nat}
theorem putp_ne {i j c x y : Nat} {h5 : Nat → Nat → Int32} : putp mv i j c h5 x y ≠ 0 ↔ (x = mv i c ∧ y = mv j c) ∨ h5 x y ≠ 0 := by
  unfold putp
  rw [nup2]
  by_cases e : x = mv i c ∧ y = mv j c
  · rw [if_pos e]
    exact ⟨fun _ => Or.inl e, fun _ => by decide⟩
  · rw [if_neg e]
    exact ⟨fun h => Or.inr h, fun h => h.elim (fun h => absurd h e) id⟩
theorem apJ_zero {i j : Nat} {h3 h5 : Nat → Nat → Int32} (hJ : apJ ac mv n h3 h5 i j) (e : h3 i j = 0) : apJ ac mv n h3 h5 i (j + 1) := by
  refine ⟨fun p q hp hq hd he => hJ.1 p q hp hq ?_ he, hJ.2⟩
  rcases hd with c | ⟨c1, c2⟩
  · exact Or.inl c
  · refine Or.inr ⟨c1, ?_⟩
    rcases Nat.lt_or_ge q j with d | d
    · exact d
    · have : q = j := by omega
      subst this; subst c1
      exact absurd e he
theorem apJ_put {i j : Nat} {h3 h5 : Nat → Nat → Int32} (hi : i < n) (hj : j < n) (hJ : apJ ac mv n h3 h5 i j) (e : h3 i j ≠ 0) (ea : ac i = ac j) : apJ ac mv n h3 (putp mv i j 1 (putp mv i j 0 h5)) i (j + 1) := by
  refine ⟨fun p q hp hq hd he => ?_, fun x y he => ?_⟩
  · by_cases c : p < i ∨ p = i ∧ q < j
    · have := hJ.1 p q hp hq c he
      exact ⟨this.1, fun c2 hc2 => putp_ne.mpr (Or.inr (putp_ne.mpr (Or.inr (this.2 c2 hc2))))⟩
    · have h1 : p = i := by omega
      have h2 : q = j := by omega
      subst h1; subst h2
      refine ⟨ea, fun c2 hc2 => ?_⟩
      match c2, hc2 with
      | 0, _ => exact putp_ne.mpr (Or.inr (putp_ne.mpr (Or.inl ⟨rfl, rfl⟩)))
      | 1, _ => exact putp_ne.mpr (Or.inl ⟨rfl, rfl⟩)
  · rcases putp_ne.mp he with ⟨e1, e2⟩ | h
    · exact ⟨i, j, 1, hi, hj, by decide, e, e1, e2⟩
    · rcases putp_ne.mp h with ⟨e1, e2⟩ | h
      · exact ⟨i, j, 0, hi, hj, by decide, e, e1, e2⟩
      · exact hJ.2 x y h
theorem apJ_row {i : Nat} {h3 h5 : Nat → Nat → Int32} (hJ : apJ ac mv n h3 h5 i n) : apJ ac mv n h3 h5 (i + 1) 0 :=
  ⟨fun p q hp hq hd he => hJ.1 p q hp hq (by omega) he, hJ.2⟩
theorem ap119_2 (h : RSs S M n ac mv) {i j : Nat} (hi : i < n) (hj : j < n) {k16 : Nat → Nat → Int32 → (Nat → Nat → Int32) → Option Int32} {k34 : Nat → Nat → Int32 → Int32 → (Nat → Nat → Int32) → (Nat → Nat → Int32) → Option Int32} {k51 : Nat → Nat → Int32 → Int32 → Int32 → (Nat → Nat → Int32) → (Nat → Nat → Int32) → Option Int32} {kc ks : Nat} {v4 : Int32} {h3 h5 : Nat → Nat → Int32} : f_X9_apartBy_119 M k16 k34 k51 1000 kc ks v4 (nI i) (nI j) 1 h3 h5 = k51 kc ks v4 (nI i) (nI (j + 1)) h3 (putp mv i j 1 (putp mv i j 0 h5)) := by
  have e1 := ap119 h hi hj (c := 0) (by decide) (k16 := k16) (k34 := k34) (k51 := k51) (m := 999) (kc := kc) (ks := ks) (v4 := v4) (h3 := h3) (h5 := h5)
  have e2 := ap119 h hi hj (c := 1) (by decide) (k16 := k16) (k34 := k34) (k51 := k51) (m := 998) (kc := kc) (ks := ks) (v4 := v4) (h3 := h3) (h5 := putp mv i j 0 h5)
  have e3 : f_X9_apartBy_119 M k16 k34 k51 998 kc ks v4 (nI i) (nI j) (nI (2 + 1)) h3 (putp mv i j 1 (putp mv i j 0 h5)) = k51 kc ks v4 (nI i) (nI (j + 1)) h3 (putp mv i j 1 (putp mv i j 0 h5)) := by
    show f_X9_apartBy_119b M k16 k34 k51 (f_X9_apartBy_119 M k16 k34 k51 997) kc ks v4 (nI i) (nI j) (nI (2 + 1)) h3 (putp mv i j 1 (putp mv i j 0 h5)) = _
    unfold f_X9_apartBy_119b f_X9_apartBy_170
    rw [if_pos (show (2 : Int32) < nI (2 + 1) by decide), nI_1]
  exact e1.trans (e2.trans e3)
def apG (ac : Nat → Bool) (mv : Nat → Nat → Nat) (a b : Nat) (o : Option Int32) : Prop := ∃ r, o = some r ∧ apRes ac mv a b 26 r
theorem ap51 (h : RSs S M n ac mv) {l i kc ks : Nat} (hl : l < 26) (hi : i < n) {k16 : Nat → Nat → Int32 → (Nat → Nat → Int32) → Option Int32} {k34 : Nat → Nat → Int32 → Int32 → (Nat → Nat → Int32) → (Nat → Nat → Int32) → Option Int32} {h3 : Nat → Nat → Int32} (hI : apI ac mv n a b l h3) (hk : ∀ h5, apJ ac mv n h3 h5 (i + 1) 0 → apG ac mv a b (k34 kc ks (nI l) (nI (i + 1)) h3 h5)) {h5 : Nat → Nat → Int32} (hJ : apJ ac mv n h3 h5 i 0) : apG ac mv a b (f_X9_apartBy_51 M k16 k34 1000 kc ks (nI l) (nI i) (nI 0) h3 h5) := by
  have hn := h.1
  have hN : M.2.1 2 = n := h.2.2.2.2.1
  refine pu_forS (W := fun m j (h5 : Nat → Nat → Int32) => apG ac mv a b (f_X9_apartBy_51 M k16 k34 m kc ks (nI l) (nI i) (nI j) h3 h5)) (I := fun j h5 => apJ ac mv n h3 h5 i j) n (fun m h5 hJ => ?_) (fun m j h5 hj hJ ih => ?_) n 1000 0 h5 (Nat.zero_add n) (by omega) hJ
  · show apG ac mv a b (f_X9_apartBy_51b M k16 k34 (f_X9_apartBy_51 M k16 k34 m) kc ks (nI l) (nI i) (nI n) h3 h5)
    unfold f_X9_apartBy_51b
    rw [hN, if_pos (nI_le (Nat.le_refl n) (by omega)), nI_1]
    exact hk h5 (apJ_row hJ)
  · show apG ac mv a b (f_X9_apartBy_51b M k16 k34 (f_X9_apartBy_51 M k16 k34 m) kc ks (nI l) (nI i) (nI j) h3 h5)
    have e3 : h3 (nI i).toNatClampNeg (nI j).toNatClampNeg = h3 i j := by rw [nI_clamp (by omega), nI_clamp (by omega)]
    have ri : M.2.2.1 2 (nI i).toNatClampNeg 0 = q_b (ac i) := by rw [nI_clamp (by omega)]; exact (h.2.2.2.2.2 i hi).1
    have rj : M.2.2.1 2 (nI j).toNatClampNeg 0 = q_b (ac j) := by rw [nI_clamp (by omega)]; exact (h.2.2.2.2.2 j hj).1
    unfold f_X9_apartBy_51b f_X9_apartBy_170
    rw [hN, if_neg (nI_ge hj (by omega)), if_pos (q_in_nI (by omega) (by decide)), if_pos ⟨(q_in_nI (i := i) (n := 5) (by omega) (by decide)).2, q_in_nI (by omega) (by decide)⟩, e3]
    by_cases c : h3 i j = 0
    · rw [if_pos c, nI_1]
      exact ih h5 (apJ_zero hJ c)
    · rw [if_neg c, if_pos (q_in_nI hi (by omega)), if_pos (q_in_nI (i := i) (n := n) hi (by omega)).2, if_pos (q_in_nI hj (by omega)), if_pos (q_in_nI (i := j) (n := n) hj (by omega)).2, ri, rj]
      by_cases d : ac i = ac j
      · rw [if_pos (qb_e.mpr d), ap119_2 h hi hj]
        exact ih _ (apJ_put hi hj hJ c d)
      · rw [if_neg (fun e => d (qb_e.mp e))]
        exact ⟨nI l, rfl, Or.inr ⟨l, hl, rfl, hI.1, apI_hit hI c d⟩⟩
theorem ap34 (h : RSs S M n ac mv) {l kc ks : Nat} (hl : l < 26) {k16 : Nat → Nat → Int32 → (Nat → Nat → Int32) → Option Int32} {h3 : Nat → Nat → Int32} (hI : apI ac mv n a b l h3) (hk : ∀ h5, apJ ac mv n h3 h5 n 0 → apG ac mv a b (k16 kc ks (nI (l + 1)) h5)) {h5 : Nat → Nat → Int32} (hJ : apJ ac mv n h3 h5 0 0) : apG ac mv a b (f_X9_apartBy_34 M k16 1000 kc ks (nI l) (nI 0) h3 h5) := by
  have hn := h.1
  have hN : M.2.1 2 = n := h.2.2.2.2.1
  refine pu_forS (W := fun m i (h5 : Nat → Nat → Int32) => apG ac mv a b (f_X9_apartBy_34 M k16 m kc ks (nI l) (nI i) h3 h5)) (I := fun i h5 => apJ ac mv n h3 h5 i 0) n (fun m h5 hJ => ?_) (fun m i h5 hi hJ ih => ?_) n 1000 0 h5 (Nat.zero_add n) (by omega) hJ
  · show apG ac mv a b (f_X9_apartBy_34b M k16 (f_X9_apartBy_34 M k16 m) kc ks (nI l) (nI n) h3 h5)
    unfold f_X9_apartBy_34b
    rw [hN, if_pos (nI_le (Nat.le_refl n) (by omega)), nI_1]
    exact hk h5 hJ
  · show apG ac mv a b (f_X9_apartBy_34b M k16 (f_X9_apartBy_34 M k16 m) kc ks (nI l) (nI i) h3 h5)
    unfold f_X9_apartBy_34b
    rw [hN, if_neg (nI_ge hi (by omega))]
    exact ap51 h hl hi hI ih hJ
theorem ap16 (h : RSs S M n ac mv) {h3 : Nat → Nat → Int32} (hI : apI ac mv n a b 0 h3) : apG ac mv a b (f_X9_apartBy_16 M 27 (6 * 0 + 6) (30 * 0 + 30) (nI 0) h3) := by
  refine pu_forS (W := fun m l (h3 : Nat → Nat → Int32) => apG ac mv a b (f_X9_apartBy_16 M m (6 * l + 6) (30 * l + 30) (nI l) h3)) (I := fun l h3 => apI ac mv n a b l h3) 26 (fun m h3 hI => ?_) (fun m l h3 hl hI ih => ?_) 26 27 0 h3 (Nat.zero_add 26) (by decide) hI
  · show apG ac mv a b (f_X9_apartBy_16b M (f_X9_apartBy_16 M m) (6 * 26 + 6) (30 * 26 + 30) (nI 26) h3)
    unfold f_X9_apartBy_16b
    rw [if_pos (show (25 : Int32) < nI 26 by decide)]
    exact ⟨-1, rfl, Or.inl ⟨hI.1, rfl⟩⟩
  · show apG ac mv a b (f_X9_apartBy_16b M (f_X9_apartBy_16 M m) (6 * l + 6) (30 * l + 30) (nI l) h3)
    unfold f_X9_apartBy_16b
    rw [if_neg (show ¬ (25 : Int32) < nI l from nI_nlt (a := 25) (b := l) (by omega) (by decide)), if_pos (by omega), show 6 * l + 6 + 6 = 6 * (l + 1) + 6 by omega, show 30 * l + 30 + 30 = 30 * (l + 1) + 30 by omega]
    exact ap34 h hl hI (fun h5 hJ => ih h5 (apI_next h.2.1 hI hJ)) ⟨fun p q _ _ hd => by omega, fun x y e => absurd rfl e⟩
theorem m_apart (h : RSs S M n ac mv) (ha : a < n) (hb : b < n) : ∃ r, f_X9_apartBy M (nI a) (nI b) = some r ∧ apRes ac mv a b 26 r := by
  have hn := h.1
  have e : nup (fun _ _ => (0 : Int32)) (nI a).toNatClampNeg (upd ((fun _ _ => (0 : Int32)) (nI a).toNatClampNeg) (nI b).toNatClampNeg (vp_nar .boolean (1 : Int32))) = fun x y => if x = a ∧ y = b then 1 else 0 := by
    funext x y
    rw [nI_clamp (by omega), nI_clamp (by omega), narb]
    exact nup2
  unfold f_X9_apartBy f_X9_apartBy_0
  rw [if_pos (by decide), if_pos (q_in_nI (by omega) (by decide)), if_pos ⟨(q_in_nI (i := a) (n := 5) (by omega) (by decide)).2, q_in_nI (by omega) (by decide)⟩, e]
  have hz : ∀ p q, (fun x y => if x = a ∧ y = b then (1 : Int32) else 0) p q ≠ 0 ↔ p = a ∧ q = b := fun p q => by
    show (if p = a ∧ q = b then (1 : Int32) else 0) ≠ 0 ↔ _
    by_cases c : p = a ∧ q = b
    · rw [if_pos c]; exact ⟨fun _ => c, fun _ => by decide⟩
    · rw [if_neg c]; exact ⟨fun h => absurd rfl h, fun h => absurd h c⟩
  refine ap16 h ⟨rfl, fun p q e => ?_, fun j => ?_⟩
  · obtain ⟨rfl, rfl⟩ := (hz p q).mp e
    exact ⟨ha, hb⟩
  · rw [Nat.zero_add]
    constructor
    · intro hh p q e
      obtain ⟨rfl, rfl⟩ := (hz p q).mp e
      exact hh
    · intro hh
      exact hh a b ((hz a b).mpr ⟨rfl, rfl⟩)
theorem RS.ap (h : RSs S M n ac mv) (ha : a < n) (hb : b < n) : ∃ r, f_X3_lengthApart S (nI a) (nI b) = some r ∧ f_X9_apartBy M (nI a) (nI b) = some r ∧ apRes ac mv a b n r := by
  obtain ⟨r, r1, r2⟩ := x_apart h ha hb
  obtain ⟨s, s1, s2⟩ := m_apart h ha hb
  have hn := h.1
  have : r = s := apRes_one h.2.1 ha hb (by omega) r2 s2
  subst this
  exact ⟨r, r1, s1, r2⟩
end AY
