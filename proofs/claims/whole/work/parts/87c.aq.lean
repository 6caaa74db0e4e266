/-! machines: states told apart, on both sides -/
def apRes (ac : Nat → Bool) (mv : Nat → Nat → Nat) (a b K : Nat) (r : Int32) : Prop := (eqk ac mv K a b = true ∧ r = -1) ∨ ∃ l, l < K ∧ r = nI l ∧ eqk ac mv l a b = true ∧ eqk ac mv (l + 1) a b = false
theorem apRes_one {ac : Nat → Bool} {mv : Nat → Nat → Nat} {n a b K : Nat} {r r2 : Int32} (hc : clo mv n) (ha : a < n) (hb : b < n) (hK : n ≤ K) (h : apRes ac mv a b n r) (h2 : apRes ac mv a b K r2) : r = r2 := by
  have hm := moore_eq (ac := ac) hc ha hb hK
  rcases h with ⟨e1, e2⟩ | ⟨l, l1, l2, l3, l4⟩
  · rcases h2 with ⟨f1, f2⟩ | ⟨l, l1, l2, l3, l4⟩
    · rw [e2, f2]
    · rw [moore hc ha hb e1 (l + 1)] at l4
      exact absurd l4 (by decide)
  · rcases h2 with ⟨f1, f2⟩ | ⟨k, k1, k2, k3, k4⟩
    · rw [hm] at f1
      rw [eqk_mono (by omega : l + 1 ≤ n) f1] at l4
      exact absurd l4 (by decide)
    · rw [l2, k2, eqk_one l3 l4 k3 k4]
theorem apRes_no {ac : Nat → Bool} {mv : Nat → Nat → Nat} {a b K : Nat} {r : Int32} (hK : K < 100) (h : apRes ac mv a b K r) : (r = -1 ↔ eqk ac mv K a b = true) ∧ (0 ≤ r ↔ eqk ac mv K a b = false) := by
  rcases h with ⟨e1, rfl⟩ | ⟨l, l1, rfl, l3, l4⟩
  · rw [e1]
    exact ⟨⟨fun _ => rfl, fun _ => rfl⟩, ⟨fun e => absurd e (by decide), fun e => absurd e (by decide)⟩⟩
  · have e0 : eqk ac mv K a b = false := by
      cases c : eqk ac mv K a b
      · rfl
      · rw [eqk_mono (by omega : l + 1 ≤ K) c] at l4
        exact absurd l4 (by decide)
    rw [e0]
    have hp := nI_pos (n := l) (by omega)
    refine ⟨⟨fun e => ?_, fun e => absurd e (by decide)⟩, ⟨fun _ => rfl, fun _ => i32_lt.mp hp⟩⟩
    rw [e] at hp
    exact absurd (by decide : (-1 : Int32) < 0) hp
section AX
variable {S : CS} {M : MS} {n : Nat} {ac : Nat → Bool} {mv : Nat → Nat → Nat} {a b : Nat}
def laW (S : CS) (ac : Nat → Bool) (mv : Nat → Nat → Nat) (n a b k l : Nat) : Prop := eqk ac mv l a b = true → ∃ r, f_X3_lengthApart_2 S k (nI a) (nI b) (nI l) = some r ∧ apRes ac mv a b n r
theorem la_in (h : RSs S M n ac mv) (ha : a < n) (hb : b < n) {k l : Nat} (hl : l < n) (he : eqk ac mv l a b = true) (ih : laW S ac mv n a b k (l + 1)) : ∃ r, f_X3_lengthApart_13 S (f_X3_lengthApart_2 S k) 1000 (nI a) (nI b) (nI l) (nI 0) = some r ∧ apRes ac mv a b n r := by
  have h5 := h.1
  have hp : 2 ^ l ≤ 2 ^ 4 := Nat.pow_le_pow_right (by decide) (by omega)
  have key := pu_for0 (W := fun j m => (∀ i, i < m → ac (rn mv l i a) = ac (rn mv l i b)) → ∃ r, f_X3_lengthApart_13 S (f_X3_lengthApart_2 S k) j (nI a) (nI b) (nI l) (nI m) = some r ∧ apRes ac mv a b n r) (e := 2 ^ l) (n := 1000) (by omega) (fun j hj => ?_) (fun j m hm ihj hj => ?_)
  · exact key (fun i hi => absurd hi (Nat.not_lt_zero i))
  · have e2 : eqk ac mv (l + 1) a b = true := (eqk_iff _ _ _).mpr (fun l2 hl2 m hm => by
      rcases Nat.lt_or_ge l2 l with c | c
      · exact (eqk_iff _ _ _).mp he l2 c m hm
      · have : l2 = l := by omega
        subst this
        exact hj m hm)
    obtain ⟨r, r1, r2⟩ := ih e2
    refine ⟨r, ?_, r2⟩
    show f_X3_lengthApart_13b _ _ _ _ _ _ _ = _
    unfold f_X3_lengthApart_13b
    rw [nI_one l (by omega), if_pos (nI_le (Nat.le_refl _) (by omega)), nI_1, r1]
  · have e0 : f_X3_lengthApart_13 S (f_X3_lengthApart_2 S k) (j + 1) (nI a) (nI b) (nI l) (nI m) = if q_b (ac (rn mv l m a)) = q_b (ac (rn mv l m b)) then f_X3_lengthApart_13 S (f_X3_lengthApart_2 S k) j (nI a) (nI b) (nI l) (nI (m + 1)) else some (nI l) := by
      show f_X3_lengthApart_13b _ _ _ _ _ _ _ = _
      unfold f_X3_lengthApart_13b
      rw [nI_one l (by omega), if_neg (nI_ge hm (by omega)), RS.well h (by omega) (by omega) ha, RS.well h (by omega) (by omega) hb]
      simp only [Option.bind_some]
      rw [nI_1]
    rw [e0]
    by_cases c : ac (rn mv l m a) = ac (rn mv l m b)
    · rw [if_pos (qb_e.mpr c)]
      exact ihj (fun i hi => by
        rcases Nat.lt_or_ge i m with d | d
        · exact hj i d
        · have : i = m := by omega
          subst this
          exact c)
    · rw [if_neg (fun e => c (qb_e.mp e))]
      refine ⟨nI l, rfl, Or.inr ⟨l, hl, rfl, he, ?_⟩⟩
      cases e : eqk ac mv (l + 1) a b
      · rfl
      · exact absurd ((eqk_iff _ _ _).mp e l (Nat.lt_succ_self l) m hm) c
theorem x_apart (h : RSs S M n ac mv) (ha : a < n) (hb : b < n) : ∃ r, f_X3_lengthApart S (nI a) (nI b) = some r ∧ apRes ac mv a b n r := by
  have h5 := h.1
  have key := pu_for0 (W := fun k l => laW S ac mv n a b k l) (e := n) (n := 1000) (by omega) (fun k he => ?_) (fun k l hl ih he => ?_)
  · exact key rfl
  · refine ⟨-1, ?_, Or.inl ⟨he, rfl⟩⟩
    show f_X3_lengthApart_2b _ _ _ _ _ = _
    unfold f_X3_lengthApart_2b
    rw [h.2.2.1, if_pos (nI_le (Nat.le_refl n) (by omega))]
  · obtain ⟨r, r1, r2⟩ := la_in h ha hb hl he ih
    refine ⟨r, ?_, r2⟩
    show f_X3_lengthApart_2b _ _ _ _ _ = _
    unfold f_X3_lengthApart_2b
    rw [h.2.2.1, if_neg (nI_ge hl (by omega))]
    exact r1
/-! the reference's side: pairs, letter by letter -/
def apI (ac : Nat → Bool) (mv : Nat → Nat → Nat) (n a b l : Nat) (h3 : Nat → Nat → Int32) : Prop := eqk ac mv l a b = true ∧ (∀ p q, h3 p q ≠ 0 → p < n ∧ q < n) ∧ ∀ j, eqk ac mv (l + j) a b = true ↔ ∀ p q, h3 p q ≠ 0 → eqk ac mv j p q = true
def apJ (ac : Nat → Bool) (mv : Nat → Nat → Nat) (n : Nat) (h3 h5 : Nat → Nat → Int32) (i j : Nat) : Prop := (∀ p q, p < n → q < n → (p < i ∨ p = i ∧ q < j) → h3 p q ≠ 0 → ac p = ac q ∧ ∀ c, c < 2 → h5 (mv p c) (mv q c) ≠ 0) ∧ ∀ x y, h5 x y ≠ 0 → ∃ p q c, p < n ∧ q < n ∧ c < 2 ∧ h3 p q ≠ 0 ∧ x = mv p c ∧ y = mv q c
theorem apI_next (hc : clo mv n) {l : Nat} {h3 h5 : Nat → Nat → Int32} (h : apI ac mv n a b l h3) (hJ : apJ ac mv n h3 h5 n 0) : apI ac mv n a b (l + 1) h5 := by
  obtain ⟨i1, i2, i3⟩ := h
  obtain ⟨j1, j2⟩ := hJ
  have hall : ∀ p q, h3 p q ≠ 0 → ac p = ac q ∧ ∀ c, c < 2 → h5 (mv p c) (mv q c) ≠ 0 := fun p q e => j1 p q (i2 p q e).1 (i2 p q e).2 (Or.inl (i2 p q e).1) e
  refine ⟨(i3 1).mpr (fun p q e => eqk_succ.mpr ⟨(hall p q e).1, fun _ _ => rfl⟩), fun x y e => ?_, fun j => ?_⟩
  · obtain ⟨p, q, c, p1, p2, p3, -, rfl, rfl⟩ := j2 x y e
    exact ⟨hc p p1 c p3, hc q p2 c p3⟩
  · rw [show l + 1 + j = l + (j + 1) by omega, i3 (j + 1)]
    constructor
    · intro hh x y e
      obtain ⟨p, q, c, p1, p2, p3, p4, rfl, rfl⟩ := j2 x y e
      exact (eqk_succ.mp (hh p q p4)).2 c p3
    · intro hh p q e
      exact eqk_succ.mpr ⟨(hall p q e).1, fun c hc2 => hh _ _ ((hall p q e).2 c hc2)⟩
theorem apI_hit {l p q : Nat} {h3 : Nat → Nat → Int32} (h : apI ac mv n a b l h3) (e : h3 p q ≠ 0) (hn : ac p ≠ ac q) : eqk ac mv (l + 1) a b = false := by
  cases c : eqk ac mv (l + 1) a b
  · rfl
  · exact absurd (eqk_succ.mp ((h.2.2 1).mp c p q e)).1 hn
theorem nup2 {h5 : Nat → Nat → Int32} {x y u w : Nat} {v : Int32} : (nup h5 x (upd (h5 x) y v)) u w = if u = x ∧ w = y then v else h5 u w := by
  unfold nup upd
  by_cases c1 : u = x
  · subst c1
    rw [if_pos rfl]
    by_cases c2 : w = y
    · rw [if_pos c2, if_pos ⟨rfl, c2⟩]
    · rw [if_neg c2, if_neg (fun e => c2 e.2)]
  · rw [if_neg c1, if_neg (fun e => c1 e.1)]
theorem narb : vp_nar .boolean (1 : Int32) = 1 := by decide +kernel
def putp (mv : Nat → Nat → Nat) (i j c : Nat) (h5 : Nat → Nat → Int32) : Nat → Nat → Int32 := nup h5 (mv i c) (upd (h5 (mv i c)) (mv j c) 1)
theorem ap119 (h : RSs S M n ac mv) {i j c : Nat} (hi : i < n) (hj : j < n) (hc : c < 2) {k16 : Nat → Nat → Int32 → (Nat → Nat → Int32) → Option Int32} {k34 : Nat → Nat → Int32 → Int32 → (Nat → Nat → Int32) → (Nat → Nat → Int32) → Option Int32} {k51 : Nat → Nat → Int32 → Int32 → Int32 → (Nat → Nat → Int32) → (Nat → Nat → Int32) → Option Int32} {m kc ks : Nat} {v4 : Int32} {h3 h5 : Nat → Nat → Int32} : f_X9_apartBy_119 M k16 k34 k51 (m + 1) kc ks v4 (nI i) (nI j) (nI (1 + c)) h3 h5 = f_X9_apartBy_119 M k16 k34 k51 m kc ks v4 (nI i) (nI j) (nI (2 + c)) h3 (putp mv i j c h5) := by
  obtain ⟨h1, h2, h3', h4, h5', h6⟩ := h
  have hi2 := h2 i hi c hc
  have hj2 := h2 j hj c hc
  have ei : M.2.2.1 2 (nI i).toNatClampNeg (nI (1 + c)).toNatClampNeg = nI (mv i c) := by
    rw [nI_clamp (by omega), nI_clamp (by omega)]
    exact ((h6 i hi).2 c hc).1
  have ej : M.2.2.1 2 (nI j).toNatClampNeg (nI (1 + c)).toNatClampNeg = nI (mv j c) := by
    rw [nI_clamp (by omega), nI_clamp (by omega)]
    exact ((h6 j hj).2 c hc).1
  have qi : q_in (nI (mv i c)) 5 := q_in_nI (by omega) (by decide)
  have qj : q_in (nI (mv j c)) 5 := q_in_nI (by omega) (by decide)
  show f_X9_apartBy_119b _ _ _ _ _ _ _ _ _ _ _ _ _ = _
  unfold f_X9_apartBy_119b
  rw [ei, ej, if_neg (show ¬ (2 : Int32) < nI (1 + c) from nI_nlt (a := 2) (b := 1 + c) (by omega) (by decide)), h5', if_pos (q_in_nI hi (by omega)), if_pos ⟨(q_in_nI hi (by omega)).2, q_in_nI (by omega) (by decide)⟩, if_pos qi, if_pos (q_in_nI hj (by omega)), if_pos ⟨(q_in_nI hj (by omega)).2, q_in_nI (by omega) (by decide)⟩, if_pos ⟨qi.2, qj⟩, narb, nI_clamp (by omega), nI_clamp (by omega), nI_1, show 1 + c + 1 = 2 + c by omega]
  rfl
end AX
