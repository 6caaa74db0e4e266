/-! orders: the best pair -/
def moP : Option (Nat × Int32) → Int32
  | none => -1
  | some p => nI p.1
def bCP : Option (Nat × Int32) → Int32
  | none => 0
  | some p => p.2
def bRP : Option (Nat × Int32) → Int32
  | none => -1
  | some p => p.2
def stP (ls : Nat) (b : Int32) : Option (Nat × Int32) → Option (Nat × Int32)
  | none => some (ls, b)
  | some p => if ls ≤ p.1 then some p else some (ls, b)
def bdP (o : Option (Nat × Int32)) : Prop := ∀ p, o = some p → p.1 < 2 ^ 31
theorem stP_some (ls : Nat) (b : Int32) (o : Option (Nat × Int32)) : stP ls b o ≠ none := by
  cases o with
  | none => exact Option.some_ne_none _
  | some p =>
    show (if ls ≤ p.1 then some p else some (ls, b)) ≠ none
    split <;> exact Option.some_ne_none _
theorem stP_bd {ls : Nat} {b : Int32} {o : Option (Nat × Int32)} (hl : ls < 2 ^ 31) (h : bdP o) : bdP (stP ls b o) := by
  intro p e
  cases o with
  | none =>
    have : p = (ls, b) := (Option.some.inj e).symm
    rw [this]; exact hl
  | some q =>
    have e' : (if ls ≤ q.1 then some q else some (ls, b)) = some p := e
    by_cases c : ls ≤ q.1
    · rw [if_pos c] at e'
      rw [← Option.some.inj e']
      exact h q rfl
    · rw [if_neg c] at e'
      rw [← Option.some.inj e']
      exact hl
theorem stP_ref {ls : Nat} {b : Int32} {o : Option (Nat × Int32)} (hl : ls < 2 ^ 31) (h : bdP o) : (nI ls ≤ moP o → moP (stP ls b o) = moP o ∧ bCP (stP ls b o) = bCP o ∧ bRP (stP ls b o) = bRP o ∧ q_max (moP o) (nI ls) = moP o) ∧ (¬ nI ls ≤ moP o → moP (stP ls b o) = nI ls ∧ bCP (stP ls b o) = b ∧ bRP (stP ls b o) = b ∧ q_max (moP o) (nI ls) = nI ls) := by
  have mx : (nI ls ≤ moP o → q_max (moP o) (nI ls) = moP o) ∧ (¬ nI ls ≤ moP o → q_max (moP o) (nI ls) = nI ls) := by
    unfold q_max
    exact ⟨fun e => if_neg (i32_lt.mpr e), fun e => if_pos (i32_le.mp e)⟩
  cases o with
  | none =>
    refine ⟨fun e => ?_, fun e => ⟨rfl, rfl, rfl, mx.2 e⟩⟩
    have e' : nI ls ≤ (-1 : Int32) := e
    exact absurd (Int32.lt_of_le_of_lt e' nI_m1) (nI_pos hl)
  | some p =>
    have hp := h p rfl
    refine ⟨fun e => ?_, fun e => ?_⟩
    · have c : ls ≤ p.1 := (nI_leI hl hp).mp e
      rw [show stP ls b (some p) = some p from if_pos c]
      exact ⟨rfl, rfl, rfl, mx.1 e⟩
    · have c : ¬ ls ≤ p.1 := fun c => e (nI_le c hp)
      rw [show stP ls b (some p) = some (ls, b) from if_neg c]
      exact ⟨rfl, rfl, rfl, mx.2 e⟩
section OE
variable {S : CS} {M : MS} {T : Nat} {ah : Nat → Nat → Bool}
def lsP (ah : Nat → Nat → Bool) (T i j : Nat) : Nat := if dgr ah T - dgr (prO ah i j) T < dgr (prO ah i j) T then dgr ah T - dgr (prO ah i j) T else dgr (prO ah i j) T
theorem dgr_le (hT : T < 6) (i j : Nat) : dgr (prO ah i j) T ≤ dgr ah T ∧ dgr ah T < 2 ^ 31 := by
  refine ⟨dnk_le (fun x P e => ?_) T _, dnk_31 _ hT _⟩
  unfold okF at e ⊢
  rw [okL_iff] at e ⊢
  intro k hk e2
  refine e k hk ?_
  show (ah k x || _) = true
  rw [e2]
  rfl
theorem min_ls (hT : T < 6) (i j : Nat) : q_min (nI (dgr (prO ah i j) T)) (nI (dgr ah T) - nI (dgr (prO ah i j) T)) = nI (lsP ah T i j) ∧ lsP ah T i j < 2 ^ 31 := by
  obtain ⟨h1, h2⟩ := dgr_le (ah := ah) hT i j
  rw [nI_sub h1]
  unfold q_min lsP
  by_cases c : dgr ah T - dgr (prO ah i j) T < dgr (prO ah i j) T
  · rw [if_pos (nI_lt c (by omega)), if_pos c]
    exact ⟨rfl, by omega⟩
  · rw [if_neg (nI_nlt (by omega) (by omega)), if_neg c]
    exact ⟨rfl, by omega⟩
def piW (M : MS) (T : Nat) (ah : Nat → Nat → Bool) (kC : Int32 → Int32 → Int32 → Int32 → CS → Option (Int32 × CS)) (kR : Int32 → Int32 → Int32 → Int32 → MS → Option (Int32 × MS)) (i m j : Nat) (u : Option (Nat × Int32) × CS) : Prop := ∃ (o' : Option (Nat × Int32)) (S' : CS), f_X4_bestPair_27 kC m (nI (dgr ah T)) (moP u.1) (bCP u.1) (nI i) (nI j) u.2 = kC (nI (dgr ah T)) (moP o') (bCP o') (nI (i + 1)) S' ∧ f_X9_pair_49 kR m (nI (dgr ah T)) (bRP u.1) (moP u.1) (nI i) (nI j) M = kR (nI (dgr ah T)) (bRP o') (moP o') (nI (i + 1)) M ∧ ROs S' M T ah ∧ bdP o' ∧ Fr [20, 21] u.2 S' ∧ (j < T → o' ≠ none) ∧ (u.1 ≠ none → o' ≠ none)
theorem pr_in {kC : Int32 → Int32 → Int32 → Int32 → CS → Option (Int32 × CS)} {kR : Int32 → Int32 → Int32 → Int32 → MS → Option (Int32 × MS)} {i : Nat} (hi : i < T) {o : Option (Nat × Int32)} (h : ROs S M T ah) (hb : bdP o) : piW M T ah kC kR i 1000 (i + 1) (o, S) := by
  have hT := h.2.1
  refine pu_forS (W := piW M T ah kC kR i) (I := fun j u => ROs u.2 M T ah ∧ bdP u.1) T (fun m u hI => ?_) (fun m j u hj hI ih => ?_) (T - (i + 1)) 1000 (i + 1) (o, S) (by omega) (by omega) ⟨h, hb⟩
  · obtain ⟨o, s⟩ := u
    obtain ⟨hR, hb⟩ := hI
    refine ⟨o, s, ?_, ?_, hR, hb, Fr.refl s, fun e => absurd e (Nat.lt_irrefl T), fun e => e⟩
    · show f_X4_bestPair_27b kC (f_X4_bestPair_27 kC m) (nI (dgr ah T)) (moP o) (bCP o) (nI i) (nI T) s = _
      unfold f_X4_bestPair_27b
      rw [hR.2.2.2.1.1, if_pos (nI_le (Nat.le_refl T) (by omega)), nI_1]
    · show f_X9_pair_49b kR (f_X9_pair_49 kR m) (nI (dgr ah T)) (bRP o) (moP o) (nI i) (nI T) M = _
      unfold f_X9_pair_49b
      rw [hR.2.2.2.2.1, if_pos (nI_le (Nat.le_refl T) (by omega)), nI_1]
  · obtain ⟨o, s⟩ := u
    obtain ⟨hR, hb⟩ := hI
    have hR' : ROs s M T ah := hR
    obtain ⟨S1, x1, x2, x3, x4⟩ := x_ways hR' hi hj
    have m1 := m_ways hR' hi hj
    obtain ⟨l1, l2⟩ := min_ls (ah := ah) hT i j
    obtain ⟨o1, ho1⟩ : ∃ o1, o1 = stP (lsP ah T i j) ((10 : Int32) * nI i + nI j) o := ⟨_, rfl⟩
    have hb1 : bdP o1 := by rw [ho1]; exact stP_bd l2 hb
    obtain ⟨r1, r2⟩ := stP_ref (b := (10 : Int32) * nI i + nI j) l2 hb
    rw [← ho1] at r1 r2
    have hne : o1 ≠ none := by rw [ho1]; exact stP_some _ _ _
    obtain ⟨o', S', g1, g2, g3, g4, g5, g6, g7⟩ := ih (o1, S1) ⟨x4, hb1⟩
    have hR8 : s.1 8 2 = nI T := hR'.2.2.2.1.1
    have hM15 : M.1 15 = nI T := hR'.2.2.2.2.1
    refine ⟨o', S', ?_, ?_, g3, g4, x2.trans g5, fun _ => g7 hne, fun _ => g7 hne⟩
    · refine Eq.trans ?_ g1
      show f_X4_bestPair_27b kC (f_X4_bestPair_27 kC m) (nI (dgr ah T)) (moP o) (bCP o) (nI i) (nI j) s = _
      unfold f_X4_bestPair_27b f_X4_bestPair_75
      rw [hR8, if_neg (nI_ge hj (by omega)), x1]
      simp only [Option.bind_some]
      rw [l1, nI_1]
      by_cases c : nI (lsP ah T i j) ≤ moP o
      · obtain ⟨q1, q2, q3, q4⟩ := r1 c
        rw [if_pos c, q1, q2]
      · obtain ⟨q1, q2, q3, q4⟩ := r2 c
        rw [if_neg c, q1, q2]
    · refine Eq.trans ?_ g2
      show f_X9_pair_49b kR (f_X9_pair_49 kR m) (nI (dgr ah T)) (bRP o) (moP o) (nI i) (nI j) M = _
      unfold f_X9_pair_49b f_X9_pair_98
      rw [hM15, if_neg (nI_ge hj (by omega)), m1]
      simp only [Option.bind_some]
      rw [l1, nI_1]
      by_cases c : nI (lsP ah T i j) ≤ moP o
      · obtain ⟨q1, q2, q3, q4⟩ := r1 c
        rw [if_pos c, q1, q3, q4]
      · obtain ⟨q1, q2, q3, q4⟩ := r2 c
        rw [if_neg c, q1, q3, q4]
def poW (M : MS) (T : Nat) (ah : Nat → Nat → Bool) (m i : Nat) (u : Option (Nat × Int32) × CS) : Prop := ∃ (r : Int32) (S' : CS), f_X4_bestPair_12 m (nI (dgr ah T)) (moP u.1) (bCP u.1) (nI i) u.2 = some (r, S') ∧ f_X9_pair_34 m (nI (dgr ah T)) (bRP u.1) (moP u.1) (nI i) M = some (r, M) ∧ ROs S' M T ah ∧ Fr [20, 21] u.2 S'
theorem pr_out (h : ROs S M T ah) : poW M T ah 1000 0 (none, S) := by
  have hT := h.2.1
  have h2 := h.1
  refine pu_forS (W := poW M T ah) (I := fun i u => ROs u.2 M T ah ∧ bdP u.1 ∧ (u.1 = none → i = 0)) T (fun m u hI => ?_) (fun m i u hi hI ih => ?_) T 1000 0 (none, S) (Nat.zero_add T) (by omega) ⟨h, fun p e => absurd e.symm (Option.some_ne_none p), fun _ => rfl⟩
  · obtain ⟨o, s⟩ := u
    obtain ⟨hR, hb, hz⟩ := hI
    have hR8 : s.1 8 2 = nI T := hR.2.2.2.1.1
    have hM15 : M.1 15 = nI T := hR.2.2.2.2.1
    have e : bRP o = bCP o := by
      cases o with
      | none => have := hz rfl; omega
      | some p => rfl
    refine ⟨bCP o, s, ?_, ?_, hR, Fr.refl s⟩
    · show f_X4_bestPair_12b (f_X4_bestPair_12 m) (nI (dgr ah T)) (moP o) (bCP o) (nI T) s = _
      unfold f_X4_bestPair_12b
      rw [hR8, if_pos (nI_le (Nat.le_refl T) (by omega))]
    · show f_X9_pair_34b (f_X9_pair_34 m) (nI (dgr ah T)) (bRP o) (moP o) (nI T) M = _
      unfold f_X9_pair_34b
      rw [hM15, if_pos (nI_le (Nat.le_refl T) (by omega)), e]
  · obtain ⟨o, s⟩ := u
    obtain ⟨hR, hb, hz⟩ := hI
    have hR' : ROs s M T ah := hR
    have hR8 : s.1 8 2 = nI T := hR'.2.2.2.1.1
    have hM15 : M.1 15 = nI T := hR'.2.2.2.2.1
    obtain ⟨o', S1, g1, g2, g3, g4, g5, g6, g7⟩ := pr_in (kC := f_X4_bestPair_12 m) (kR := f_X9_pair_34 m) hi hR' hb
    have hne : o' ≠ none := by
      cases o with
      | none => exact g6 (by have := hz rfl; omega)
      | some p => exact g7 (Option.some_ne_none p)
    obtain ⟨r, S', k1, k2, k3, k4⟩ := ih (o', S1) ⟨g3, g4, fun e => absurd e hne⟩
    refine ⟨r, S', ?_, ?_, k3, g5.trans k4⟩
    · refine Eq.trans ?_ k1
      refine Eq.trans ?_ g1
      show f_X4_bestPair_12b (f_X4_bestPair_12 m) (nI (dgr ah T)) (moP o) (bCP o) (nI i) s = _
      unfold f_X4_bestPair_12b
      rw [hR8, if_neg (nI_ge hi (by omega)), nI_1]
    · refine Eq.trans ?_ k2
      refine Eq.trans ?_ g2
      show f_X9_pair_34b (f_X9_pair_34 m) (nI (dgr ah T)) (bRP o) (moP o) (nI i) M = _
      unfold f_X9_pair_34b
      rw [hM15, if_neg (nI_ge hi (by omega)), nI_1]
theorem T_pair (h : RelO S M) (fo : Nat → Int64) : TI (f_L_pair S fo) fo (f_X9_pair M) (fun S' M' => RelO S' M' ∧ Fr [20, 21] S S' ∧ Mg [0] M M') := by
  obtain ⟨T, ah, h⟩ := h
  obtain ⟨S1, x1, m1, f1⟩ := RO.cnt h
  have R1 : ROs S1 M T ah := RO.fr h (by rw [f1.1 8 (by decide)]) (fun x _ => by rw [f1.1 20 (by decide)]) rfl rfl
  have F1 : Fr [20, 21] S S1 := f1.mono (by decide)
  by_cases c : nI (dgr ah T) = 1
  · refine TI.ex (code := 1) (r := 0) (S := S1) (M := M) (by decide) ?_ ?_ ⟨RelO.m0 ⟨T, ah, R1⟩ 1, F1, Mg.mset (by decide)⟩
    · unfold f_L_pair f_X8_pair
      rw [x1]
      simp only [Option.bind_some]
      rw [if_pos c]
      rfl
    · unfold f_X9_pair f_X9_pair_19
      rw [m1]
      simp only [Option.bind_some]
      rw [if_pos c, isWr]
      rfl
  · obtain ⟨S2, x2, -, f2⟩ := RO.cnt R1
    have R2 : ROs S2 (mset M 0 0) T ah := RO.fr R1 (by rw [f2.1 8 (by decide)]) (fun x _ => by rw [f2.1 20 (by decide)]) (ms_n (by decide)) rfl
    obtain ⟨r, S', k1, k2, k3, k4⟩ := pr_out R2
    refine TI.ok (r := r) (S := S') (M := mset M 0 0) ?_ ?_ ms_s ⟨⟨T, ah, k3⟩, F1.trans ((f2.mono (by decide)).trans k4), Mg.mset (by decide)⟩
    · have e : f_X4_bestPair S1 = some (r, S') := by
        unfold f_X4_bestPair
        rw [x2]
        exact (Option.bind_some _ _).trans k1
      unfold f_L_pair f_X8_pair
      rw [x1]
      simp only [Option.bind_some]
      rw [if_neg c, e]
      rfl
    · unfold f_X9_pair f_X9_pair_19
      rw [m1]
      simp only [Option.bind_some]
      rw [if_neg c, isWr]
      simp only [Option.bind_some]
      rw [if_pos (by decide)]
      exact k2
end OE
