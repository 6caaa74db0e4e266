/-! families -/
theorem tsip_S (S S2 : MS) : ∀ n, f_J1_indexOfChar_4cfef_7 S n = f_J1_indexOfChar_4cfef_7 S2 n
  | 0 => rfl
  | n + 1 => by
    funext v3 v4 v5
    show f_J1_indexOfChar_4cfef_7b S (f_J1_indexOfChar_4cfef_7 S n) v3 v4 v5 = f_J1_indexOfChar_4cfef_7b S2 (f_J1_indexOfChar_4cfef_7 S2 n) v3 v4 v5
    rw [tsip_S S S2 n]
    rfl
theorem tsip_256 : ∀ k, k < 256 → f_J0_indexOf_0f7a4 m0 (nI k) = some (if f_X1_isFamily (nI k) then (if nI k = 116 then 0 else if nI k = 115 then 1 else if nI k = 105 then 2 else 3) else -1) := by decide +kernel
theorem tsip (S : MS) (a : Int32) : ∃ v : Int32, f_J0_indexOf_0f7a4 S a = some v ∧ (0 ≤ v ↔ f_X1_isFamily a = true) := by
  have eS : f_J0_indexOf_0f7a4 S a = f_J0_indexOf_0f7a4 m0 a := by
    unfold f_J0_indexOf_0f7a4 f_J0_indexOf_7cf53 f_J1_indexOf_4cfef f_J1_indexOfChar_4cfef
    rw [tsip_S S m0]
  rw [eS]
  by_cases c1 : a < 0 ∨ 255 < a
  · refine ⟨-1, ?_, ⟨fun e => absurd e (by decide), fun e => ?_⟩⟩
    · have : f_J1_canEncode_9a6ad a = false := by
        unfold f_J1_canEncode_9a6ad
        by_cases c : a < 0
        · rw [if_pos c]
        · rw [if_neg c, if_pos (c1.resolve_left c)]
      unfold f_J0_indexOf_0f7a4 f_J0_indexOf_7cf53 f_J1_indexOf_4cfef
      rw [this]
      rfl
    · exfalso
      unfold f_X1_isFamily at e
      have n1 : ∀ z : Int32, 0 ≤ z → z ≤ 255 → ¬ a = z := fun z h1 h2 f => by
        subst f
        exact c1.elim (fun g => absurd h1 (i32_le.mpr g)) (fun g => absurd h2 (i32_le.mpr g))
      rw [if_neg (n1 116 (by decide) (by decide)), if_neg (n1 115 (by decide) (by decide)), if_neg (n1 105 (by decide) (by decide)), if_neg (n1 112 (by decide) (by decide))] at e
      cases e
  · obtain ⟨k, -, hk, rfl⟩ := rng16 (lo := 0) (hi := 255) (m := 0) (n := 255) rfl rfl (by decide) (by decide) (fun e => c1 (Or.inl e)) (i32_lt.mp (fun e => c1 (Or.inr e)))
    refine ⟨_, tsip_256 k (by omega), ?_⟩
    by_cases e : f_X1_isFamily (nI k) = true
    · rw [if_pos e]
      refine ⟨fun _ => e, fun _ => ?_⟩
      split
      · decide
      · split
        · decide
        · split <;> decide
    · rw [if_neg e]
      exact ⟨fun f => absurd f (by decide), fun f => absurd f e⟩
theorem isIn_64 : ∀ v, v < 64 → f_X9_isIn 116 (nI v) = some (f_X1_isOf 116 (nI v)) ∧ f_X9_isIn 115 (nI v) = some (f_X1_isOf 115 (nI v)) ∧ f_X9_isIn 105 (nI v) = some (f_X1_isOf 105 (nI v)) ∧ f_X9_isIn 112 (nI v) = some (f_X1_isOf 112 (nI v)) := by decide +kernel
theorem isIn_of {a : Int32} (ha : f_X1_isFamily a = true) {v : Nat} (hv : v < 64) : f_X9_isIn a (nI v) = some (f_X1_isOf a (nI v)) := by
  obtain ⟨h1, h2, h3, h4⟩ := isIn_64 v hv
  unfold f_X1_isFamily at ha
  by_cases c1 : a = 116
  · rw [c1]; exact h1
  · by_cases c2 : a = 115
    · rw [c2]; exact h2
    · by_cases c3 : a = 105
      · rw [c3]; exact h3
      · by_cases c4 : a = 112
        · rw [c4]; exact h4
        · rw [if_neg c1, if_neg c2, if_neg c3, if_neg c4] at ha
          cases ha
def hasB (c : Nat → Nat) (N v : Nat) : Bool := decide (0 < fb_ct (fun k => decide (c k = v)) N)
theorem hasB_iff (c : Nat → Nat) (N v : Nat) : hasB c N v = true ↔ ∃ j, j < N ∧ c j = v := by
  unfold hasB
  rw [decide_eq_true_iff, fb_ct_pos]
  constructor
  · rintro ⟨k, h1, h2⟩; exact ⟨k, h1, by simpa using h2⟩
  · rintro ⟨k, h1, h2⟩; exact ⟨k, h1, by simpa using h2⟩
def misB (a : Int32) (c : Nat → Nat) (N v : Nat) : Bool := f_X1_isOf a (nI v) && !hasB c N v
section PFA
variable {S : CS} {M : MS} {P N A B B' H Z : Nat} {c cf : Nat → Nat} {de : Nat → Bool}
theorem vb_nI {k : Nat} : vb_c (k + 128) = nI k := by
  unfold vb_c
  show nI (k + 128) - nI 128 = nI k
  rw [← nI_add, Int32.add_sub_cancel]
theorem RC.hasE (hC : RCs S M P N c cf de) {x : Nat} (hx : x < 2 ^ 31) : f_X9_has M (nI x) = some (hasB c N x) := by
  obtain ⟨b, h1, h2⟩ := m_has hC hx
  rw [h1]
  congr 1
  have := hasB_iff c N x
  cases b <;> cases hb : hasB c N x
  · rfl
  · exact h2.mpr (this.mp hb)
  · exact (hb.symm.trans (this.mpr (h2.mp rfl))).symm
  · rfl
theorem RC.numE (hC : RCs S M P N c cf de) {x : Nat} (hx : x < 2 ^ 31) : ∃ v : Int32, f_X1_numberOf S (nI x) = some v ∧ (0 ≤ v ↔ hasB c N x = true) := by
  have hN := hC.1.2.2
  rcases hC.number hx with ⟨j, h1, h2, h3⟩ | ⟨h1, h2⟩
  · exact ⟨_, h3, ⟨fun _ => (hasB_iff c N x).mpr ⟨j, h1, h2⟩, fun _ => nI_pos' (by omega)⟩⟩
  · refine ⟨_, h2, ⟨fun e => absurd e (by decide), fun e => ?_⟩⟩
    obtain ⟨j, g1, g2⟩ := (hasB_iff c N x).mp e
    exact absurd g2 (h1 j g1)
theorem RC.shl (hC : RCs S M P N c cf de) : (1 : Int32) <<< ((S.1 2 2) &&& 31) = nI (2 ^ P) ∧ (1 : Int32) <<< ((M.1 2) &&& 31) = nI (2 ^ P) ∧ 2 ^ P ≤ 64 := by
  have := hC.1.2.1
  rw [hC.2.1, hC.2.2.2.1, nI_one P (by omega)]
  exact ⟨rfl, rfl, Nat.pow_le_pow_right (n := 2) (by decide) this⟩
theorem RC.missing (hC : RCs S M P N c cf de) (a : Int32) : f_X1_missing S a = some (nI (fb_ct (misB a c N) (2 ^ P))) := by
  obtain ⟨sh, -, h64⟩ := hC.shl
  refine pu_for0 (W := fun n i => f_X1_missing_4 S n a (nI (fb_ct (misB a c N) i)) (nI i) = some (nI (fb_ct (misB a c N) (2 ^ P)))) (e := 2 ^ P) (n := 1000) (by omega) (fun n => ?_) (fun n i hi ih => ?_)
  · show f_X1_missing_4b S _ _ _ _ = _
    unfold f_X1_missing_4b
    rw [sh, if_pos (nI_le (Nat.le_refl _) (by omega))]
  · show f_X1_missing_4b S _ _ _ _ = _
    unfold f_X1_missing_4b f_X1_missing_33
    rw [sh, if_neg (nI_ge hi (by omega)), nI_1]
    rw [fb_ct_succ] at ih
    cases ho : f_X1_isOf a (nI i)
    · rw [show misB a c N i = false by unfold misB; rw [ho]; rfl, if_neg (by decide), Nat.add_zero] at ih
      rw [if_pos (by decide)]
      exact ih
    · obtain ⟨v, n1, n2⟩ := hC.numE (x := i) (by omega)
      rw [if_neg (by decide), n1]
      simp only [Option.bind_some]
      cases hb : hasB c N i
      · rw [show misB a c N i = true by unfold misB; rw [ho, hb]; rfl, if_pos rfl] at ih
        rw [if_neg (fun e => by have := n2.mp e; rw [hb] at this; cases this), nI_1]
        exact ih
      · rw [show misB a c N i = false by unfold misB; rw [ho, hb]; rfl, if_neg (by decide), Nat.add_zero] at ih
        rw [if_pos (n2.mpr hb)]
        exact ih
theorem RC.mmiss (hC : RCs S M P N c cf de) {a : Int32} (ha : f_X1_isFamily a = true) : ∃ (h : Nat → Nat) (j : Int32), (∀ v, v < 2 ^ P → misB a c N v = true → h (fb_ct (misB a c N) v) = v + 128) ∧
    f_X9_familW_44 65 a 0 0 (fun _ => 0) 0 M = (if N + fb_ct (misB a c N) (2 ^ P) ≤ 24 then f_X9_familW_114 0 (fb_ct (misB a c N) (2 ^ P)) h j M else f_X9_familW_114 3 (fb_ct (misB a c N) (2 ^ P)) h j M) := by
  have hN := hC.1.2.2
  obtain ⟨-, sh, h64⟩ := hC.shl
  have cle : ∀ i, fb_ct (misB a c N) i ≤ i := fb_ct_le _
  have h := pu_forS (W := fun n i (s : (Nat → Nat) × Int32) => ∃ (h : Nat → Nat) (j : Int32), (∀ v, v < 2 ^ P → misB a c N v = true → h (fb_ct (misB a c N) v) = v + 128) ∧
      f_X9_familW_44 n a (nI i) (fb_ct (misB a c N) i) s.1 s.2 M = (if N + fb_ct (misB a c N) (2 ^ P) ≤ 24 then f_X9_familW_114 0 (fb_ct (misB a c N) (2 ^ P)) h j M else f_X9_familW_114 3 (fb_ct (misB a c N) (2 ^ P)) h j M))
    (I := fun i s => ∀ v, v < i → misB a c N v = true → s.1 (fb_ct (misB a c N) v) = v + 128) (2 ^ P) (fun n s hi => ?_) (fun n i s hi hI ih => ?_) (2 ^ P) 65 0 (fun _ => 0, 0) (Nat.zero_add _) (by omega) (fun v hv => absurd hv (Nat.not_lt_zero v))
  · exact h
  · refine ⟨s.1, s.2, hi, ?_⟩
    show f_X9_familW_44b _ _ _ _ _ _ _ = _
    unfold f_X9_familW_44b
    have c64 := cle (2 ^ P)
    rw [sh, if_pos (nI_le (Nat.le_refl _) (by omega)), hC.mN, nI_add]
    by_cases e : N + fb_ct (misB a c N) (2 ^ P) ≤ 24
    · rw [if_pos (show nI (N + fb_ct (misB a c N) (2 ^ P)) ≤ (24 : Int32) from nI_le (b := 24) e (by decide)), if_pos e]
    · rw [if_neg (show ¬ nI (N + fb_ct (misB a c N) (2 ^ P)) ≤ (24 : Int32) from nI_ge (a := 24) (by omega) (by omega)), if_neg e]
  · have ci := cle i
    have skip : misB a c N i = false → ∃ (h : Nat → Nat) (j : Int32), (∀ v, v < 2 ^ P → misB a c N v = true → h (fb_ct (misB a c N) v) = v + 128) ∧ f_X9_familW_81 (f_X9_familW_44 n) a (nI i) (fb_ct (misB a c N) i) s.1 s.2 M = (if N + fb_ct (misB a c N) (2 ^ P) ≤ 24 then f_X9_familW_114 0 (fb_ct (misB a c N) (2 ^ P)) h j M else f_X9_familW_114 3 (fb_ct (misB a c N) (2 ^ P)) h j M) := by
      intro hm
      have := ih s (fun v hv hmv => by
        by_cases e : v = i
        · subst e; rw [hm] at hmv; cases hmv
        · exact hI v (by omega) hmv)
      rw [fb_ct_succ, hm, if_neg (by decide), Nat.add_zero] at this
      unfold f_X9_familW_81
      rw [nI_1]
      exact this
    show ∃ (h : Nat → Nat) (j : Int32), _ ∧ f_X9_familW_44b _ _ _ _ _ _ _ = _
    unfold f_X9_familW_44b
    rw [sh, if_neg (nI_ge hi (by omega)), isIn_of ha (by omega)]
    simp only [Option.bind_some]
    cases ho : f_X1_isOf a (nI i)
    · rw [if_pos (by decide)]
      exact skip (by unfold misB; rw [ho]; rfl)
    · rw [if_neg (by decide), hC.hasE (by omega)]
      simp only [Option.bind_some]
      cases hb : hasB c N i
      · have hm : misB a c N i = true := by unfold misB; rw [ho, hb]; rfl
        have e128 : nI i + 128 = nI (i + 128) := nI_add (a := i) (b := 128)
        rw [if_pos (by decide), e128, if_pos ⟨fun e => absurd e (i32_lt.mpr (Int32.le_trans (by decide) (nI_pos' (n := i) (by omega)))), nI_nlt (a := 127) (b := i) (by omega) (by decide), q_in_nI (by omega) (by decide)⟩, if_pos (by omega), nI_clamp (by omega)]
        have := ih (nup s.1 (fb_ct (misB a c N) i) (i + 128), s.2 + 1) (fun v hv hmv => by
          by_cases e : v = i
          · subst e; exact nup_s
          · have lt : fb_ct (misB a c N) v < fb_ct (misB a c N) i := by
              have m1 := fb_ct_mono (misB a c N) (m := v + 1) (n := i) (by omega)
              rw [fb_ct_succ, if_pos hmv] at m1
              omega
            exact (nup_n (by omega)).trans (hI v (by omega) hmv))
        rw [fb_ct_succ, hm, if_pos rfl] at this
        unfold f_X9_familW_81
        rw [nI_1]
        exact this
      · rw [if_neg (by decide)]
        exact skip (by unfold misB; rw [ho, hb]; rfl)
/-- both add what is missing -/
theorem A_fam {a : Int32} {c0 : Nat → Nat} {N0 : Nat} {h : Nat → Nat} {j : Int32} (hh : ∀ v, v < 2 ^ P → misB a c0 N0 v = true → h (fb_ct (misB a c0 N0) v) = v + 128) (h24 : N0 + fb_ct (misB a c0 N0) (2 ^ P) ≤ 24) : ∀ (d i n m N : Nat) (S : CS) (M : MS) (c cf : Nat → Nat) (de : Nat → Bool), i + d = 2 ^ P → d < n → fb_ct (misB a c0 N0) (2 ^ P) - fb_ct (misB a c0 N0) i < m → N = N0 + fb_ct (misB a c0 N0) i → (∀ v, i ≤ v → hasB c N v = hasB c0 N0 v) → RCs S M P N c cf de → RTs S M N cf de 0 B B' H Z →
    ∃ (S' : CS) (M' : MS) (N' : Nat) (c' cf' : Nat → Nat) (de' : Nat → Bool), f_X1_addAll_2 n a (nI i) S = some S' ∧ f_X9_familW_129 m (nI (fb_ct (misB a c0 N0) i)) j (fb_ct (misB a c0 N0) (2 ^ P)) h j M = some (nI N', M') ∧ S'.1 2 3 = nI N' ∧ Fr [2, 10, 11] S S' ∧ Mr [] [0] M M' ∧ RCs S' M' P N' c' cf' de' ∧ RTs S' M' N' cf' de' 0 B B' H Z := by
  intro d
  induction d with
  | zero =>
    intro i n m N S M c cf de hd hn hm hN hE hC hT
    obtain ⟨sh, -, h64⟩ := hC.shl
    have hi : i = 2 ^ P := by omega
    subst hi
    match n, hn, m, hm with
    | n + 1, _, m + 1, _ =>
      refine ⟨S, M, N, c, cf, de, ?_, ?_, hC.2.2.1, Fr.refl S, Mr.refl M, hC, hT⟩
      · show f_X1_addAll_2b _ _ _ _ = _
        unfold f_X1_addAll_2b
        rw [sh, if_pos (nI_le (Nat.le_refl _) (by omega))]
      · show f_X9_familW_129b _ _ _ _ _ _ _ = _
        unfold f_X9_familW_129b
        rw [decide_eq_true rfl, if_pos (by decide), hC.mN]
  | succ d ih =>
    intro i n m N S M c cf de hd hn hm hN hE hC hT
    obtain ⟨sh, -, h64⟩ := hC.shl
    have mono := fb_ct_mono (misB a c0 N0) (m := i + 1) (n := 2 ^ P) (by omega)
    have cle := fb_ct_le (misB a c0 N0) (2 ^ P)
    match n, hn with
    | n + 1, hn =>
      have go : f_X1_addAll_2 (n + 1) a (nI i) S = (if (q_b (f_X1_isOf a (nI i))) = 0 then f_X1_addAll_2 n a (nI (i + 1)) S else ((f_X1_numberOf S (nI i)).bind fun u3 => (if 0 ≤ u3 then f_X1_addAll_2 n a (nI (i + 1)) S else ((f_X1_add (nI i) S).bind fun u6 => f_X1_addAll_2 n a (nI (i + 1)) u6.2)))) := by
        show f_X1_addAll_2b _ _ _ _ = _
        unfold f_X1_addAll_2b f_X1_addAll_34
        rw [sh, if_neg (nI_ge (by omega) (by omega)), nI_1]
      have skip : misB a c0 N0 i = false → f_X1_addAll_2 (n + 1) a (nI i) S = f_X1_addAll_2 n a (nI (i + 1)) S → _ := fun hmi e => by
        have ec : fb_ct (misB a c0 N0) (i + 1) = fb_ct (misB a c0 N0) i := by rw [fb_ct_succ, hmi]; rfl
        have := ih (i + 1) n m N S M c cf de (by omega) (by omega) (by omega) (by rw [ec]; exact hN) (fun v hv => hE v (by omega)) hC hT
        rw [ec, ← e] at this
        exact this
      cases ho : f_X1_isOf a (nI i)
      · exact skip (by unfold misB; rw [ho]; rfl) (by rw [go, ho, if_pos (by decide)])
      · obtain ⟨v, n1, n2⟩ := hC.numE (x := i) (by omega)
        rw [hE i (Nat.le_refl i)] at n2
        cases hb : hasB c0 N0 i
        · have hmi : misB a c0 N0 i = true := by unfold misB; rw [ho, hb]; rfl
          have ec : fb_ct (misB a c0 N0) (i + 1) = fb_ct (misB a c0 N0) i + 1 := by rw [fb_ct_succ, hmi]; rfl
          obtain ⟨S1, e1, e2, e3, e4, e5, e6⟩ := x_add (S := S) (P := P) (N := N) (c := c) (x := i) hC.1.2.1 (by omega) hC.2.1 hC.2.2.1 (by omega) hC.2.2.2.2.2.2.2.2.2.1
          obtain ⟨M1, hM⟩ : ∃ M1, M1 = madd M 0 (upd (upd (upd (fun _ => 0) 0 (nI i)) 1 0) 2 0) := ⟨_, rfl⟩
          have mM : Mr [] [0] M M1 := by rw [hM]; exact Mr.madd (by decide)
          have hnot : ∀ k, k < N → c k ≠ i := fun k hk e => by
            have := (hasB_iff c N i).mpr ⟨k, hk, e⟩
            rw [hE i (Nat.le_refl i), hb] at this
            cases this
          have new := hC.more hT (by omega) (show i < 2 ^ P by omega) hnot e2 e3 e4 e5 e6 (M' := M1) (fun s h1 h2 => mM.1 s (by omega) (by simp)) (by rw [hM, ma_n]; exact congrArg (· + 1) hC.mN) (by rw [hM, ma_r, hC.mN])
          match m, hm with
          | 0, hm => exact absurd hm (Nat.not_lt_zero _)
          | m + 1, hm =>
            obtain ⟨S', M', N', c', cf', de', k1, k2, k3, k4, k5, k6, k7⟩ := ih (i + 1) n m (N + 1) S1 M1 (nup c N i) (fun _ => 0) (fun _ => false) (by omega) (by omega) (by omega) (by omega) (fun v hv => by
              rw [← hE v (by omega)]
              apply Bool.eq_iff_iff.mpr
              rw [hasB_iff, hasB_iff]
              constructor
              · rintro ⟨k, h1, h2⟩
                by_cases e : k = N
                · subst e; rw [nup_s] at h2; omega
                · rw [nup_n e] at h2; exact ⟨k, by omega, h2⟩
              · rintro ⟨k, h1, h2⟩
                exact ⟨k, by omega, by rw [nup_n (by omega)]; exact h2⟩) new.1 new.2
            refine ⟨S', M', N', c', cf', de', ?_, ?_, k3, e2.trans k4, mM.trans k5, k6, k7⟩
            · rw [go, ho, if_neg (by decide), n1]
              simp only [Option.bind_some]
              rw [if_neg (fun e => by have := n2.mp e; rw [hb] at this; cases this), e1]
              exact k1
            · show f_X9_familW_129b _ _ _ _ _ _ _ = _
              unfold f_X9_familW_129b
              have ne : ¬ nI (fb_ct (misB a c0 N0) i) = nI (fb_ct (misB a c0 N0) (2 ^ P)) := fun e => by
                have := (nI_eq (by omega) (by omega)).mp e
                omega
              rw [decide_eq_false ne, if_neg (by decide), if_pos ⟨q_in_nI (by omega) (by omega), rfl⟩, hC.mN, if_pos (by omega), nI_clamp (by omega), hh i (by omega) hmi, vb_nI, ← hM, nI_1, ← ec]
              exact k2
        · exact skip (by unfold misB; rw [ho, hb]; rfl) (by rw [go, ho, if_neg (by decide), n1]; simp only [Option.bind_some]; rw [if_pos (n2.mpr hb)])
theorem T_family (h : RelC S M) (a : Int32) (fo : Nat → Int64) : TI (f_L_family S a fo) fo (f_X9_familW a M) (fun S' M' => RelC S' M' ∧ Fr [2, 10, 11] S S' ∧ Mr [0] [0] M M') := by
  have hR := h
  obtain ⟨P, N, c, cf, de, A, B, B', H, Z, hC, hT⟩ := h
  have hN := hC.1.2.2
  obtain ⟨sh, -, h64⟩ := hC.shl
  obtain ⟨w, w1, w2⟩ := tsip M a
  have cle := fb_ct_le (misB a c N) (2 ^ P)
  have e26 : ∀ v : Int32, ¬ v ≤ 0 → f_X9_familW_26 a v M = some (0, mset M 0 v) := fun v hv => by
    unfold f_X9_familW_26
    rw [isWr, decide_eq_false hv]
    rfl
  have gv : S.1 1 6 ≤ 0 ↔ A = 0 := by
    rw [hT.2.1, show (0 : Int32) = nI 0 from rfl, nI_leI (by have := hT.2.2.2.1; omega) (by decide)]
    omega
  have gm : M.1 3 ≤ 0 ↔ A = 0 := by
    rw [hT.2.2.1, show (0 : Int32) = nI 0 from rfl, nI_leI (by have := hT.2.2.2.1; omega) (by decide)]
    omega
  by_cases c1 : f_X1_isFamily a = true
  · by_cases c2 : A = 0
    · subst c2
      obtain ⟨h, j, hh, e44⟩ := (hC.m0 0).mmiss c1
      have mf : f_X9_familW a M = f_X9_familW_44 65 a 0 0 (fun _ => 0) 0 (mset M 0 0) := by
        unfold f_X9_familW
        rw [w1]
        simp only [Option.bind_some]
        rw [if_pos (w2.mpr c1), if_pos (gm.mpr rfl)]
        unfold f_X9_familW_26
        rw [isWr]
        rfl
      by_cases c3 : N + fb_ct (misB a c N) (2 ^ P) ≤ 24
      · obtain ⟨S', M', N', c', cf', de', k1, k2, k3, k4, k5, k6, k7⟩ := A_fam (j := j) hh c3 (2 ^ P) 0 1000 25 N S (mset (mset M 0 0) 0 0) c cf de (by omega) (by omega) (by omega) (by rfl) (fun v _ => rfl) ((hC.m0 0).m0 0) ((hT.m0 0).m0 0)
        refine TI.ok (r := nI N') (S := S') (M := M') ?_ ?_ ?_ ⟨⟨P, N', c', cf', de', 0, B, B', H, Z, k6, k7⟩, k4, ?_⟩
        · unfold f_L_family f_X8_family f_X1_addAll
          rw [c1, if_neg (by decide), if_pos (gv.mpr rfl), hC.missing]
          simp only [Option.bind_some]
          rw [hC.2.2.1, nI_add, if_pos (show nI (N + fb_ct (misB a c N) (2 ^ P)) ≤ (24 : Int32) from nI_le (b := 24) c3 (by decide))]
          rw [show f_X1_addAll_2 1000 a 0 S = some S' from k1]
          simp only [Option.bind_some, if_true]
          rw [k3]
        · rw [mf, e44, if_pos c3]
          unfold f_X9_familW_114
          rw [isWr]
          simp only [Option.bind_some]
          rw [if_pos (by decide)]
          exact k2
        · rw [k5.1 0 (by decide) (by simp), ms_s]
        · exact Mr.trans ((Mr.mset (by decide)).trans (Mr.mset (by decide))) ⟨fun s hs hj => k5.1 s hs (by simp), k5.2.1, k5.2.2⟩
      · refine ⟨3, 0, S, 0, mset (mset M 0 0) 0 3, ?_, ?_, ms_s, fun e => absurd e (by decide), (hR.m0 0).m0 3, Fr.refl S, (Mr.mset (by decide)).trans (Mr.mset (by decide))⟩
        · unfold f_L_family f_X8_family
          rw [c1, if_neg (by decide), if_pos (gv.mpr rfl), hC.missing]
          simp only [Option.bind_some]
          rw [hC.2.2.1, nI_add, if_neg (show ¬ nI (N + fb_ct (misB a c N) (2 ^ P)) ≤ (24 : Int32) from nI_ge (a := 24) (by omega) (by omega))]
          rfl
        · rw [mf, e44, if_neg c3]
          unfold f_X9_familW_114
          rw [isWr]
          rfl
    · refine TI.ex (code := 2) (r := 0) (S := S) (M := M) (by decide) ?_ ?_ ⟨hR.m0 2, Fr.refl S, Mr.mset (by decide)⟩
      · unfold f_L_family f_X8_family
        rw [c1, if_neg (by decide), if_neg (fun e => c2 (gv.mp e))]
        rfl
      · unfold f_X9_familW
        rw [w1]
        simp only [Option.bind_some]
        rw [if_pos (w2.mpr c1), if_neg (fun e => c2 (gm.mp e)), e26 2 (by decide)]
  · have c1' : f_X1_isFamily a = false := by simpa using c1
    refine TI.ex (code := 1) (r := 0) (S := S) (M := M) (by decide) ?_ ?_ ⟨hR.m0 1, Fr.refl S, Mr.mset (by decide)⟩
    · unfold f_L_family f_X8_family
      rw [c1', if_pos (by decide)]
      rfl
    · unfold f_X9_familW
      rw [w1]
      simp only [Option.bind_some]
      rw [if_neg (fun e => c1 (w2.mp e)), e26 1 (by decide)]
end PFA
