/-! samples: the reference tries all machines anew -/
theorem m_digit {v j s : Nat} (hs : 1 ≤ s) (hs2 : s < 2 ^ 31) (hv : v < 2 ^ 31) (hj : j < 100) : f_X9_digit (nI v) (nI j) (nI s) = some (nI (v / s ^ j % s)) := by
  have hs0 : ¬ nI s = 0 := fun e => by have := (nI_0iff hs2).mp e; omega
  have key := pu_for0 (W := fun m i => f_X9_digit_5 m (nI j) (nI s) (nI (v / s ^ i)) (nI i) = some (nI (v / s ^ j % s))) (e := j) (n := 1000) (by omega) (fun m => ?_) (fun m i hi ih => ?_)
  · rw [Nat.pow_zero, Nat.div_one] at key
    exact key
  · show f_X9_digit_5b _ _ _ _ _ = _
    unfold f_X9_digit_5b
    rw [if_pos (nI_le (Nat.le_refl j) (by omega)), if_pos hs0, pk_rem (Nat.lt_of_le_of_lt (Nat.div_le_self _ _) hv) hs hs2]
  · show f_X9_digit_5b _ _ _ _ _ = _
    unfold f_X9_digit_5b
    rw [if_neg (nI_ge hi (by omega)), if_pos hs0, pk_div (Nat.lt_of_le_of_lt (Nat.div_le_self _ _) hv) hs hs2, nI_1, Nat.div_div_eq_div_mul, ← Nat.pow_succ]
    exact ih
section SD
variable {S : CS} {M : MS} {W s v : Nat} {ln bt : Nat → Nat} {inn : Nat → Bool} {K : Nat}
theorem m_walk (h : RWw S M W ln bt inn) (h1 : 1 ≤ s) (h3 : s ≤ 3) (hv : v < 2 ^ 31) {k : Nat} (hk : k < W) {k23 : Nat → Nat → Int32 → Int32 → Int32 → Option Bool} {k45 : Nat → Nat → Int32 → Int32 → Int32 → Int32 → Int32 → Int32 → Int32 → Option Bool} {kc ks : Nat} {v2 v4 v5 u6 x6 : Int32} : f_X9_canFit_73 K M k23 k45 1000 kc ks (nI s) v2 (nI v) v4 v5 k (nI 0) (nI 0) u6 x6 = if inn k then k45 kc ks (nI s) v2 (nI v) (v4 ||| nI (2 ^ rn (mvs s v) (ln k) (bt k) 0)) (v5 ||| 0) u6 x6 else k45 kc ks (nI s) v2 (nI v) (v4 ||| 0) (v5 ||| nI (2 ^ rn (mvs s v) (ln k) (bt k) 0)) u6 x6 := by
  obtain ⟨w1, w2, w3, w4, w5⟩ := h
  obtain ⟨k1, k2, k3, k4, k5, k6, k7⟩ := w5 k hk
  have hb31 := b31 k1 k2
  have key := pu_for0 (W := fun m i => ∀ q, q < s → f_X9_canFit_73 K M k23 k45 m kc ks (nI s) v2 (nI v) v4 v5 k (nI q) (nI i) u6 x6 = if inn k then k45 kc ks (nI s) v2 (nI v) (v4 ||| nI (2 ^ rn (mvs s v) (ln k - i) (bt k / 2 ^ i) q)) (v5 ||| 0) u6 x6 else k45 kc ks (nI s) v2 (nI v) (v4 ||| 0) (v5 ||| nI (2 ^ rn (mvs s v) (ln k - i) (bt k / 2 ^ i) q)) u6 x6) (e := ln k) (n := 1000) (by omega) (fun m q hq => ?_) (fun m i hi ih q hq => ?_)
  · have := key 0 (by omega)
    rw [Nat.sub_zero, Nat.pow_zero, Nat.div_one] at this
    exact this
  · show f_X9_canFit_73b K M k23 k45 (f_X9_canFit_73 K M k23 k45 m) kc ks (nI s) v2 (nI v) v4 v5 k (nI q) (nI (ln k)) u6 x6 = _
    unfold f_X9_canFit_73b f_X9_canFit_127 f_X9_canFit_148
    rw [w4, if_pos hk, k5, if_pos (nI_le (Nat.le_refl _) (by omega)), if_pos hk, k7, if_pos hk, Nat.sub_self, nI_one q (by omega)]
    show _ = if inn k then k45 kc ks (nI s) v2 (nI v) (v4 ||| nI (2 ^ q)) (v5 ||| 0) u6 x6 else k45 kc ks (nI s) v2 (nI v) (v4 ||| 0) (v5 ||| nI (2 ^ q)) u6 x6
    cases inn k
    · rw [if_neg (by decide), if_pos hk, if_neg (by decide), if_neg (by decide)]
    · rw [if_pos (by decide), if_pos (by decide), if_pos rfl]
  · have hb : bt k / 2 ^ i % 2 < 2 := Nat.mod_lt _ (by decide)
    have hm : mvs s v q (bt k / 2 ^ i % 2) < s := mvs_clo (by omega) q hq _ hb
    have := ih _ hm
    have go : f_X9_canFit_73 K M k23 k45 (m + 1) kc ks (nI s) v2 (nI v) v4 v5 k (nI q) (nI i) u6 x6 = f_X9_canFit_73 K M k23 k45 m kc ks (nI s) v2 (nI v) v4 v5 k (nI (mvs s v q (bt k / 2 ^ i % 2))) (nI (i + 1)) u6 x6 := by
      show f_X9_canFit_73b K M k23 k45 (f_X9_canFit_73 K M k23 k45 m) kc ks (nI s) v2 (nI v) v4 v5 k (nI q) (nI i) u6 x6 = _
      unfold f_X9_canFit_73b
      rw [w4, if_pos hk, k5, if_neg (nI_ge hi (by omega)), if_pos hk, k6, nI_b1 hb31 (by omega), nI_2q, m_digit h1 (by omega) hv (by omega)]
      simp only [Option.bind_some]
      rw [nI_1]
      rfl
    rw [go, this, show ln k - i = (ln k - (i + 1)) + 1 by omega, rn_succ, Nat.pow_succ, Nat.div_div_eq_div_mul]
theorem m_try (h : RWw S M W ln bt inn) (h1 : 1 ≤ s) (h3 : s ≤ 3) (hv : v < 2 ^ 31) {k23 : Nat → Nat → Int32 → Int32 → Int32 → Option Bool} {kc ks : Nat} {v2 : Int32} : f_X9_canFit_45 K M k23 1000 kc ks (nI s) v2 (nI v) 0 0 0 (M.1 23) = if fitS inn ln bt W s v then some true else k23 kc ks (nI s) v2 (nI (v + 1)) := by
  obtain ⟨ed, hed⟩ : ∃ ed : Nat → Nat, ed = fun k => rn (mvs s v) (ln k) (bt k) 0 := ⟨_, rfl⟩
  have hF : fitS inn ln bt W s v = fitB inn ed W := by rw [hed]; rfl
  have he3 : ∀ k, ed k < 3 := fun k => by
    rw [hed]
    exact Nat.lt_of_lt_of_le (rn_lt (mvs_clo (v := v) (by omega : 0 < s)) (ln k) (bt k) 0 (by omega)) h3
  have hw := fun k (hk : k < W) (k45 : Nat → Nat → Int32 → Int32 → Int32 → Int32 → Int32 → Int32 → Int32 → Option Bool) (v4 v5 u6 x6 : Int32) => m_walk (K := K) h h1 h3 hv hk (k23 := k23) (k45 := k45) (kc := kc) (ks := ks) (v2 := v2) (v4 := v4) (v5 := v5) (u6 := u6) (x6 := x6)
  have hw2 : ∀ k, k < W → ∀ (k45 : Nat → Nat → Int32 → Int32 → Int32 → Int32 → Int32 → Int32 → Int32 → Option Bool) (v4 v5 u6 x6 : Int32), f_X9_canFit_73 K M k23 k45 1000 kc ks (nI s) v2 (nI v) v4 v5 k (nI 0) (nI 0) u6 x6 = if inn k then k45 kc ks (nI s) v2 (nI v) (v4 ||| nI (2 ^ ed k)) (v5 ||| 0) u6 x6 else k45 kc ks (nI s) v2 (nI v) (v4 ||| 0) (v5 ||| nI (2 ^ ed k)) u6 x6 := fun k hk k45 v4 v5 u6 x6 => by rw [hed]; exact hw k hk k45 v4 v5 u6 x6
  rw [hF]
  obtain ⟨w1, w2, w3, w4, w5⟩ := h
  have o0 : ∀ a : Nat, nI a ||| (0 : Int32) = nI a := fun a => by rw [show (0 : Int32) = nI 0 from rfl, nI_or, Nat.or_zero]
  have key := pu_for0 (W := fun m k => f_X9_canFit_45 K M k23 m kc ks (nI s) v2 (nI v) (nI (pm (en inn ed true k) 3)) (nI (pm (en inn ed false k) 3)) (nI k) (M.1 23) = if fitB inn ed W then some true else k23 kc ks (nI s) v2 (nI (v + 1))) (e := W) (n := 1000) (by omega) (fun m => ?_) (fun m k hk ih => ?_)
  · exact key
  · show f_X9_canFit_45b K M k23 (f_X9_canFit_45 K M k23 m) kc ks (nI s) v2 (nI v) (nI (pm (en inn ed true W) 3)) (nI (pm (en inn ed false W) 3)) (nI W) (M.1 23) = _
    unfold f_X9_canFit_45b
    rw [w4, if_pos it_end, nI_1]
    by_cases c : fitB inn ed W = true
    · rw [if_pos (fit_and.mpr c), if_pos c]
    · rw [if_neg (fun e => c (fit_and.mp e)), if_neg c]
  · show f_X9_canFit_45b K M k23 (f_X9_canFit_45 K M k23 m) kc ks (nI s) v2 (nI v) (nI (pm (en inn ed true k) 3)) (nI (pm (en inn ed false k) 3)) (nI k) (M.1 23) = _
    unfold f_X9_canFit_45b
    rw [w4, if_neg (it_go hk (by omega)), if_pos (it_in hk (by omega) rfl), nI_clamp (by omega), nI_1]
    refine (hw2 k hk _ _ _ _ _).trans ?_
    have h3e := he3 k
    cases c : inn k
    · rw [en_out (b := true) (by rw [c]; decide), en_in (b := false) c h3e, ← nI_or] at ih
      rw [if_neg (by decide), o0]
      exact ih
    · rw [en_in (b := true) c h3e, en_out (b := false) (by rw [c]; decide), ← nI_or] at ih
      rw [if_pos rfl, o0]
      exact ih
theorem m_can (h : RWw S M W ln bt inn) (h1 : 1 ≤ s) (h3 : s ≤ 3) (hK : s ^ (2 * s) = K) (hK2 : K < 1000) : f_X9_canFit K M (nI s) = some (anyf (fitS inn ln bt W s) K) := by
  have k23 := pu_for0 (W := fun m v => anyf (fitS inn ln bt W s) v = false → f_X9_canFit_23 K M m v (4 * v) (nI s) (nI K) (nI v) = some (anyf (fitS inn ln bt W s) K)) (e := K) (n := 1000) hK2 (fun m he => ?_) (fun m v hv ih he => ?_)
  · have h4 := pu_for0 (W := fun m i => f_X9_canFit_4 K M m 0 0 (nI s) (nI (s ^ i)) (nI i) = f_X9_canFit_23 K M 1000 0 0 (nI s) (nI K) (nI 0)) (e := 2 * s) (n := 1000) (by omega) (fun m => ?_) (fun m i hi ih => ?_)
    · exact h4.trans (k23 rfl)
    · show f_X9_canFit_4b K M (f_X9_canFit_4 K M m) 0 0 (nI s) (nI (s ^ (2 * s))) (nI (2 * s)) = _
      unfold f_X9_canFit_4b
      rw [show (2 : Int32) * nI s = nI (2 * s) from pk_mul 2 s, if_pos (nI_le (Nat.le_refl _) (by omega)), hK]
      rfl
    · show f_X9_canFit_4b K M (f_X9_canFit_4 K M m) 0 0 (nI s) (nI (s ^ i)) (nI i) = _
      unfold f_X9_canFit_4b
      rw [show (2 : Int32) * nI s = nI (2 * s) from pk_mul 2 s, if_neg (nI_ge hi (by omega)), pk_mul, ← Nat.pow_succ, nI_1]
      exact ih
  · show f_X9_canFit_23b K M (f_X9_canFit_23 K M m) K (4 * K) (nI s) (nI K) (nI K) = _
    unfold f_X9_canFit_23b
    rw [if_pos (nI_le (Nat.le_refl _) (by omega)), he]
  · have go : f_X9_canFit_23 K M (m + 1) v (4 * v) (nI s) (nI K) (nI v) = if fitS inn ln bt W s v then some true else f_X9_canFit_23 K M m (v + 1) (4 * v + 4) (nI s) (nI K) (nI (v + 1)) := by
      show f_X9_canFit_23b K M (f_X9_canFit_23 K M m) v (4 * v) (nI s) (nI K) (nI v) = _
      unfold f_X9_canFit_23b
      rw [if_neg (nI_ge hv (by omega)), if_pos ⟨by omega, by omega⟩]
      exact m_try h h1 h3 (by omega)
    rw [go]
    cases c : fitS inn ln bt W s v
    · rw [if_neg (by decide), show 4 * v + 4 = 4 * (v + 1) by omega]
      exact ih (by rw [anyf_succ, he, c]; rfl)
    · rw [if_pos rfl, anyf_in hv c]
def fewR (inn : Nat → Bool) (ln bt : Nat → Nat) (W : Nat) : Nat := if anyf (fitS inn ln bt W 1) 1 then 1 else if anyf (fitS inn ln bt W 2) 16 then 2 else if anyf (fitS inn ln bt W 3) 729 then 3 else 4
theorem m_few (h : RWw S M W ln bt inn) : f_X9_fewest M = some (if fewR inn ln bt W = 4 then (0, mset M 0 1) else (nI (fewR inn ln bt W), mset M 0 0)) := by
  have c1 := m_can (s := 1) (K := 1) h (by decide) (by decide) (by decide) (by decide)
  have c2 := m_can (s := 2) (K := 16) h (by decide) (by decide) (by decide) (by decide)
  have c3 := m_can (s := 3) (K := 729) h (by decide) (by decide) (by decide) (by decide)
  have fin : ∀ kc ks a, 1 ≤ a → a ≤ 4 → f_X9_fewest_21 kc ks (nI a) M = some (if a = 4 then (0, mset M 0 1) else (nI a, mset M 0 0)) := by
    intro kc ks a a1 a2
    unfold f_X9_fewest_21 f_X9_fewest_32
    rw [isWr, isWr]
    simp only [Option.bind_some]
    by_cases c : a = 4
    · rw [if_pos (show nI a = (4 : Int32) by rw [c]; rfl), if_neg (by decide), if_pos c]
    · rw [if_neg (show ¬ nI a = (4 : Int32) from fun e => c ((nI_eq (b := 4) (by omega) (by decide)).mp e)), if_pos (by decide), if_neg c]
  have st : ∀ m kc ks a u, a < 4 → f_X9_canFit (kfit (nI a)) M (nI a) = some u → kc + kfit (nI a) ≤ 746 → ks + 4 * kfit (nI a) ≤ 2984 → f_X9_fewest_2 (m + 1) kc ks (nI a) M = if u then f_X9_fewest_21 (kc + kfit (nI a)) (ks + 4 * kfit (nI a)) (nI a) M else f_X9_fewest_2 m (kc + kfit (nI a)) (ks + 4 * kfit (nI a)) (nI (a + 1)) M := by
    intro m kc ks a u ha hu h1 h2
    show f_X9_fewest_2b _ _ _ _ _ = _
    unfold f_X9_fewest_2b
    rw [if_neg (show ¬ (4 : Int32) ≤ nI a from nI_ge (b := 4) ha (by decide)), hu]
    simp only [Option.bind_some]
    rw [if_pos ⟨h1, h2⟩, nI_1]
    cases u
    · rw [if_pos (by decide), if_neg (by decide)]
    · rw [if_neg (by decide), if_pos rfl]
  have s1 := st 999 0 0 1 _ (by decide) c1 (by decide) (by decide)
  have s2 := st 998 1 4 2 _ (by decide) c2 (by decide) (by decide)
  have s3 := st 997 17 68 3 _ (by decide) c3 (by decide) (by decide)
  have s4 : f_X9_fewest_2 997 746 2984 (nI 4) M = f_X9_fewest_21 746 2984 (nI 4) M := by
    show f_X9_fewest_2b (f_X9_fewest_2 996) 746 2984 (nI 4) M = _
    unfold f_X9_fewest_2b
    rw [if_pos (by decide)]
  have hh : f_X9_fewest M = f_X9_fewest_2 1000 0 0 (nI 1) M := rfl
  rw [hh]
  refine s1.trans ?_
  cases h1 : anyf (fitS inn ln bt W 1) 1
  · rw [if_neg Bool.false_ne_true]
    refine s2.trans ?_
    cases h2 : anyf (fitS inn ln bt W 2) 16
    · rw [if_neg Bool.false_ne_true]
      refine s3.trans ?_
      cases h3 : anyf (fitS inn ln bt W 3) 729
      · rw [if_neg Bool.false_ne_true, show fewR inn ln bt W = 4 by unfold fewR; rw [h1, h2, h3]; rfl]
        exact s4.trans (fin _ _ 4 (by decide) (by decide))
      · rw [if_pos rfl, show fewR inn ln bt W = 3 by unfold fewR; rw [h1, h2, h3]; rfl]
        exact fin _ _ 3 (by decide) (by decide)
    · rw [if_pos rfl, show fewR inn ln bt W = 2 by unfold fewR; rw [h1, h2]; rfl]
      exact fin _ _ 2 (by decide) (by decide)
  · rw [if_pos rfl, show fewR inn ln bt W = 1 by unfold fewR; rw [h1]; rfl]
    exact fin _ _ 1 (by decide) (by decide)
theorem few_one {S' : CS} {s2 v2 : Nat} (ht : RWt S' (fitS inn ln bt W) s2 v2) (hf : s2 ≤ 3 → fitS inn ln bt W s2 v2 = true) : fewR inn ln bt W = s2 := by
  obtain ⟨t1, t2, t3, t4, t5⟩ := ht
  have no : ∀ s3, 1 ≤ s3 → s3 ≤ 3 → s3 < s2 → anyf (fitS inn ln bt W s3) (s3 ^ (2 * s3)) = false := fun s3 a1 a2 a3 => anyf_no (fun k hk => t5 s3 k a1 a2 hk (Or.inl a3))
  have yes : s2 ≤ 3 → anyf (fitS inn ln bt W s2) (s2 ^ (2 * s2)) = true := fun a => anyf_in (t4 a).1 (hf a)
  have n1 : 1 < s2 → anyf (fitS inn ln bt W 1) 1 = false := fun a => no 1 (by decide) (by decide) a
  have n2 : 2 < s2 → anyf (fitS inn ln bt W 2) 16 = false := fun a => no 2 (by decide) (by decide) a
  have n3 : 3 < s2 → anyf (fitS inn ln bt W 3) 729 = false := fun a => no 3 (by decide) (by decide) a
  unfold fewR
  match s2, t1, t2 with
  | 1, _, _ => rw [if_pos (yes (by decide))]
  | 2, _, _ => rw [n1 (by decide), if_neg (by decide), if_pos (yes (by decide))]
  | 3, _, _ => rw [n1 (by decide), n2 (by decide), if_neg (by decide), if_neg (by decide), if_pos (yes (by decide))]
  | 4, _, _ => rw [n1 (by decide), n2 (by decide), n3 (by decide), if_neg (by decide), if_neg (by decide), if_neg (by decide)]
theorem T_fewest (h : RelW S M) (fo : Nat → Int64) : TI (f_L_fewest S fo) fo (f_X9_fewest M) (fun S' M' => RelW S' M' ∧ Fr [6, 19] S S' ∧ Mr [0] [] M M') := by
  obtain ⟨W, ln, bt, inn, s, v, hw, ht⟩ := h
  obtain ⟨S', s2, v2, x1, x2, x3, x4, x5⟩ := x_few hw ht
  have hR : RelW S' M := ⟨W, ln, bt, inn, s2, v2, x2, x3⟩
  have hm := m_few hw
  have e := few_one x3 x5
  have hs4 := x3.2.1
  rw [e] at hm
  by_cases c : s2 = 4
  · rw [if_pos c] at hm
    refine TI.ex (code := 1) (r := 0) (S := S') (M := M) (by decide) ?_ hm ⟨hR.m0 1, x4, Mr.mset (by decide)⟩
    unfold f_L_fewest f_X8_fewest
    rw [x1]
    simp only [Option.bind_some]
    rw [if_neg (show ¬ nI s2 ≤ (3 : Int32) by rw [c]; decide)]
    rfl
  · rw [if_neg c] at hm
    refine TI.ok (r := nI s2) (S := S') (M := mset M 0 0) ?_ hm ms_s ⟨hR.m0 0, x4, Mr.mset (by decide)⟩
    unfold f_L_fewest f_X8_fewest
    rw [x1]
    simp only [Option.bind_some]
    rw [if_pos (show nI s2 ≤ (3 : Int32) from nI_le (b := 3) (by omega) (by decide))]
    rfl
end SD
