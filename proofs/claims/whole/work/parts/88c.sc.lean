/-! samples: fits; the class's trial machine -/
def tbw (ac : Nat → Bool) (mv : Nat → Nat → Nat) (ln bt : Nat → Nat) (inn : Nat → Bool) : Nat → Bool
  | 0 => true
  | k + 1 => tbw ac mv ln bt inn k && decide (ac (rn mv (ln k) (bt k) 0) = inn k)
theorem tbw_succ (ac : Nat → Bool) (mv : Nat → Nat → Nat) (ln bt : Nat → Nat) (inn : Nat → Bool) (k : Nat) : tbw ac mv ln bt inn (k + 1) = (tbw ac mv ln bt inn k && decide (ac (rn mv (ln k) (bt k) 0) = inn k)) := rfl
theorem tbw_no {ac : Nat → Bool} {mv : Nat → Nat → Nat} {ln bt : Nat → Nat} {inn : Nat → Bool} {i : Nat} (h : tbw ac mv ln bt inn i = false) : ∀ d, tbw ac mv ln bt inn (i + d) = false
  | 0 => h
  | d + 1 => by rw [← Nat.add_assoc, tbw_succ, tbw_no h d, Bool.false_and]
section SC
variable {S : CS} {M : MS} {W s v n : Nat} {ln bt : Nat → Nat} {inn ac : Nat → Bool} {mv : Nat → Nat → Nat}
theorem x_told (hS : RSs S M n ac mv) (hn : 0 < n) (h : RWw S M W ln bt inn) : f_X7_areToldBy S = some (tbw ac mv ln bt inn W) := by
  obtain ⟨h1, h2, h3, h4, h5⟩ := h
  have key := pu_for0 (W := fun m i => tbw ac mv ln bt inn i = true → f_X7_areToldBy_2 S m (nI i) = some (tbw ac mv ln bt inn W)) (e := W) (n := 1000) (by omega) (fun m he => ?_) (fun m i hi ih he => ?_)
  · exact key rfl
  · show f_X7_areToldBy_2b _ _ _ = _
    unfold f_X7_areToldBy_2b
    rw [h2, if_pos (nI_le (Nat.le_refl W) (by omega)), he]
  · obtain ⟨k1, k2, k3, k4, k5, k6, k7⟩ := h5 i hi
    have hw := RS.well hS (l := ln i) (m := bt i) (q := 0) (by omega) (b31 k1 k2) hn
    rw [tbw_succ, he, Bool.true_and] at ih
    show f_X7_areToldBy_2b _ _ _ = _
    unfold f_X7_areToldBy_2b
    rw [h2, if_neg (nI_ge hi (by omega)), q_at_nI (by omega) (by decide), q_at_nI (by omega) (by decide), k3, k4, show (0 : Int32) = nI 0 from rfl, hw]
    simp only [Option.bind_some]
    rw [h3, hasBit_pm (by omega) (by omega), decide_eq_true hi, Bool.true_and, nI_1]
    by_cases c : ac (rn mv (ln i) (bt i) 0) = inn i
    · rw [if_pos (qb_e.mpr c)]
      exact ih (decide_eq_true c)
    · rw [if_neg (fun e => c (qb_e.mp e))]
      have hz : tbw ac mv ln bt inn (i + 1) = false := by rw [tbw_succ, decide_eq_false c, Bool.and_false]
      have := tbw_no hz (W - (i + 1))
      rw [show i + 1 + (W - (i + 1)) = W by omega] at this
      rw [this]
theorem m_told (hS : RSs S M n ac mv) (hn : 0 < n) (h : RWw S M W ln bt inn) : f_X9_fits_38 1000 1 0 (M.1 23) M = some (tbw ac mv ln bt inn W, M) := by
  obtain ⟨h1, h2, h3, h4, h5⟩ := h
  have key := pu_for0 (W := fun m i => f_X9_fits_38 m (q_b (tbw ac mv ln bt inn i)) (nI i) (M.1 23) M = some (tbw ac mv ln bt inn W, M)) (e := W) (n := 1000) (by omega) (fun m => ?_) (fun m i hi ih => ?_)
  · exact key
  · show f_X9_fits_38b _ _ _ _ _ = _
    unfold f_X9_fits_38b
    rw [h4, if_pos it_end]
    cases tbw ac mv ln bt inn W
    · exact if_pos (by decide)
    · rw [if_neg (by decide), if_pos (by decide)]
  · obtain ⟨k1, k2, k3, k4, k5, k6, k7⟩ := h5 i hi
    have e1 : M.2.2.1 3 (nI i).toNatClampNeg 0 = nI (ln i) := by rw [nI_clamp (by omega)]; exact k5
    have e2 : M.2.2.1 3 (nI i).toNatClampNeg 1 = nI (bt i) := by rw [nI_clamp (by omega)]; exact k6
    have e3 : M.2.2.1 3 (nI i).toNatClampNeg 2 = q_b (inn i) := by rw [nI_clamp (by omega)]; exact k7
    have hc := (q_in_nI (i := i) (n := W) hi (by omega)).2
    have ht := RS.takes hS (l := ln i) (m := bt i) (by omega) (b31 k1 k2) hn
    rw [tbw_succ] at ih
    show f_X9_fits_38b _ _ _ _ _ = _
    unfold f_X9_fits_38b f_X9_fits_80 f_X9_fits_88
    rw [h4, if_neg (it_go hi (by omega)), if_pos (it_in hi (by omega) rfl), if_pos hc, if_pos hc, e1, e2, e3, ht]
    simp only [Option.bind_some]
    rw [if_pos hc, nI_1, qb_and1, qb_and0]
    cases c1 : inn i
    · rw [c1] at ih
      rw [if_neg (by decide)]
      cases c2 : ac (rn mv (ln i) (bt i) 0)
      · rw [c2, decide_eq_true rfl, Bool.and_true] at ih
        rw [if_pos (by decide)]
        exact ih
      · rw [c2, decide_eq_false (by decide), Bool.and_false] at ih
        rw [if_neg (by decide)]
        exact ih
    · rw [c1] at ih
      rw [if_pos (by decide)]
      cases c2 : ac (rn mv (ln i) (bt i) 0)
      · rw [c2, decide_eq_false (by decide), Bool.and_false] at ih
        rw [if_neg (by decide)]
        exact ih
      · rw [c2, decide_eq_true rfl, Bool.and_true] at ih
        rw [if_pos (by decide)]
        exact ih
theorem T_fits (hs : RelS S M) (h : RelW S M) (fo : Nat → Int64) : TB (f_L_fits S fo) fo (f_X9_fits M) (fun S' M' => S' = S ∧ Mr [0] [] M M') := by
  obtain ⟨n, ac, mv, hS⟩ := hs
  obtain ⟨W, ln, bt, inn, s, v, hw, ht⟩ := h
  have h1 := hS.1
  by_cases hn : n = 0
  · refine TB.ex (code := 1) (r := false) (S := S) (M := M) (by decide) ?_ ?_ ⟨rfl, Mr.mset (by decide)⟩
    · unfold f_L_fits f_X8_fits
      rw [hS.2.2.1, if_pos (by rw [hn]; rfl)]
      rfl
    · unfold f_X9_fits f_X9_fits_18
      rw [hS.2.2.2.2.1, decide_eq_true hn, if_neg (by decide), isWr]
      rfl
  · refine TB.ok (r := tbw ac mv ln bt inn W) (S := S) (M := mset M 0 0) ?_ ?_ ms_s ⟨rfl, Mr.mset (by decide)⟩
    · unfold f_L_fits f_X8_fits
      rw [hS.2.2.1, if_neg (fun e => hn ((nI_0iff (by omega)).mp e)), x_told hS (by omega) hw]
      simp only [Option.bind_some, if_true]
      rw [← qbz]
    · have := m_told (S := S) (M := mset M 0 0) (n := n) (ac := ac) (mv := mv) hS (by omega) (RW.fr hw rfl rfl rfl rfl rfl rfl)
      unfold f_X9_fits f_X9_fits_18
      rw [hS.2.2.2.2.1, decide_eq_false hn, if_pos (by decide), isWr]
      simp only [Option.bind_some]
      rw [if_pos (by decide)]
      exact this
/-! the trial machine goes on -/
theorem x_turn (h1 : 1 ≤ s) (h3 : s ≤ 3) : ∀ m j (f : Nat → Nat) (S : CS) (k : Nat), j + m = 2 * s → m < k → S.1 6 3 = nI s → (∀ i, i < 6 → S.1 19 i = nI (f i) ∧ f i < 100) → ∃ S' : CS, f_X7_turnTrial_2 k (nI j) S = some S' ∧ Fr [6, 19] S S' ∧ (∀ i, i ≠ 3 → S'.1 6 i = S.1 6 i) ∧ S'.1 6 3 = nI (tn s m j f).1 ∧ ∀ i, i < 6 → S'.1 19 i = nI ((tn s m j f).2 i)
  | 0, j, f, S, k, hj, hk, e3, hf => by
    match k, hk with
    | k + 1, _ =>
      refine ⟨cset S 6 3 (S.1 6 3 + 1), ?_, Fr.cset (by decide), fun i hi => cs_k hi, ?_, fun i hi => ?_⟩
      · show f_X7_turnTrial_2b _ _ _ = _
        unfold f_X7_turnTrial_2b
        rw [e3, show (2 : Int32) * nI s = nI (2 * s) from pk_mul 2 s, if_pos (nI_le (by omega) (by omega)), nI_1]
      · rw [cs_s, e3, nI_1]
        rfl
      · rw [cs_n (by decide)]
        exact (hf i hi).1
  | m + 1, j, f, S, k, hj, hk, e3, hf => by
    match k, hk with
    | k + 1, hk =>
      have hj6 : j < 6 := by omega
      obtain ⟨g1, g2⟩ := hf j hj6
      have go : f_X7_turnTrial_2 (k + 1) (nI j) S = if f j + 1 < s then some (cfun S 19 (upd (S.1 19) j (nI (f j + 1)))) else f_X7_turnTrial_2 k (nI (j + 1)) (cfun S 19 (upd (S.1 19) j 0)) := by
        show f_X7_turnTrial_2b _ _ _ = _
        unfold f_X7_turnTrial_2b
        rw [e3, show (2 : Int32) * nI s = nI (2 * s) from pk_mul 2 s, if_neg (nI_ge (by omega) (by omega)), q_at_nI hj6 (by decide), g1, nI_1, nI_1, q_pu_nI hj6 (by decide), q_pu_nI hj6 (by decide)]
        by_cases c : f j + 1 < s
        · rw [if_pos c, if_neg (nI_ge c (by omega))]
        · rw [if_neg c, if_pos (nI_le (by omega) (by omega))]
      rw [go]
      by_cases c : f j + 1 < s
      · rw [if_pos c, show tn s (m + 1) j f = (s, nup f j (f j + 1)) from if_pos c]
        refine ⟨_, rfl, Fr.cfun (by decide), fun i _ => by rw [cf_n (by decide)], by rw [cf_n (by decide)]; exact e3, fun i hi => ?_⟩
        rw [cf_s]
        show upd (S.1 19) j (nI (f j + 1)) i = nI (nup f j (f j + 1) i)
        by_cases e : i = j
        · subst e; rw [pk_us, nup_s]
        · rw [pk_un e, nup_n e]; exact (hf i hi).1
      · rw [if_neg c, show tn s (m + 1) j f = tn s m (j + 1) (nup f j 0) from if_neg c]
        obtain ⟨S', x1, x2, x3, x4, x5⟩ := x_turn h1 h3 m (j + 1) (nup f j 0) (cfun S 19 (upd (S.1 19) j 0)) k (by omega) (by omega) (by rw [cf_n (by decide)]; exact e3) (fun i hi => by
          rw [cf_s]
          by_cases e : i = j
          · subst e; rw [pk_us, nup_s]; exact ⟨rfl, by decide⟩
          · rw [pk_un e, nup_n e]; exact hf i hi)
        exact ⟨S', x1, (Fr.cfun (by decide)).trans x2, fun i hi => (x3 i hi).trans (by rw [cf_n (by decide)]), x4, x5⟩
theorem x_kept (h : RWw S M W ln bt inn) (h1 : 1 ≤ s) (h3 : s ≤ 3) (hv : ∀ j, j < 6 → S.1 19 j = nI (v / s ^ j % s)) : f_X7_areKeptApart S = some (fitS inn ln bt W s v) := by
  obtain ⟨w1, w2, w3, w4, w5⟩ := h
  obtain ⟨ed, hed⟩ : ∃ ed : Nat → Nat, ed = fun k => rn (mvs s v) (ln k) (bt k) 0 := ⟨_, rfl⟩
  have hF : fitS inn ln bt W s v = fitB inn ed W := by rw [hed]; rfl
  have he3 : ∀ k, ed k < 3 := fun k => by
    rw [hed]
    exact Nat.lt_of_lt_of_le (rn_lt (mvs_clo (v := v) (by omega : 0 < s)) (ln k) (bt k) 0 (by omega)) h3
  rw [hF]
  have key := pu_for0 (W := fun m i => fitB inn ed i = true → f_X7_areKeptApart_6 S m (nI (pm (en inn ed true i) 3)) (nI (pm (en inn ed false i) 3)) (nI i) = some (fitB inn ed W)) (e := W) (n := 1000) (by omega) (fun m he => ?_) (fun m i hi ih he => ?_)
  · exact key (fit_iff.mpr (fun _ _ => rfl))
  · show f_X7_areKeptApart_6b _ _ _ _ _ = _
    unfold f_X7_areKeptApart_6b
    rw [w2, if_pos (nI_le (Nat.le_refl W) (by omega)), he]
  · obtain ⟨k1, k2, k3, k4, k5, k6, k7⟩ := w5 i hi
    have hend : f_X3_end 6 (S.1 19) (nI 0) (nI (ln i)) (nI (bt i)) = some (nI (ed i)) := by
      rw [hed]
      exact x_end (n := s) (by omega) (by decide) (mvs_clo (by omega)) (fun q hq c hc => hv (2 * q + c) (by omega)) (by omega) (b31 k1 k2) (by omega)
    have h68 : f_X7_areKeptApart_68 S (f_X7_areKeptApart_6 S m) (nI (pm (en inn ed true (i + 1)) 3)) (nI (pm (en inn ed false (i + 1)) 3)) (nI i) = some (fitB inn ed W) := by
      unfold f_X7_areKeptApart_68
      rw [nI_1]
      by_cases c : fitB inn ed (i + 1) = true
      · rw [if_pos (fit_and.mpr c)]
        exact ih c
      · rw [if_neg (fun e => c (fit_and.mp e))]
        have hz : fitB inn ed (i + 1) = false := by cases e : fitB inn ed (i + 1); rfl; exact absurd e c
        have := fit_no hz (W - (i + 1))
        rw [show i + 1 + (W - (i + 1)) = W by omega] at this
        rw [this]
    have h3e := he3 i
    show f_X7_areKeptApart_6b _ _ _ _ _ = _
    unfold f_X7_areKeptApart_6b
    rw [w2, if_neg (nI_ge hi (by omega)), q_at_nI (by omega) (by decide), q_at_nI (by omega) (by decide), k3, k4, show (0 : Int32) = nI 0 from rfl, hend]
    simp only [Option.bind_some]
    rw [w3, hasBit_pm (by omega) (by omega), decide_eq_true hi, Bool.true_and, nI_one _ (by omega), nI_or, nI_or]
    cases c : inn i
    · rw [en_out (b := true) (by rw [c]; decide), en_in (b := false) c h3e] at h68
      exact (if_pos (by decide)).trans h68
    · rw [en_in (b := true) c h3e, en_out (b := false) (by rw [c]; decide)] at h68
      exact (if_neg (by decide)).trans h68
theorem x_few (hw : RWw S M W ln bt inn) (ht : RWt S (fitS inn ln bt W) s v) : ∃ (S' : CS) (s2 v2 : Nat), f_X7_fewestStates S = some (nI s2, S') ∧ RWw S' M W ln bt inn ∧ RWt S' (fitS inn ln bt W) s2 v2 ∧ Fr [6, 19] S S' ∧ (s2 ≤ 3 → fitS inn ln bt W s2 v2 = true) := by
  have key := pu_for0 (W := fun m t => ∀ (S : CS) (s v : Nat), RWw S M W ln bt inn → RWt S (fitS inn ln bt W) s v → t ≤ idx s v → ∃ (S' : CS) (s2 v2 : Nat), f_X7_fewestStates_2 m (nI t) S = some (nI s2, S') ∧ RWw S' M W ln bt inn ∧ RWt S' (fitS inn ln bt W) s2 v2 ∧ Fr [6, 19] S S' ∧ (s2 ≤ 3 → fitS inn ln bt W s2 v2 = true)) (e := 746) (n := 1000) (by omega) (fun m S s v hw ht hx => ?_) (fun m t hi ih S s v hw ht hx => ?_)
  · exact key S s v hw ht (Nat.zero_le _)
  · obtain ⟨t1, t2, t3, t4, t5⟩ := id ht
    refine ⟨S, s, v, ?_, hw, ht, Fr.refl S, fun h3 => ?_⟩
    · show f_X7_fewestStates_2b _ _ _ = _
      unfold f_X7_fewestStates_2b
      rw [if_pos (show (746 : Int32) ≤ nI 746 from nI_le (Nat.le_refl 746) (by decide)), t3]
    · have := idx_lt t1 h3 (t4 h3).1
      omega
  · obtain ⟨t1, t2, t3, t4, t5⟩ := id ht
    have e0 : f_X7_fewestStates_2 (m + 1) (nI t) S = if (3 : Int32) < nI s then some (nI s, S) else ((f_X7_areKeptApart S).bind fun u3 => (if (q_b u3) = 0 then ((f_X7_turnTrial S).bind fun u6 => f_X7_fewestStates_2 m (nI (t + 1)) u6) else some (nI s, S))) := by
      show f_X7_fewestStates_2b _ _ _ = _
      unfold f_X7_fewestStates_2b
      rw [if_neg (show ¬ (746 : Int32) ≤ nI t from nI_ge (b := 746) hi (by decide)), t3, nI_1]
    by_cases h4 : s = 4
    · refine ⟨S, s, v, ?_, hw, ht, Fr.refl S, fun h3 => by omega⟩
      rw [e0, if_pos (show (3 : Int32) < nI s by rw [h4]; decide)]
    · have h3 : s ≤ 3 := by omega
      obtain ⟨hv, hd⟩ := t4 h3
      rw [if_neg (show ¬ (3 : Int32) < nI s from nI_nlt (a := 3) (b := s) h3 (by decide)), x_kept hw t1 h3 hd] at e0
      simp only [Option.bind_some] at e0
      cases hf : fitS inn ln bt W s v
      · rw [hf, if_pos (by decide)] at e0
        obtain ⟨S1, x1, x2, x3, x4, x5⟩ := x_turn t1 h3 (2 * s) 0 (fun j => v / s ^ j % s) S 1000 (by omega) (by omega) t3 (fun i hi => ⟨hd i hi, Nat.lt_of_lt_of_le (Nat.mod_lt _ (by omega)) (by omega)⟩)
        have x1' : f_X7_turnTrial S = some S1 := x1
        rw [x1'] at e0
        simp only [Option.bind_some] at e0
        have hw1 : RWw S1 M W ln bt inn := RW.fr hw (x3 5 (by decide)) (x3 4 (by decide)) (x2.1 17 (by decide)) (x2.1 18 (by decide)) rfl rfl
        have hfail : ∀ s2 v2, 1 ≤ s2 → s2 ≤ 3 → v2 < s2 ^ (2 * s2) → (s2 < s ∨ s2 = s ∧ v2 < v + 1) → fitS inn ln bt W s2 v2 = false := fun s2 v2 a1 a2 a3 a4 => by
          by_cases c : s2 < s ∨ s2 = s ∧ v2 < v
          · exact t5 s2 v2 a1 a2 a3 c
          · have h1 : s2 = s := by omega
            have h2 : v2 = v := by omega
            rw [h1, h2]
            exact hf
        by_cases hn : v + 1 < s ^ (2 * s)
        · obtain ⟨n1, n2⟩ := tn_next t1 h3 hv hn
          obtain ⟨S', s2, v2, y1, y2, y3, y4, y5⟩ := ih S1 s (v + 1) hw1 ⟨t1, t2, by rw [x4, n1], fun _ => ⟨hn, fun j hj => by rw [x5 j hj, n2 j hj]⟩, hfail⟩ (by rw [idx_next t1 h3]; omega)
          exact ⟨S', s2, v2, e0.trans y1, y2, y3, x2.trans y4, y5⟩
        · obtain ⟨n1, n2⟩ := tn_last t1 h3 hv hn
          obtain ⟨S', s2, v2, y1, y2, y3, y4, y5⟩ := ih S1 (s + 1) 0 hw1 ⟨by omega, by omega, by rw [x4, n1], fun _ => ⟨Nat.pow_pos (by omega), fun j hj => by rw [x5 j hj, n2 j hj, Nat.zero_div, Nat.zero_mod]⟩, fun s2 v2 a1 a2 a3 a4 => hfail s2 v2 a1 a2 a3 (by
            rcases a4 with c | ⟨_, c⟩
            · rcases Nat.lt_or_ge s2 s with d | d
              · exact Or.inl d
              · have e : s2 = s := by omega
                subst e
                exact Or.inr ⟨rfl, by omega⟩
            · omega)⟩ (by rw [idx_last t1 h3 hv hn]; omega)
          exact ⟨S', s2, v2, e0.trans y1, y2, y3, x2.trans y4, y5⟩
      · rw [hf, if_neg (by decide)] at e0
        exact ⟨S, s, v, e0, hw, ht, Fr.refl S, fun _ => hf⟩
end SC
