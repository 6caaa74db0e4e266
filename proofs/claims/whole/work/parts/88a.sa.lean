/-! samples: trial machines, ends kept apart -/
def mvs (s v q c : Nat) : Nat := v / s ^ (2 * q + c) % s
theorem mvs_clo {s v : Nat} (hs : 0 < s) : clo (mvs s v) s := fun _ _ _ _ => Nat.mod_lt _ hs
/-- is e an end of one of the first W words that are in (b), or out -/
def en (inn : Nat → Bool) (ed : Nat → Nat) (b : Bool) : Nat → Nat → Bool
  | 0, _ => false
  | W + 1, e => en inn ed b W e || (decide (inn W = b) && decide (e = ed W))
theorem en_succ (inn : Nat → Bool) (ed : Nat → Nat) (b : Bool) (W e : Nat) : en inn ed b (W + 1) e = (en inn ed b W e || (decide (inn W = b) && decide (e = ed W))) := rfl
def fitB (inn : Nat → Bool) (ed : Nat → Nat) (W : Nat) : Bool := decide (pm (fun e => en inn ed true W e && en inn ed false W e) 3 = 0)
section SA
variable {inn inn2 : Nat → Bool} {ed ed2 : Nat → Nat} {W : Nat} {b : Bool}
theorem en_in (h : inn W = b) (he : ed W < 3) : pm (en inn ed b (W + 1)) 3 = pm (en inn ed b W) 3 ||| 2 ^ ed W := by
  rw [pm_set he]
  exact pm_cong (fun k _ => by rw [en_succ, decide_eq_true h, Bool.true_and])
theorem en_out (h : inn W ≠ b) : pm (en inn ed b (W + 1)) 3 = pm (en inn ed b W) 3 :=
  pm_cong (fun k _ => by rw [en_succ, decide_eq_false h, Bool.false_and, Bool.or_false])
theorem fit_iff : fitB inn ed W = true ↔ ∀ e, e < 3 → (en inn ed true W e && en inn ed false W e) = false := by
  unfold fitB
  rw [decide_eq_true_iff]
  exact pm_zero
theorem fit_step (h : fitB inn ed (W + 1) = true) : fitB inn ed W = true := fit_iff.mpr (fun e he => by
  have := fit_iff.mp h e he
  rw [en_succ, en_succ] at this
  cases c1 : en inn ed true W e
  · rfl
  · cases c2 : en inn ed false W e
    · rfl
    · rw [c1, c2, Bool.true_or, Bool.true_or] at this
      exact absurd this (by decide))
theorem fit_no (h : fitB inn ed W = false) : ∀ d, fitB inn ed (W + d) = false
  | 0 => h
  | d + 1 => by
    cases c : fitB inn ed (W + (d + 1))
    · rfl
    · have := fit_step (W := W + d) c
      rw [fit_no h d] at this
      exact absurd this (by decide)
theorem en_cong : ∀ {W : Nat}, (∀ k, k < W → inn k = inn2 k ∧ ed k = ed2 k) → ∀ e, en inn ed b W e = en inn2 ed2 b W e
  | 0, _, _ => rfl
  | W + 1, h, e => by rw [en_succ, en_succ, en_cong (fun k hk => h k (by omega)) e, (h W (by omega)).1, (h W (by omega)).2]
theorem fit_cong (h : ∀ k, k < W → inn k = inn2 k ∧ ed k = ed2 k) : fitB inn ed W = fitB inn2 ed2 W := by
  unfold fitB
  rw [pm_cong (g := fun e => en inn2 ed2 true W e && en inn2 ed2 false W e) (fun e _ => by rw [en_cong h, en_cong h])]
theorem fit_and : (nI (pm (en inn ed true W) 3) &&& nI (pm (en inn ed false W) 3)) = 0 ↔ fitB inn ed W = true := by
  rw [nI_and, pm_and, nI_0iff (pm31 _ (by decide))]
  unfold fitB
  rw [decide_eq_true_iff]
end SA
def anyf (f : Nat → Bool) : Nat → Bool
  | 0 => false
  | n + 1 => anyf f n || f n
theorem anyf_succ (f : Nat → Bool) (n : Nat) : anyf f (n + 1) = (anyf f n || f n) := rfl
theorem anyf_yes {f : Nat → Bool} {i : Nat} (h : anyf f i = true) : ∀ d, anyf f (i + d) = true
  | 0 => h
  | d + 1 => by rw [← Nat.add_assoc, anyf_succ, anyf_yes h d, Bool.true_or]
theorem anyf_no {f : Nat → Bool} : ∀ {n : Nat}, (∀ k, k < n → f k = false) → anyf f n = false
  | 0, _ => rfl
  | n + 1, h => by rw [anyf_succ, anyf_no (fun k hk => h k (by omega)), h n (by omega)]; rfl
theorem anyf_in {f : Nat → Bool} {n k : Nat} (hk : k < n) (h : f k = true) : anyf f n = true := by
  have : anyf f (k + 1) = true := by rw [anyf_succ, h, Bool.or_true]
  have h2 := anyf_yes this (n - (k + 1))
  rw [show k + 1 + (n - (k + 1)) = n by omega] at h2
  exact h2
def fitS (inn : Nat → Bool) (ln bt : Nat → Nat) (W s v : Nat) : Bool := fitB inn (fun k => rn (mvs s v) (ln k) (bt k) 0) W
def idx (s v : Nat) : Nat := if s = 1 then v else if s = 2 then 1 + v else if s = 3 then 17 + v else 746
/-- the next trial machine, move by move -/
def tn (s : Nat) : Nat → Nat → (Nat → Nat) → Nat × (Nat → Nat)
  | 0, _, f => (s + 1, f)
  | m + 1, j, f => if f j + 1 < s then (s, nup f j (f j + 1)) else tn s m (j + 1) (nup f j 0)
def tnC (s v : Nat) (t : Nat × (Nat → Nat)) : Bool := if v + 1 < s ^ (2 * s) then decide (t.1 = s) && decide (∀ j : Nat, j < 6 → t.2 j = (v + 1) / s ^ j % s) else decide (t.1 = s + 1) && decide (∀ j : Nat, j < 6 → t.2 j = 0)
def tnK (s v : Nat) : Bool := tnC s v (tn s (2 * s) 0 (fun j => v / s ^ j % s))
theorem tnK_1 : ∀ v, v < 1 → tnK 1 v = true := by decide +kernel
theorem tnK_2 : ∀ v, v < 16 → tnK 2 v = true := by decide +kernel
theorem tnK_3 : ∀ v, v < 729 → tnK 3 v = true := by decide +kernel
theorem tn_K {s v : Nat} (h1 : 1 ≤ s) (h3 : s ≤ 3) (hv : v < s ^ (2 * s)) : tnK s v = true := by
  match s, h1, h3 with
  | 1, _, _ => exact tnK_1 v hv
  | 2, _, _ => exact tnK_2 v hv
  | 3, _, _ => exact tnK_3 v hv
theorem tn_next {s v : Nat} (h1 : 1 ≤ s) (h3 : s ≤ 3) (hv : v < s ^ (2 * s)) (hn : v + 1 < s ^ (2 * s)) : (tn s (2 * s) 0 (fun j => v / s ^ j % s)).1 = s ∧ ∀ j, j < 6 → (tn s (2 * s) 0 (fun j => v / s ^ j % s)).2 j = (v + 1) / s ^ j % s := by
  have h := tn_K h1 h3 hv
  unfold tnK tnC at h
  rw [if_pos hn, Bool.and_eq_true, decide_eq_true_iff, decide_eq_true_iff] at h
  exact h
theorem tn_last {s v : Nat} (h1 : 1 ≤ s) (h3 : s ≤ 3) (hv : v < s ^ (2 * s)) (hn : ¬ v + 1 < s ^ (2 * s)) : (tn s (2 * s) 0 (fun j => v / s ^ j % s)).1 = s + 1 ∧ ∀ j, j < 6 → (tn s (2 * s) 0 (fun j => v / s ^ j % s)).2 j = 0 := by
  have h := tn_K h1 h3 hv
  unfold tnK tnC at h
  rw [if_neg hn, Bool.and_eq_true, decide_eq_true_iff, decide_eq_true_iff] at h
  exact h
theorem idx_lt {s v : Nat} (h1 : 1 ≤ s) (h3 : s ≤ 3) (hv : v < s ^ (2 * s)) : idx s v < 746 := by
  match s, h1, h3 with
  | 1, _, _ => have : v < 1 := hv; show v < 746; omega
  | 2, _, _ => have : v < 16 := hv; show 1 + v < 746; omega
  | 3, _, _ => have : v < 729 := hv; show 17 + v < 746; omega
theorem idx_next {s v : Nat} (h1 : 1 ≤ s) (h3 : s ≤ 3) : idx s (v + 1) = idx s v + 1 := by
  match s, h1, h3 with
  | 1, _, _ => rfl
  | 2, _, _ => rfl
  | 3, _, _ => rfl
theorem idx_last {s v : Nat} (h1 : 1 ≤ s) (h3 : s ≤ 3) (hv : v < s ^ (2 * s)) (hn : ¬ v + 1 < s ^ (2 * s)) : idx (s + 1) 0 = idx s v + 1 := by
  match s, h1, h3 with
  | 1, _, _ => have a : v < 1 := hv; have b : ¬ v + 1 < 1 := hn; show 1 + 0 = v + 1; omega
  | 2, _, _ => have a : v < 16 := hv; have b : ¬ v + 1 < 16 := hn; show 17 + 0 = 1 + v + 1; omega
  | 3, _, _ => have a : v < 729 := hv; have b : ¬ v + 1 < 729 := hn; show 746 = 17 + v + 1; omega
