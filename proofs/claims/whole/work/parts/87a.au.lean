/-! machines: words, states told apart, states reached; nothing of the program -/
theorem ct_strict {f g : Nat → Bool} {n i : Nat} (h : ∀ k, k < n → f k = true → g k = true) (hi : i < n) (h1 : f i = false) (h2 : g i = true) : fb_ct f n < fb_ct g n := by
  have a := fb_ct_upd f true hi
  rw [h1, if_neg (by decide), if_pos rfl, Nat.add_zero] at a
  have b : fb_ct (fun k => if k = i then true else f k) n ≤ fb_ct g n := fb_ct_sub (fun k hk e => by
    by_cases c : k = i
    · subst c; exact h2
    · rw [if_neg c] at e; exact h k hk e)
  omega
/-- the state after the word of l letters m, from q -/
def rn (mv : Nat → Nat → Nat) : Nat → Nat → Nat → Nat
  | 0, _, q => q
  | l + 1, m, q => rn mv l (m / 2) (mv q (m % 2))
theorem rn_succ (mv : Nat → Nat → Nat) (l m q : Nat) : rn mv (l + 1) m q = rn mv l (m / 2) (mv q (m % 2)) := rfl
def clo (mv : Nat → Nat → Nat) (n : Nat) : Prop := ∀ q, q < n → ∀ c, c < 2 → mv q c < n
theorem rn_lt {mv : Nat → Nat → Nat} {n : Nat} (h : clo mv n) : ∀ l m q, q < n → rn mv l m q < n
  | 0, _, _, hq => hq
  | l + 1, m, q, hq => rn_lt h l (m / 2) _ (h q hq _ (Nat.mod_lt _ (by decide)))
/-- no word shorter than k tells p and q apart -/
def eqk (ac : Nat → Bool) (mv : Nat → Nat → Nat) : Nat → Nat → Nat → Bool
  | 0, _, _ => true
  | k + 1, p, q => decide (ac p = ac q) && (eqk ac mv k (mv p 0) (mv q 0) && eqk ac mv k (mv p 1) (mv q 1))
theorem eqk_succ {ac : Nat → Bool} {mv : Nat → Nat → Nat} {k p q : Nat} : eqk ac mv (k + 1) p q = true ↔ ac p = ac q ∧ ∀ c, c < 2 → eqk ac mv k (mv p c) (mv q c) = true := by
  show (decide (ac p = ac q) && (eqk ac mv k (mv p 0) (mv q 0) && eqk ac mv k (mv p 1) (mv q 1))) = true ↔ _
  rw [Bool.and_eq_true, Bool.and_eq_true, decide_eq_true_iff]
  constructor
  · rintro ⟨h, h0, h1⟩
    refine ⟨h, fun c hc => ?_⟩
    match c, hc with
    | 0, _ => exact h0
    | 1, _ => exact h1
  · rintro ⟨h, h1⟩
    exact ⟨h, h1 0 (by decide), h1 1 (by decide)⟩
theorem eqk_iff {ac : Nat → Bool} {mv : Nat → Nat → Nat} : ∀ k p q, eqk ac mv k p q = true ↔ ∀ l, l < k → ∀ m, m < 2 ^ l → ac (rn mv l m p) = ac (rn mv l m q)
  | 0, p, q => ⟨fun _ l hl => absurd hl (Nat.not_lt_zero l), fun _ => rfl⟩
  | k + 1, p, q => by
    rw [eqk_succ]
    constructor
    · rintro ⟨h, h1⟩ l hl m hm
      match l, hl with
      | 0, _ => exact h
      | l + 1, hl =>
        rw [rn_succ, rn_succ]
        exact (eqk_iff k _ _).mp (h1 (m % 2) (Nat.mod_lt _ (by decide))) l (by omega) (m / 2) (by rw [Nat.pow_succ] at hm; omega)
    · intro h
      refine ⟨h 0 (by omega) 0 (by decide), fun c hc => (eqk_iff k _ _).mpr (fun l hl m hm => ?_)⟩
      have := h (l + 1) (by omega) (2 * m + c) (by rw [Nat.pow_succ]; omega)
      rw [rn_succ, rn_succ, show (2 * m + c) / 2 = m by omega, show (2 * m + c) % 2 = c by omega] at this
      exact this
section AU
variable {ac : Nat → Bool} {mv : Nat → Nat → Nat} {n : Nat}
theorem eqk_mono {k k2 p q : Nat} (h : k ≤ k2) (e : eqk ac mv k2 p q = true) : eqk ac mv k p q = true :=
  (eqk_iff k p q).mpr (fun l hl m hm => (eqk_iff k2 p q).mp e l (by omega) m hm)
theorem eqk_refl (k p : Nat) : eqk ac mv k p p = true := (eqk_iff k p p).mpr (fun _ _ _ _ => rfl)
theorem eqk_symm {k p q : Nat} (e : eqk ac mv k p q = true) : eqk ac mv k q p = true :=
  (eqk_iff k q p).mpr (fun l hl m hm => ((eqk_iff k p q).mp e l hl m hm).symm)
theorem eqk_comm (k p q : Nat) : eqk ac mv k p q = eqk ac mv k q p := by
  cases h : eqk ac mv k p q
  · cases h2 : eqk ac mv k q p
    · rfl
    · rw [eqk_symm h2] at h; exact absurd h (by decide)
  · exact (eqk_symm h).symm
theorem eqk_trans {k p q r : Nat} (e : eqk ac mv k p q = true) (e2 : eqk ac mv k q r = true) : eqk ac mv k p r = true :=
  (eqk_iff k p r).mpr (fun l hl m hm => ((eqk_iff k p q).mp e l hl m hm).trans ((eqk_iff k q r).mp e2 l hl m hm))
def sta (ac : Nat → Bool) (mv : Nat → Nat → Nat) (n k : Nat) : Prop := ∀ p, p < n → ∀ q, q < n → eqk ac mv k p q = true → eqk ac mv (k + 1) p q = true
theorem sta_all (hc : clo mv n) {k : Nat} (h : sta ac mv n k) : ∀ j p, p < n → ∀ q, q < n → eqk ac mv k p q = true → eqk ac mv (k + j) p q = true
  | 0, _, _, _, _, e => e
  | j + 1, p, hp, q, hq, e => by
    obtain ⟨e1, e2⟩ := eqk_succ.mp (h p hp q hq e)
    exact eqk_succ.mpr ⟨e1, fun c hc2 => sta_all hc h j _ (hc p hp c hc2) _ (hc q hq c hc2) (e2 c hc2)⟩
/-- the first of its kind -/
def fst1 (ac : Nat → Bool) (mv : Nat → Nat → Nat) (k q : Nat) : Bool := decide (∀ p, p < q → eqk ac mv k p q = false)
theorem rep (k p : Nat) : ∃ p1, p1 ≤ p ∧ eqk ac mv k p1 p = true ∧ fst1 ac mv k p1 = true := by
  obtain ⟨p1, h1, h2, h3⟩ := fb_first (p := fun i => eqk ac mv k i p = true) (n := p + 1) ⟨p, Nat.lt_succ_self p, eqk_refl k p⟩
  refine ⟨p1, by omega, h2, decide_eq_true (fun j hj => ?_)⟩
  cases e : eqk ac mv k j p1
  · rfl
  · exact absurd (eqk_trans e h2) (h3 j hj)
theorem kinds_step {k : Nat} (h : ¬ sta ac mv n k) : fb_ct (fst1 ac mv k) n < fb_ct (fst1 ac mv (k + 1)) n := by
  have hsub : ∀ q, q < n → fst1 ac mv k q = true → fst1 ac mv (k + 1) q = true := fun q _ e => decide_eq_true (fun p hp => by
    cases e2 : eqk ac mv (k + 1) p q
    · rfl
    · have := of_decide_eq_true e p hp
      rw [eqk_mono (Nat.le_succ k) e2] at this
      exact absurd this (by decide))
  have : ∃ p q, p < n ∧ q < n ∧ eqk ac mv k p q = true ∧ ¬ eqk ac mv (k + 1) p q = true := by
    refine Classical.byContradiction (fun hn => h (fun p hp q hq e => Classical.byContradiction (fun e2 => hn ⟨p, q, hp, hq, e, e2⟩)))
  obtain ⟨p, q, hp, hq, e, e2⟩ := this
  obtain ⟨p1, a1, a2, a3⟩ := rep (ac := ac) (mv := mv) (k + 1) p
  obtain ⟨q1, b1, b2, b3⟩ := rep (ac := ac) (mv := mv) (k + 1) q
  have he : eqk ac mv k p1 q1 = true := eqk_trans (eqk_trans (eqk_mono (Nat.le_succ k) a2) e) (eqk_symm (eqk_mono (Nat.le_succ k) b2))
  have hne : p1 ≠ q1 := fun c => e2 (by subst c; exact eqk_trans (eqk_symm a2) b2)
  cases c1 : fst1 ac mv k p1
  · exact ct_strict hsub (Nat.lt_of_le_of_lt a1 hp) c1 a3
  · cases c2 : fst1 ac mv k q1
    · exact ct_strict hsub (Nat.lt_of_le_of_lt b1 hq) c2 b3
    · exfalso
      rcases Nat.lt_or_gt_of_ne hne with c | c
      · have := of_decide_eq_true c2 p1 c
        rw [he] at this; exact absurd this (by decide)
      · have := of_decide_eq_true c1 q1 c
        rw [eqk_symm he] at this; exact absurd this (by decide)
theorem kinds_all (hn : 0 < n) : ∀ k, (∃ j, j < k ∧ sta ac mv n j) ∨ k + 1 ≤ fb_ct (fst1 ac mv k) n
  | 0 => Or.inr (fb_ct_pos.mpr ⟨0, hn, decide_eq_true (fun p hp => absurd hp (Nat.not_lt_zero p))⟩)
  | k + 1 => by
    rcases kinds_all hn k with ⟨j, h1, h2⟩ | h
    · exact Or.inl ⟨j, by omega, h2⟩
    · by_cases hs : sta ac mv n k
      · exact Or.inl ⟨k, by omega, hs⟩
      · have := kinds_step hs
        exact Or.inr (by omega)
/-- words shorter than the states are many will do -/
theorem moore (hc : clo mv n) {p q : Nat} (hp : p < n) (hq : q < n) (e : eqk ac mv n p q = true) (K : Nat) : eqk ac mv K p q = true := by
  rcases kinds_all (ac := ac) (mv := mv) (n := n) (by omega) n with ⟨j, h1, h2⟩ | h
  · exact eqk_mono (by omega : K ≤ j + K) (sta_all hc h2 K p hp q hq (eqk_mono (by omega) e))
  · have := fb_ct_le (fst1 ac mv n) n
    omega
theorem moore_eq (hc : clo mv n) {p q : Nat} (hp : p < n) (hq : q < n) {K : Nat} (hK : n ≤ K) : eqk ac mv K p q = eqk ac mv n p q := by
  cases h : eqk ac mv n p q
  · cases h2 : eqk ac mv K p q
    · rfl
    · rw [eqk_mono hK h2] at h; exact absurd h (by decide)
  · exact moore hc hp hq h K
theorem eqk_one {l l2 p q : Nat} (h1 : eqk ac mv l p q = true) (h2 : eqk ac mv (l + 1) p q = false) (h3 : eqk ac mv l2 p q = true) (h4 : eqk ac mv (l2 + 1) p q = false) : l = l2 := by
  rcases Nat.lt_trichotomy l l2 with c | c | c
  · rw [eqk_mono (by omega : l + 1 ≤ l2) h3] at h2; exact absurd h2 (by decide)
  · exact c
  · rw [eqk_mono (by omega : l2 + 1 ≤ l) h1] at h4; exact absurd h4 (by decide)
/-! the states reached -/
def cls (mv : Nat → Nat → Nat) (n : Nat) (g : Nat → Bool) : Prop := ∀ q, q < n → g q = true → ∀ c, c < 2 → g (mv q c) = true
def rea (mv : Nat → Nat → Nat) (n : Nat) (g : Nat → Bool) : Prop := g 0 = true ∧ cls mv n g ∧ ∀ U : Nat → Bool, U 0 = true → cls mv n U → ∀ k, k < n → g k = true → U k = true
theorem rea_one {g g2 : Nat → Bool} (h : rea mv n g) (h2 : rea mv n g2) : ∀ k, k < n → g k = g2 k := by
  intro k hk
  cases e : g k
  · cases e2 : g2 k
    · rfl
    · rw [h2.2.2 g h.1 h.2.1 k hk e2] at e; exact absurd e (by decide)
  · exact (h.2.2 g2 h2.1 h2.2.1 k hk e).symm
/-- the first of its kind among those of T -/
def fk (T : Nat → Bool) (E : Nat → Nat → Bool) (q : Nat) : Nat → Bool
  | 0 => true
  | i + 1 => fk T E q i && !(T i && E i q)
theorem fk_succ (T : Nat → Bool) (E : Nat → Nat → Bool) (q i : Nat) : fk T E q (i + 1) = (fk T E q i && !(T i && E i q)) := rfl
theorem fk_no {T : Nat → Bool} {E : Nat → Nat → Bool} {q i : Nat} (h : fk T E q i = false) : ∀ d, fk T E q (i + d) = false
  | 0 => h
  | d + 1 => by rw [← Nat.add_assoc, fk_succ, fk_no h d, Bool.false_and]
theorem fk_cong {T T2 : Nat → Bool} {E E2 : Nat → Nat → Bool} {q : Nat} : ∀ {i : Nat}, (∀ k, k < i → T k = T2 k ∧ E k q = E2 k q) → fk T E q i = fk T2 E2 q i
  | 0, _ => rfl
  | i + 1, h => by rw [fk_succ, fk_succ, fk_cong (fun k hk => h k (by omega)), (h i (by omega)).1, (h i (by omega)).2]
end AU
