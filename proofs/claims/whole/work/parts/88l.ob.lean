/-! orders: both sides -/
theorem q_tb {a k : Nat} (ha : a < 2 ^ 31) (hk : k < 32) : ((nI a >>> (nI k &&& 31)) &&& (1 : Int32)) = q_b (a.testBit k) := by
  rw [nI_b1 ha hk]
  have : a.testBit k = decide (a / 2 ^ k % 2 = 1) := Nat.testBit_eq_decide_div_mod_eq
  rcases Nat.mod_two_eq_zero_or_one (a / 2 ^ k) with e | e
  · rw [this, e]
    rfl
  · rw [this, e]
    rfl
def odA (Q x : Nat) : Bool := decide (nI Q &&& (((1 : Int32) <<< (nI x &&& 31)) ^^^ (-1 : Int32)) = nI (if Q.testBit x then Q - 2 ^ x else Q)) && (Q.testBit x || decide (nI Q ||| ((1 : Int32) <<< (nI x &&& 31)) = nI (Q + 2 ^ x)))
theorem odA_all : ∀ Q, Q < 32 → ∀ x, x < 5 → odA Q x = true := by decide +kernel
theorem od_minus {Q x : Nat} (hQ : Q < 32) (hx : x < 5) : nI Q &&& (((1 : Int32) <<< (nI x &&& 31)) ^^^ (-1 : Int32)) = nI (if Q.testBit x then Q - 2 ^ x else Q) := by
  have := odA_all Q hQ x hx
  unfold odA at this
  rw [Bool.and_eq_true, decide_eq_true_iff] at this
  exact this.1
theorem od_plus {Q x : Nat} (hQ : Q < 32) (hx : x < 5) (h : Q.testBit x = false) : nI Q ||| ((1 : Int32) <<< (nI x &&& 31)) = nI (Q + 2 ^ x) := by
  have := odA_all Q hQ x hx
  unfold odA at this
  rw [Bool.and_eq_true, h, Bool.false_or, decide_eq_true_iff, decide_eq_true_iff] at this
  exact this.2
theorem od_sub {f : Nat → Bool} {P : Nat} (hP : P < 32) : nI (pm f 5) &&& (nI P ^^^ (-1 : Int32)) = 0 ↔ ∀ j, j < 5 → f j = true → P.testBit j = true := by
  have e := nI_andn f (fun k => P.testBit k) (n := 5) (m := 5) (by decide)
  rw [pm_of (m := P) (n := 5) hP] at e
  rw [e, nI_0iff (pm31 _ (by decide)), pm_zero]
  constructor
  · intro h j hj ef
    have := h j hj
    rw [ef, decide_eq_true hj, Bool.true_and, Bool.true_and] at this
    cases c : P.testBit j
    · rw [c] at this; exact absurd this (by decide)
    · rfl
  · intro h j hj
    cases ef : f j
    · rfl
    · rw [h j hj ef, decide_eq_true hj]
      rfl
section OB
variable {S : CS} {M : MS} {T : Nat} {pre ah : Nat → Nat → Bool}
def okF (pre : Nat → Nat → Bool) (T x P : Nat) : Bool := okL pre x P T
def dgr (pre : Nat → Nat → Bool) (T : Nat) : Nat := dnk (okF pre T) T T (2 ^ T - 1)
def fstQ (S : CS) (T : Nat) (pre : Nat → Nat → Bool) : Prop := S.1 8 2 = nI T ∧ ∀ x, x < T → S.1 20 x = nI (pm (fun j => pre j x) 5)
def bgn (pre : Nat → Nat → Bool) (T Q : Nat) : Nat := dnk (okF pre T) T (pc Q) Q
theorem x_place (hT : T < 6) (hp : ∀ j x, pre j x = true → j < T) (h : fstQ S T pre) {Q : Nat} (hQ : Q < 2 ^ T) (h0 : Q ≠ 0) (hb : ∀ P, P < Q → S.1 21 P = nI (bgn pre T P)) : f_X4_waysToPlace S (nI Q) = some (nI (bgn pre T Q)) := by
  have h32 : 2 ^ T ≤ 2 ^ 5 := Nat.pow_le_pow_right (by decide) (by omega)
  have hQ5 : Q < 32 := by omega
  obtain ⟨k, hk⟩ : ∃ k, pc Q = k + 1 := ⟨pc Q - 1, by have := pc_pos hQ5 h0; omega⟩
  have hbq : bgn pre T Q = fb_sm (fun x => if Q.testBit x && okF pre T x (Q - 2 ^ x) then dnk (okF pre T) T k (Q - 2 ^ x) else 0) T := by
    unfold bgn
    rw [hk, dnk_succ]
  rw [hbq]
  refine pu_for0 (W := fun m x => f_X4_waysToPlace_4 S m (nI Q) (nI (fb_sm (fun x => if Q.testBit x && okF pre T x (Q - 2 ^ x) then dnk (okF pre T) T k (Q - 2 ^ x) else 0) x)) (nI x) = some (nI (fb_sm (fun x => if Q.testBit x && okF pre T x (Q - 2 ^ x) then dnk (okF pre T) T k (Q - 2 ^ x) else 0) T))) (e := T) (n := 1000) (by omega) (fun m => ?_) (fun m x hx ih => ?_)
  · show f_X4_waysToPlace_4b _ _ _ _ _ = _
    unfold f_X4_waysToPlace_4b
    rw [h.1, if_pos (nI_le (Nat.le_refl T) (by omega))]
  · show f_X4_waysToPlace_4b _ _ _ _ _ = _
    unfold f_X4_waysToPlace_4b f_X4_waysToPlace_55
    rw [fb_sm_succ] at ih
    rw [h.1, if_neg (nI_ge hx (by omega)), od_minus hQ5 (by omega), q_at_nI (by omega) (by decide), h.2 x hx, nI_1]
    cases c : Q.testBit x
    · rw [c, Bool.false_and, if_neg (by decide), Nat.add_zero] at ih
      rw [if_neg Bool.false_ne_true, if_pos rfl]
      exact ih
    · obtain ⟨d1, d2⟩ := pc_dn hQ5 (by omega : x < 5) c
      have hpos := Nat.two_pow_pos x
      rw [c, Bool.true_and] at ih
      rw [if_pos rfl, if_neg (fun e => by have := (nI_eq (by omega) (by omega)).mp e; omega)]
      have hiff : okF pre T x (Q - 2 ^ x) = true ↔ nI (pm (fun j => pre j x) 5) &&& (nI (Q - 2 ^ x) ^^^ (-1 : Int32)) = 0 := by
        rw [od_sub (by omega)]
        unfold okF
        rw [okL_iff]
        exact ⟨fun hh j _ e => hh j (hp j x e) e, fun hh j hj e => hh j (by omega) e⟩
      by_cases o : okF pre T x (Q - 2 ^ x) = true
      · rw [o, if_pos rfl] at ih
        rw [if_pos (hiff.mp o), q_at_nI (by omega) (by decide), hb _ (by omega), nI_add]
        unfold bgn
        rw [show pc (Q - 2 ^ x) = k by omega]
        exact ih
      · rw [if_neg o, Nat.add_zero] at ih
        rw [if_neg (fun e => o (hiff.mpr e))]
        exact ih
theorem x_ord (hT : T < 6) (hp : ∀ j x, pre j x = true → j < T) (h : fstQ S T pre) : ∃ S' : CS, f_X4_allWays S = some (nI (dgr pre T), S') ∧ Fr [21] S S' := by
  have h32 : 2 ^ T ≤ 2 ^ 5 := Nat.pow_le_pow_right (by decide) (by omega)
  have hpos := Nat.two_pow_pos T
  show ∃ S' : CS, f_X4_allWays_11 1000 (nI 1) (cfun S 21 (q_pu 32 (S.1 21) (0 : Int32) (1 : Int32))) = some (nI (dgr pre T), S') ∧ Fr [21] S S'
  refine pu_forS (W := fun m Q (s : CS) => ∃ S' : CS, f_X4_allWays_11 m (nI Q) s = some (nI (dgr pre T), S') ∧ Fr [21] S S') (I := fun Q s => (Fr [21] S s ∧ ∀ P, P < Q → s.1 21 P = nI (bgn pre T P)) ∧ 1 ≤ Q) (2 ^ T) (fun m s hI => ?_) (fun m Q s hQ hI ih => ?_) (2 ^ T - 1) 1000 1 (cfun S 21 (q_pu 32 (S.1 21) (0 : Int32) (1 : Int32))) (by omega) (by omega) ⟨⟨Fr.cfun (by decide), fun P hP => ?_⟩, Nat.le_refl 1⟩
  · obtain ⟨hI, h1⟩ := hI
    refine ⟨s, ?_, hI.1⟩
    show f_X4_allWays_11b _ _ _ = _
    unfold f_X4_allWays_11b
    have e8 : s.1 8 2 = nI T := by rw [hI.1.1 8 (by decide)]; exact h.1
    rw [e8, nI_ones T (by omega), nI_one T (by omega), if_pos (nI_le (Nat.le_refl _) (by omega)), q_at_nI (by omega) (by decide), hI.2 _ (by omega)]
    unfold bgn dgr
    rw [pc_full hT]
  · obtain ⟨hI, h1⟩ := hI
    have h0 : Q ≠ 0 := by omega
    have hs : fstQ s T pre := ⟨by rw [hI.1.1 8 (by decide)]; exact h.1, fun x hx => by rw [hI.1.1 20 (by decide)]; exact h.2 x hx⟩
    have hw := x_place hT hp hs hQ h0 hI.2
    have go : f_X4_allWays_11 (m + 1) (nI Q) s = f_X4_allWays_11 m (nI (Q + 1)) (cfun s 21 (upd (s.1 21) Q (nI (bgn pre T Q)))) := by
      show f_X4_allWays_11b _ _ _ = _
      unfold f_X4_allWays_11b
      rw [hs.1, nI_one T (by omega), if_neg (nI_ge hQ (by omega)), hw]
      simp only [Option.bind_some]
      rw [nI_1, q_pu_nI (by omega) (by decide)]
    rw [go]
    refine ih _ ⟨⟨hI.1.trans (Fr.cfun (by decide)), fun P hP => ?_⟩, by omega⟩
    rw [cf_s]
    by_cases e : P = Q
    · subst e; rw [pk_us]
    · rw [pk_un e]; exact hI.2 P (by omega)
  · have : P = 0 := by omega
    subst this
    rw [cf_s, show (0 : Int32) = nI 0 from rfl, q_pu_nI (by decide) (by decide), pk_us]
    rfl
end OB
