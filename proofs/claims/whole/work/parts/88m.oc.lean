section OC
variable {M : MS} {T : Nat} {pre ah : Nat → Nat → Bool}
/-- the reference's grid, and what its caller adds to it -/
def grdQ (M : MS) (T : Nat) (ah : Nat → Nat → Bool) : Prop := M.1 15 = nI T ∧ ∀ j, j < 5 → ∀ x, x < 5 → M.2.2.2 j x = q_b (ah j x)
def extQ (T : Nat) (ah pre : Nat → Nat → Bool) (a2 a3 : Int32) : Prop := (a2 = -1 ∧ a3 = -1 ∧ pre = ah) ∨ ∃ one other, one < T ∧ other < T ∧ a2 = nI one ∧ a3 = nI other ∧ pre = fun j x => ah j x || (decide (j = one) && decide (x = other))
/-- what the caller asks of x at P -/
def exB (T : Nat) (a2 a3 : Int32) (x P : Nat) : Bool := if nI x = a3 then (if a2 = -1 then true else decide (((nI P >>> (a2 &&& 31)) &&& (1 : Int32)) = 1)) else true
theorem okF_ext (hT : T < 6) {a2 a3 : Int32} (h : extQ T ah pre a2 a3) {x P : Nat} (hx : x < T) (hP : P < 32) : okF pre T x P = (exB T a2 a3 x P && okL ah x P T) := by
  unfold okF
  rcases h with ⟨rfl, rfl, rfl⟩ | ⟨one, other, h1, h2, rfl, rfl, rfl⟩
  · unfold exB
    rw [if_neg (fun e => by have := nI_pos (n := x) (by omega); rw [e] at this; exact this (by decide)), Bool.true_and]
  · have hm1 : ¬ nI one = -1 := fun e => by have := nI_pos (n := one) (by omega); rw [e] at this; exact this (by decide)
    have hb : decide (((nI P >>> (nI one &&& 31)) &&& (1 : Int32)) = 1) = P.testBit one := by
      rw [q_tb (by omega) (by omega)]
      cases P.testBit one <;> decide
    apply Bool.eq_iff_iff.mpr
    rw [okL_iff, Bool.and_eq_true, okL_iff]
    unfold exB
    rw [if_neg hm1, hb]
    constructor
    · intro hh
      refine ⟨?_, fun j hj e => hh j hj (by show (ah j x || _) = true; rw [e]; rfl)⟩
      by_cases c : nI x = nI other
      · rw [if_pos c]
        have e := (nI_eq (by omega) (by omega)).mp c
        subst e
        exact hh one h1 (by show (ah one x || (decide (one = one) && decide (x = x))) = true; rw [decide_eq_true rfl, decide_eq_true rfl, Bool.and_self, Bool.or_true])
      · rw [if_neg c]
    · rintro ⟨h3, h4⟩ j hj e
      have e' : (ah j x || (decide (j = one) && decide (x = other))) = true := e
      rw [Bool.or_eq_true, Bool.and_eq_true, decide_eq_true_iff, decide_eq_true_iff] at e'
      rcases e' with d | ⟨rfl, rfl⟩
      · exact h4 j hj d
      · rw [if_pos rfl] at h3
        exact h3
theorem m_68 (hT : T < 6) (h : grdQ M T ah) {rc : Int32 → Int32 → Int32 → Option Int32} {k20 : Int32 → Int32 → Int32 → Int32 → Int32 → Option Int32} {P x : Nat} (hP : P < 32) (hx : x < T) {a2 a3 v4 : Int32} (b0 : Bool) : f_X9_orders_68 M rc k20 1000 (nI P) a2 a3 v4 (nI x) (q_b b0) 0 = if b0 && okL ah x P T then ((rc (nI P ||| ((1 : Int32) <<< (nI x &&& 31))) a2 a3).bind fun u6 => k20 (nI P) a2 a3 (v4 + u6) (nI (x + 1))) else k20 (nI P) a2 a3 (v4 + 0) (nI (x + 1)) := by
  have key := pu_for0 (W := fun m j => f_X9_orders_68 M rc k20 m (nI P) a2 a3 v4 (nI x) (q_b (b0 && okL ah x P j)) (nI j) = if b0 && okL ah x P T then ((rc (nI P ||| ((1 : Int32) <<< (nI x &&& 31))) a2 a3).bind fun u6 => k20 (nI P) a2 a3 (v4 + u6) (nI (x + 1))) else k20 (nI P) a2 a3 (v4 + 0) (nI (x + 1))) (e := T) (n := 1000) (by omega) (fun m => ?_) (fun m j hj ih => ?_)
  · rw [show okL ah x P 0 = true from rfl, Bool.and_true] at key
    exact key
  · show f_X9_orders_68b M rc k20 (f_X9_orders_68 M rc k20 m) (nI P) a2 a3 v4 (nI x) (q_b (b0 && okL ah x P T)) (nI T) = _
    unfold f_X9_orders_68b f_X9_orders_139
    rw [h.1, if_pos (nI_le (Nat.le_refl T) (by omega)), nI_1]
    cases b0 && okL ah x P T
    · rw [if_pos (by decide), if_neg (by decide)]
    · rw [if_neg (by decide), if_pos rfl]
  · have e0 : M.2.2.2 (nI j).toNatClampNeg (nI x).toNatClampNeg = q_b (ah j x) := by rw [nI_clamp (by omega), nI_clamp (by omega)]; exact h.2 j (by omega) x (by omega)
    have go : f_X9_orders_68 M rc k20 (m + 1) (nI P) a2 a3 v4 (nI x) (q_b (b0 && okL ah x P j)) (nI j) = f_X9_orders_68 M rc k20 m (nI P) a2 a3 v4 (nI x) (q_b (b0 && okL ah x P (j + 1))) (nI (j + 1)) := by
      show f_X9_orders_68b M rc k20 (f_X9_orders_68 M rc k20 m) (nI P) a2 a3 v4 (nI x) (q_b (b0 && okL ah x P j)) (nI j) = _
      unfold f_X9_orders_68b f_X9_orders_102 f_X9_orders_107
      rw [h.1, if_neg (nI_ge hj (by omega)), if_pos (q_in_nI (by omega) (by decide)), if_pos ⟨(q_in_nI (i := j) (n := 5) (by omega) (by decide)).2, q_in_nI (by omega) (by decide)⟩, e0, q_tb (by omega) (by omega), nI_1, qb_and1, qb_and0, okL_succ]
      cases ah j x
      · rw [if_pos (by decide), Bool.not_false, Bool.true_or, Bool.and_true]
      · rw [if_neg (by decide), Bool.not_true, Bool.false_or]
        cases P.testBit j
        · rw [if_neg (by decide), Bool.and_false, Bool.and_false]
        · rw [if_pos (by decide), Bool.and_true]
    rw [go]
    exact ih
theorem m_ord (hT : T < 6) (h : grdQ M T ah) {a2 a3 : Int32} (he : extQ T ah pre a2 a3) : ∀ f P, P < 2 ^ T → T + 1 ≤ f + pc P → f_X9_orders M f (nI P) a2 a3 = some (nI (upk (okF pre T) T (T - pc P) P))
  | 0, P, hP, hf => by
    by_cases c : P = 2 ^ T - 1
    · rw [c, pc_full hT] at hf; omega
    · have := pc_less hT hP c; omega
  | f + 1, P, hP, hf => by
    have h32 : 2 ^ T ≤ 2 ^ 5 := Nat.pow_le_pow_right (by decide) (by omega)
    have hpos := Nat.two_pow_pos T
    show f_X9_ordersb M (f_X9_orders M f) (nI P) a2 a3 = _
    unfold f_X9_ordersb
    rw [h.1, nI_ones T (by omega)]
    by_cases c : P = 2 ^ T - 1
    · rw [if_pos (by rw [c]), c, pc_full hT, Nat.sub_self]
      show _ = some (nI (if 2 ^ T - 1 = 2 ^ T - 1 then 1 else 0))
      rw [if_pos rfl]
      rfl
    · rw [if_neg (fun e => c ((nI_eq (by omega) (by omega)).mp e))]
      have hl := pc_less hT hP c
      obtain ⟨k, hk⟩ : ∃ k, T - pc P = k + 1 := ⟨T - pc P - 1, by omega⟩
      rw [hk, upk_succ]
      have key := pu_for0 (W := fun m x => f_X9_orders_20 M (f_X9_orders M f) m (nI P) a2 a3 (nI (fb_sm (fun x => if !P.testBit x && okF pre T x P then upk (okF pre T) T k (P + 2 ^ x) else 0) x)) (nI x) = some (nI (fb_sm (fun x => if !P.testBit x && okF pre T x P then upk (okF pre T) T k (P + 2 ^ x) else 0) T))) (e := T) (n := 1000) (by omega) (fun m => ?_) (fun m x hx ihx => ?_)
      · exact key
      · show f_X9_orders_20b M (f_X9_orders M f) (f_X9_orders_20 M (f_X9_orders M f) m) (nI P) a2 a3 (nI (fb_sm (fun x => if !P.testBit x && okF pre T x P then upk (okF pre T) T k (P + 2 ^ x) else 0) T)) (nI T) = _
        unfold f_X9_orders_20b
        rw [h.1, if_pos (nI_le (Nat.le_refl T) (by omega))]
      · rw [fb_sm_succ] at ihx
        generalize fb_sm (fun x => if !P.testBit x && okF pre T x P then upk (okF pre T) T k (P + 2 ^ x) else 0) x = acc at ihx ⊢
        have go : f_X9_orders_20 M (f_X9_orders M f) (m + 1) (nI P) a2 a3 (nI acc) (nI x) = f_X9_orders_68 M (f_X9_orders M f) (f_X9_orders_20 M (f_X9_orders M f) m) 1000 (nI P) a2 a3 (nI acc) (nI x) (q_b (!P.testBit x && exB T a2 a3 x P)) 0 := by
          show f_X9_orders_20b M (f_X9_orders M f) (f_X9_orders_20 M (f_X9_orders M f) m) (nI P) a2 a3 (nI acc) (nI x) = _
          unfold f_X9_orders_20b f_X9_orders_58 f_X9_orders_62 f_X9_orders_63
          rw [h.1, if_neg (nI_ge hx (by omega)), q_tb (by omega) (by omega)]
          unfold exB
          cases P.testBit x
          · rw [if_pos (by decide), Bool.not_false, Bool.true_and]
            by_cases c1 : nI x = a3
            · rw [if_pos c1, if_pos c1]
              by_cases c2 : a2 = -1
              · rw [if_pos c2, if_pos c2]
                rfl
              · rw [if_neg c2, if_neg c2]
                by_cases c3 : ((nI P >>> (a2 &&& 31)) &&& (1 : Int32)) = 1
                · rw [if_pos c3, decide_eq_true c3]
                  rfl
                · rw [if_neg c3, decide_eq_false c3]
                  rfl
            · rw [if_neg c1, if_neg c1]
              rfl
          · rw [if_neg (by decide), Bool.not_true, Bool.false_and]
            rfl
        rw [go, m_68 hT h (by omega) hx]
        rw [okF_ext hT he hx (by omega), ← Bool.and_assoc] at ihx
        cases cb : (!P.testBit x && exB T a2 a3 x P) && okL ah x P T
        · rw [cb, if_neg (by decide), Nat.add_zero] at ihx
          rw [if_neg (by decide), show nI acc + 0 = nI acc from nI_add acc 0]
          exact ihx
        · rw [cb, if_pos rfl] at ihx
          have ct : P.testBit x = false := by
            cases e : P.testBit x
            · rfl
            · rw [e, Bool.not_true, Bool.false_and, Bool.false_and] at cb
              exact absurd cb (by decide)
          have hi := m_ord hT h he f (P + 2 ^ x) (pc_in hT hP hx ct) (by rw [pc_up (by omega) (by omega) ct]; omega)
          rw [pc_up (by omega) (by omega) ct, show T - (pc P + 1) = k by omega] at hi
          rw [if_pos rfl, od_plus (by omega) (by omega) ct, hi]
          simp only [Option.bind_some]
          rw [nI_add]
          exact ihx
theorem m_oall (hT : T < 6) (h : grdQ M T ah) {a2 a3 : Int32} (he : extQ T ah pre a2 a3) : f_X9_orders M 10 0 a2 a3 = some (nI (dgr pre T)) := by
  have := m_ord hT h he 10 0 (Nat.two_pow_pos T) (by omega)
  rw [show pc 0 = 0 from rfl, Nat.sub_zero, ← ways_eq (okF pre T) hT] at this
  exact this
end OC
