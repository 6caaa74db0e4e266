/-! one turn: what both sides hold together -/
def INV (S : CS) (M : MS) : Prop := RelC S M ∧ RelX S M ∧ RelS S M ∧ RelW S M ∧ RelK S M ∧ RelO S M
theorem RelX.fr {S S' : CS} {M M' : MS} (h : RelX S M) (e4 : S'.1 4 = S.1 4) (e14 : S'.1 14 = S.1 14) (e15 : S'.1 15 = S.1 15) (m10 : M'.1 10 = M.1 10) (n : M'.2.1 1 = M.2.1 1) (r : M'.2.2.1 1 = M.2.2.1 1) : RelX S' M' := by
  obtain ⟨E, w, h⟩ := h
  refine ⟨E, w, ?_⟩
  rw [e4, e14, e15, m10, n, r]
  exact h
theorem RelK.fr {S S' : CS} {M M' : MS} (h : RelK S M) (e7 : S'.1 7 = S.1 7) (e2 : S'.2 = S.2) (m14 : M'.1 14 = M.1 14) (n : M'.2.1 4 = M.2.1 4) (r : M'.2.2.1 4 = M.2.2.1 4) : RelK S' M' := by
  obtain ⟨x0, gs, hs, k, h⟩ := h
  refine ⟨x0, gs, hs, k, ?_⟩
  show RK _ _ _ _ _ _ _ _ _
  rw [e7, e2, m14, n, r]
  exact h
theorem INV.put {S S' : CS} {M M' : MS} {L K Ks : List Nat} (hI : INV S M) (f : ∀ j, j ∉ L → S'.1 j = S.1 j) (m1 : ∀ s, s < 20 → s ∉ K → M'.1 s = M.1 s) (m2 : ∀ j, j ∉ Ks → M'.2.1 j = M.2.1 j ∧ M'.2.2.1 j = M.2.2.1 j)
    (c : RelC S' M' ∨ ((∀ j ∈ [1, 2, 9, 10, 11], j ∉ L) ∧ (∀ s ∈ [2, 3, 4, 5, 6, 7, 8], s ∉ K) ∧ 0 ∉ Ks))
    (x : RelX S' M' ∨ ((∀ j ∈ [4, 14, 15], j ∉ L) ∧ 10 ∉ K ∧ 1 ∉ Ks))
    (s : RelS S' M' ∨ ((∀ j ∈ [5, 16], j ∉ L) ∧ 2 ∉ Ks))
    (w : RelW S' M' ∨ ((∀ j ∈ [6, 17, 18, 19], j ∉ L) ∧ 3 ∉ Ks))
    (k : RelK S' M' ∨ (7 ∉ L ∧ S'.2 = S.2 ∧ 14 ∉ K ∧ 4 ∉ Ks))
    (o : RelO S' M' ∨ (8 ∉ L ∧ 20 ∉ L ∧ 15 ∉ K ∧ M'.2.2.2 = M.2.2.2)) : INV S' M' := by
  obtain ⟨hC, hX, hS, hW, hK, hO⟩ := hI
  refine ⟨?_, ?_, ?_, ?_, ?_, ?_⟩
  · rcases c with c | ⟨a, b, d⟩
    · exact c
    · exact hC.of (f 1 (a 1 (by decide))) (f 2 (a 2 (by decide))) (f 9 (a 9 (by decide))) (f 10 (a 10 (by decide))) (f 11 (a 11 (by decide))) (fun s h1 h2 => m1 s (by omega) (b s (by
        match s, h1, h2 with
        | 2, _, _ => decide
        | 3, _, _ => decide
        | 4, _, _ => decide
        | 5, _, _ => decide
        | 6, _, _ => decide
        | 7, _, _ => decide
        | 8, _, _ => decide))) (m2 0 d).1 (m2 0 d).2
  · rcases x with x | ⟨a, b, d⟩
    · exact x
    · exact hX.fr (f 4 (a 4 (by decide))) (f 14 (a 14 (by decide))) (f 15 (a 15 (by decide))) (m1 10 (by decide) b) (m2 1 d).1 (m2 1 d).2
  · rcases s with s | ⟨a, d⟩
    · exact s
    · exact hS.fr (f 5 (a 5 (by decide))) (f 16 (a 16 (by decide))) (m2 2 d).1 (m2 2 d).2
  · rcases w with w | ⟨a, d⟩
    · exact w
    · exact hW.fr (f 6 (a 6 (by decide))) (f 17 (a 17 (by decide))) (f 18 (a 18 (by decide))) (f 19 (a 19 (by decide))) (m2 3 d).1 (m2 3 d).2
  · rcases k with k | ⟨a, b, c, d⟩
    · exact k
    · exact hK.fr (f 7 a) b (m1 14 (by decide) c) (m2 4 d).1 (m2 4 d).2
  · rcases o with o | ⟨a, b, c, d⟩
    · exact o
    · exact hO.fr (by rw [f 8 a]) (fun x _ => by rw [f 20 b]) (m1 15 (by decide) c) d
section TU
variable {S S' : CS} {M M' : MS} {L K Ks : List Nat}
theorem INV.C (hI : INV S M) (h : RelC S' M' ∧ Fr L S S' ∧ Mr K Ks M M') (a : (∀ j ∈ [4, 14, 15, 5, 16, 6, 17, 18, 19, 7, 8, 20], j ∉ L) ∧ (∀ s ∈ [10, 14, 15], s ∉ K) ∧ ∀ j ∈ [1, 2, 3, 4], j ∉ Ks) : INV S' M' ∧ M'.2.1 2 = M.2.1 2 := by
  obtain ⟨h, f, m⟩ := h
  obtain ⟨a, b, d⟩ := a
  exact ⟨INV.put hI f.1 m.1 m.2.1 (Or.inl h) (Or.inr ⟨fun j hj => a j (by revert hj; revert j; decide), b 10 (by decide), d 1 (by decide)⟩) (Or.inr ⟨fun j hj => a j (by revert hj; revert j; decide), d 2 (by decide)⟩) (Or.inr ⟨fun j hj => a j (by revert hj; revert j; decide), d 3 (by decide)⟩) (Or.inr ⟨a 7 (by decide), f.2, b 14 (by decide), d 4 (by decide)⟩) (Or.inr ⟨a 8 (by decide), a 20 (by decide), b 15 (by decide), m.2.2⟩), (m.2.1 2 (d 2 (by decide))).1⟩
theorem INV.X (hI : INV S M) (h : RelX S' M' ∧ Fr [4, 14, 15] S S' ∧ Mr [0, 10] [1] M M') : INV S' M' ∧ M'.2.1 2 = M.2.1 2 := by
  obtain ⟨h, f, m⟩ := h
  exact ⟨INV.put hI f.1 m.1 m.2.1 (Or.inr (by decide)) (Or.inl h) (Or.inr (by decide)) (Or.inr (by decide)) (Or.inr ⟨by decide, f.2, by decide⟩) (Or.inr ⟨by decide, by decide, by decide, m.2.2⟩), (m.2.1 2 (by decide)).1⟩
theorem INV.same (hI : INV S M) (h : S' = S ∧ Mr [0] [] M M') : INV S' M' ∧ M'.2.1 2 = M.2.1 2 := by
  obtain ⟨rfl, m⟩ := h
  exact ⟨INV.put (L := []) hI (fun _ _ => rfl) m.1 m.2.1 (Or.inr (by decide)) (Or.inr (by decide)) (Or.inr (by decide)) (Or.inr (by decide)) (Or.inr ⟨by decide, rfl, by decide⟩) (Or.inr ⟨by decide, by decide, by decide, m.2.2⟩), (m.2.1 2 (by decide)).1⟩
theorem INV.m0 (hI : INV S M) : INV S (mset M 0 0) ∧ (mset M 0 0).2.1 2 = M.2.1 2 := INV.same hI ⟨rfl, Mr.mset (by decide)⟩
theorem INV.D (hI : INV S M) (f : Fr [3, 12, 13, 21] S S') : INV S' (mset M 0 0) ∧ (mset M 0 0).2.1 2 = M.2.1 2 := by
  have m : Mr [0] [] M (mset M 0 0) := Mr.mset (by decide)
  exact ⟨INV.put hI f.1 m.1 m.2.1 (Or.inr (by decide)) (Or.inr (by decide)) (Or.inr (by decide)) (Or.inr (by decide)) (Or.inr ⟨by decide, f.2, by decide⟩) (Or.inr ⟨by decide, by decide, by decide, m.2.2⟩), rfl⟩
theorem INV.St (hI : INV S M) (h : RelS S' M') (f : Fr [5, 16] S S') (m : Mr [0] [2] M M') : INV S' M' :=
  INV.put hI f.1 m.1 m.2.1 (Or.inr (by decide)) (Or.inr (by decide)) (Or.inl h) (Or.inr (by decide)) (Or.inr ⟨by decide, f.2, by decide⟩) (Or.inr ⟨by decide, by decide, by decide, m.2.2⟩)
theorem INV.W (hI : INV S M) (h : RelW S' M' ∧ Fr L S S' ∧ Mr [0] Ks M M') (a : (∀ j ∈ [1, 2, 9, 10, 11, 4, 14, 15, 5, 16, 7, 8, 20], j ∉ L) ∧ ∀ j ∈ [0, 1, 2, 4], j ∉ Ks) : INV S' M' ∧ M'.2.1 2 = M.2.1 2 := by
  obtain ⟨h, f, m⟩ := h
  obtain ⟨a, d⟩ := a
  exact ⟨INV.put hI f.1 m.1 m.2.1 (Or.inr ⟨fun j hj => a j (by revert hj; revert j; decide), by decide, d 0 (by decide)⟩) (Or.inr ⟨fun j hj => a j (by revert hj; revert j; decide), by decide, d 1 (by decide)⟩) (Or.inr ⟨fun j hj => a j (by revert hj; revert j; decide), d 2 (by decide)⟩) (Or.inl h) (Or.inr ⟨a 7 (by decide), f.2, by decide, d 4 (by decide)⟩) (Or.inr ⟨a 8 (by decide), a 20 (by decide), by decide, m.2.2⟩), (m.2.1 2 (d 2 (by decide))).1⟩
theorem INV.Kd (hI : INV S M) (h : RelK S' M' ∧ Fq [7] S S' ∧ Mr K [4] M M') (b : ∀ s ∈ [2, 3, 4, 5, 6, 7, 8, 10, 15], s ∉ K) : INV S' M' ∧ M'.2.1 2 = M.2.1 2 := by
  obtain ⟨h, f, m⟩ := h
  exact ⟨INV.put hI f m.1 m.2.1 (Or.inr ⟨by decide, fun s hs => b s (by revert hs; revert s; decide), by decide⟩) (Or.inr ⟨by decide, b 10 (by decide), by decide⟩) (Or.inr (by decide)) (Or.inr (by decide)) (Or.inl h) (Or.inr ⟨by decide, by decide, b 15 (by decide), m.2.2⟩), (m.2.1 2 (by decide)).1⟩
theorem INV.O (hI : INV S M) (h : RelO S' M' ∧ Fr L S S' ∧ Mg K M M') (a : (∀ j ∈ [1, 2, 9, 10, 11, 4, 14, 15, 5, 16, 6, 17, 18, 19, 7], j ∉ L) ∧ ∀ s ∈ [2, 3, 4, 5, 6, 7, 8, 10, 14], s ∉ K) : INV S' M' ∧ M'.2.1 2 = M.2.1 2 := by
  obtain ⟨h, f, m⟩ := h
  obtain ⟨a, b⟩ := a
  exact ⟨INV.put (Ks := []) hI f.1 (fun s _ hs => m.1 s hs) (fun j _ => ⟨by rw [m.2.1], by rw [m.2.2]⟩) (Or.inr ⟨fun j hj => a j (by revert hj; revert j; decide), fun s hs => b s (by revert hs; revert s; decide), by decide⟩) (Or.inr ⟨fun j hj => a j (by revert hj; revert j; decide), b 10 (by decide), by decide⟩) (Or.inr ⟨fun j hj => a j (by revert hj; revert j; decide), by decide⟩) (Or.inr ⟨fun j hj => a j (by revert hj; revert j; decide), by decide⟩) (Or.inr ⟨a 7 (by decide), f.2, b 14 (by decide), by decide⟩) (Or.inl h), by rw [m.2.1]⟩
end TU
/-! the law's calls, one by one -/
theorem turn_I {F : Option (Int32 × (Nat → Int64) × CS)} {fo : Nat → Int64} {G : Option (Int32 × MS)} {P : CS → MS → Prop} (h : TI F fo G P) (d : Nat → UInt64) (K : LSt → Option Bool) : ∃ (S' : CS) (M' : MS) (fo' : Nat → Int64), P S' M' ∧ (F.bind fun u => (G.bind fun v => ((f_X9_thrown v.2).bind fun z => (if z = u.1 then (if u.1 = 0 then (if (lg_cmp (u.2.1 0) v.1.toInt64) = 0 then K (v.2, u.2.2, u.2.1, d) else some false) else K (v.2, u.2.2, u.2.1, d)) else some false)))) = K (M', S', fo', d) := by
  obtain ⟨code, w, S', r, M', hF, hG, h0, hw, hP⟩ := h
  refine ⟨S', M', outL fo code w, hP, ?_⟩
  rw [hF, hG]
  show ((f_X9_thrown M').bind fun z => (if z = code then (if code = 0 then (if (lg_cmp (outL fo code w 0) r.toInt64) = 0 then K (M', S', outL fo code w, d) else some false) else K (M', S', outL fo code w, d)) else some false)) = _
  rw [thr, h0]
  show (if code = code then (if code = 0 then (if (lg_cmp (outL fo code w 0) r.toInt64) = 0 then K (M', S', outL fo code w, d) else some false) else K (M', S', outL fo code w, d)) else some false) = _
  rw [if_pos rfl]
  by_cases c : code = 0
  · rw [if_pos c]
    subst c
    rw [outL_0, hw rfl, if_pos (lg0.mpr rfl)]
  · rw [if_neg c]
theorem turn_B {F : Option (Int32 × (Nat → Int64) × CS)} {fo : Nat → Int64} {G : Option (Bool × MS)} {P : CS → MS → Prop} (h : TB F fo G P) (d : Nat → UInt64) (K : LSt → Option Bool) : ∃ (S' : CS) (M' : MS) (fo' : Nat → Int64), P S' M' ∧ (F.bind fun u => (G.bind fun v => ((f_X9_thrown v.2).bind fun z => (if z = u.1 then (if u.1 = 0 then (if (q_b v.1) = 0 then (if (lg_cmp (u.2.1 0) 0) = 0 then K (v.2, u.2.2, u.2.1, d) else some false) else (if (lg_cmp (u.2.1 0) 1) = 0 then K (v.2, u.2.2, u.2.1, d) else some false)) else K (v.2, u.2.2, u.2.1, d)) else some false)))) = K (M', S', fo', d) := by
  obtain ⟨code, w, S', r, M', hF, hG, h0, hw, hP⟩ := h
  refine ⟨S', M', outL fo code w, hP, ?_⟩
  rw [hF, hG]
  show ((f_X9_thrown M').bind fun z => (if z = code then (if code = 0 then (if (q_b r) = 0 then (if (lg_cmp (outL fo code w 0) 0) = 0 then K (M', S', outL fo code w, d) else some false) else (if (lg_cmp (outL fo code w 0) 1) = 0 then K (M', S', outL fo code w, d) else some false)) else K (M', S', outL fo code w, d)) else some false)) = _
  rw [thr, h0]
  show (if code = code then (if code = 0 then (if (q_b r) = 0 then (if (lg_cmp (outL fo code w 0) 0) = 0 then K (M', S', outL fo code w, d) else some false) else (if (lg_cmp (outL fo code w 0) 1) = 0 then K (M', S', outL fo code w, d) else some false)) else K (M', S', outL fo code w, d)) else some false) = _
  rw [if_pos rfl]
  by_cases c : code = 0
  · rw [if_pos c]
    subst c
    rw [outL_0, hw rfl]
    cases r
    · rw [if_pos (by decide), if_neg Bool.false_ne_true, if_pos (lg0.mpr rfl)]
    · rw [if_neg (by decide), if_pos rfl, if_pos (lg0.mpr rfl)]
  · rw [if_neg c]
def okT (k28 : Nat → Nat → Int32 → LSt → Option Bool) (kc ks : Nat) (v5 : Int32) (S : LSt) (r : Option Bool) : Prop := ∃ (kc' ks' : Nat) (S' : LSt), r = k28 kc' ks' (v5 + 4) S' ∧ INV S'.2.1 S'.1 ∧ S.1.2.1 2 ≤ S'.1.2.1 2 ∧ kc' + 1591 * S'.1.2.1 2 ≤ kc + 1591 * S.1.2.1 2 + 1601 + (if S'.1.2.1 2 = 5 then 20 else 0) ∧ ks' ≤ ks + 10400
theorem okT.mk {k28 : Nat → Nat → Int32 → LSt → Option Bool} {kc ks c s : Nat} {v5 : Int32} {S S' : LSt} {r : Option Bool} (e : r = k28 (kc + c) (ks + s) (v5 + 4) S') (h : INV S'.2.1 S'.1 ∧ S'.1.2.1 2 = S.1.2.1 2) (hc : c ≤ 1601) (hs : s ≤ 10400) : okT k28 kc ks v5 S r :=
  ⟨_, _, S', e, h.1, by omega, by rw [h.2]; omega, by omega⟩
def qs3 (L : Nat) (v5 : Int32) : Prop := q_in (v5 + (1 : Int32)) L ∧ q_in (v5 + (2 : Int32)) L ∧ q_in (v5 + (3 : Int32)) L
