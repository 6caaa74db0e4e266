theorem isCode_out {a : Int32} (h : a < 0 ∨ 333 < a) : f_X0_isCode a = false ∧ f_X9_isCode a = false := by
  constructor
  · unfold f_X0_isCode
    by_cases c : a < 0
    · rw [if_pos c]
    · rw [if_neg c, if_pos (h.resolve_left c)]
  · unfold f_X9_isCode
    rw [show (0 : Int64) = (0 : Int32).toInt64 from rfl, show (333 : Int64) = (333 : Int32).toInt64 from rfl, isB, if_pos (qb_0.mpr ?_)]
    rcases h with h | h
    · rw [decide_eq_false (i32_le.mpr h)]; rfl
    · rw [decide_eq_false (i32_le.mpr h), Bool.and_false]
theorem isCodeE (a : Int32) : (f_X0_isCode a = false ∧ f_X9_isCode a = false) ∨ ∃ x, x < 64 ∧ a = nI (cd x) ∧ f_X0_isCode a = true ∧ f_X9_isCode a = true := by
  by_cases h : a < 0 ∨ 333 < a
  · exact Or.inl (isCode_out h)
  · obtain ⟨k, -, hk, rfl⟩ := rng16 (lo := 0) (hi := 333) (m := 0) (n := 333) rfl rfl (by decide) (by decide) (fun e => h (Or.inl e)) (i32_lt.mp (fun e => h (Or.inr e)))
    obtain ⟨h1, h2⟩ := code_a k (by omega)
    have h3 := (code_0 k (by omega)).2
    cases hb : isK k
    · exact Or.inl ⟨by rw [h3, hb], by rw [h1, hb]⟩
    · obtain ⟨g1, g2⟩ := h2 hb
      exact Or.inr ⟨rk k, g1, by rw [g2], by rw [h3, hb], by rw [h1, hb]⟩
theorem sft {m k : Nat} (hm : m < 2 ^ 64) (hk : k < 64) : ((lN m >>> ((nI k).toInt64 &&& 63)) &&& (1 : Int64)) = 0 ↔ m.testBit k = false := by
  rw [wb_c k hk]
  have e : ((lN m >>> lN k) &&& (1 : Int64)).toBitVec = ((BitVec.ofNat 64 m).sshiftRight k) &&& 1#64 := by
    rw [Int64.toBitVec_and, Int64.toBitVec_shiftRight]
    show ((lN m).toBitVec.sshiftRight ((lN k).toBitVec.smod 64).toNat) &&& _ = _
    rw [wb_tb, wb_tb, wb_sm k hk, BitVec.toNat_ofNat, Nat.mod_eq_of_lt (by omega)]
    rfl
  have b0 : (((BitVec.ofNat 64 m).sshiftRight k) &&& 1#64).getLsbD 0 = m.testBit k := by
    rw [BitVec.getLsbD_and, BitVec.getLsbD_sshiftRight, Nat.add_zero, if_pos hk, BitVec.getLsbD_ofNat]
    simp [hk]
  constructor
  · intro h
    rw [← b0, ← e, h]
    rfl
  · intro h
    apply Int64.toBitVec_inj.mp
    rw [e]
    apply BitVec.eq_of_getLsbD_eq
    intro i hi
    by_cases e0 : i = 0
    · subst e0
      rw [b0, h]
      rfl
    · rw [BitVec.getLsbD_and, show (1#64).getLsbD i = false by rw [BitVec.getLsbD_one]; simp [e0], Bool.and_false]
      show false = (0#64).getLsbD i
      simp
