section PCD
variable {S : CS} {M : MS} {x0 n : Nat} {gs : Nat → Nat} {hs : Nat → Int32}
theorem T_secret (h : RelK S M) (a : Int32) (fo : Nat → Int64) : TI (f_L_secret S a fo) fo (f_X9_secret a M) (fun S' M' => RelK S' M' ∧ Fq [7] S S' ∧ Mr [0, 14] [4] M M') := by
  have hR := h
  obtain ⟨x0, gs, hs, n, hK⟩ := h
  rcases isCodeE a with ⟨h1, h2⟩ | ⟨x, hx, rfl, h1, h2⟩
  · refine TI.ex (code := 1) (r := 0) (S := S) (M := M) (by decide) ?_ ?_ ⟨hR.m0 1, fun _ _ => rfl, Mr.mset (by decide)⟩
    · unfold f_L_secret f_X8_secret
      rw [h1, if_pos (by decide)]
      rfl
    · unfold f_X9_secret f_X9_secret_13
      rw [h2, if_pos (by decide), isWr]
      rfl
  · obtain ⟨b1, b2, b3, b4, b5⟩ := code_b x hx
    refine TI.ok (r := nI n) (S := f_X0_startAnew (nI (cd x)) S) (M := mset (mclr (mset M 0 0) 4) 14 (nI (cd x))) ?_ ?_ ?_ ⟨⟨x, fun _ => 0, fun _ => 0, 0, hx, by decide, ?_, ?_, ms_s, ?_, fun k hk => absurd hk (Nat.not_lt_zero k), ?_⟩, ?_, ?_⟩
    · unfold f_L_secret f_X8_secret
      rw [h1, if_neg (by decide), hK.2.2.2.1]
      rfl
    · unfold f_X9_secret f_X9_secret_13
      rw [h2, if_neg (by decide), isWr]
      simp only [Option.bind_some]
      rw [if_pos (by decide), show (mset M 0 0).2.1 4 = n from hK.2.2.2.2.2.1]
    · rw [ms_n (by decide), mc_k (by decide), ms_s]
    · show (cset (cset S 7 0 (f_X0_packed (nI (cd x)))) 7 1 0).1 7 0 = _
      rw [cs_k (by decide), cs_s, b4]
    · show (cset (cset S 7 0 (f_X0_packed (nI (cd x)))) 7 1 0).1 7 1 = _
      rw [cs_s]
      rfl
    · exact mc_n
    · show (-1 : Int64) = _
      rw [lN_m1]
      exact congrArg lN (pm_cong (fun _ _ => rfl))
    · intro j hj
      show (cset (cset S 7 0 _) 7 1 0).1 j = _
      rw [cs_n (fun e => hj (by simp [e])), cs_n (fun e => hj (by simp [e]))]
    · exact (Mr.mset (by decide)).trans ((Mr.mclr (by decide)).trans (Mr.mset (by decide)))
end PCD
