section PCD
variable {S : CS} {M : MS} {x0 n : Nat} {gs : Nat → Nat} {hs : Nat → Int32}
theorem T_guess (h : RelK S M) (a : Int32) (fo : Nat → Int64) : TI (f_L_guess S a fo) fo (f_X9_guess a M) (fun S' M' => RelK S' M' ∧ Fq [7] S S' ∧ Mr [0] [4] M M') := by
  have hR := h
  obtain ⟨x0, gs, hs, n, hK⟩ := h
  obtain ⟨d1, d2, d3, d4, d5, d6, d7, d8⟩ := id hK
  rcases isCodeE a with ⟨h1, h2⟩ | ⟨y, hy, rfl, h1, h2⟩
  · refine TI.ex (code := 1) (r := 0) (S := S) (M := M) (by decide) ?_ ?_ ⟨hR.m0 1, fun _ _ => rfl, Mr.mset (by decide)⟩
    · unfold f_L_guess f_X8_guess
      rw [h1, if_pos (by decide)]
      rfl
    · unfold f_X9_guess f_X9_guess_31
      rw [h2, if_pos (by decide), isWr]
      rfl
  · by_cases c2 : n = 20
    · refine TI.ex (code := 2) (r := 0) (S := S) (M := M) (by decide) ?_ ?_ ⟨hR.m0 2, fun _ _ => rfl, Mr.mset (by decide)⟩
      · unfold f_L_guess f_X8_guess
        rw [h1, if_neg (by decide), d4, if_neg (show ¬ nI n < (20 : Int32) from nI_nlt (b := 20) (by omega) (by omega))]
        rfl
      · unfold f_X9_guess f_X9_guess_31
        rw [h2, if_neg (by decide), d6, if_pos (show nI n = (20 : Int32) by rw [c2]; rfl), isWr]
        rfl
    · obtain ⟨S', k1, k2, k3, k4, k5⟩ := x_give hK hy
      have hm : (mset M 0 0).1 14 = nI (cd x0) := (ms_n (by decide)).trans d5
      obtain ⟨M', hM⟩ : ∃ M', M' = madd (mset M 0 0) 4 (upd (upd (fun _ => 0) 0 (nI (cd y))) 1 (hvF x0 y)) := ⟨_, rfl⟩
      have mM : Mr [0] [4] M M' := by rw [hM]; exact (Mr.mset (by decide)).trans (Mr.madd (by decide))
      have m14 : M'.1 14 = nI (cd x0) := (mM.1 14 (by decide) (by decide)).trans d5
      have mn : M'.2.1 4 = n + 1 := by rw [hM, ma_n]; exact congrArg (· + 1) d6
      have mr : M'.2.2.1 4 = rupd (M.2.2.1 4) n (upd (upd (fun _ => 0) 0 (nI (cd y))) 1 (hvF x0 y)) := by rw [hM, ma_r, show (mset M 0 0).2.1 4 = n from d6]; rfl
      refine TI.ok (r := hvF x0 y) (S := S') (M := M') ?_ ?_ ?_ ⟨⟨x0, nup gs n y, nup hs n (hvF x0 y), n + 1, d1, by omega, by rw [k3]; exact d3, by rw [k4, d4, nI_1], m14, mn, fun k hk => ?_, ?_⟩, k2, mM⟩
      · unfold f_L_guess f_X8_guess
        rw [h1, if_neg (by decide), d4, if_pos (show nI n < (20 : Int32) from nI_lt (b := 20) (by omega) (by decide)), k1]
        rfl
      · unfold f_X9_guess f_X9_guess_31
        rw [h2, if_neg (by decide), d6, if_neg (show ¬ nI n = (20 : Int32) from fun e => c2 ((nI_eq (b := 20) (by omega) (by decide)).mp e)), isWr]
        simp only [Option.bind_some]
        rw [if_pos (by decide), hm, (hintE d1 hy).2]
        simp only [Option.bind_some]
        rw [show (mset M 0 0).2.1 4 = n from d6, if_pos (by omega), ← hM, m14, (hintE d1 hy).2]
        rfl
      · have := (Mr.madd (L := []) (K := [4]) (M := mset M 0 0) (i := 4) (f := upd (upd (fun _ => 0) 0 (nI (cd y))) 1 (hvF x0 y)) (by decide)).1 0 (by decide) (by decide)
        rw [hM, this, ms_s]
      · rw [mr]
        by_cases e : k = n
        · subst e
          rw [ru_s, nup_s, nup_s, pk_us, pk_un (by decide), pk_us]
          exact ⟨hy, rfl, rfl, rfl⟩
        · rw [ru_n e, nup_n e, nup_n e]
          exact d7 k (by omega)
      · rw [k5]
        refine congrArg lN (pm_cong (fun k _ => ?_))
        rw [lf_succ, nup_s, nup_s, lf_cong (gs := nup gs n y) (gs' := gs) (hs := nup hs n (hvF x0 y)) (hs' := hs) (fun k hk => ⟨nup_n (by omega), nup_n (by omega)⟩)]
end PCD
