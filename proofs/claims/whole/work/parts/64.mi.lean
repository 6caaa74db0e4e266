/-! small things of both sides; frames -/
theorem lg0 {x y : Int64} : lg_cmp x y = 0 ↔ x = y := by
  unfold lg_cmp
  by_cases h : x > y
  · rw [if_pos h]
    refine ⟨fun e => absurd e (by decide), fun e => ?_⟩
    subst e
    exact absurd h Int64.lt_irrefl
  · rw [if_neg h]
    by_cases e : x = y
    · rw [if_pos e]; exact ⟨fun _ => e, fun _ => rfl⟩
    · rw [if_neg e]; exact ⟨fun h => absurd h (by decide), fun h => absurd h e⟩
theorem lgp {x y : Int64} : 0 < lg_cmp x y ↔ y < x := by
  unfold lg_cmp
  by_cases h : x > y
  · rw [if_pos h]; exact ⟨fun _ => h, fun _ => by decide⟩
  · rw [if_neg h]
    by_cases e : x = y
    · rw [if_pos e]; exact ⟨fun h => absurd h (by decide), fun h2 => absurd h2 h⟩
    · rw [if_neg e]; exact ⟨fun h => absurd h (by decide), fun h2 => absurd h2 h⟩
theorem isB {x lo hi : Int32} : f_X9_isBetween x.toInt64 lo.toInt64 hi.toInt64 = (decide (lo ≤ x) && decide (x ≤ hi)) := by
  unfold f_X9_isBetween
  by_cases h1 : lo ≤ x
  · rw [if_neg (fun e => by have e2 := (fa_wide_lt _ _).mp (lgp.mp e); exact absurd e2 (Int32.not_lt.mpr h1)), decide_eq_true h1]
    by_cases h2 : x ≤ hi
    · rw [if_neg (fun e => by have e2 := (fa_wide_lt _ _).mp (lgp.mp e); exact absurd e2 (Int32.not_lt.mpr h2)), decide_eq_true h2]; rfl
    · rw [if_pos (lgp.mpr ((fa_wide_lt _ _).mpr (Int32.not_le.mp h2))), decide_eq_false h2]; rfl
  · rw [if_pos (lgp.mpr ((fa_wide_lt _ _).mpr (Int32.not_le.mp h1))), decide_eq_false h1]; rfl
theorem isWr (v : Int32) (M : MS) : f_X9_isWrong v M = some (!decide (v ≤ 0), mset M 0 v) := by
  unfold f_X9_isWrong
  by_cases h : v ≤ 0
  · rw [if_pos h, decide_eq_true h]; rfl
  · rw [if_neg h, decide_eq_false h]; rfl
theorem thr (M : MS) : f_X9_thrown M = some (M.1 0) := rfl
theorem ms_s {M : MS} {s : Nat} {v : Int32} : (mset M s v).1 s = v := nup_s
theorem ms_n {M : MS} {s j : Nat} {v : Int32} (h : j ≠ s) : (mset M s v).1 j = M.1 j := nup_n h
/-- what the class keeps but for the places L -/
def Fr (L : List Nat) (S S' : CS) : Prop := (∀ j, j ∉ L → S'.1 j = S.1 j) ∧ S'.2 = S.2
theorem Fr.refl {L : List Nat} (S : CS) : Fr L S S := ⟨fun _ _ => rfl, rfl⟩
theorem Fr.trans {L : List Nat} {S S' S'' : CS} (h : Fr L S S') (h2 : Fr L S' S'') : Fr L S S'' := ⟨fun j hj => (h2.1 j hj).trans (h.1 j hj), h2.2.trans h.2⟩
theorem Fr.mono {L L' : List Nat} {S S' : CS} (h : Fr L S S') (hs : ∀ j, j ∈ L → j ∈ L') : Fr L' S S' := ⟨fun j hj => h.1 j (fun e => hj (hs j e)), h.2⟩
theorem cs_s {S : CS} {k i : Nat} {v : Int32} : (cset S k i v).1 k i = v := by
  show (if k = k then upd (S.1 k) i v else S.1 k) i = v
  rw [if_pos rfl]
  exact pk_us
theorem cs_k {S : CS} {k i j : Nat} {v : Int32} (h : j ≠ i) : (cset S k i v).1 k j = S.1 k j := by
  show (if k = k then upd (S.1 k) i v else S.1 k) j = _
  rw [if_pos rfl]
  exact pk_un h
theorem cs_n {S : CS} {k i j : Nat} {v : Int32} (h : j ≠ k) : (cset S k i v).1 j = S.1 j := if_neg h
theorem cf_s {S : CS} {k : Nat} {f : Nat → Int32} : (cfun S k f).1 k = f := if_pos rfl
theorem cf_n {S : CS} {k j : Nat} {f : Nat → Int32} (h : j ≠ k) : (cfun S k f).1 j = S.1 j := if_neg h
theorem Fr.cset {L : List Nat} {S : CS} {k i : Nat} {v : Int32} (hk : k ∈ L) : Fr L S (cset S k i v) := ⟨fun j hj => cs_n (fun e => hj (e ▸ hk)), rfl⟩
theorem Fr.cfun {L : List Nat} {S : CS} {k : Nat} {f : Nat → Int32} (hk : k ∈ L) : Fr L S (cfun S k f) := ⟨fun j hj => cf_n (fun e => hj (e ▸ hk)), rfl⟩
/-- what the reference keeps: its numbers but those of L, its lists but those of K -/
def Mr (L K : List Nat) (M M' : MS) : Prop := (∀ s, s < 20 → s ∉ L → M'.1 s = M.1 s) ∧ (∀ j, j ∉ K → M'.2.1 j = M.2.1 j ∧ M'.2.2.1 j = M.2.2.1 j) ∧ M'.2.2.2 = M.2.2.2
theorem Mr.refl {L K : List Nat} (M : MS) : Mr L K M M := ⟨fun _ _ _ => rfl, fun _ _ => ⟨rfl, rfl⟩, rfl⟩
theorem Mr.trans {L K : List Nat} {M M' M'' : MS} (h : Mr L K M M') (h2 : Mr L K M' M'') : Mr L K M M'' := ⟨fun s a b => (h2.1 s a b).trans (h.1 s a b), fun j hj => ⟨(h2.2.1 j hj).1.trans (h.2.1 j hj).1, (h2.2.1 j hj).2.trans (h.2.1 j hj).2⟩, h2.2.2.trans h.2.2⟩
theorem Mr.mset {L K : List Nat} {M : MS} {s : Nat} {v : Int32} (hs : s ∈ L) : Mr L K M (mset M s v) := ⟨fun j _ hj => nup_n (fun e => hj (e ▸ hs)), fun _ _ => ⟨rfl, rfl⟩, rfl⟩
theorem Mr.mrow {L K : List Nat} {M : MS} {i k j : Nat} {v : Int32} (hi : i ∈ K) : Mr L K M (mrow M i k j v) := ⟨fun _ _ _ => rfl, fun q hq => ⟨rfl, nup_n (fun e => hq (e ▸ hi))⟩, rfl⟩
theorem Mr.mlist {L K : List Nat} {M : MS} {i n : Nat} {RR : Nat → Nat → Int32} {mo : Int32} (hi : i ∈ K) : Mr L K M (mlist M i n RR mo) := ⟨fun s hs _ => nup_n (by omega), fun q hq => ⟨nup_n (fun e => hq (e ▸ hi)), nup_n (fun e => hq (e ▸ hi))⟩, rfl⟩
theorem Mr.madd {L K : List Nat} {M : MS} {i : Nat} {f : Nat → Int32} (hi : i ∈ K) : Mr L K M (madd M i f) := Mr.mlist hi
theorem Mr.mclr {L K : List Nat} {M : MS} {i : Nat} (hi : i ∈ K) : Mr L K M (mclr M i) := Mr.mlist hi
theorem ru_s {R : Nat → Nat → Int32} {k : Nat} {f : Nat → Int32} : rupd R k f k = f := if_pos rfl
theorem ru_n {R : Nat → Nat → Int32} {k j : Nat} {f : Nat → Int32} (h : j ≠ k) : rupd R k f j = R j := if_neg h
theorem ma_n {M : MS} {i : Nat} {f : Nat → Int32} : (madd M i f).2.1 i = M.2.1 i + 1 := nup_s
theorem ma_r {M : MS} {i : Nat} {f : Nat → Int32} : (madd M i f).2.2.1 i = rupd (M.2.2.1 i) (M.2.1 i) f := nup_s
theorem mc_n {M : MS} {i : Nat} : (mclr M i).2.1 i = 0 := nup_s
theorem mw_r {M : MS} {i k j : Nat} {v : Int32} : (mrow M i k j v).2.2.1 i = rupd (M.2.2.1 i) k (upd (M.2.2.1 i k) j v) := nup_s
theorem mw_rs {M : MS} {i k j : Nat} {v : Int32} : (mrow M i k j v).2.2.1 i k = upd (M.2.2.1 i k) j v := by rw [mw_r, ru_s]
theorem mw_rn {M : MS} {i k q j : Nat} {v : Int32} (h : q ≠ k) : (mrow M i k j v).2.2.1 i q = M.2.2.1 i q := by rw [mw_r, ru_n h]
/-- a number between, as a Nat -/
theorem btw {x : Int32} {n : Nat} (hn : n < 2 ^ 31) (h : ¬ x < 0) (h2 : ¬ nI n ≤ x) : ∃ k, k < n ∧ x = nI k := by
  obtain ⟨j, hj, e⟩ := nI_of h
  refine ⟨j, ?_, e⟩
  subst e
  exact Nat.lt_of_not_le (fun e => h2 (nI_le e hj))
theorem i32_lt {a b : Int32} : ¬ a < b ↔ b ≤ a := Int32.not_lt
theorem i32_le {a b : Int32} : ¬ a ≤ b ↔ b < a := Int32.not_le
/-- what a helper of the law hands out -/
def outL (fo : Nat → Int64) (code : Int32) (w : Int64) : Nat → Int64 := if code = 0 then vp_updL fo 0 w else fo
theorem outL_0 {fo : Nat → Int64} {w : Int64} : outL fo 0 w 0 = w := by
  unfold outL
  rw [if_pos rfl]
  exact pk_uLs
theorem outL_n {fo : Nat → Int64} {code : Int32} {w : Int64} (h : ¬ code = 0) : outL fo code w = fo := if_neg h
/-- the class's helper F and the reference's method G say the same, and P holds behind them -/
def TI (F : Option (Int32 × (Nat → Int64) × CS)) (fo : Nat → Int64) (G : Option (Int32 × MS)) (P : CS → MS → Prop) : Prop := ∃ (code : Int32) (w : Int64) (S' : CS) (r : Int32) (M' : MS), F = some (code, outL fo code w, S') ∧ G = some (r, M') ∧ M'.1 0 = code ∧ (code = 0 → w = r.toInt64) ∧ P S' M'
def TB (F : Option (Int32 × (Nat → Int64) × CS)) (fo : Nat → Int64) (G : Option (Bool × MS)) (P : CS → MS → Prop) : Prop := ∃ (code : Int32) (w : Int64) (S' : CS) (r : Bool) (M' : MS), F = some (code, outL fo code w, S') ∧ G = some (r, M') ∧ M'.1 0 = code ∧ (code = 0 → w = if r then 1 else 0) ∧ P S' M'
theorem TI.ex {F : Option (Int32 × (Nat → Int64) × CS)} {fo : Nat → Int64} {G : Option (Int32 × MS)} {P : CS → MS → Prop} {code r : Int32} {S : CS} {M : MS} (hc : ¬ code = 0) (h1 : F = some (code, fo, S)) (h2 : G = some (r, mset M 0 code)) (hP : P S (mset M 0 code)) : TI F fo G P :=
  ⟨code, 0, S, r, _, by rw [outL_n hc]; exact h1, h2, ms_s, fun e => absurd e hc, hP⟩
theorem TB.ex {F : Option (Int32 × (Nat → Int64) × CS)} {fo : Nat → Int64} {G : Option (Bool × MS)} {P : CS → MS → Prop} {code : Int32} {r : Bool} {S : CS} {M : MS} (hc : ¬ code = 0) (h1 : F = some (code, fo, S)) (h2 : G = some (r, mset M 0 code)) (hP : P S (mset M 0 code)) : TB F fo G P :=
  ⟨code, 0, S, r, _, by rw [outL_n hc]; exact h1, h2, ms_s, fun e => absurd e hc, hP⟩
theorem TI.ok {F : Option (Int32 × (Nat → Int64) × CS)} {fo : Nat → Int64} {G : Option (Int32 × MS)} {P : CS → MS → Prop} {r : Int32} {S : CS} {M : MS} (h1 : F = some (0, vp_updL fo 0 r.toInt64, S)) (h2 : G = some (r, M)) (h0 : M.1 0 = 0) (hP : P S M) : TI F fo G P :=
  ⟨0, r.toInt64, S, r, M, h1, h2, h0, fun _ => rfl, hP⟩
theorem TB.ok {F : Option (Int32 × (Nat → Int64) × CS)} {fo : Nat → Int64} {G : Option (Bool × MS)} {P : CS → MS → Prop} {r : Bool} {S : CS} {M : MS} (h1 : F = some (0, vp_updL fo 0 (if r then 1 else 0), S)) (h2 : G = some (r, M)) (h0 : M.1 0 = 0) (hP : P S M) : TB F fo G P :=
  ⟨0, _, S, r, M, h1, h2, h0, fun _ => rfl, hP⟩
theorem qbz (b : Bool) : (if q_b b = 0 then (0 : Int64) else 1) = if b then 1 else 0 := by cases b <;> rfl
