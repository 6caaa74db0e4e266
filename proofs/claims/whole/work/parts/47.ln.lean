/-! a reference made anew -/
def m0 : MS := (fun s => if s = 2 then 4 else if s = 6 then 1 else if s = 7 then 45 else if s = 15 then 3 else 0, fun _ => 0, fun _ _ _ => 0, fun _ _ => 0)
def gaN (h q5 q32 q43 q54 q65 q83 : Nat) (rg : Nat → Nat) : Nat → Nat := fun i => match i with | 0 => h | 1 => q5 | 2 => q32 | 3 => q43 | 4 => q54 | 5 => q65 | 6 => q83 | n + 7 => rg n
theorem perm_mk {α : Type} (o g r0 r1 r2 r3 r4 a b c d e : α) (E : List α) : ([g, r0, r1, r2, r3, r4, e, d, c, b, a, o] ++ E).Perm ([o, g, r0, r1, r2, r3, r4] ++ ([a] ++ ([b] ++ ([c] ++ ([d] ++ ([e] ++ E)))))) := by
  have h1 : ([g, r0, r1, r2, r3, r4] ++ ([e, d, c, b, a] ++ ([o] ++ E))).Perm ([o] ++ ([g, r0, r1, r2, r3, r4] ++ ([a, b, c, d, e] ++ E))) := by
    have h2 : ([e, d, c, b, a] ++ ([o] ++ E)).Perm ([o] ++ ([a, b, c, d, e] ++ E)) :=
      (List.Perm.append_right _ (List.reverse_perm [a, b, c, d, e])).trans (List.perm_append_comm_assoc _ _ _)
    exact (List.Perm.append_left _ h2).trans (List.perm_append_comm_assoc _ _ _)
  exact h1
theorem mW_new {cc : Nat → ClassId} {h q5 q32 q43 q54 q65 q83 : Nat} {rg : Nat → Nat} {E : va_W} {ad : Nat → Nat → Nat} : mW cc (gaN h q5 q32 q43 q54 q65 q83 rg) ad m0 E ([(q83, .inl (cc 3, 5, .inr (.inr (.inr (.inr fun i => if i < 5 then some (rg i) else none))))), (rg 0, .inl (cc 1, 5, .inl fun _ => 0)), (rg 1, .inl (cc 1, 5, .inl fun _ => 0)), (rg 2, .inl (cc 1, 5, .inl fun _ => 0)), (rg 3, .inl (cc 1, 5, .inl fun _ => 0)), (rg 4, .inl (cc 1, 5, .inl fun _ => 0)), (q65, .inr (2, [.int 0, .ref (cc 8), .int 0])), (q54, .inr (2, [.int 0, .ref (cc 8), .int 0])), (q43, .inr (2, [.int 0, .ref (cc 8), .int 0])), (q32, .inr (2, [.int 0, .ref (cc 8), .int 0])), (q5, .inr (2, [.int 0, .ref (cc 8), .int 0])), (h, .inr (12, [.int 0, .ref q5, .int (4 : Int32), .int 0, .int 0, .int 0, .int (1 : Int32), .int (45 : Int32), .int 0, .ref q32, .int 0, .ref q43, .ref q54, .ref q65, .int 0, .int (3 : Int32), .ref q83]))] ++ E) := by
  refine ⟨fun _ => ((0 : Int32), cc 8, 0, fun _ => none), fun i hi => ⟨?_, ⟨fun _ => rfl, Nat.le_refl _, Or.inl rfl, (show 0 ≤ 100 by decide), fun k hk => absurd hk (by show ¬ k < 0; omega)⟩⟩, ?_⟩
  · show (0 : Int32) = if 20 + i = 2 then 4 else if 20 + i = 6 then 1 else if 20 + i = 7 then 45 else if 20 + i = 15 then 3 else 0
    rw [if_neg (by omega), if_neg (by omega), if_neg (by omega), if_neg (by omega)]
  · refine (perm_mk _ _ _ _ _ _ _ _ _ _ _ _ E).trans (List.Perm.of_eq ?_)
    have e0 : ∀ (a : Nat) (f : Nat → Nat) (w : Nat) (R : Nat → Nat → Int32), lp cc a f w 0 R ((0 : Int32), cc 8, 0, fun _ => none) = [(a, .inr (2, [.int 0, .ref (cc 8), .int 0]))] := fun a f w R => rfl
    have e1 : mB cc (gaN h q5 q32 q43 q54 q65 q83 rg) m0 = [(h, .inr (12, [.int 0, .ref q5, .int (4 : Int32), .int 0, .int 0, .int 0, .int (1 : Int32), .int (45 : Int32), .int 0, .ref q32, .int 0, .ref q43, .ref q54, .ref q65, .int 0, .int (3 : Int32), .ref q83])), (q83, .inl (cc 3, 5, .inr (.inr (.inr (.inr fun i => if i < 5 then some (rg i) else none))))), (rg 0, .inl (cc 1, 5, .inl fun _ => 0)), (rg 1, .inl (cc 1, 5, .inl fun _ => 0)), (rg 2, .inl (cc 1, 5, .inl fun _ => 0)), (rg 3, .inl (cc 1, 5, .inl fun _ => 0)), (rg 4, .inl (cc 1, 5, .inl fun _ => 0))] := by
      unfold mB gaN m0
      have e : ∀ i : Nat, (fun n => rg n) i = rg i := fun _ => rfl
      simp only [Nat.add_comm 7]
      rfl
    have e2 : mA cc (gaN h q5 q32 q43 q54 q65 q83 rg) ad m0 (fun _ => ((0 : Int32), cc 8, 0, fun _ => none)) E = mB cc (gaN h q5 q32 q43 q54 q65 q83 rg) m0 ++ ([(q5, .inr (2, [.int 0, .ref (cc 8), .int 0]))] ++ ([(q32, .inr (2, [.int 0, .ref (cc 8), .int 0]))] ++ ([(q43, .inr (2, [.int 0, .ref (cc 8), .int 0]))] ++ ([(q54, .inr (2, [.int 0, .ref (cc 8), .int 0]))] ++ ([(q65, .inr (2, [.int 0, .ref (cc 8), .int 0]))] ++ E))))) := rfl
    rw [e2, e1]
