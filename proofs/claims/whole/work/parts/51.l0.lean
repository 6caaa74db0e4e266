/-! the law's first state -/
def c0S : CS := (fun k i => if k = 1 then (if i = 2 then 45 else if i = 7 then 1 else 0) else if k = 2 then (if i = 2 then 4 else 0) else if k = 6 then (if i = 3 then 1 else 0) else if k = 8 then (if i = 2 then 3 else 0) else 0, -1)
def S0L : LSt := (m0, c0S, fun _ => 0, fun _ => 0)
/-- the law, as a plain function of the script -/
def f_L_law (L : Nat) (xs : Nat → Int32) : Option Bool := f_L_law_28 L xs 513 36 1707 0 S0L
def gS (h q5 q5_0 q27 q38 q49 q60 q71 q82 q5_3 q5_1 q5_2 q27_0 q27_1 q38_0 q38_1 q49_0 q60_0 q60_1 q60_2 q82_0 q82_1 : Nat) : Nat → Nat := fun i => match i with | 0 => h | 1 => q5 | 2 => q5_0 | 3 => q27 | 4 => q38 | 5 => q49 | 6 => q60 | 7 => q71 | 8 => q82 | 9 => q5_3 | 10 => q5_1 | 11 => q5_2 | 12 => q27_0 | 13 => q27_1 | 14 => q38_0 | 15 => q38_1 | 16 => q49_0 | 17 => q60_0 | 18 => q60_1 | 19 => q60_2 | 20 => q82_0 | 21 => q82_1 | _ => 0
theorem perm_pick {α : Type} (l : List α) : (List.range l.length).filterMap (fun i => l[i]?) = l := by
  refine List.ext_getElem? (fun i => ?_)
  have h : (List.range l.length).filterMap (fun i => l[i]?) = l := by
    induction l with
    | nil => rfl
    | cons a l ih =>
      rw [List.length_cons, List.range_succ_eq_map, List.filterMap_cons]
      show a :: List.filterMap (fun i => (a :: l)[i]?) (List.map Nat.succ (List.range l.length)) = _
      rw [List.filterMap_map]
      exact congrArg (List.cons a) ih
  rw [h]
theorem perm_by {α : Type} (l : List α) (n : Nat) (hn : l.length = n) (is : List Nat) (h : is.Perm (List.range n)) {l' : List α} (e : is.filterMap (fun i => l[i]?) = l') : l.Perm l' := by
  subst hn
  have h1 := h.filterMap (fun i => l[i]?)
  rw [perm_pick, e] at h1
  exact h1.symm
theorem cw_new {cc : Nat → ClassId} {h q5 q5_0 q27 q38 q49 q60 q71 q82 q5_3 q5_1 q5_2 q27_0 q27_1 q38_0 q38_1 q49_0 q60_0 q60_1 q60_2 q82_0 q82_1 : Nat} : ([(q82_1, .inl (cc 0, 32, .inl fun _ => 0)), (q82_0, .inl (cc 0, 5, .inl fun _ => 0)), (q82, .inr (7, [.ref q82_0, .ref q82_1, .int (3 : Int32)])), (q71, .inr (3, [.int 0, .int 0, .long (-1 : Int64)])), (q60_2, .inl (cc 0, 6, .inl fun _ => 0)), (q60_1, .inl (cc 0, 12, .inl fun _ => 0)), (q60_0, .inl (cc 0, 12, .inl fun _ => 0)), (q60, .inr (10, [.ref q60_0, .ref q60_1, .ref q60_2, .int (1 : Int32), .int 0, .int 0])), (q49_0, .inl (cc 0, 10, .inl fun _ => 0)), (q49, .inr (6, [.ref q49_0, .int 0, .int 0])), (q38_1, .inl (cc 0, 6, .inl fun _ => 0)), (q38_0, .inl (cc 0, 6, .inl fun _ => 0)), (q38, .inr (5, [.ref q38_0, .ref q38_1, .int 0, .int 0])), (q27_1, .inl (cc 0, 729, .inl fun _ => 0)), (q27_0, .inl (cc 0, 729, .inl fun _ => 0)), (q27, .inr (9, [.ref q27_0, .ref q27_1, .int 0])), (q5_3, .inl (cc 0, 24, .inl fun _ => 0)), (q5_2, .inl (cc 0, 6, .inl fun _ => 0)), (q5_1, .inl (cc 0, 24, .inl fun _ => 0)), (q5_0, .inr (4, [.ref q5_1, .ref q5_2, .int (4 : Int32), .int 0])), (q5, .inr (8, [.ref q5_0, .ref q5_3, .int (45 : Int32), .int 0, .int 0, .int 0, .int 0, .int (1 : Int32)])), (h, .inr (11, [.ref q5, .ref q5_0, .ref q27, .ref q38, .ref q49, .ref q60, .ref q71, .ref q82]))] : va_W).Perm (cw cc (gS h q5 q5_0 q27 q38 q49 q60 q71 q82 q5_3 q5_1 q5_2 q27_0 q27_1 q38_0 q38_1 q49_0 q60_0 q60_1 q60_2 q82_0 q82_1) c0S) :=
  perm_by _ 22 rfl [21, 20, 19, 15, 12, 9, 7, 3, 2, 16, 18, 17, 14, 13, 11, 10, 8, 6, 5, 4, 1, 0] (by decide) rfl
