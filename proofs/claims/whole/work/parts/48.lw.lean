/-! the law's state: the reference, the class, the two out rows -/
abbrev LSt : Type := MS × CS × (Nat → Int64) × (Nat → UInt64)
def lo4 (cc : Nat → ClassId) (xo : Nat) (f : Nat → Int64) : Nat × va_E := (xo, .inl (cc 4, 1, .inr (.inl f)))
def ld5 (cc : Nat → ClassId) (xd : Nat) (f : Nat → UInt64) : Nat × va_E := (xd, .inl (cc 5, 1, .inr (.inr (.inr (.inl f)))))
def LG (cc : Nat → ClassId) (g : Nat → Nat) (xo xd : Nat) (S : LSt) : va_W := cw cc g S.2.1 ++ [lo4 cc xo S.2.2.1, ld5 cc xd S.2.2.2]
def LW (cc : Nat → ClassId) (g ga : Nat → Nat) (xo xd : Nat) (ad : Nat → Nat → Nat) (S : LSt) (E ws : va_W) : Prop := mW cc ga ad S.1 (LG cc g xo xd S ++ E) ws
section QLW
variable {p : Program} {l : Launch} {e : Env} {R : Room} {s : State} {m : MethodId} {args : Array Value} {below : List Frame} {meth : Method} {c : Code} {D : va_G} {cc : Nat → ClassId} {N0 nL : Nat} {Q : State → Prop} {kc ks : Nat} {ws : va_W} {pc : Nat} {lv : List (Nat × Value)} {st : List Value} {code : ByteArray} {ret : Option FieldType} {Ts : List Cond} {own : String} {g ga : Nat → Nat} {ad : Nat → Nat → Nat} {xo xd : Nat} {S : LSt} {E : va_W}
theorem LW.cls (h : LW cc g ga xo xd ad S E ws) : ∃ T, ws.Perm (cw cc g S.2.1 ++ (lo4 cc xo S.2.2.1 :: ld5 cc xd S.2.2.2 :: T)) ∧ ∀ S' : LSt, S'.1 = S.1 → LW cc g ga xo xd ad S' E (cw cc g S'.2.1 ++ (lo4 cc xo S'.2.2.1 :: ld5 cc xd S'.2.2.2 :: T)) := by
  obtain ⟨T, hp, -, hb⟩ := mW.temps h
  have ea : ∀ S : LSt, LG cc g xo xd S ++ T = cw cc g S.2.1 ++ (lo4 cc xo S.2.2.1 :: ld5 cc xd S.2.2.2 :: T) := fun S => List.append_assoc _ _ _
  refine ⟨T, ea S ▸ hp, fun S' e => ?_⟩
  have h1 := hb (LG cc g xo xd S')
  rw [ea S', ← e] at h1
  exact h1
theorem LW.ren (h : LW cc g ga xo xd ad S E ws) (K : ∀ ws', LW cc g ga xo xd ad S E ws' → q_WA p l e R s m args below meth c D N0 nL Q kc ks ws' pc lv st) : q_WA p l e R s m args below meth c D N0 nL Q kc ks ws pc lv st := K ws h
end QLW
