/-! groups by code: digit 0 nothing, 1 holding, 2 lacking -/
def dig (x q : Nat) : Nat := x / 3 ^ q % 3
def gr (c : Nat → Nat) (x : Nat) : Nat → Nat → Bool
  | 0, _ => true
  | i + 1, k => gr c x i k && (if dig x i = 0 then true else if dig x i = 1 then has c i k else !has c i k)
theorem dig_f1 : ∀ x, x < 729 → ∀ q, q < 6 → dig x q = 0 → dig (x + 3 ^ q) q = 1 ∧ dig (x + 2 * 3 ^ q) q = 2 := by decide +kernel
def dchk (x q j : Nat) : Bool := decide (dig x q ≠ 0 ∨ j = q ∨ (dig (x + 3 ^ q) j = dig x j ∧ dig (x + 2 * 3 ^ q) j = dig x j))
theorem dig_f3 : ∀ x, x < 729 → ∀ q, q < 6 → ∀ j, j < 6 → dchk x q j = true := by decide +kernel
theorem dig_f2 (x : Nat) (hx : x < 729) (q : Nat) (hq : q < 6) (j : Nat) (hj : j < 6) (h : dig x q = 0) (hne : j ≠ q) : dig (x + 3 ^ q) j = dig x j ∧ dig (x + 2 * 3 ^ q) j = dig x j :=
  ((of_decide_eq_true (dig_f3 x hx q hq j hj)).resolve_left (fun f => f h)).resolve_left hne
theorem dig_facts (x : Nat) (hx : x < 729) (q : Nat) (hq : q < 6) (h : dig x q = 0) : dig (x + 3 ^ q) q = 1 ∧ dig (x + 2 * 3 ^ q) q = 2 ∧ ∀ j, j < 6 → j ≠ q → dig (x + 3 ^ q) j = dig x j ∧ dig (x + 2 * 3 ^ q) j = dig x j :=
  ⟨(dig_f1 x hx q hq h).1, (dig_f1 x hx q hq h).2, fun j hj hne => dig_f2 x hx q hq j hj h hne⟩
theorem dig_top : ∀ P, P < 7 → ∀ x, x < 3 ^ P → ∀ q, q < P → dig x q = 0 → x + 2 * 3 ^ q < 3 ^ P := by decide +kernel
theorem dig_lt : ∀ q, q < 6 → ∀ x, x < 3 ^ q → dig x q = 0 := fun q _ x hx => by
  unfold dig
  rw [Nat.div_eq_of_lt hx]
theorem gr_low {c : Nat → Nat} {x y : Nat} : ∀ i, (∀ j, j < i → dig y j = dig x j) → gr c y i = gr c x i
  | 0, _ => rfl
  | i + 1, h => by
    funext k
    show (gr c y i k && _) = (gr c x i k && _)
    rw [gr_low i (fun j hj => h j (by omega)), h i (Nat.lt_succ_self i)]
theorem gr_set {c : Nat → Nat} {x y q : Nat} {b : Bool} (h0 : dig x q = 0) (h1 : dig y q = if b then 1 else 2) (hj : ∀ j, j < 6 → j ≠ q → dig y j = dig x j) : ∀ i, i ≤ 6 → q < i → gr c y i = gc c q b (gr c x i)
  | 0, _, h => absurd h (Nat.not_lt_zero _)
  | i + 1, hi, h => by
    funext k
    by_cases e : q = i
    · subst e
      show (gr c y q k && _) = ((gr c x q k && _) && _)
      rw [gr_low q (fun j hjq => hj j (by omega) (by omega)), h1, h0]
      cases b <;> cases gr c x q k <;> cases has c q k <;> rfl
    · have ih := congrFun (gr_set (c := c) h0 h1 hj i (by omega) (by omega)) k
      show (gr c y i k && _) = ((gr c x i k && _) && _)
      rw [ih, hj i (by omega) (fun f => e f.symm)]
      unfold gc
      cases gr c x i k <;> cases (if b = true then has c q k else !has c q k) <;> simp
theorem gr_dig {c : Nat → Nat} {x q k : Nat} : ∀ i, q < i → gr c x i k = true → (dig x q = 1 → has c q k = true) ∧ (dig x q = 2 → has c q k = false)
  | 0, h, _ => absurd h (Nat.not_lt_zero _)
  | i + 1, h, hg => by
    have hg' : gr c x i k = true ∧ (if dig x i = 0 then true else if dig x i = 1 then has c i k else !has c i k) = true := by
      rw [← Bool.and_eq_true]; exact hg
    by_cases e : q = i
    · subst e
      refine ⟨fun e1 => ?_, fun e2 => ?_⟩
      · have := hg'.2
        rw [e1, if_neg (by decide), if_pos rfl] at this
        exact this
      · have := hg'.2
        rw [e2, if_neg (by decide), if_neg (by decide)] at this
        simpa using this
    · exact gr_dig i (by omega) hg'.1
theorem gr_z (c : Nat → Nat) : ∀ i, gr c 0 i = fun _ => true
  | 0 => rfl
  | i + 1 => by
    funext k
    show (gr c 0 i k && _) = true
    rw [gr_z c i]
    unfold dig
    rw [Nat.zero_div]
    rfl
theorem gr_tri {c : Nat → Nat} {N x q P : Nat} (hq : q < P) (h : dig x q ≠ 0) : tri c N q (gr c x P) = true := by
  unfold tri
  refine decide_eq_true ?_
  have h3 : dig x q < 3 := Nat.mod_lt _ (by decide)
  by_cases e : dig x q = 1
  · right
    refine fb_ct_zero.mpr (fun k _ => ?_)
    unfold gc
    cases hg : gr c x P k
    · rfl
    · rw [(gr_dig P hq hg).1 e]; rfl
  · left
    refine fb_ct_zero.mpr (fun k _ => ?_)
    unfold gc
    cases hg : gr c x P k
    · rfl
    · rw [(gr_dig P hq hg).2 (by omega)]; rfl
section PDQ
variable {S : CS} {M : MS} {P N A B B' H Z : Nat} {c cf : Nat → Nat} {de : Nat → Bool}
theorem RC.fr (h : RCs S M P N c cf de) {S' : CS} (h2 : S'.1 2 = S.1 2) (h9 : S'.1 9 = S.1 9) (h10 : S'.1 10 = S.1 10) (h11 : S'.1 11 = S.1 11) : RCs S' M P N c cf de := by
  show RC _ _ _ _ _ _ _ _ _ _ _ _
  rw [h2, h9, h10, h11]
  exact h
theorem RC.frL (h : RCs S M P N c cf de) {S' : CS} {L : List Nat} (f : Fr L S S') (h2 : 2 ∉ L) (h9 : 9 ∉ L) (h10 : 10 ∉ L) (h11 : 11 ∉ L) : RCs S' M P N c cf de := h.fr (f.1 2 h2) (f.1 9 h9) (f.1 10 h10) (f.1 11 h11)
theorem pow3 (q : Nat) (h : q ≤ 6) : 3 ^ q ≤ 729 := Nat.le_trans (Nat.pow_le_pow_right (n := 3) (by decide) h) (by decide)
theorem x_fill (hC : RCs S M P N c cf de) : ∃ S' : CS, f_X6_fillGroups S = some (nI (3 ^ P), S') ∧ Fr [3, 12] S S' ∧ S'.1 3 2 = nI P ∧ ∀ x, x < 3 ^ P → S'.1 12 x = nI (pm (gr c x P) N) := by
  have hP := hC.1.2.1
  have outer : ∀ (d q n : Nat) (s : CS), q + d = P → d < n → Fr [3, 12] S s → s.1 3 2 = nI P → (∀ x, x < 3 ^ q → s.1 12 x = nI (pm (gr c x q) N)) → ∃ S' : CS, f_X6_fillGroups_24 n (nI (3 ^ q)) (nI q) s = some (nI (3 ^ P), S') ∧ Fr [3, 12] S S' ∧ S'.1 3 2 = nI P ∧ ∀ x, x < 3 ^ P → S'.1 12 x = nI (pm (gr c x P) N) := by
    intro d
    induction d with
    | zero =>
      intro q n s hq hn f1 f2 f3
      have : q = P := by omega
      subst this
      match n, hn with
      | n + 1, _ =>
        refine ⟨s, ?_, f1, f2, f3⟩
        show f_X6_fillGroups_24b _ _ _ _ = _
        unfold f_X6_fillGroups_24b
        rw [f2, if_pos (nI_le (Nat.le_refl q) (by omega))]
    | succ d ih =>
      intro q n s hq hn f1 f2 f3
      match n, hn with
      | n + 1, hn =>
        have p3 := pow3 (q + 1) (by omega)
        have e3 : 3 ^ (q + 1) = 3 ^ q * 3 := Nat.pow_succ 3 q
        have hpos : 0 < 3 ^ q := Nat.pow_pos (by decide)
        have inner := pu_forS (W := fun m i s' => ∃ S' : CS, f_X6_fillGroups_35 (f_X6_fillGroups_24 n) m (nI (3 ^ q)) (nI q) (nI i) s' = some (nI (3 ^ P), S') ∧ Fr [3, 12] S S' ∧ S'.1 3 2 = nI P ∧ ∀ x, x < 3 ^ P → S'.1 12 x = nI (pm (gr c x P) N))
          (I := fun i s' => Fr [3, 12] S s' ∧ s'.1 3 2 = nI P ∧ (∀ x, x < 3 ^ q → s'.1 12 x = nI (pm (gr c x q) N)) ∧ ∀ x, x < i → s'.1 12 (x + 3 ^ q) = nI (pm (gc c q true (gr c x q)) N) ∧ s'.1 12 (x + 2 * 3 ^ q) = nI (pm (gc c q false (gr c x q)) N)) (3 ^ q) (fun m s' hi => ?_) (fun m i s' hi hI ih2 => ?_) (3 ^ q) 1000 0 s (Nat.zero_add _) (by omega) ⟨f1, f2, f3, fun x hx => absurd hx (Nat.not_lt_zero x)⟩
        · obtain ⟨S', g1, g2⟩ := inner
          refine ⟨S', ?_, g2⟩
          show f_X6_fillGroups_24b _ _ _ _ = _
          unfold f_X6_fillGroups_24b
          rw [f2, if_neg (nI_ge (by omega) (by omega))]
          exact g1
        · obtain ⟨i1, i2, i3, i4⟩ := hi
          obtain ⟨S', g1, g2⟩ := ih (q + 1) n s' (by omega) (by omega) i1 i2 (fun x hx => by
            have h6 : q < 6 := by omega
            by_cases c1 : x < 3 ^ q
            · rw [i3 x c1]
              congr 2
              funext k
              show _ = (gr c x q k && _)
              rw [dig_lt q h6 x c1, if_pos rfl, Bool.and_true]
            · by_cases c2 : x < 2 * 3 ^ q
              · obtain ⟨y, hy, rfl⟩ : ∃ y, y < 3 ^ q ∧ x = y + 3 ^ q := ⟨x - 3 ^ q, by omega, by omega⟩
                obtain ⟨k1, -, k3⟩ := dig_facts y (by omega) q h6 (dig_lt q h6 y hy)
                rw [(i4 y hy).1]
                congr 2
                funext k
                show _ = (gr c (y + 3 ^ q) q k && _)
                rw [gr_low q (fun j hj => (k3 j (by omega) (by omega)).1), k1]
                rfl
              · obtain ⟨y, hy, rfl⟩ : ∃ y, y < 3 ^ q ∧ x = y + 2 * 3 ^ q := ⟨x - 2 * 3 ^ q, by omega, by omega⟩
                obtain ⟨-, k2, k3⟩ := dig_facts y (by omega) q h6 (dig_lt q h6 y hy)
                rw [(i4 y hy).2]
                congr 2
                funext k
                show _ = (gr c (y + 2 * 3 ^ q) q k && _)
                rw [gr_low q (fun j hj => (k3 j (by omega) (by omega)).2), k2]
                rfl)
          refine ⟨S', ?_, g2⟩
          show f_X6_fillGroups_35b _ _ _ _ _ _ = _
          unfold f_X6_fillGroups_35b
          rw [if_pos (nI_le (Nat.le_refl _) (by omega)), show (3 : Int32) = nI 3 from rfl, pk_mul, ← e3, nI_1]
          exact g1
        · obtain ⟨i1, i2, i3, i4⟩ := hI
          have hC1 := hC.frL i1 (by decide) (by decide) (by decide) (by decide)
          have hq : q < P := by omega
          have w1 : nI i + nI (3 ^ q) = nI (i + 3 ^ q) := nI_add _ _
          have w2 : nI i + 2 * nI (3 ^ q) = nI (i + 2 * 3 ^ q) := by rw [show (2 : Int32) = nI 2 from rfl, pk_mul, nI_add]
          have a1 : nI (pm (gr c i q) N) &&& f_X1_holding s' (nI q) = nI (pm (gc c q true (gr c i q)) N) := by
            rw [hC1.hold hq, nI_and, pm_and]
            rfl
          obtain ⟨s1, hs1⟩ : ∃ s1, s1 = cfun s' 12 (upd (s'.1 12) (i + 3 ^ q) (nI (pm (gc c q true (gr c i q)) N))) := ⟨_, rfl⟩
          have fs1 : Fr [3, 12] s' s1 := by rw [hs1]; exact Fr.cfun (by decide)
          have hC2 := hC1.frL fs1 (by decide) (by decide) (by decide) (by decide)
          have v1 : s1.1 12 = upd (s'.1 12) (i + 3 ^ q) (nI (pm (gc c q true (gr c i q)) N)) := by rw [hs1, cf_s]
          have r1 : s1.1 12 i = nI (pm (gr c i q) N) := by rw [v1, pk_un (by omega), i3 i hi]
          have a2 : nI (pm (gr c i q) N) &&& f_X1_lacking s1 (nI q) = nI (pm (gc c q false (gr c i q)) N) := by
            rw [hC2.lack hq, nI_and, pm_and]
            rfl
          obtain ⟨S', g1, g2⟩ := ih2 (cfun s1 12 (upd (s1.1 12) (i + 2 * 3 ^ q) (nI (pm (gc c q false (gr c i q)) N)))) ⟨i1.trans (fs1.trans (Fr.cfun (by decide))), by rw [cf_n (by decide), hs1, cf_n (by decide)]; exact i2, fun x hx => by
              rw [cf_s, pk_un (by omega), v1, pk_un (by omega)]
              exact i3 x hx, fun x hx => by
              rw [cf_s]
              by_cases e : x = i
              · subst e
                rw [pk_us, pk_un (by omega), v1, pk_us]
                exact ⟨rfl, rfl⟩
              · rw [pk_un (by omega), pk_un (by omega), v1, pk_un (by omega), pk_un (by omega)]
                exact i4 x (by omega)⟩
          refine ⟨S', ?_, g2⟩
          show f_X6_fillGroups_35b _ _ _ _ _ _ = _
          unfold f_X6_fillGroups_35b
          rw [if_neg (nI_ge hi (by omega)), w1, w2, q_at_nI (by omega) (by decide), i3 i hi, a1, q_pu_nI (by omega) (by decide), ← hs1, q_at_nI (by omega) (by decide), r1, a2, q_pu_nI (by omega) (by decide), nI_1]
          exact g1
  unfold f_X6_fillGroups
  have ev : f_X1_everyone (cset S 3 2 (S.1 2 2)) = nI (pm (fun _ => true) N) := (hC.fr (S' := cset S 3 2 (S.1 2 2)) (cs_n (by decide)) (cs_n (by decide)) (cs_n (by decide)) (cs_n (by decide))).every
  rw [ev, show (0 : Int32) = nI 0 from rfl, q_pu_nI (by decide) (by decide)]
  refine outer P 0 1000 _ (Nat.zero_add P) (by omega) ((Fr.cset (by decide)).trans (Fr.cfun (by decide))) ?_ (fun x hx => ?_)
  · rw [cf_n (by decide), cs_s, hC.2.1]
  · have : x = 0 := by
      have : x < 1 := hx
      omega
    subst this
    rw [cf_s, pk_us]
    rfl
theorem div3 (x i : Nat) : x / 3 ^ i / 3 = x / 3 ^ (i + 1) := by rw [Nat.div_div_eq_div_mul, Nat.pow_succ]
theorem x_worth {s : CS} {kd : Bool} {x : Nat} (hP : P ≤ 6) (hN : N ≤ 24) (h3 : s.1 3 2 = nI P) (hx : x < 3 ^ P) (h12 : ∀ y, y < 3 ^ P → s.1 12 y = nI (pm (gr c y P) N)) (h13 : ∀ y, x < y → y < 3 ^ P → s.1 13 y = nI (WW kd c N P (gr c y P))) : f_X6_worthFrom s (nI x) (q_b kd) = some (nI (fdW (WW kd c N P) kd c N P (gr c x P) P)) := by
  have p3 := pow3 P hP
  have wl : ∀ l, WW kd c N P l ≤ 14 := fun l => Nat.le_trans (WW_le l) (by omega)
  have fl : ∀ i, fdW (WW kd c N P) kd c N P (gr c x P) i ≤ 15 := fun i => fdW_le wl (by omega) i
  have main : f_X6_worthFrom_22 s 1000 (nI x) (q_b kd) (nI (fdW (WW kd c N P) kd c N P (gr c x P) 0)) (nI (x / 3 ^ 0)) (nI (3 ^ 0)) (nI 0) = some (nI (fdW (WW kd c N P) kd c N P (gr c x P) P)) := by
    refine pu_for0 (W := fun n i => f_X6_worthFrom_22 s n (nI x) (q_b kd) (nI (fdW (WW kd c N P) kd c N P (gr c x P) i)) (nI (x / 3 ^ i)) (nI (3 ^ i)) (nI i) = some (nI (fdW (WW kd c N P) kd c N P (gr c x P) P))) (e := P) (n := 1000) (by omega) (fun n => ?_) (fun n i hi ih => ?_)
    · show f_X6_worthFrom_22b s _ _ _ _ _ _ _ = _
      unfold f_X6_worthFrom_22b
      rw [h3, if_pos (nI_le (Nat.le_refl P) (by omega))]
    · have pi := pow3 i (by omega)
      have hdl : x / 3 ^ i ≤ x := Nat.div_le_self _ _
      have d1 : nI (x / 3 ^ i) / (3 : Int32) = nI (x / 3 ^ (i + 1)) := by rw [show (3 : Int32) = nI 3 from rfl, pk_div (by omega) (by decide) (by decide), div3]
      have d2 : nI (3 ^ i) * (3 : Int32) = nI (3 ^ (i + 1)) := by rw [show (3 : Int32) = nI 3 from rfl, pk_mul, ← Nat.pow_succ]
      have d3 : nI (x / 3 ^ i) - nI (x / 3 ^ (i + 1)) * (3 : Int32) = nI (dig x i) := by
        rw [show (3 : Int32) = nI 3 from rfl, pk_mul, ← div3, pk_sub (Nat.div_mul_le_self _ _)]
        congr 1
        unfold dig
        have := Nat.div_add_mod (x / 3 ^ i) 3
        omega
      have dz : nI (dig x i) = 0 ↔ dig x i = 0 := nI_0iff (by have : dig x i < 3 := Nat.mod_lt _ (by decide); omega)
      rw [fdW_succ] at ih
      show f_X6_worthFrom_22b s _ _ _ _ _ _ _ = _
      unfold f_X6_worthFrom_22b f_X6_worthFrom_131 f_X6_worthFrom_132
      rw [h3, if_neg (nI_ge hi (by omega)), d1, d2, d3, nI_1]
      by_cases e : dig x i = 0
      · obtain ⟨k1, k2, k3⟩ := dig_facts x (by omega) i (by omega) e
        have top := dig_top P (by omega) x hx i hi e
        have hpos : 0 < 3 ^ i := Nat.pow_pos (by decide)
        have g1 : gr c (x + 3 ^ i) P = gc c i true (gr c x P) := gr_set e k1 (fun j h1 h2 => (k3 j h1 h2).1) P hP hi
        have g2 : gr c (x + 2 * 3 ^ i) P = gc c i false (gr c x P) := gr_set e k2 (fun j h1 h2 => (k3 j h1 h2).2) P hP hi
        have w1 : nI x + nI (3 ^ i) = nI (x + 3 ^ i) := nI_add _ _
        have w2 : nI (x + 3 ^ i) + nI (3 ^ i) = nI (x + 2 * 3 ^ i) := by rw [nI_add]; congr 1; omega
        have sp : f_X6_splits s (nI (x + 3 ^ i)) (nI (x + 2 * 3 ^ i)) = !tri c N i (gr c x P) := by
          unfold f_X6_splits tri
          rw [q_at_nI (by omega) (by decide), q_at_nI (by omega) (by decide), h12 _ (by omega), h12 _ top, g1, g2]
          have z1 : nI (pm (gc c i true (gr c x P)) N) = 0 ↔ fb_ct (gc c i true (gr c x P)) N = 0 := by rw [nI_0iff (pm31 _ (by omega)), pm_zero, fb_ct_zero]
          have z2 : nI (pm (gc c i false (gr c x P)) N) = 0 ↔ fb_ct (gc c i false (gr c x P)) N = 0 := by rw [nI_0iff (pm31 _ (by omega)), pm_zero, fb_ct_zero]
          by_cases c1 : fb_ct (gc c i true (gr c x P)) N = 0
          · rw [if_pos (z1.mpr c1), decide_eq_true (Or.inl c1)]; rfl
          · by_cases c2 : fb_ct (gc c i false (gr c x P)) N = 0
            · rw [if_neg (fun f => c1 (z1.mp f)), if_pos (z2.mpr c2), decide_eq_true (Or.inr c2)]; rfl
            · rw [if_neg (fun f => c1 (z1.mp f)), if_neg (fun f => c2 (z2.mp f)), decide_eq_false (fun f => f.elim c1 c2)]; rfl
        rw [if_pos (dz.mpr e), w1, w2, sp, q_at_nI (by omega) (by decide), q_at_nI (by omega) (by decide), h13 _ (by omega) (by omega), h13 _ (by omega) top, g1, g2]
        cases ht : tri c N i (gr c x P)
        · rw [ht, if_neg (by decide)] at ih
          rw [if_neg (by decide)]
          have b0 := fl i
          have b1 := wl (gc c i true (gr c x P))
          have b2 := wl (gc c i false (gr c x P))
          have m1 := Nat.max_le.mpr ⟨b1, b2⟩
          have m2 : min (WW kd c N P (gc c i true (gr c x P))) (WW kd c N P (gc c i false (gr c x P))) ≤ 14 := Nat.le_trans (Nat.min_le_left _ _) b1
          cases kd
          · rw [if_pos (by decide), max_nI (by omega) (by omega), show (1 : Int32) = nI 1 from rfl, nI_add, min_nI (by omega) (by omega)]
            exact ih
          · rw [if_neg (by decide), min_nI (by omega) (by omega), show (1 : Int32) = nI 1 from rfl, nI_add, max_nI (by omega) (by omega)]
            exact ih
        · rw [ht, if_pos rfl] at ih
          rw [if_pos (by decide)]
          exact ih
      · rw [gr_tri hi e, if_pos rfl] at ih
        rw [if_neg (fun f => e (dz.mp f))]
        exact ih
  unfold f_X6_worthFrom f_X6_worthFrom_12
  rw [Nat.pow_zero, Nat.div_one] at main
  cases kd
  · rw [if_pos (by decide), h3]
    exact main
  · rw [if_neg (by decide)]
    exact main
theorem x_all (hC : RCs S M P N c cf de) (kd : Bool) : ∃ S' : CS, f_X6_worthOfAll (q_b kd) S = some (nI (WW kd c N P (fun _ => true)), S') ∧ Fr [3, 12, 13] S S' := by
  have hP := hC.1.2.1
  have hN := hC.1.2.2
  obtain ⟨S1, g1, g2, g3, g4⟩ := x_fill hC
  have p3 := pow3 P hP
  have hpos : 0 < 3 ^ P := Nat.pow_pos (by decide)
  have loop : ∀ (d n : Nat) (s : CS), d ≤ 3 ^ P → d < n → Fr [3, 12, 13] S s → s.1 3 2 = nI P → (∀ x, x < 3 ^ P → s.1 12 x = nI (pm (gr c x P) N)) → (∀ y, d ≤ y → y < 3 ^ P → s.1 13 y = nI (WW kd c N P (gr c y P))) →
      ∃ S' : CS, f_X6_worthOfAll_8 n (q_b kd) (nI d - 1) s = some (nI (WW kd c N P (fun _ => true)), S') ∧ Fr [3, 12, 13] S S' := by
    intro d
    induction d with
    | zero =>
      intro n s hd hn f1 f2 f3 f4
      match n, hn with
      | n + 1, _ =>
        refine ⟨s, ?_, f1⟩
        show f_X6_worthOfAll_8b _ _ _ _ = _
        unfold f_X6_worthOfAll_8b
        rw [if_pos (by decide), show (0 : Int32) = nI 0 from rfl, q_at_nI (by decide) (by decide), f4 0 (Nat.le_refl 0) hpos, gr_z]
    | succ d ih =>
      intro n s hd hn f1 f2 f3 f4
      match n, hn with
      | n + 1, hn =>
        have em : nI (d + 1) - 1 = nI d := by rw [← nI_1, Int32.add_sub_cancel]
        have e35 : f_X6_worthOfAll_35 (f_X6_worthOfAll_8 n) (q_b kd) (nI d) (nI (WW kd c N P (gr c d P))) (nI d) s = f_X6_worthOfAll_8 n (q_b kd) (nI d - 1) (cfun s 13 (upd (s.1 13) d (nI (WW kd c N P (gr c d P))))) := by
          unfold f_X6_worthOfAll_35
          rw [q_pu_nI (by omega) (by decide), ← Int32.sub_eq_add_neg]
        obtain ⟨S', k1, k2⟩ := ih n (cfun s 13 (upd (s.1 13) d (nI (WW kd c N P (gr c d P))))) (by omega) (by omega) (f1.trans (Fr.cfun (by decide))) (by rw [cf_n (by decide)]; exact f2) (by rw [cf_n (by decide)]; exact f3) (fun y h1 h2 => by
          rw [cf_s]
          by_cases e : y = d
          · subst e; exact pk_us
          · rw [pk_un e]; exact f4 y (by omega) h2)
        refine ⟨S', ?_, k2⟩
        show f_X6_worthOfAll_8b _ _ _ _ = _
        unfold f_X6_worthOfAll_8b f_X6_isSettled
        rw [em, if_neg (nI_pos (by omega)), q_at_nI (by omega) (by decide), f3 d (by omega), bitCount_pm _ hC.N32]
        have cl := ctN hC (gr c d P)
        have ew := WW_eq (kd := kd) (c := c) (N := N) hP (gr c d P)
        by_cases e : 2 ≤ fb_ct (gr c d P) N
        · rw [if_pos e] at ew
          rw [if_pos (show (2 : Int32) ≤ nI (fb_ct (gr c d P) N) from nI_le (a := 2) e (by omega)), if_pos (by decide), x_worth hP hN f2 (by omega) f3 (fun y h1 h2 => f4 y (by omega) h2)]
          simp only [Option.bind_some]
          rw [← ew, e35]
          exact k1
        · rw [if_neg e] at ew
          rw [if_neg (show ¬ (2 : Int32) ≤ nI (fb_ct (gr c d P) N) from nI_ge (b := 2) (by omega) (by decide)), if_neg (by decide)]
          rw [ew] at e35 k1
          rw [show (0 : Int32) = nI 0 from rfl, e35]
          exact k1
  unfold f_X6_worthOfAll
  rw [g1]
  simp only [Option.bind_some]
  exact loop (3 ^ P) 1000 S1 (Nat.le_refl _) (by omega) (g2.mono (by decide)) g3 g4 (fun y h1 h2 => by omega)
/-! the reference's walk -/
theorem gc_t (l : Nat → Bool) (q : Nat) : (fun k => l k && has c q k) = gc c q true l := rfl
theorem mdep (hC : RCs S M P N c cf de) : ∀ (n : Nat) (l : Nat → Bool), het c N P l < n → f_X9_depthOf M n (nI (pm l N)) = some (nI (WW false c N P l)) := by
  have hP := hC.1.2.1
  have hN := hC.1.2.2
  intro n
  induction n with
  | zero => intro l h; exact absurd h (Nat.not_lt_zero _)
  | succ n ihn =>
    intro l hl
    have cl := ctN hC l
    have ew := WW_eq (kd := false) (c := c) (N := N) hP l
    have wl : ∀ l, WW false c N P l ≤ 14 := fun l => Nat.le_trans (WW_le l) (by omega)
    have fl : ∀ i, fdW (WW false c N P) false c N P l i ≤ 15 := fun i => fdW_le wl (by omega) i
    show f_X9_depthOfb M (f_X9_depthOf M n) _ = _
    unfold f_X9_depthOfb
    rw [bitCount_pm _ hC.N32]
    by_cases e : 2 ≤ fb_ct l N
    · rw [if_pos e] at ew
      rw [if_pos (show (2 : Int32) ≤ nI (fb_ct l N) from nI_le (a := 2) e (by omega)), hC.2.2.2.1, ew]
      refine pu_for0 (W := fun m i => f_X9_depthOf_17 M (f_X9_depthOf M n) m (nI (pm l N)) (nI (fdW (WW false c N P) false c N P l i)) (nI i) = some (nI (fdW (WW false c N P) false c N P l P))) (e := P) (n := 1000) (by omega) (fun m => ?_) (fun m i hi ih => ?_)
      · show f_X9_depthOf_17b _ _ _ _ _ _ = _
        unfold f_X9_depthOf_17b
        rw [hC.2.2.2.1, if_pos (nI_le (Nat.le_refl P) hC.P31)]
      · rw [fdW_succ] at ih
        show f_X9_depthOf_17b _ _ _ _ _ _ = _
        unfold f_X9_depthOf_17b f_X9_depthOf_86
        rw [hC.2.2.2.1, if_neg (nI_ge hi hC.P31), hC.with1 l (by omega), gc_t]
        simp only [Option.bind_some]
        rw [nI_1]
        have gs := gc_sum c i l N
        have z1 : nI (pm (gc c i true l) N) = 0 ↔ fb_ct (gc c i true l) N = 0 := by rw [nI_0iff (pm31 _ (by omega)), pm_zero, fb_ct_zero]
        have z2 : nI (pm (gc c i true l) N) = nI (pm l N) ↔ fb_ct (gc c i false l) N = 0 := by
          rw [nI_eq (pm31 _ (by omega)) (pm31 _ (by omega))]
          constructor
          · intro f
            have := fb_ct_cong (p := gc c i true l) (q := l) (n := N) (fun k hk => pm_inj f hk)
            omega
          · intro f
            refine pm_cong (fun k hk => ?_)
            have := fb_ct_zero.mp f k hk
            revert this
            unfold gc
            cases l k <;> cases has c i k <;> simp
        cases ht : tri c N i l
        · rw [ht, if_neg (by decide)] at ih
          have ht' : ¬ (fb_ct (gc c i true l) N = 0 ∨ fb_ct (gc c i false l) N = 0) := by
            unfold tri at ht
            exact of_decide_eq_false ht
          have l1 := het_lt (c := c) (N := N) hi ht true
          have l2 := het_lt (c := c) (N := N) hi ht false
          rw [if_neg (fun f => ht' (Or.inl (z1.mp f))), if_neg (fun f => ht' (Or.inr (z2.mp f))), ihn _ (by omega)]
          simp only [Option.bind_some]
          have b0 := fl i
          have b1 := wl (gc c i true l)
          have b2 := wl (gc c i false l)
          have m1 := Nat.max_le.mpr ⟨b1, b2⟩
          rw [nI_1]
          by_cases e2 : fdW (WW false c N P) false c N P l i ≤ WW false c N P (gc c i true l) + 1
          · rw [if_pos (nI_le e2 (by omega))]
            rw [show ste false (fdW (WW false c N P) false c N P l i) (WW false c N P (gc c i true l)) (WW false c N P (gc c i false l)) = fdW (WW false c N P) false c N P l i from Nat.min_eq_left (Nat.le_trans e2 (by have := Nat.le_max_left (WW false c N P (gc c i true l)) (WW false c N P (gc c i false l)); omega))] at ih
            exact ih
          · have ea : nI (pm l N) &&& (nI (pm (gc c i true l) N) ^^^ (-1 : Int32)) = nI (pm (gc c i false l) N) := by
              rw [pm_andn _ _ _ hC.N32]
              congr 2
              funext k
              unfold gc
              cases l k <;> cases has c i k <;> rfl
            rw [if_neg (nI_ge (by omega) (by omega)), ea, ihn _ (by omega)]
            simp only [Option.bind_some]
            rw [max_nI (by omega) (by omega), show (1 : Int32) = nI 1 from rfl, nI_add, min_nI (by omega) (by omega)]
            exact ih
        · rw [ht, if_pos rfl] at ih
          have ht' : fb_ct (gc c i true l) N = 0 ∨ fb_ct (gc c i false l) N = 0 := by
            unfold tri at ht
            exact of_decide_eq_true ht
          by_cases e2 : fb_ct (gc c i true l) N = 0
          · rw [if_pos (z1.mpr e2)]; exact ih
          · rw [if_neg (fun f => e2 (z1.mp f)), if_pos (z2.mpr (ht'.resolve_left e2))]; exact ih
    · rw [if_neg e] at ew
      rw [if_neg (show ¬ (2 : Int32) ≤ nI (fb_ct l N) from nI_ge (b := 2) (by omega) (by decide)), ew]
      rfl
theorem mmis (hC : RCs S M P N c cf de) : ∀ (n : Nat) (l : Nat → Bool), het c N P l < n → f_X9_mistakesOf M n (nI (pm l N)) = some (nI (WW true c N P l)) := by
  have hP := hC.1.2.1
  have hN := hC.1.2.2
  intro n
  induction n with
  | zero => intro l h; exact absurd h (Nat.not_lt_zero _)
  | succ n ihn =>
    intro l hl
    have cl := ctN hC l
    have ew := WW_eq (kd := true) (c := c) (N := N) hP l
    have wl : ∀ l, WW true c N P l ≤ 14 := fun l => Nat.le_trans (WW_le l) (by omega)
    have fl : ∀ i, fdW (WW true c N P) true c N P l i ≤ 15 := fun i => fdW_le wl (by omega) i
    show f_X9_mistakesOfb M (f_X9_mistakesOf M n) _ = _
    unfold f_X9_mistakesOfb
    rw [bitCount_pm _ hC.N32]
    by_cases e : 2 ≤ fb_ct l N
    · rw [if_pos e] at ew
      rw [if_pos (show (2 : Int32) ≤ nI (fb_ct l N) from nI_le (a := 2) e (by omega)), ew]
      refine pu_for0 (W := fun m i => f_X9_mistakesOf_14 M (f_X9_mistakesOf M n) m (nI (pm l N)) (nI (fdW (WW true c N P) true c N P l i)) (nI i) = some (nI (fdW (WW true c N P) true c N P l P))) (e := P) (n := 1000) (by omega) (fun m => ?_) (fun m i hi ih => ?_)
      · show f_X9_mistakesOf_14b _ _ _ _ _ _ = _
        unfold f_X9_mistakesOf_14b
        rw [hC.2.2.2.1, if_pos (nI_le (Nat.le_refl P) hC.P31)]
      · rw [fdW_succ] at ih
        show f_X9_mistakesOf_14b _ _ _ _ _ _ = _
        unfold f_X9_mistakesOf_14b f_X9_mistakesOf_71
        rw [hC.2.2.2.1, if_neg (nI_ge hi hC.P31), hC.with1 l (by omega), gc_t]
        simp only [Option.bind_some]
        rw [nI_1]
        have gs := gc_sum c i l N
        have z1 : nI (pm (gc c i true l) N) = 0 ↔ fb_ct (gc c i true l) N = 0 := by rw [nI_0iff (pm31 _ (by omega)), pm_zero, fb_ct_zero]
        have z2 : nI (pm (gc c i true l) N) = nI (pm l N) ↔ fb_ct (gc c i false l) N = 0 := by
          rw [nI_eq (pm31 _ (by omega)) (pm31 _ (by omega))]
          constructor
          · intro f
            have := fb_ct_cong (p := gc c i true l) (q := l) (n := N) (fun k hk => pm_inj f hk)
            omega
          · intro f
            refine pm_cong (fun k hk => ?_)
            have := fb_ct_zero.mp f k hk
            revert this
            unfold gc
            cases l k <;> cases has c i k <;> simp
        cases ht : tri c N i l
        · rw [ht, if_neg (by decide)] at ih
          have ht' : ¬ (fb_ct (gc c i true l) N = 0 ∨ fb_ct (gc c i false l) N = 0) := by
            unfold tri at ht
            exact of_decide_eq_false ht
          have l1 := het_lt (c := c) (N := N) hi ht true
          have l2 := het_lt (c := c) (N := N) hi ht false
          rw [if_neg (fun f => ht' (Or.inl (z1.mp f))), if_neg (fun f => ht' (Or.inr (z2.mp f))), ihn _ (by omega)]
          simp only [Option.bind_some]
          have b0 := fl i
          have b1 := wl (gc c i true l)
          have b2 := wl (gc c i false l)
          have m2 : min (WW true c N P (gc c i true l)) (WW true c N P (gc c i false l)) ≤ 14 := Nat.le_trans (Nat.min_le_left _ _) b1
          have ea : nI (pm l N) &&& (nI (pm (gc c i true l) N) ^^^ (-1 : Int32)) = nI (pm (gc c i false l) N) := by
            rw [pm_andn _ _ _ hC.N32]
            congr 2
            funext k
            unfold gc
            cases l k <;> cases has c i k <;> rfl
          rw [ea, ihn _ (by omega)]
          simp only [Option.bind_some]
          rw [min_nI (by omega) (by omega), show (1 : Int32) = nI 1 from rfl, nI_add, max_nI (by omega) (by omega)]
          exact ih
        · rw [ht, if_pos rfl] at ih
          have ht' : fb_ct (gc c i true l) N = 0 ∨ fb_ct (gc c i false l) N = 0 := by
            unfold tri at ht
            exact of_decide_eq_true ht
          by_cases e2 : fb_ct (gc c i true l) N = 0
          · rw [if_pos (z1.mpr e2)]; exact ih
          · rw [if_neg (fun f => e2 (z1.mp f)), if_pos (z2.mpr (ht'.resolve_left e2))]; exact ih
    · rw [if_neg e] at ew
      rw [if_neg (show ¬ (2 : Int32) ≤ nI (fb_ct l N) from nI_ge (b := 2) (by omega) (by decide)), ew]
      rfl
theorem RC.mall (hC : RCs S M P N c cf de) : ((1 : Int32) <<< ((nI (M.2.1 0)) &&& 31)) - (1 : Int32) = nI (pm (fun _ => true) N) := by
  rw [hC.mN, nI_ones N (Nat.lt_of_le_of_lt hC.1.2.2 (by decide)), pm_all]
theorem D_depth (h : RelC S M) : ∃ (v : Int32) (S' : CS), f_X8_depth S = some (v, S') ∧ f_X9_depth M = some (v, mset M 0 0) ∧ Fr [3, 12, 13] S S' := by
  obtain ⟨P, N, c, cf, de, A, B, B', H, Z, hC, hT⟩ := h
  obtain ⟨S', g1, g2⟩ := x_all hC false
  refine ⟨nI (WW false c N P (fun _ => true)), S', ?_, ?_, g2⟩
  · unfold f_X8_depth f_X6_leastDepth
    rw [show (0 : Int32) = q_b false from rfl, g1]
    rfl
  · unfold f_X9_depth
    rw [(hC.m0 0).mall, mdep (hC.m0 0) 10 _ (by have := het_le c N P (fun _ => true); have := hC.1.2.1; omega)]
    rfl
theorem D_mistakes (h : RelC S M) : ∃ (v : Int32) (S' : CS), f_X8_mistakes S = some (v, S') ∧ f_X9_mistakes M = some (v, mset M 0 0) ∧ Fr [3, 12, 13] S S' := by
  obtain ⟨P, N, c, cf, de, A, B, B', H, Z, hC, hT⟩ := h
  obtain ⟨S', g1, g2⟩ := x_all hC true
  refine ⟨nI (WW true c N P (fun _ => true)), S', ?_, ?_, g2⟩
  · unfold f_X8_mistakes f_X6_forcedMistakes
    rw [show (1 : Int32) = q_b true from rfl, g1]
    rfl
  · unfold f_X9_mistakes
    rw [(hC.m0 0).mall, mmis (hC.m0 0) 10 _ (by have := het_le c N P (fun _ => true); have := hC.1.2.1; omega)]
    rfl
/-- the order of the three numbers -/
theorem x_ordered (h : RelC S M) : ∃ S' : CS, f_X6_areOrdered S = some (true, S') ∧ Fr [3, 12, 13] S S' := by
  obtain ⟨P, N, c, cf, de, A, B, B', H, Z, hC, hT⟩ := h
  have hP := hC.1.2.1
  have hN24 := hC.1.2.2
  have hN : N ≤ 2 ^ P := fb_holes (2 ^ P) N c (fun i hi => hC.2.2.2.2.2.1 i hi) (fun i j h1 h2 e => by have := hC.2.2.2.2.2.2.1 i j (by omega) h2 e; omega)
  unfold f_X6_areOrdered
  rw [hC.2.2.1]
  by_cases e : 2 ≤ N
  · obtain ⟨S1, g1, g2⟩ := x_all hC true
    have hC1 := hC.frL g2 (by decide) (by decide) (by decide) (by decide)
    obtain ⟨S2, k1, k2⟩ := x_all hC1 false
    have ord := W_ord (c := c) hP hN (l := fun _ => true) (by rw [fb_ct_all.mpr (fun _ _ => rfl)]; omega)
    have dmw := dm_W (c := c) (N := N) hP (2 ^ P) (Nat.le_refl _)
    have b1 := WW_le (kd := true) (c := c) (N := N) (P := P) (fun _ => true)
    have b2 := WW_le (kd := false) (c := c) (N := N) (P := P) (fun _ => true)
    have nlt : ¬ nI (WW true c N P (fun _ => true)) < nI (dm c N (2 ^ P)) - 1 := by
      rw [fa_lt, pred_toInt (by omega), nI_toInt (by omega)]
      omega
    refine ⟨S2, ?_, g2.trans k2⟩
    rw [if_pos (show (2 : Int32) ≤ nI N from nI_le (a := 2) e (by omega))]
    unfold f_X6_forcedMistakes f_X6_leastDepth
    rw [show (1 : Int32) = q_b true from rfl, g1]
    simp only [Option.bind_some]
    rw [hC1.dimC]
    simp only [Option.bind_some]
    rw [if_neg nlt, show (0 : Int32) = q_b false from rfl, k1]
    simp only [Option.bind_some]
    rw [if_neg (nI_nlt ord (by omega))]
  · refine ⟨S, ?_, Fr.refl S⟩
    rw [if_neg (show ¬ (2 : Int32) ≤ nI N from nI_ge (b := 2) (by omega) (by decide))]
theorem x_honoured (h : RelC S M) : f_X5_isHonoured S = true := by
  obtain ⟨P, N, c, cf, de, A, B, B', H, Z, hC, hT⟩ := h
  obtain ⟨t1, t2, t3, t4, t5, t6, t7, t8, t9, t10, t11, t12, t13, t14, t15, t16, t17, t18⟩ := id hT
  unfold f_X5_isHonoured f_X5_isHonoured_29
  rw [t5]
  by_cases e : M.1 7 = 45
  · rw [if_pos e]
  · by_cases e2 : M.1 7 = 97
    · rw [if_neg e, if_pos e2]
    · have hkl : M.1 7 = 104 ∨ M.1 7 = 108 := by
        rcases t14 with f | f | f | f
        · exact absurd f e
        · exact Or.inl f
        · exact Or.inr f
        · exact absurd f e2
      obtain ⟨g1, g2, g3, g4⟩ := t16 hkl
      have hl : liv B cf de H = true := by
        unfold liv
        rw [g4]
        rcases hkl with f | f
        · rw [(t17 f).2, decide_eq_true (Nat.zero_le _)]; rfl
        · obtain ⟨_, _, z3, z4⟩ := t18 f
          rw [z4, decide_eq_true z3]; rfl
      rw [if_neg e, if_neg e2, g1, hC.isLiv hT.bB.2 hT.bB.1 g3, hl, if_neg (by decide)]
end PDQ
