/-! bitCount: what the JDK's bit tricks count -/
def fs (w : Nat) : (Nat → Nat) → Nat → Nat
  | _, 0 => 0
  | g, n + 1 => g 0 + 2 ^ w * fs w (fun k => g (k + 1)) n
theorem fs_succ (w : Nat) (g : Nat → Nat) (n : Nat) : fs w g (n + 1) = g 0 + 2 ^ w * fs w (fun k => g (k + 1)) n := rfl
theorem fs_add (w : Nat) : ∀ (n : Nat) (g h : Nat → Nat), fs w g n + fs w h n = fs w (fun k => g k + h k) n
  | 0, _, _ => rfl
  | n + 1, g, h => by
    rw [fs_succ, fs_succ, fs_succ, ← fs_add w n (fun k => g (k + 1)) (fun k => h (k + 1)), Nat.mul_add]
    omega
theorem fs_pair (w : Nat) : ∀ (n : Nat) (g : Nat → Nat), fs w g (2 * n) = fs (2 * w) (fun k => g (2 * k) + 2 ^ w * g (2 * k + 1)) n
  | 0, _ => rfl
  | n + 1, g => by
    show fs w g (2 * n + 1 + 1) = _
    rw [fs_succ, fs_succ, fs_succ, fs_pair w n (fun k => g (k + 1 + 1))]
    have e : 2 ^ (2 * w) = 2 ^ w * 2 ^ w := by rw [Nat.two_mul, Nat.pow_add]
    rw [e, Nat.mul_add, Nat.mul_assoc]
    have e2 : (fun k => g (2 * k + 1 + 1) + 2 ^ w * g (2 * k + 1 + 1 + 1)) = fun k => g (2 * (k + 1)) + 2 ^ w * g (2 * (k + 1) + 1) := rfl
    rw [e2]
    show g 0 + (2 ^ w * g (0 + 1) + _) = g (2 * 0) + 2 ^ w * g (2 * 0 + 1) + _
    rw [Nat.add_assoc]
theorem land_cat {k x m : Nat} (X M : Nat) (hx : x < 2 ^ k) (hm : m < 2 ^ k) : (x + 2 ^ k * X) &&& (m + 2 ^ k * M) = (x &&& m) + 2 ^ k * (X &&& M) := by
  apply Nat.eq_of_testBit_eq
  intro i
  have hxm : x &&& m < 2 ^ k := Nat.and_lt_two_pow x hm
  rw [Nat.testBit_and, Nat.add_comm x, Nat.add_comm m, Nat.add_comm (x &&& m), Nat.testBit_two_pow_mul_add X hx, Nat.testBit_two_pow_mul_add M hm, Nat.testBit_two_pow_mul_add (X &&& M) hxm]
  split
  · rw [Nat.testBit_and]
  · rw [Nat.testBit_and]
theorem low_and {w u v : Nat} (hu : u < 2 ^ w) : (u + 2 ^ w * v) &&& (2 ^ w - 1) = u := by
  rw [Nat.and_two_pow_sub_one_eq_mod, Nat.add_mul_mod_self_left, Nat.mod_eq_of_lt hu]
theorem pw2 (w : Nat) : 2 ^ (2 * w) = 2 ^ w * 2 ^ w := by rw [Nat.two_mul, Nat.pow_add]
theorem two_lt {w u v : Nat} (hu : u < 2 ^ w) (hv : v < 2 ^ w) : u + 2 ^ w * v < 2 ^ (2 * w) := by
  rw [pw2]
  have h : 2 ^ w * v + 2 ^ w ≤ 2 ^ w * 2 ^ w := by
    have := Nat.mul_le_mul_left (2 ^ w) (show v + 1 ≤ 2 ^ w by omega)
    rw [Nat.mul_succ] at this
    exact this
  omega
theorem fs_low (w : Nat) : ∀ (n : Nat) (u v : Nat → Nat), (∀ k, u k < 2 ^ w) → (∀ k, v k < 2 ^ w) → fs (2 * w) (fun k => u k + 2 ^ w * v k) n &&& fs (2 * w) (fun _ => 2 ^ w - 1) n = fs (2 * w) u n
  | 0, _, _, _, _ => Nat.and_zero 0
  | n + 1, u, v, hu, hv => by
    rw [fs_succ, fs_succ, fs_succ, land_cat _ _ (two_lt (hu 0) (hv 0)) (Nat.lt_of_lt_of_le (show 2 ^ w - 1 < 2 ^ w from Nat.sub_lt (Nat.two_pow_pos w) (by decide)) (Nat.pow_le_pow_right (by decide) (by omega))), low_and (hu 0), fs_low w n (fun k => u (k + 1)) (fun k => v (k + 1)) (fun k => hu _) (fun k => hv _)]
theorem fs_high (w : Nat) : ∀ (n : Nat) (u v : Nat → Nat), (∀ k, u k < 2 ^ w) → (∀ k, v k < 2 ^ w) → fs (2 * w) (fun k => u k + 2 ^ w * v k) n / 2 ^ w &&& fs (2 * w) (fun _ => 2 ^ w - 1) n = fs (2 * w) v n
  | 0, _, _, _, _ => by
    show 0 / 2 ^ w &&& 0 = 0
    rw [Nat.and_zero]
  | n + 1, u, v, hu, hv => by
    have ih := fs_high w n (fun k => u (k + 1)) (fun k => v (k + 1)) (fun k => hu _) (fun k => hv _)
    rw [fs_succ, fs_succ, fs_succ]
    generalize hT : fs (2 * w) (fun k => u (k + 1) + 2 ^ w * v (k + 1)) n = T at *
    have hp := Nat.two_pow_pos w
    have e1 : (u 0 + 2 ^ w * v 0 + 2 ^ (2 * w) * T) / 2 ^ w = (v 0 + 2 ^ w * (T % 2 ^ w)) + 2 ^ (2 * w) * (T / 2 ^ w) := by
      have e2 : u 0 + 2 ^ w * v 0 + 2 ^ (2 * w) * T = u 0 + 2 ^ w * (v 0 + 2 ^ w * T) := by
        rw [pw2, Nat.mul_add, Nat.mul_assoc, Nat.add_assoc]
      rw [e2, Nat.add_mul_div_left _ _ hp, Nat.div_eq_of_lt (hu 0), Nat.zero_add]
      have e3 := Nat.div_add_mod T (2 ^ w)
      rw [pw2]
      conv => lhs; rw [← e3, Nat.mul_add, ← Nat.mul_assoc]
      omega
    rw [e1, land_cat _ _ (two_lt (hv 0) (Nat.mod_lt _ hp)) (Nat.lt_of_lt_of_le (show 2 ^ w - 1 < 2 ^ w from Nat.sub_lt hp (by decide)) (Nat.pow_le_pow_right (by decide) (by omega))), low_and (hv 0), ih]
def nb (a k : Nat) : Nat := if a.testBit k then 1 else 0
theorem nb_le (a k : Nat) : nb a k ≤ 1 := by unfold nb; split <;> omega
theorem fs_bits : ∀ (n a : Nat), a < 2 ^ n → fs 1 (nb a) n = a
  | 0, a, h => by
    show 0 = a
    have : a < 1 := h
    omega
  | n + 1, a, h => by
    rw [fs_succ]
    have e : (fun k => nb a (k + 1)) = nb (a / 2) := funext fun k => by unfold nb; rw [Nat.testBit_add_one]
    rw [e, fs_bits n (a / 2) (by rw [Nat.pow_succ] at h; omega)]
    unfold nb
    rw [Nat.testBit_zero]
    rcases Nat.mod_two_eq_zero_or_one a with h2 | h2
    · rw [h2]; simp; omega
    · rw [h2]; simp; omega
theorem ct_nb (a : Nat) : ∀ n, fb_ct (fun k => a.testBit k) (n + 1) = fb_ct (fun k => a.testBit k) n + nb a n := fun n => rfl
/-- thirty-two bits -/
theorem fsm1 : fs 2 (fun _ => 1) 16 = 1431655765 := by decide +kernel
theorem fsm2 : fs 4 (fun _ => 3) 8 = 858993459 := by decide +kernel
theorem fsm3 : fs 8 (fun _ => 15) 4 = 252645135 := by decide +kernel
theorem fh1 (u v : Nat → Nat) (hu : ∀ k, u k < 2) (hv : ∀ k, v k < 2) : fs 2 (fun k => u k + 2 * v k) 16 / 2 &&& fs 2 (fun _ => 1) 16 = fs 2 v 16 := fs_high 1 16 u v hu hv
theorem fl2 (u v : Nat → Nat) (hu : ∀ k, u k < 4) (hv : ∀ k, v k < 4) : fs 4 (fun k => u k + 4 * v k) 8 &&& fs 4 (fun _ => 3) 8 = fs 4 u 8 := fs_low 2 8 u v hu hv
theorem fh2 (u v : Nat → Nat) (hu : ∀ k, u k < 4) (hv : ∀ k, v k < 4) : fs 4 (fun k => u k + 4 * v k) 8 / 4 &&& fs 4 (fun _ => 3) 8 = fs 4 v 8 := fs_high 2 8 u v hu hv
theorem fl3 (u v : Nat → Nat) (hu : ∀ k, u k < 16) (hv : ∀ k, v k < 16) : fs 8 (fun k => u k + 16 * v k) 4 &&& fs 8 (fun _ => 15) 4 = fs 8 u 4 := fs_low 4 4 u v hu hv
theorem fp1 (g : Nat → Nat) : fs 1 g 32 = fs 2 (fun k => g (2 * k) + 2 * g (2 * k + 1)) 16 := fs_pair 1 16 g
theorem fp2 (g : Nat → Nat) : fs 2 g 16 = fs 4 (fun k => g (2 * k) + 4 * g (2 * k + 1)) 8 := fs_pair 2 8 g
theorem pc_1 {a : Nat} (h : a < 2 ^ 32) : ∃ c : Nat → Nat, (∀ k, c k = nb a (2 * k) + nb a (2 * k + 1)) ∧ fs 2 c 16 + ((a / 2) &&& 1431655765) = a := by
  have hb : ∀ k, nb a k < 2 := fun k => Nat.lt_succ_of_le (nb_le a k)
  have ea : fs 2 (fun k => nb a (2 * k) + 2 * nb a (2 * k + 1)) 16 = a := (fp1 (nb a)).symm.trans (fs_bits 32 a h)
  have e1 : (a / 2) &&& 1431655765 = fs 2 (fun k => nb a (2 * k + 1)) 16 := by
    have := fh1 (fun k => nb a (2 * k)) (fun k => nb a (2 * k + 1)) (fun k => hb _) (fun k => hb _)
    rw [ea, fsm1] at this
    exact this
  refine ⟨fun k => nb a (2 * k) + nb a (2 * k + 1), fun _ => rfl, ?_⟩
  rw [e1, fs_add]
  refine Eq.trans (congrArg (fun z => fs 2 z 16) (funext fun k => ?_)) ea
  show nb a (2 * k) + nb a (2 * k + 1) + nb a (2 * k + 1) = nb a (2 * k) + 2 * nb a (2 * k + 1)
  omega
theorem pc_2 {c : Nat → Nat} (c1 : ∀ k, c k ≤ 2) : ∃ d : Nat → Nat, (∀ k, d k = c (2 * k) + c (2 * k + 1)) ∧ (fs 2 c 16 &&& 858993459) + (fs 2 c 16 / 4 &&& 858993459) = fs 4 d 8 := by
  have hc4 : ∀ k, c k < 4 := fun k => Nat.lt_of_le_of_lt (c1 k) (by decide)
  have ep := fp2 c
  have l2 : fs 2 c 16 &&& 858993459 = fs 4 (fun k => c (2 * k)) 8 := by
    have := fl2 (fun k => c (2 * k)) (fun k => c (2 * k + 1)) (fun k => hc4 _) (fun k => hc4 _)
    rw [← ep, fsm2] at this
    exact this
  have h2 : fs 2 c 16 / 4 &&& 858993459 = fs 4 (fun k => c (2 * k + 1)) 8 := by
    have := fh2 (fun k => c (2 * k)) (fun k => c (2 * k + 1)) (fun k => hc4 _) (fun k => hc4 _)
    rw [← ep, fsm2] at this
    exact this
  refine ⟨fun k => c (2 * k) + c (2 * k + 1), fun _ => rfl, ?_⟩
  rw [l2, h2, fs_add]
theorem fs_8 (d : Nat → Nat) : fs 4 d 8 = d 0 + 16 * (d 1 + 16 * (d 2 + 16 * (d 3 + 16 * (d 4 + 16 * (d 5 + 16 * (d 6 + 16 * (d 7 + 16 * 0))))))) := by
  simp only [fs, Nat.reducePow, Nat.reduceAdd]
theorem fs_4 (e : Nat → Nat) : fs 8 e 4 = e 0 + 256 * (e 1 + 256 * (e 2 + 256 * (e 3 + 256 * 0))) := by
  simp only [fs, Nat.reducePow, Nat.reduceAdd]
def vv (d : Nat → Nat) (k : Nat) : Nat := if k < 3 then d (2 * k + 1) + d (2 * k + 2) else if k = 3 then d 7 else 0
theorem pc_3 {d : Nat → Nat} (d1 : ∀ k, d k ≤ 4) : (fs 4 d 8 + fs 4 d 8 / 16) &&& 252645135 = (d 0 + d 1) + 256 * ((d 2 + d 3) + 256 * ((d 4 + d 5) + 256 * ((d 6 + d 7) + 256 * 0))) := by
  have vk : ∀ k, vv d k < 16 := fun k => by
    have := d1 (2 * k + 1); have := d1 (2 * k + 2); have := d1 7
    unfold vv
    split
    · omega
    · split <;> omega
  have hu : ∀ k, (fun k => d (2 * k) + d (2 * k + 1)) k < 16 := fun k => by
    have := d1 (2 * k); have := d1 (2 * k + 1)
    show d (2 * k) + d (2 * k + 1) < 16
    omega
  have h3 := fl3 (fun k => d (2 * k) + d (2 * k + 1)) (vv d) hu vk
  rw [fsm3, fs_4, fs_4] at h3
  have v0 : vv d 0 = d 1 + d 2 := rfl
  have v1 : vv d 1 = d 3 + d 4 := rfl
  have v2 : vv d 2 = d 5 + d 6 := rfl
  have v3 : vv d 3 = d 7 := rfl
  simp only [v0, v1, v2, v3, Nat.reduceMul, Nat.reduceAdd] at h3
  have q0 := d1 0
  have q1 := d1 1
  have q2 := d1 2
  have q3 := d1 3
  have q4 := d1 4
  have q5 := d1 5
  have q6 := d1 6
  have q7 := d1 7
  rw [← h3, fs_8]
  generalize d 0 = z0 at *
  generalize d 1 = z1 at *
  generalize d 2 = z2 at *
  generalize d 3 = z3 at *
  generalize d 4 = z4 at *
  generalize d 5 = z5 at *
  generalize d 6 = z6 at *
  generalize d 7 = z7 at *
  have hx : (z0 + 16 * (z1 + 16 * (z2 + 16 * (z3 + 16 * (z4 + 16 * (z5 + 16 * (z6 + 16 * (z7 + 16 * 0)))))))) + (z0 + 16 * (z1 + 16 * (z2 + 16 * (z3 + 16 * (z4 + 16 * (z5 + 16 * (z6 + 16 * (z7 + 16 * 0)))))))) / 16 = z0 + z1 + 16 * (z1 + z2) + 256 * (z2 + z3 + 16 * (z3 + z4) + 256 * (z4 + z5 + 16 * (z5 + z6) + 256 * (z6 + z7 + 16 * z7 + 256 * 0))) := by omega
  rw [hx]
theorem pc_4 {a b c d : Nat} (ha : a ≤ 8) (hb : b ≤ 8) (hc : c ≤ 8) (hd : d ≤ 8) {y : Nat} (hy : y = a + 256 * (b + 256 * (c + 256 * (d + 256 * 0)))) : ((y + y / 256) + (y + y / 256) / 65536) % 64 = a + b + (c + d) := by
  have h1 : y / 256 = b + 256 * (c + 256 * d) := by omega
  have h2 : (y + y / 256) / 65536 = (c + d) + 256 * d := by omega
  rw [h2, h1]
  omega
theorem ct_32 (a : Nat) : fb_ct (fun k => a.testBit k) 32 = (nb a 0 + nb a 1 + (nb a 2 + nb a 3) + (nb a 4 + nb a 5 + (nb a 6 + nb a 7))) + (nb a 8 + nb a 9 + (nb a 10 + nb a 11) + (nb a 12 + nb a 13 + (nb a 14 + nb a 15))) + ((nb a 16 + nb a 17 + (nb a 18 + nb a 19) + (nb a 20 + nb a 21 + (nb a 22 + nb a 23))) + (nb a 24 + nb a 25 + (nb a 26 + nb a 27) + (nb a 28 + nb a 29 + (nb a 30 + nb a 31)))) := by
  have e : fb_ct (fun k => a.testBit k) 32 = ((((((((((((((((((((((((((((((((0 + nb a 0) + nb a 1) + nb a 2) + nb a 3) + nb a 4) + nb a 5) + nb a 6) + nb a 7) + nb a 8) + nb a 9) + nb a 10) + nb a 11) + nb a 12) + nb a 13) + nb a 14) + nb a 15) + nb a 16) + nb a 17) + nb a 18) + nb a 19) + nb a 20) + nb a 21) + nb a 22) + nb a 23) + nb a 24) + nb a 25) + nb a 26) + nb a 27) + nb a 28) + nb a 29) + nb a 30) + nb a 31) := rfl
  rw [e]
  omega
/-- thirty-two bits -/
theorem pc32 {a : Nat} (h : a < 2 ^ 32) : ∃ y1 y2 y3 : Nat, a - ((a / 2) &&& 1431655765) = y1 ∧ (a / 2) &&& 1431655765 ≤ a ∧ y1 < 2 ^ 32 ∧ (y1 &&& 858993459) + ((y1 / 4) &&& 858993459) = y2 ∧ y2 < 2 ^ 31 ∧ (y2 + y2 / 16) &&& 252645135 = y3 ∧ y3 < 2 ^ 28 ∧ ((y3 + y3 / 256) + (y3 + y3 / 256) / 65536) % 64 = fb_ct (fun k => a.testBit k) 32 := by
  obtain ⟨c, ck, e1⟩ := pc_1 h
  have b1 := nb_le a
  have c1 : ∀ k, c k ≤ 2 := fun k => by have := b1 (2 * k); have := b1 (2 * k + 1); rw [ck]; omega
  obtain ⟨d, dk, e2⟩ := pc_2 c1
  have d1 : ∀ k, d k ≤ 4 := fun k => by have := c1 (2 * k); have := c1 (2 * k + 1); rw [dk]; omega
  have e3 := pc_3 d1
  have q0 := d1 0
  have q1 := d1 1
  have q2 := d1 2
  have q3 := d1 3
  have q4 := d1 4
  have q5 := d1 5
  have q6 := d1 6
  have q7 := d1 7
  have hb : fs 4 d 8 < 2 ^ 31 := by rw [fs_8]; omega
  have e4 := pc_4 (a := d 0 + d 1) (b := d 2 + d 3) (c := d 4 + d 5) (d := d 6 + d 7) (by omega) (by omega) (by omega) (by omega) rfl
  refine ⟨fs 2 c 16, fs 4 d 8, _, by omega, by omega, by omega, e2, hb, e3, by omega, ?_⟩
  rw [e4, ct_32]
  simp only [dk, ck, Nat.reduceMul, Nat.reduceAdd]
theorem ushr_nI {a k : Nat} (ha : a < 2 ^ 32) (hk : k < 32) : ((nI a).toUInt32 >>> ((nI k).toUInt32 &&& Int32.toUInt32 31)).toInt32 = nI (a / 2 ^ k) := by
  apply b_ext
  intro i hi
  rw [b_ushr k hk, bt_nI _ hi, Nat.testBit_div_two_pow]
  by_cases h : k + i < 32
  · rw [bt_nI _ h, Nat.add_comm]
  · rw [b_big (by omega), Nat.testBit_lt_two_pow (Nat.lt_of_lt_of_le ha (Nat.pow_le_pow_right (by decide) (by omega)))]
theorem nI_sub {a b : Nat} (h : b ≤ a) : nI a - nI b = nI (a - b) := by
  have e : nI a = nI (a - b) + nI b := by rw [nI_add, Nat.sub_add_cancel h]
  rw [e, Int32.add_sub_cancel]
theorem bitCount_nI {a : Nat} (h : a < 2 ^ 32) : f_J6_bitCount_0f7a4 (nI a) = nI (fb_ct (fun k => a.testBit k) 32) := by
  obtain ⟨y1, y2, y3, h1, h0, h1l, h2, h2l, h3, h3l, h4⟩ := pc32 h
  have u1 := ushr_nI (k := 1) h (by decide)
  have u2 := ushr_nI (k := 2) h1l (by decide)
  have u3 := ushr_nI (a := y2) (k := 4) (by omega) (by decide)
  have u4 := ushr_nI (a := y3) (k := 8) (by omega) (by decide)
  have u5 := ushr_nI (a := y3 + y3 / 256) (k := 16) (by omega) (by decide)
  unfold f_J6_bitCount_0f7a4 f_J6_bitCount_0f7a4_10 f_J6_bitCount_0f7a4_24 f_J6_bitCount_0f7a4_34 f_J6_bitCount_0f7a4_41 f_J6_bitCount_0f7a4_48
  simp only [nI_lit] at *
  rw [u1, nI_and, nI_sub h0, h1, u2, nI_and, nI_and, nI_add, h2, u3, nI_add, nI_and, h3, u4, nI_add, u5, nI_add, nI_and]
  congr 1
  rw [show (63 : Nat) = 2 ^ 6 - 1 from rfl, Nat.and_two_pow_sub_one_eq_mod]
  exact h4
/-- of a mask -/
theorem ct_pm (f : Nat → Bool) {n m : Nat} (h : n ≤ m) : fb_ct (fun k => (pm f n).testBit k) m = fb_ct f n := by
  have e : fb_ct (fun k => (pm f n).testBit k) m = fb_ct (fun k => decide (k < n) && f k) m := fb_ct_cong (fun k _ => pm_bit f k n)
  obtain ⟨d, rfl⟩ : ∃ d, m = n + d := ⟨m - n, by omega⟩
  rw [e, fb_ct_split, fb_ct_cong (p := fun k => decide (n + k < n) && f (n + k)) (q := fun _ => false) (fun k _ => by rw [decide_eq_false (by omega), Bool.false_and]), (fb_ct_zero (p := fun _ => false) (n := d)).mpr (fun _ _ => rfl), Nat.add_zero]
  exact fb_ct_cong (fun k hk => by rw [decide_eq_true hk, Bool.true_and])
theorem bitCount_pm (f : Nat → Bool) {n : Nat} (h : n ≤ 32) : f_J6_bitCount_0f7a4 (nI (pm f n)) = nI (fb_ct f n) := by
  rw [bitCount_nI (Nat.lt_of_lt_of_le (pm_lt f n) (Nat.pow_le_pow_right (by decide) h)), ct_pm f h]
