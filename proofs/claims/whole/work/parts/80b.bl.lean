/-! bitCount of sixty-four bits -/
theorem gsm1 : fs 2 (fun _ => 1) 32 = 6148914691236517205 := by decide +kernel
theorem gsm2 : fs 4 (fun _ => 3) 16 = 3689348814741910323 := by decide +kernel
theorem gsm3 : fs 8 (fun _ => 15) 8 = 1085102592571150095 := by decide +kernel
theorem gh1 (u v : Nat → Nat) (hu : ∀ k, u k < 2) (hv : ∀ k, v k < 2) : fs 2 (fun k => u k + 2 * v k) 32 / 2 &&& fs 2 (fun _ => 1) 32 = fs 2 v 32 := fs_high 1 32 u v hu hv
theorem gl2 (u v : Nat → Nat) (hu : ∀ k, u k < 4) (hv : ∀ k, v k < 4) : fs 4 (fun k => u k + 4 * v k) 16 &&& fs 4 (fun _ => 3) 16 = fs 4 u 16 := fs_low 2 16 u v hu hv
theorem gh2 (u v : Nat → Nat) (hu : ∀ k, u k < 4) (hv : ∀ k, v k < 4) : fs 4 (fun k => u k + 4 * v k) 16 / 4 &&& fs 4 (fun _ => 3) 16 = fs 4 v 16 := fs_high 2 16 u v hu hv
theorem gl3 (u v : Nat → Nat) (hu : ∀ k, u k < 16) (hv : ∀ k, v k < 16) : fs 8 (fun k => u k + 16 * v k) 8 &&& fs 8 (fun _ => 15) 8 = fs 8 u 8 := fs_low 4 8 u v hu hv
theorem gp1 (g : Nat → Nat) : fs 1 g 64 = fs 2 (fun k => g (2 * k) + 2 * g (2 * k + 1)) 32 := fs_pair 1 32 g
theorem gp2 (g : Nat → Nat) : fs 2 g 32 = fs 4 (fun k => g (2 * k) + 4 * g (2 * k + 1)) 16 := fs_pair 2 16 g
theorem qc_1 {a : Nat} (h : a < 2 ^ 64) : ∃ c : Nat → Nat, (∀ k, c k = nb a (2 * k) + nb a (2 * k + 1)) ∧ fs 2 c 32 + ((a / 2) &&& 6148914691236517205) = a := by
  have hb : ∀ k, nb a k < 2 := fun k => Nat.lt_succ_of_le (nb_le a k)
  have ea : fs 2 (fun k => nb a (2 * k) + 2 * nb a (2 * k + 1)) 32 = a := (gp1 (nb a)).symm.trans (fs_bits 64 a h)
  have e1 : (a / 2) &&& 6148914691236517205 = fs 2 (fun k => nb a (2 * k + 1)) 32 := by
    have := gh1 (fun k => nb a (2 * k)) (fun k => nb a (2 * k + 1)) (fun k => hb _) (fun k => hb _)
    rw [ea, gsm1] at this
    exact this
  refine ⟨fun k => nb a (2 * k) + nb a (2 * k + 1), fun _ => rfl, ?_⟩
  rw [e1, fs_add]
  refine Eq.trans (congrArg (fun z => fs 2 z 32) (funext fun k => ?_)) ea
  show nb a (2 * k) + nb a (2 * k + 1) + nb a (2 * k + 1) = nb a (2 * k) + 2 * nb a (2 * k + 1)
  omega
theorem qc_2 {c : Nat → Nat} (c1 : ∀ k, c k ≤ 2) : ∃ d : Nat → Nat, (∀ k, d k = c (2 * k) + c (2 * k + 1)) ∧ (fs 2 c 32 &&& 3689348814741910323) + (fs 2 c 32 / 4 &&& 3689348814741910323) = fs 4 d 16 := by
  have hc4 : ∀ k, c k < 4 := fun k => Nat.lt_of_le_of_lt (c1 k) (by decide)
  have ep := gp2 c
  have l2 : fs 2 c 32 &&& 3689348814741910323 = fs 4 (fun k => c (2 * k)) 16 := by
    have := gl2 (fun k => c (2 * k)) (fun k => c (2 * k + 1)) (fun k => hc4 _) (fun k => hc4 _)
    rw [← ep, gsm2] at this
    exact this
  have h2 : fs 2 c 32 / 4 &&& 3689348814741910323 = fs 4 (fun k => c (2 * k + 1)) 16 := by
    have := gh2 (fun k => c (2 * k)) (fun k => c (2 * k + 1)) (fun k => hc4 _) (fun k => hc4 _)
    rw [← ep, gsm2] at this
    exact this
  refine ⟨fun k => c (2 * k) + c (2 * k + 1), fun _ => rfl, ?_⟩
  rw [l2, h2, fs_add]
theorem fs_lt (w : Nat) : ∀ (n : Nat) (g : Nat → Nat), (∀ k, g k < 2 ^ w) → fs w g n < 2 ^ (w * n)
  | 0, _, _ => by
    show 0 < 2 ^ (w * 0)
    exact Nat.two_pow_pos _
  | n + 1, g, h => by
    rw [fs_succ, Nat.mul_succ, Nat.pow_add, Nat.mul_comm (2 ^ (w * n))]
    have ih := fs_lt w n (fun k => g (k + 1)) (fun k => h _)
    have h0 := h 0
    have := Nat.mul_le_mul_left (2 ^ w) (show fs w (fun k => g (k + 1)) n + 1 ≤ 2 ^ (w * n) by omega)
    rw [Nat.mul_succ] at this
    omega
theorem fs_mono (w : Nat) : ∀ (n : Nat) (g h : Nat → Nat), (∀ k, g k ≤ h k) → fs w g n ≤ fs w h n
  | 0, _, _, _ => Nat.le_refl 0
  | n + 1, g, h, H => by
    rw [fs_succ, fs_succ]
    exact Nat.add_le_add (H 0) (Nat.mul_le_mul_left _ (fs_mono w n _ _ (fun k => H _)))
def sh (g : Nat → Nat) (m k : Nat) : Nat := if k < m then g (k + 1) else 0
theorem fs_pad (w : Nat) : ∀ (n : Nat) (g : Nat → Nat), fs w g n = fs w (fun k => if k < n then g k else 0) (n + 1)
  | 0, g => rfl
  | n + 1, g => by
    rw [fs_succ, fs_succ w _ (n + 1), fs_pad w n (fun k => g (k + 1)), if_pos (Nat.succ_pos n)]
    have e : (fun k => if k < n then g (k + 1) else 0) = fun k => if k + 1 < n + 1 then g (k + 1) else 0 := funext fun k => by
      by_cases h : k < n
      · rw [if_pos h, if_pos (by omega)]
      · rw [if_neg h, if_neg (by omega)]
    rw [e]
theorem fs_div (w : Nat) (n : Nat) (g : Nat → Nat) (h : g 0 < 2 ^ w) : fs w g (n + 1) / 2 ^ w = fs w (sh g n) (n + 1) := by
  rw [fs_succ, Nat.add_mul_div_left _ _ (Nat.two_pow_pos w), Nat.div_eq_of_lt h, Nat.zero_add, fs_pad]
  rfl
theorem sh_le {g : Nat → Nat} {b : Nat} (h : ∀ k, g k ≤ b) (m k : Nat) : sh g m k ≤ b := by
  unfold sh
  split
  · exact h _
  · exact Nat.zero_le _
theorem qc_3 {d : Nat → Nat} (d1 : ∀ k, d k ≤ 4) : (fs 4 d 16 + fs 4 d 16 / 16) &&& 1085102592571150095 = fs 8 (fun k => d (2 * k) + sh d 15 (2 * k)) 8 := by
  have e1 : fs 4 d 16 / 16 = fs 4 (sh d 15) 16 := fs_div 4 15 d (Nat.lt_of_le_of_lt (d1 0) (by decide))
  have s1 := sh_le d1 15
  have h := gl3 (fun k => d (2 * k) + sh d 15 (2 * k)) (fun k => d (2 * k + 1) + sh d 15 (2 * k + 1)) (fun k => by
    have := d1 (2 * k); have := s1 (2 * k)
    show d (2 * k) + sh d 15 (2 * k) < 16
    omega) (fun k => by
    have := d1 (2 * k + 1); have := s1 (2 * k + 1)
    show d (2 * k + 1) + sh d 15 (2 * k + 1) < 16
    omega)
  have e2 : fs 4 (fun k => d k + sh d 15 k) 16 = fs 8 (fun k => d (2 * k) + sh d 15 (2 * k) + 16 * (d (2 * k + 1) + sh d 15 (2 * k + 1))) 8 := fs_pair 4 8 (fun k => d k + sh d 15 k)
  rw [e1, fs_add, e2]
  rw [gsm3] at h
  exact h
theorem fs_d1 {e : Nat → Nat} (h : ∀ k, e k < 256) : fs 8 e 8 / 256 = fs 8 (sh e 7) 8 := fs_div 8 7 e (h 0)
theorem qc_4 {e : Nat → Nat} (h8 : ∀ k, e k ≤ 8) {y : Nat} (hy : y = fs 8 e 8) : y + y / 256 < 2 ^ 64 ∧ (y + y / 256) + (y + y / 256) / 65536 < 2 ^ 64 ∧ (((y + y / 256) + (y + y / 256) / 65536) + ((y + y / 256) + (y + y / 256) / 65536) / 4294967296) % 128 = e 0 + e 1 + (e 2 + e 3) + (e 4 + e 5 + (e 6 + e 7)) := by
  subst hy
  have s0 := sh_le h8 7
  rw [fs_d1 (fun k => Nat.lt_of_le_of_lt (h8 k) (by decide)), fs_add]
  obtain ⟨e1, he1⟩ : ∃ e1 : Nat → Nat, e1 = fun k => e k + sh e 7 k := ⟨_, rfl⟩
  have b1 : ∀ k, e1 k ≤ 16 := fun k => by rw [he1]; have := h8 k; have := s0 k; show e k + sh e 7 k ≤ 16; omega
  rw [← he1]
  have d2 : fs 8 e1 8 / 65536 = fs 8 (sh (sh e1 7) 7) 8 := by
    rw [show (65536 : Nat) = 256 * 256 from rfl, ← Nat.div_div_eq_div_mul, fs_d1 (fun k => Nat.lt_of_le_of_lt (b1 k) (by decide)), fs_d1 (fun k => Nat.lt_of_le_of_lt (sh_le b1 7 k) (by decide))]
  rw [d2, fs_add]
  obtain ⟨e2, he2⟩ : ∃ e2 : Nat → Nat, e2 = fun k => e1 k + sh (sh e1 7) 7 k := ⟨_, rfl⟩
  have b2 : ∀ k, e2 k ≤ 32 := fun k => by rw [he2]; have := b1 k; have := sh_le (sh_le b1 7) 7 k; show e1 k + sh (sh e1 7) 7 k ≤ 32; omega
  rw [← he2]
  have t0 := sh_le b2 7
  have t1 := sh_le t0 7
  have t2 := sh_le t1 7
  have t3 := sh_le t2 7
  have d3 : fs 8 e2 8 / 4294967296 = fs 8 (sh (sh (sh (sh e2 7) 7) 7) 7) 8 := by
    rw [show (4294967296 : Nat) = 256 * 256 * 256 * 256 from rfl, ← Nat.div_div_eq_div_mul, ← Nat.div_div_eq_div_mul, ← Nat.div_div_eq_div_mul, fs_d1 (fun k => Nat.lt_of_le_of_lt (b2 k) (by decide)), fs_d1 (fun k => Nat.lt_of_le_of_lt (t0 k) (by decide)), fs_d1 (fun k => Nat.lt_of_le_of_lt (t1 k) (by decide)), fs_d1 (fun k => Nat.lt_of_le_of_lt (t2 k) (by decide))]
  rw [d3, fs_add]
  refine ⟨fs_lt 8 8 e1 (fun k => Nat.lt_of_le_of_lt (b1 k) (by decide)), fs_lt 8 8 e2 (fun k => Nat.lt_of_le_of_lt (b2 k) (by decide)), ?_⟩
  rw [fs_succ, show (2 : Nat) ^ 8 = 128 * 2 from rfl, Nat.mul_assoc, Nat.add_mul_mod_self_left, Nat.mod_eq_of_lt (by have := b2 0; have := t3 0; omega)]
  have f2 : ∀ k, e2 k = e1 k + sh (sh e1 7) 7 k := fun k => by rw [he2]
  have f1 : ∀ k, e1 k = e k + sh e 7 k := fun k => by rw [he1]
  show e2 0 + e2 4 = _
  rw [f2, f2]
  show e1 0 + e1 2 + (e1 4 + e1 6) = _
  rw [f1, f1, f1, f1]
  rfl
theorem ct_64 (a : Nat) : fb_ct (fun k => a.testBit k) 64 = ((((((nb a 0 + nb a 1) + (nb a 2 + nb a 3)) + ((nb a 4 + nb a 5) + (nb a 6 + nb a 7))) + (((nb a 8 + nb a 9) + (nb a 10 + nb a 11)) + ((nb a 12 + nb a 13) + (nb a 14 + nb a 15)))) + ((((nb a 16 + nb a 17) + (nb a 18 + nb a 19)) + ((nb a 20 + nb a 21) + (nb a 22 + nb a 23))) + (((nb a 24 + nb a 25) + (nb a 26 + nb a 27)) + ((nb a 28 + nb a 29) + (nb a 30 + nb a 31))))) + (((((nb a 32 + nb a 33) + (nb a 34 + nb a 35)) + ((nb a 36 + nb a 37) + (nb a 38 + nb a 39))) + (((nb a 40 + nb a 41) + (nb a 42 + nb a 43)) + ((nb a 44 + nb a 45) + (nb a 46 + nb a 47)))) + ((((nb a 48 + nb a 49) + (nb a 50 + nb a 51)) + ((nb a 52 + nb a 53) + (nb a 54 + nb a 55))) + (((nb a 56 + nb a 57) + (nb a 58 + nb a 59)) + ((nb a 60 + nb a 61) + (nb a 62 + nb a 63)))))) := by
  have e : fb_ct (fun k => a.testBit k) 64 = ((((((((((((((((((((((((((((((((((((((((((((((((((((((((((((((((0 + nb a 0) + nb a 1) + nb a 2) + nb a 3) + nb a 4) + nb a 5) + nb a 6) + nb a 7) + nb a 8) + nb a 9) + nb a 10) + nb a 11) + nb a 12) + nb a 13) + nb a 14) + nb a 15) + nb a 16) + nb a 17) + nb a 18) + nb a 19) + nb a 20) + nb a 21) + nb a 22) + nb a 23) + nb a 24) + nb a 25) + nb a 26) + nb a 27) + nb a 28) + nb a 29) + nb a 30) + nb a 31) + nb a 32) + nb a 33) + nb a 34) + nb a 35) + nb a 36) + nb a 37) + nb a 38) + nb a 39) + nb a 40) + nb a 41) + nb a 42) + nb a 43) + nb a 44) + nb a 45) + nb a 46) + nb a 47) + nb a 48) + nb a 49) + nb a 50) + nb a 51) + nb a 52) + nb a 53) + nb a 54) + nb a 55) + nb a 56) + nb a 57) + nb a 58) + nb a 59) + nb a 60) + nb a 61) + nb a 62) + nb a 63) := rfl
  rw [e]
  omega
theorem qc64 {a : Nat} (h : a < 2 ^ 64) : ∃ y1 y2 y3 : Nat, a - ((a / 2) &&& 6148914691236517205) = y1 ∧ (a / 2) &&& 6148914691236517205 ≤ a ∧ y1 < 2 ^ 64 ∧ (y1 &&& 3689348814741910323) + ((y1 / 4) &&& 3689348814741910323) = y2 ∧ y2 < 2 ^ 63 ∧ (y2 + y2 / 16) &&& 1085102592571150095 = y3 ∧ y3 < 2 ^ 64 ∧ y3 + y3 / 256 < 2 ^ 64 ∧ (y3 + y3 / 256) + (y3 + y3 / 256) / 65536 < 2 ^ 64 ∧ (((y3 + y3 / 256) + (y3 + y3 / 256) / 65536) + ((y3 + y3 / 256) + (y3 + y3 / 256) / 65536) / 4294967296) % 128 = fb_ct (fun k => a.testBit k) 64 := by
  obtain ⟨c, ck, e1⟩ := qc_1 h
  have b1 := nb_le a
  have c1 : ∀ k, c k ≤ 2 := fun k => by have := b1 (2 * k); have := b1 (2 * k + 1); rw [ck]; omega
  obtain ⟨d, dk, e2⟩ := qc_2 c1
  have d1 : ∀ k, d k ≤ 4 := fun k => by have := c1 (2 * k); have := c1 (2 * k + 1); rw [dk]; omega
  have e3 := qc_3 d1
  have hb1 : fs 2 c 32 ≤ a := by omega
  have hb : fs 4 d 16 < 2 ^ 63 := Nat.lt_of_le_of_lt (fs_mono 4 16 d (fun _ => 4) d1) (by decide +kernel)
  have k8 : ∀ k, (fun k => d (2 * k) + sh d 15 (2 * k)) k ≤ 8 := fun k => by
    have := d1 (2 * k); have := sh_le d1 15 (2 * k)
    show d (2 * k) + sh d 15 (2 * k) ≤ 8
    omega
  obtain ⟨g1, g2, g3⟩ := qc_4 k8 rfl
  refine ⟨fs 2 c 32, fs 4 d 16, _, by omega, by omega, by omega, e2, hb, e3, fs_lt 8 8 _ (fun k => Nat.lt_of_le_of_lt (k8 k) (by decide)), g1, g2, ?_⟩
  rw [g3, ct_64]
  show d 0 + d 1 + (d 2 + d 3) + (d 4 + d 5 + (d 6 + d 7)) + (d 8 + d 9 + (d 10 + d 11) + (d 12 + d 13 + (d 14 + d 15))) = _
  simp only [dk, ck, Nat.reduceMul, Nat.reduceAdd]
theorem lN_sub' {a b : Nat} (h : b ≤ a) : lN a - lN b = lN (a - b) := by
  have e : lN a = lN (a - b) + lN b := by rw [lN_add, Nat.sub_add_cancel h]
  rw [e, Int64.add_sub_cancel]
theorem lN_32 (a : Nat) : (lN a).toInt32 = nI a := by
  apply b_ext
  intro i hi
  rw [bt_nI _ hi]
  show ((lN a).toBitVec.signExtend 32).getLsbD i = _
  rw [wb_tb, BitVec.getLsbD_signExtend, BitVec.getLsbD_ofNat]
  simp [hi, show i < 64 by omega]
theorem bitCount_lN {a : Nat} (h : a < 2 ^ 64) : f_J13_bitCount_95d88 (lN a) = nI (fb_ct (fun k => a.testBit k) 64) := by
  obtain ⟨y1, y2, y3, h1, h0, h1l, h2, h2l, h3, h3l, g1, g2, h4⟩ := qc64 h
  have u1 := wb_shr (k := 1) h (by decide)
  have u2 := wb_shr (k := 2) h1l (by decide)
  have u3 := wb_shr (n := y2) (k := 4) (by omega) (by decide)
  have u4 := wb_shr (n := y3) (k := 8) h3l (by decide)
  have u5 := wb_shr (n := y3 + y3 / 256) (k := 16) g1 (by decide)
  have u6 := wb_shr (n := (y3 + y3 / 256) + (y3 + y3 / 256) / 65536) (k := 32) g2 (by decide)
  have dl : ∀ {x k : Nat}, x < 2 ^ 64 → x / k < 2 ^ 64 := fun hx => Nat.lt_of_le_of_lt (Nat.div_le_self _ _) hx
  unfold f_J13_bitCount_95d88 f_J13_bitCount_95d88_10 f_J13_bitCount_95d88_24 f_J13_bitCount_95d88_34 f_J13_bitCount_95d88_41 f_J13_bitCount_95d88_48 f_J13_bitCount_95d88_55
  rw [show (6148914691236517205 : Int64) = lN 6148914691236517205 from rfl, show (3689348814741910323 : Int64) = lN 3689348814741910323 from rfl, show (1085102592571150095 : Int64) = lN 1085102592571150095 from rfl]
  simp only [nI_lit] at *
  rw [u1, wb_and (dl h) (by decide), lN_sub' h0, h1, u2, wb_and h1l (by decide), wb_and (dl h1l) (by decide), lN_add, h2, u3, lN_add, wb_and (by omega) (by decide), h3, u4, lN_add, u5, lN_add, u6, lN_add, lN_32, nI_and]
  congr 1
  rw [show (127 : Nat) = 2 ^ 7 - 1 from rfl, Nat.and_two_pow_sub_one_eq_mod]
  exact h4
theorem bitCount_pm64 (f : Nat → Bool) {n : Nat} (h : n ≤ 64) : f_J13_bitCount_95d88 (lN (pm f n)) = nI (fb_ct f n) := by
  rw [bitCount_lN (Nat.lt_of_lt_of_le (pm_lt f n) (Nat.pow_le_pow_right (by decide) h)), ct_pm f h]
