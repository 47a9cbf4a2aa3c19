/-! how many bits: Integer.bitCount -/
theorem land_add {k a b m n : Nat} (ha : a < 2 ^ k) (hm : m < 2 ^ k) : (2 ^ k * b + a) &&& (2 ^ k * n + m) = 2 ^ k * (b &&& n) + (a &&& m) := by
  apply Nat.eq_of_testBit_eq
  intro i
  rw [Nat.testBit_and, Nat.testBit_two_pow_mul_add _ ha, Nat.testBit_two_pow_mul_add _ hm, Nat.testBit_two_pow_mul_add _ (Nat.and_lt_two_pow a hm)]
  split <;> rw [Nat.testBit_and]
theorem land_lo {k a b m : Nat} (ha : a < 2 ^ k) (hm : m < 2 ^ k) : (2 ^ k * b + a) &&& m = a &&& m := by
  have h := land_add (k := k) (b := b) (n := 0) ha hm
  rw [Nat.mul_zero, Nat.zero_add, Nat.and_zero, Nat.mul_zero, Nat.zero_add] at h
  exact h
/-- the three steps, on a part of 8, 16 or 32 bits (their masks) -/
def pA (m X : Nat) : Nat := X - (X / 2 &&& m)
def pB (m X : Nat) : Nat := (X &&& m) + (X / 4 &&& m)
def pC (m X : Nat) : Nat := (X + X / 16) &&& m
theorem pA_8 : ∀ a, a < 256 → (a / 2 &&& 85) ≤ a ∧ pA 85 a < 256 := by decide +kernel
theorem pB_8 : ∀ a, a < 256 → pB 51 (pA 85 a) ≤ 68 ∧ pB 51 (pA 85 a) % 16 ≤ 4 ∧ (pA 85 a &&& 51) + (pA 85 a / 4 &&& 51) < 256 := by decide +kernel
theorem pA_add {k a b m n : Nat} (hk : 0 < k) (ha : a < 2 ^ k) (hm : m < 2 ^ (k - 1)) (h1 : (a / 2 &&& m) ≤ a) (h2 : (b / 2 &&& n) ≤ b) : pA (2 ^ k * n + m) (2 ^ k * b + a) = 2 ^ k * pA n b + pA m a := by
  obtain ⟨j, rfl⟩ : ∃ j, k = j + 1 := ⟨k - 1, by omega⟩
  rw [Nat.add_sub_cancel] at hm
  have hp : 2 ^ (j + 1) = 2 ^ j * 2 := Nat.pow_succ 2 j
  have e1 : (2 ^ (j + 1) * b + a) / 2 = 2 ^ (j + 1) * (b / 2) + (2 ^ j * (b % 2) + a / 2) := by
    have hb : b = 2 * (b / 2) + b % 2 := by omega
    have : 2 ^ (j + 1) * b = 2 * (2 ^ j * b) := by rw [hp, Nat.mul_right_comm, Nat.mul_comm]
    have h3 : 2 ^ j * b = 2 ^ (j + 1) * (b / 2) + 2 ^ j * (b % 2) := by
      rw [hp, Nat.mul_assoc, ← Nat.mul_add, ← hb]
    omega
  have hlt : 2 ^ j * (b % 2) + a / 2 < 2 ^ (j + 1) := by
    have : a / 2 < 2 ^ j := by omega
    have h4 : 2 ^ j * (b % 2) ≤ 2 ^ j * 1 := Nat.mul_le_mul_left _ (by omega)
    omega
  unfold pA
  rw [e1, land_add hlt (by omega), land_lo (show a / 2 < 2 ^ j by omega) hm, Nat.mul_sub]
  have h5 : 2 ^ (j + 1) * (b / 2 &&& n) ≤ 2 ^ (j + 1) * b := Nat.mul_le_mul_left _ h2
  omega
theorem pB_add {k a b m n : Nat} (hk : 2 ≤ k) (ha : a < 2 ^ k) (hm : m < 2 ^ (k - 2)) : pB (2 ^ k * n + m) (2 ^ k * b + a) = 2 ^ k * pB n b + pB m a := by
  obtain ⟨j, rfl⟩ : ∃ j, k = j + 2 := ⟨k - 2, by omega⟩
  rw [Nat.add_sub_cancel] at hm
  have hp : 2 ^ (j + 2) = 2 ^ j * 4 := by rw [Nat.pow_add]
  have e1 : (2 ^ (j + 2) * b + a) / 4 = 2 ^ (j + 2) * (b / 4) + (2 ^ j * (b % 4) + a / 4) := by
    have hb : b = 4 * (b / 4) + b % 4 := by omega
    have : 2 ^ (j + 2) * b = 4 * (2 ^ j * b) := by rw [hp, Nat.mul_right_comm, Nat.mul_comm]
    have h3 : 2 ^ j * b = 2 ^ (j + 2) * (b / 4) + 2 ^ j * (b % 4) := by
      rw [hp, Nat.mul_assoc, ← Nat.mul_add, ← hb]
    omega
  have hlt : 2 ^ j * (b % 4) + a / 4 < 2 ^ (j + 2) := by
    have : a / 4 < 2 ^ j := by omega
    have h4 : 2 ^ j * (b % 4) ≤ 2 ^ j * 3 := Nat.mul_le_mul_left _ (by omega)
    omega
  unfold pB
  rw [e1, land_add ha (by omega), land_add hlt (by omega), land_lo (show a / 4 < 2 ^ j by omega) hm, Nat.mul_add]
  omega
theorem pC_add {k a b m n : Nat} (hk : 4 ≤ k) (ha : a < 2 ^ k) (hb : b % 16 ≤ 4) (hs : a + a / 16 + 2 ^ (k - 4) * 4 < 2 ^ k) (hm : m < 2 ^ (k - 4)) : pC (2 ^ k * n + m) (2 ^ k * b + a) = 2 ^ k * pC n b + pC m a := by
  obtain ⟨j, rfl⟩ : ∃ j, k = j + 4 := ⟨k - 4, by omega⟩
  rw [Nat.add_sub_cancel] at hm hs
  have hp : 2 ^ (j + 4) = 2 ^ j * 16 := by rw [Nat.pow_add]
  have e1 : (2 ^ (j + 4) * b + a) / 16 = 2 ^ (j + 4) * (b / 16) + (2 ^ j * (b % 16) + a / 16) := by
    have hb : b = 16 * (b / 16) + b % 16 := by omega
    have : 2 ^ (j + 4) * b = 16 * (2 ^ j * b) := by rw [hp, Nat.mul_right_comm, Nat.mul_comm]
    have h3 : 2 ^ j * b = 2 ^ (j + 4) * (b / 16) + 2 ^ j * (b % 16) := by
      rw [hp, Nat.mul_assoc, ← Nat.mul_add, ← hb]
    omega
  have h4 : 2 ^ j * (b % 16) ≤ 2 ^ j * 4 := Nat.mul_le_mul_left _ hb
  unfold pC
  have e2 : 2 ^ (j + 4) * b + a + (2 ^ (j + 4) * b + a) / 16 = 2 ^ (j + 4) * (b + b / 16) + (2 ^ j * (b % 16) + (a + a / 16)) := by
    rw [e1, Nat.mul_add]
    omega
  rw [e2, land_add (by omega) (by omega)]
  congr 1
  have e3 : 2 ^ j * (b % 16) + (a + a / 16) = 2 ^ j * (b % 16 + (a + a / 16) / 2 ^ j) + (a + a / 16) % 2 ^ j := by
    have := Nat.div_add_mod (a + a / 16) (2 ^ j)
    rw [Nat.mul_add]
    omega
  have e4 := Nat.div_add_mod (a + a / 16) (2 ^ j)
  have hl : (a + a / 16) % 2 ^ j < 2 ^ j := Nat.mod_lt _ (Nat.two_pow_pos j)
  rw [e3, land_lo hl hm]
  conv => rhs; rw [← e4]
  rw [land_lo hl hm]
def popN (X n : Nat) : Nat := fb_ct (fun k => X.testBit k) n
theorem popN_add {k a b j : Nat} (ha : a < 2 ^ k) : popN (2 ^ k * b + a) (k + j) = popN a k + popN b j := by
  unfold popN
  rw [fb_ct_split]
  congr 1
  · apply fb_ct_cong
    intro i hi
    rw [Nat.testBit_two_pow_mul_add _ ha, if_pos hi]
  · apply fb_ct_cong
    intro i hi
    rw [Nat.testBit_two_pow_mul_add _ ha, if_neg (by omega), Nat.add_sub_cancel_left]
theorem pop_8 : ∀ a, a < 256 → pC 15 (pB 51 (pA 85 a)) = popN a 8 := by decide +kernel
theorem popN_le (X n : Nat) : popN X n ≤ n := fb_ct_le _ n
/-- 16 bits -/
theorem pop_16 {X : Nat} (h : X < 65536) : (X / 2 &&& 21845) ≤ X ∧ pA 21845 X < 65536 ∧ (∃ u v, u ≤ 68 ∧ v ≤ 68 ∧ v % 16 ≤ 4 ∧ u % 16 ≤ 4 ∧ pB 13107 (pA 21845 X) = 256 * v + u) ∧ pC 3855 (pB 13107 (pA 21845 X)) = 256 * popN (X / 256) 8 + popN (X % 256) 8 := by
  have ha : X % 256 < 256 := Nat.mod_lt _ (by decide)
  have hb : X / 256 < 256 := by omega
  obtain ⟨a1, a2⟩ := pA_8 _ ha
  obtain ⟨b1, b2⟩ := pA_8 _ hb
  obtain ⟨a3, a4, -⟩ := pB_8 _ ha
  obtain ⟨b3, b4, -⟩ := pB_8 _ hb
  have e := pA_add (k := 8) (m := 85) (n := 85) (by decide) ha (by decide) a1 b1
  have hX : 2 ^ 8 * (X / 256) + X % 256 = X := by omega
  rw [hX] at e
  have e' : pA 21845 X = 2 ^ 8 * pA 85 (X / 256) + pA 85 (X % 256) := e
  have f := pB_add (k := 8) (m := 51) (n := 51) (b := pA 85 (X / 256)) (by decide) a2 (by decide)
  have f' : pB 13107 (pA 21845 X) = 2 ^ 8 * pB 51 (pA 85 (X / 256)) + pB 51 (pA 85 (X % 256)) := by rw [e']; exact f
  have g := pC_add (k := 8) (m := 15) (n := 15) (a := pB 51 (pA 85 (X % 256))) (b := pB 51 (pA 85 (X / 256))) (by decide) (by omega) b4 (by omega) (by decide)
  have g' : pC 3855 (pB 13107 (pA 21845 X)) = 2 ^ 8 * pC 15 (pB 51 (pA 85 (X / 256))) + pC 15 (pB 51 (pA 85 (X % 256))) := by rw [f']; exact g
  refine ⟨?_, by omega, ⟨_, _, a3, b3, b4, a4, f'⟩, by rw [g', pop_8 _ ha, pop_8 _ hb]⟩
  have h9 := land_add (k := 8) (a := (128 * (X / 256 % 2) + X % 256 / 2)) (b := X / 256 / 2) (m := 85) (n := 85) (by omega) (by decide)
  have h10 : 2 ^ 8 * (X / 256 / 2) + (128 * (X / 256 % 2) + X % 256 / 2) = X / 2 := by omega
  rw [h10] at h9
  have h11 : X / 2 &&& 21845 = 2 ^ 8 * (X / 256 / 2 &&& 85) + (128 * (X / 256 % 2) + X % 256 / 2 &&& 85) := h9
  have h12 : 128 * (X / 256 % 2) + X % 256 / 2 &&& 85 = X % 256 / 2 &&& 85 := land_lo (k := 7) (by omega) (by decide)
  rw [h11, h12]
  omega
/-- 32 bits -/
theorem pop_32 {X : Nat} (h : X < 2 ^ 32) : (X / 2 &&& 1431655765) ≤ X ∧ pA 1431655765 X < 2 ^ 32 ∧ pB 858993459 (pA 1431655765 X) ≤ 1145324612 ∧ ∃ p0 p1 p2 p3, p0 ≤ 8 ∧ p1 ≤ 8 ∧ p2 ≤ 8 ∧ p3 ≤ 8 ∧ pC 252645135 (pB 858993459 (pA 1431655765 X)) = p0 + 256 * p1 + 65536 * p2 + 16777216 * p3 ∧ p0 + p1 + p2 + p3 = popN X 32 := by
  have ha : X % 65536 < 65536 := Nat.mod_lt _ (by decide)
  have hb : X / 65536 < 65536 := by omega
  obtain ⟨a1, a2, ⟨u, v, hu, hv, hv4, hu4, a3⟩, a4⟩ := pop_16 ha
  obtain ⟨b1, b2, ⟨s, t, hs, ht, ht4, hs4, b3⟩, b4⟩ := pop_16 hb
  have e := pA_add (k := 16) (m := 21845) (n := 21845) (by decide) ha (by decide) a1 b1
  have hX : 2 ^ 16 * (X / 65536) + X % 65536 = X := by omega
  rw [hX] at e
  have e' : pA 1431655765 X = 2 ^ 16 * pA 21845 (X / 65536) + pA 21845 (X % 65536) := e
  have f := pB_add (k := 16) (m := 13107) (n := 13107) (b := pA 21845 (X / 65536)) (by decide) a2 (by decide)
  have f' : pB 858993459 (pA 1431655765 X) = 2 ^ 16 * pB 13107 (pA 21845 (X / 65536)) + pB 13107 (pA 21845 (X % 65536)) := by rw [e']; exact f
  have g := pC_add (k := 16) (m := 3855) (n := 3855) (a := pB 13107 (pA 21845 (X % 65536))) (b := pB 13107 (pA 21845 (X / 65536))) (by decide) (by omega) (by omega) (by omega) (by decide)
  have g' : pC 252645135 (pB 858993459 (pA 1431655765 X)) = 2 ^ 16 * pC 3855 (pB 13107 (pA 21845 (X / 65536))) + pC 3855 (pB 13107 (pA 21845 (X % 65536))) := by rw [f']; exact g
  have h1 : popN X 32 = popN (X % 65536) 16 + popN (X / 65536) 16 := by
    have := popN_add (k := 16) (a := X % 65536) (b := X / 65536) (j := 16) ha
    rw [hX] at this
    exact this
  have h2 : ∀ Y, Y < 65536 → popN Y 16 = popN (Y % 256) 8 + popN (Y / 256) 8 := by
    intro Y hY
    have := popN_add (k := 8) (a := Y % 256) (b := Y / 256) (j := 8) (Nat.mod_lt _ (by decide))
    rw [show 2 ^ 8 * (Y / 256) + Y % 256 = Y by omega] at this
    exact this
  refine ⟨?_, by omega, by omega, popN (X % 65536 % 256) 8, popN (X % 65536 / 256) 8, popN (X / 65536 % 256) 8, popN (X / 65536 / 256) 8, popN_le _ 8, popN_le _ 8, popN_le _ 8, popN_le _ 8, by rw [g', a4, b4]; omega, by rw [h1, h2 _ ha, h2 _ hb]; omega⟩
  have h9 := land_add (k := 16) (a := (32768 * (X / 65536 % 2) + X % 65536 / 2)) (b := X / 65536 / 2) (m := 21845) (n := 21845) (by omega) (by decide)
  have h10 : 2 ^ 16 * (X / 65536 / 2) + (32768 * (X / 65536 % 2) + X % 65536 / 2) = X / 2 := by omega
  rw [h10] at h9
  have h11 : X / 2 &&& 1431655765 = 2 ^ 16 * (X / 65536 / 2 &&& 21845) + (32768 * (X / 65536 % 2) + X % 65536 / 2 &&& 21845) := h9
  have h12 : 32768 * (X / 65536 % 2) + X % 65536 / 2 &&& 21845 = X % 65536 / 2 &&& 21845 := land_lo (k := 15) (by omega) (by decide)
  rw [h11, h12]
  omega
theorem pop_fin {p0 p1 p2 p3 : Nat} (h0 : p0 ≤ 8) (h1 : p1 ≤ 8) (h2 : p2 ≤ 8) (h3 : p3 ≤ 8) {Z : Nat} (hZ : Z = p0 + 256 * p1 + 65536 * p2 + 16777216 * p3) : (Z + Z / 256 + (Z + Z / 256) / 65536) &&& 63 = p0 + p1 + p2 + p3 := by
  rw [show (63 : Nat) = 2 ^ 6 - 1 from rfl, Nat.and_two_pow_sub_one_eq_mod]
  have e1 : Z / 256 = p1 + 256 * p2 + 65536 * p3 := by omega
  rw [e1, hZ]
  have e2 : (p0 + 256 * p1 + 65536 * p2 + 16777216 * p3 + (p1 + 256 * p2 + 65536 * p3)) / 65536 = p2 + 256 * p3 + p3 := by omega
  rw [e2]
  show _ % 64 = _
  omega
