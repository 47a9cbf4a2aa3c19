def bt (x : Int32) (i : Nat) : Bool := x.toBitVec.getLsbD i
theorem b_ext {x y : Int32} (h : ∀ i, i < 32 → bt x i = bt y i) : x = y := Int32.toBitVec_inj.mp (BitVec.eq_of_getLsbD_eq (fun i hi => h i hi))
theorem b_or (x y : Int32) (i : Nat) : bt (x ||| y) i = (bt x i || bt y i) := by unfold bt; rw [Int32.toBitVec_or, BitVec.getLsbD_or]
theorem b_and (x y : Int32) (i : Nat) : bt (x &&& y) i = (bt x i && bt y i) := by unfold bt; rw [Int32.toBitVec_and, BitVec.getLsbD_and]
theorem b_xor (x y : Int32) (i : Nat) : bt (x ^^^ y) i = (bt x i ^^ bt y i) := by unfold bt; rw [Int32.toBitVec_xor, BitVec.getLsbD_xor]
theorem b_big {x : Int32} {i : Nat} (h : 32 ≤ i) : bt x i = false := BitVec.getLsbD_of_ge _ _ h
theorem b_255 (i : Nat) : bt 255 i = decide (i < 8) := by
  rcases Nat.lt_or_ge i 32 with h | h
  · exact (by decide +kernel : ∀ i, i < 32 → bt 255 i = decide (i < 8)) i h
  · rw [b_big h, decide_eq_false (by omega)]
theorem b_65535 (i : Nat) : bt 65535 i = decide (i < 16) := by
  rcases Nat.lt_or_ge i 32 with h | h
  · exact (by decide +kernel : ∀ i, i < 32 → bt 65535 i = decide (i < 16)) i h
  · rw [b_big h, decide_eq_false (by omega)]
theorem b_m1 : ∀ i, i < 32 → bt (-1) i = true := by decide +kernel
theorem b_0 (i : Nat) : bt 0 i = false := BitVec.getLsbD_zero
theorem s_l : ∀ n, n < 32 → ((nI n &&& 31).toBitVec.smod 32).toNat = n := by decide +kernel
theorem s_u : ∀ n, n < 32 → (((nI n).toUInt32 &&& Int32.toUInt32 31).toBitVec % 32).toNat = n := by decide +kernel
theorem b_shl (n : Nat) (hn : n < 32) (x : Int32) {i : Nat} (hi : i < 32) : bt (x <<< (nI n &&& 31)) i = (decide (n ≤ i) && bt x (i - n)) := by
  unfold bt
  rw [Int32.toBitVec_shiftLeft]
  show (x.toBitVec <<< ((nI n &&& 31).toBitVec.smod 32).toNat).getLsbD i = _
  rw [s_l n hn, BitVec.getLsbD_shiftLeft]
  rcases Nat.lt_or_ge i n with h | h
  · simp [h, Nat.not_le.mpr h]
  · simp [hi, h, Nat.not_lt.mpr h]
theorem b_ushr (n : Nat) (hn : n < 32) (x : Int32) (i : Nat) : bt ((x.toUInt32 >>> ((nI n).toUInt32 &&& Int32.toUInt32 31)).toInt32) i = bt x (n + i) := by
  show (x.toUInt32 >>> ((nI n).toUInt32 &&& Int32.toUInt32 31)).toBitVec.getLsbD i = x.toUInt32.toBitVec.getLsbD (n + i)
  rw [UInt32.toBitVec_shiftRight]
  show (x.toUInt32.toBitVec >>> (((nI n).toUInt32 &&& Int32.toUInt32 31).toBitVec % 32).toNat).getLsbD i = _
  rw [s_u n hn, BitVec.getLsbD_ushiftRight]
theorem b_sshr (n : Nat) (hn : n < 32) (x : Int32) {i : Nat} (hi : i < 32) : bt (x >>> (nI n &&& 31)) i = if n + i < 32 then bt x (n + i) else bt x 31 := by
  unfold bt
  rw [Int32.toBitVec_shiftRight]
  show (x.toBitVec.sshiftRight ((nI n &&& 31).toBitVec.smod 32).toNat).getLsbD i = _
  rw [s_l n hn, BitVec.getLsbD_sshiftRight, BitVec.msb_eq_getLsbD_last]
  simp [hi]
/-! words of bits -/
theorem bt_1 (i : Nat) : bt 1 i = decide (i = 0) := by
  by_cases h : i < 32
  · exact (by decide +kernel : ∀ i, i < 32 → bt 1 i = decide (i = 0)) i h
  · rw [b_big (by omega)]; simp; omega
theorem bt_and1 (x : Int32) : x &&& 1 = 0 ↔ bt x 0 = false := by
  constructor
  · intro h
    have h2 := b_and x 1 0
    rw [h, b_0, bt_1] at h2
    simpa using h2.symm
  · intro h
    apply b_ext
    intro i _
    rw [b_and, bt_1, b_0]
    by_cases hi : i = 0
    · subst hi; simp [h]
    · simp [hi]
theorem bt_sh {j : Nat} (hj : j < 32) (s : Int32) : bt (s >>> (nI j &&& 31)) 0 = bt s j := by
  rw [b_sshr j hj s (by decide), if_pos (by omega), Nat.add_zero]
theorem nm_bt {s : Int32} {j : Nat} (hj : j < 32) : nmP s (nI j) ↔ bt s j = true := by
  unfold nmP
  rw [Ne, bt_and1, bt_sh hj]
  simp
theorem nm_0 {s : Int32} {j : Nat} (hj : j < 32) : (s >>> (nI j &&& 31)) &&& 1 = 0 ↔ bt s j = false := by
  rw [bt_and1, bt_sh hj]
/-- a word of the 30 days b -/
def BW (x : Int32) (b : Nat → Bool) : Prop := ∀ k, k < 32 → bt x k = (decide (k < 30) && b k)
theorem BW.at {x : Int32} {b : Nat → Bool} (h : BW x b) {k : Nat} (hk : k < 30) : bt x k = b k := by rw [h k (by omega)]; simp [hk]
theorem BW.to {x : Int32} {b b' : Nat → Bool} (h : BW x b) (hb : ∀ k, k < 30 → b k = b' k) : BW x b' := by
  intro k hk
  rw [h k hk]
  by_cases h3 : k < 30
  · simp [hb k h3]
  · simp [h3]
theorem BW.and {x y : Int32} {b c : Nat → Bool} (h : BW x b) (h2 : BW y c) : BW (x &&& y) (fun k => b k && c k) := by
  intro k hk
  rw [b_and, h k hk, h2 k hk]
  cases decide (k < 30) <;> simp
theorem BW.or {x y : Int32} {b c : Nat → Bool} (h : BW x b) (h2 : BW y c) : BW (x ||| y) (fun k => b k || c k) := by
  intro k hk
  rw [b_or, h k hk, h2 k hk]
  cases decide (k < 30) <;> simp
theorem bt_not (x : Int32) {i : Nat} (hi : i < 32) : bt (x ^^^ (-1)) i = !bt x i := by rw [b_xor, b_m1 i hi]; simp
theorem BW.andN {x y : Int32} {b c : Nat → Bool} (h : BW x b) (h2 : BW y c) : BW (x &&& (y ^^^ (-1))) (fun k => b k && !c k) := by
  intro k hk
  rw [b_and, h k hk, bt_not y hk, h2 k hk]
  cases decide (k < 30) <;> simp
theorem BW.zero {b : Nat → Bool} (h : ∀ k, k < 30 → b k = false) : BW 0 b := by
  intro k hk
  rw [b_0]
  by_cases h3 : k < 30
  · simp [h3, h k h3]
  · simp [h3]
theorem bt_whole : ∀ k, k < 32 → bt 1073741823 k = decide (k < 30) := by decide +kernel
theorem BW.whole {b : Nat → Bool} (h : ∀ k, k < 30 → b k = true) : BW 1073741823 b := by
  intro k hk
  rw [bt_whole k hk]
  by_cases h3 : k < 30
  · simp [h3, h k h3]
  · simp [h3]
theorem BW.is0 {x : Int32} {b : Nat → Bool} (h : BW x b) : x = 0 ↔ ∀ k, k < 30 → b k = false := by
  constructor
  · intro e k hk
    have := h.at hk
    rw [e, b_0] at this
    exact this.symm
  · intro hb
    apply b_ext
    intro i hi
    rw [h i hi, b_0]
    by_cases h3 : i < 30
    · simp [hb i h3]
    · simp [h3]
theorem BW.isW {x : Int32} {b : Nat → Bool} (h : BW x b) : x = 1073741823 ↔ ∀ k, k < 30 → b k = true := by
  constructor
  · intro e k hk
    have := h.at hk
    rw [e, bt_whole k (by omega)] at this
    simp [hk] at this
    exact this
  · intro hb
    apply b_ext
    intro i hi
    rw [h i hi, bt_whole i hi]
    by_cases h3 : i < 30
    · simp [hb i h3]
    · simp [h3]
theorem BW.ext {x y : Int32} {b : Nat → Bool} (h : BW x b) (h2 : BW y b) : x = y := b_ext (fun i hi => by rw [h i hi, h2 i hi])
theorem bFrom_nat : ∀ m, m < 30 → ∀ k, k < 32 → bt ((1073741823 : Int32) &&& ((1073741823 : Int32) <<< (nI m &&& 31))) k = (decide (k < 30) && decide (m ≤ k)) := by decide +kernel
theorem bUpTo_nat : ∀ m, m < 29 → ∀ k, k < 32 → bt (((1 : Int32) <<< (nI (m + 1) &&& 31)) - 1) k = (decide (k < 30) && decide (k ≤ m)) := by decide +kernel
theorem nI_ofI {x : Int32} {n : Nat} (h0 : 0 ≤ x.toInt) (h : x.toInt < n) (hn : n < 2 ^ 31) : ∃ j, j < n ∧ x = nI j := by
  refine ⟨x.toInt.toNat, by omega, ?_⟩
  apply i_ext
  rw [nI_toInt (by omega)]
  omega
theorem bFrom_BW (x : Int32) : BW (bFrom x) (fun k => decide (x.toInt ≤ (k : Int))) := by
  unfold bFrom
  split
  · next h =>
    rw [Int32.le_iff_toInt_le] at h
    exact BW.whole (fun k _ => by simp at h ⊢; omega)
  · next h =>
    rw [Int32.le_iff_toInt_le] at h
    split
    · next h2 =>
      rw [Int32.lt_iff_toInt_lt] at h2
      obtain ⟨j, hj, rfl⟩ := nI_ofI (x := x) (n := 30) (by simp at h; omega) (by simpa using h2) (by decide)
      intro k hk
      rw [bFrom_nat j hj k hk, nI_toInt (by omega)]
      simp
    · next h2 =>
      rw [Int32.lt_iff_toInt_lt] at h2
      exact BW.zero (fun k hk => by simp at h2 ⊢; omega)
theorem bUpTo_BW (x : Int32) : BW (bUpTo x) (fun k => decide ((k : Int) ≤ x.toInt)) := by
  unfold bUpTo
  split
  · next h =>
    rw [Int32.lt_iff_toInt_lt] at h
    exact BW.zero (fun k _ => by simp at h ⊢; omega)
  · next h =>
    rw [Int32.lt_iff_toInt_lt] at h
    split
    · next h2 =>
      rw [Int32.lt_iff_toInt_lt] at h2
      obtain ⟨j, hj, rfl⟩ := nI_ofI (x := x) (n := 29) (by simp at h; omega) (by simpa using h2) (by decide)
      intro k hk
      rw [nI_1, bUpTo_nat j hj k hk, nI_toInt (by omega)]
      simp
    · next h2 =>
      rw [Int32.lt_iff_toInt_lt] at h2
      exact BW.whole (fun k hk => by simp at h2 ⊢; omega)
