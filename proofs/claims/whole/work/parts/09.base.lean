/-! numbers, roles -/
theorem bm32 {x : Int} (h1 : -2147483648 ≤ x) (h2 : x < 2147483648) : x.bmod (2 ^ 32) = x := by
  rw [Int.bmod_def]
  split <;> omega
theorem i_lo (x : Int32) : -2147483648 ≤ x.toInt := by
  have := Int32.le_toInt x
  omega
theorem i_hi (x : Int32) : x.toInt < 2147483648 := by
  have := Int32.toInt_lt x
  omega
theorem i_add {x y : Int32} (h1 : -2147483648 ≤ x.toInt + y.toInt) (h2 : x.toInt + y.toInt < 2147483648) : (x + y).toInt = x.toInt + y.toInt := by
  rw [Int32.toInt_add, bm32 h1 h2]
theorem i_sub {x y : Int32} (h1 : -2147483648 ≤ x.toInt - y.toInt) (h2 : x.toInt - y.toInt < 2147483648) : (x - y).toInt = x.toInt - y.toInt := by
  rw [Int32.toInt_sub, bm32 h1 h2]
theorem i_mul {x y : Int32} (h1 : -2147483648 ≤ x.toInt * y.toInt) (h2 : x.toInt * y.toInt < 2147483648) : (x * y).toInt = x.toInt * y.toInt := by
  rw [Int32.toInt_mul, bm32 h1 h2]
theorem i_div {x y : Int32} (h1 : 0 ≤ x.toInt) (h2 : 0 < y.toInt) : (x / y).toInt = x.toInt / y.toInt := by
  have hb := i_hi x
  have h3 : 0 ≤ x.toInt / y.toInt := Int.ediv_nonneg h1 (Int.le_of_lt h2)
  have h4 : x.toInt / y.toInt ≤ x.toInt := Int.ediv_le_self _ h1
  rw [Int32.toInt_div, Int.tdiv_eq_ediv_of_nonneg h1, bm32 (by omega) (by omega)]
theorem i_neg {x : Int32} (h : x.toInt ≠ -2147483648) : (-x).toInt = -x.toInt := by
  have := i_lo x
  have := i_hi x
  rw [Int32.toInt_neg, bm32 (by omega) (by omega)]
theorem i_ext {x y : Int32} (h : x.toInt = y.toInt) : x = y := Int32.toInt_inj.mp h
theorem i_n {x : Int32} (h : 0 ≤ x.toInt) : x = nI x.toInt.toNat := by
  have := i_hi x
  apply i_ext
  rw [nI_toInt (by omega)]
  omega
def bI (p : Prop) [Decidable p] : Int32 := if p then 1 else 0
theorem bI_0 {p : Prop} [Decidable p] : bI p = 0 ↔ ¬ p := by unfold bI; split <;> simp_all
theorem bI_t {p : Prop} [Decidable p] (h : p) : bI p = 1 := by simp [bI, h]
theorem bI_f {p : Prop} [Decidable p] (h : ¬ p) : bI p = 0 := by simp [bI, h]
theorem bI_nar {p : Prop} [Decidable p] : narrow .boolean (.int (bI p)) = .int (bI p) := by unfold bI; split <;> rfl
theorem bI_zn {p : Prop} [Decidable p] : vp_nar .boolean (bI p) = bI p := by unfold bI; split <;> rfl
theorem po_int {Po : Option Value → St → Prop} {w : St} {a b : Int32} (h : Po (some (.int a)) w) (e : a = b) : Po (some (.int b)) w := e ▸ h
theorem a_if_eq_b {X : Cx} {cc : ByteArray} {own : String} {nL d k n pc : Nat} {ls : List (Option Value)} {st : List Value} {w : St} {p : Prop} [Decidable p] {off : Int} (tgt : Nat) (hX : Kx X cc own nL d) (hd : decode cc pc = .ok (.ifCond .eq off, 3)) (ht : (pc : Int) + off = (tgt : Int)) (kt : ¬ p → A X k n tgt ls st w) (kf : p → A X k n (pc + 3) ls st w) : A X k n pc ls (.int (bI p) :: st) w :=
  a_if_eq tgt hX hd ht (fun q => kt (bI_0.mp q)) (fun q => kf (Decidable.not_not.mp (fun z => q (bI_0.mpr z))))
theorem a_if_ne_b {X : Cx} {cc : ByteArray} {own : String} {nL d k n pc : Nat} {ls : List (Option Value)} {st : List Value} {w : St} {p : Prop} [Decidable p] {off : Int} (tgt : Nat) (hX : Kx X cc own nL d) (hd : decode cc pc = .ok (.ifCond .ne off, 3)) (ht : (pc : Int) + off = (tgt : Int)) (kt : p → A X k n tgt ls st w) (kf : ¬ p → A X k n (pc + 3) ls st w) : A X k n pc ls (.int (bI p) :: st) w :=
  a_if_ne tgt hX hd ht (fun q => kt (Decidable.not_not.mp (fun z => q (bI_0.mpr z)))) (fun q => kf (bI_0.mp q))
theorem K1_1 {r : Nat} (h : kd r = 1) : kd (r + 1) = 14 := (by decide +kernel : ∀ r, r < 248 → kd r = 1 → kd (r + 1) = 14) r (kd_lt h (by decide)) h
theorem K1_2 {r : Nat} (h : kd r = 1) : kd (r + 2) = 10 := (by decide +kernel : ∀ r, r < 248 → kd r = 1 → kd (r + 2) = 10) r (kd_lt h (by decide)) h
theorem K1_3 {r : Nat} (h : kd r = 1) : kd (r + 3) = 10 := (by decide +kernel : ∀ r, r < 248 → kd r = 1 → kd (r + 3) = 10) r (kd_lt h (by decide)) h
theorem K1_4 {r : Nat} (h : kd r = 1) : kd (r + 4) = 10 := (by decide +kernel : ∀ r, r < 248 → kd r = 1 → kd (r + 4) = 10) r (kd_lt h (by decide)) h
theorem K1_p {r j : Nat} (h : kd r = 1) (hj : j < 12) : kd (r + 1 + 4 + j) = 2 := (by decide +kernel : ∀ r, r < 248 → kd r = 1 → ∀ j, j < 12 → kd (r + 1 + 4 + j) = 2) r (kd_lt h (by decide)) h j hj
theorem K4_1 {r : Nat} (h : kd r = 4) : kd (r + 1) = 13 := (by decide +kernel : ∀ r, r < 248 → kd r = 4 → kd (r + 1) = 13) r (kd_lt h (by decide)) h
theorem K4_f {r j : Nat} (h : kd r = 4) (hj : j < 6) : kd (r + 1 + 1 + 17 * j) = 1 := (by decide +kernel : ∀ r, r < 248 → kd r = 4 → ∀ j, j < 6 → kd (r + 1 + 1 + 17 * j) = 1) r (kd_lt h (by decide)) h j hj
theorem L1_2 {r : Nat} (h : kd r = 1) : ln (r + 2) = 120 := (by decide +kernel : ∀ r, r < 248 → kd r = 1 → ln (r + 2) = 120) r (kd_lt h (by decide)) h
theorem L1_3 {r : Nat} (h : kd r = 1) : ln (r + 3) = 120 := (by decide +kernel : ∀ r, r < 248 → kd r = 1 → ln (r + 3) = 120) r (kd_lt h (by decide)) h
theorem L1_4 {r : Nat} (h : kd r = 1) : ln (r + 4) = 120 := (by decide +kernel : ∀ r, r < 248 → kd r = 1 → ln (r + 4) = 120) r (kd_lt h (by decide)) h
theorem le_nlt {x y : Int32} (h : ¬ x < y) : y ≤ x := Int32.not_lt.mp h
theorem lt_nle {x y : Int32} (h : ¬ x ≤ y) : y < x := Int32.not_le.mp h
abbrev nmP (s p : Int32) : Prop := (s >>> (p &&& 31)) &&& 1 ≠ 0
def bFrom (k : Int32) : Int32 := if k ≤ 0 then 1073741823 else if k < 30 then (1073741823 : Int32) &&& ((1073741823 : Int32) <<< (k &&& 31)) else 0
def bUpTo (k : Int32) : Int32 := if k < 0 then 0 else if k < 29 then ((1 : Int32) <<< ((k + 1) &&& 31)) - 1 else 1073741823
theorem ms_MAX : Cond.static Lib.Math.max.name ∈ wU := mw (i := 545) (by decide +kernel) (by decide +kernel)
theorem mc_MAX : Cond.code Lib.Math.max.name Lib.Math.max.code 2 (some .int) ∈ wU := mw (i := 546) (by decide +kernel) (by decide +kernel)
theorem ms_MIN : Cond.static Lib.Math.min.name ∈ wU := mw (i := 542) (by decide +kernel) (by decide +kernel)
theorem mc_MIN : Cond.code Lib.Math.min.name Lib.Math.min.code 2 (some .int) ∈ wU := mw (i := 543) (by decide +kernel) (by decide +kernel)
theorem li_X3_110 : Cond.methodLink RX3 110 Lib.Math.min.name ∈ wU := mw (i := 541) (by decide +kernel) (by decide +kernel)
theorem li_X3_105 : Cond.methodLink RX3 105 Lib.Math.max.name ∈ wU := mw (i := 544) (by decide +kernel) (by decide +kernel)
theorem li_X6_37 : Cond.methodLink RX6 37 Lib.Math.min.name ∈ wU := mw (i := 605) (by decide +kernel) (by decide +kernel)
theorem li_X6_47 : Cond.methodLink RX6 47 Lib.Math.max.name ∈ wU := mw (i := 606) (by decide +kernel) (by decide +kernel)
theorem li_X7_161 : Cond.methodLink RX7 161 Lib.Math.max.name ∈ wU := mw (i := 654) (by decide +kernel) (by decide +kernel)
theorem a_mmax {X : Cx} {cc : ByteArray} {own : String} {nL d k n pc idx : Nat} {ls : List (Option Value)} {st : List Value} {w : St} {x y : Int32} (hX : Kx X cc own nL d) (hd0 : 0 < d) (hls : ls.length = nL) (hsm : (st.map fun v => v.category).sum ≤ 8) (hd : decode cc pc = .ok (.invokestatic idx, 3)) (hl : Cond.methodLink own idx Lib.Math.max.name ∈ wU) (kk : A X k n (pc + 3) ls (.int (if x < y then y else x) :: st) w) : A X k n pc ls (.int y :: .int x :: st) w := by
  intro H locs arr hW hS hL hk
  have h1 := hX.2.2.2.2.2.2.2.1
  have h2 := hX.2.2.2.2.2.2.2.2
  exact va_mmax hX.1 hX.2.1 (by rw [hX.2.2.1, ← hls]; exact hL.1.1.symm) hX.2.2.2.1 (hX.2.2.2.2.1 _ hl) (hX.2.2.2.2.1 _ ms_MAX) (hX.2.2.2.2.1 _ ini_J9) (hX.2.2.2.2.1 _ mc_MAX) (by omega) (by omega) hk.1 hk.2 hd (kk H locs arr hW hS hL hk)
theorem a_mmin {X : Cx} {cc : ByteArray} {own : String} {nL d k n pc idx : Nat} {ls : List (Option Value)} {st : List Value} {w : St} {x y : Int32} (hX : Kx X cc own nL d) (hd0 : 0 < d) (hls : ls.length = nL) (hsm : (st.map fun v => v.category).sum ≤ 8) (hd : decode cc pc = .ok (.invokestatic idx, 3)) (hl : Cond.methodLink own idx Lib.Math.min.name ∈ wU) (kk : A X k n (pc + 3) ls (.int (if y < x then y else x) :: st) w) : A X k n pc ls (.int y :: .int x :: st) w := by
  intro H locs arr hW hS hL hk
  have h1 := hX.2.2.2.2.2.2.2.1
  have h2 := hX.2.2.2.2.2.2.2.2
  exact va_mmin hX.1 hX.2.1 (by rw [hX.2.2.1, ← hls]; exact hL.1.1.symm) hX.2.2.2.1 (hX.2.2.2.2.1 _ hl) (hX.2.2.2.2.1 _ ms_MIN) (hX.2.2.2.2.1 _ ini_J9) (hX.2.2.2.2.1 _ mc_MIN) (by omega) (by omega) hk.1 hk.2 hd (kk H locs arr hW hS hL hk)
/-- one role's cells alone are other -/
def Fr (w w' : St) (S : Nat → Prop) : Prop := w'.2 = w.2 ∧ ∀ r, ¬ S r → w'.1 r = w.1 r
theorem Fr.rf {w : St} {S : Nat → Prop} : Fr w w S := ⟨rfl, fun _ _ => rfl⟩
theorem Fr.set {w w' : St} {S : Nat → Prop} {r j : Nat} {v : Int32} (h : Fr w w' S) (hs : S r) : Fr w (wset w' r j v) S := by
  refine ⟨h.1, fun q hq => ?_⟩
  rw [wset_ne w' r j v (fun e : q = r => hq (by rw [e]; exact hs))]
  exact h.2 q hq
theorem Fr.tr {w w' w'' : St} {S : Nat → Prop} (h : Fr w w' S) (h2 : Fr w' w'' S) : Fr w w'' S := ⟨h2.1.trans h.1, fun q hq => (h2.2 q hq).trans (h.2 q hq)⟩
theorem Fr.mono {w w' : St} {S S' : Nat → Prop} (h : Fr w w' S) (hs : ∀ q, S q → S' q) : Fr w w' S' := ⟨h.1, fun q hq => h.2 q (fun z => hq (hs q z))⟩
