/-! the tally of days, by plain numbers -/
def tkN (ev mt cl row : Nat) : Nat := if 0 < ev then min mt (cl + row / ev) else 0
def rcN (ev mt gv : Nat) (s : Nat × Nat × Nat) : Nat := s.1 + (tkN ev mt s.2.1 s.2.2 - gv)
def stT (ev : Nat) (b : Bool) (s : Nat × Nat × Nat) : Nat × Nat × Nat := if b then (s.1 + 1, s.2.1, s.2.2 + 1) else (s.1, (if 0 < ev then s.2.1 + s.2.2 / ev else s.2.1), 0)
def runT (ev : Nat) (is : Nat → Bool) (s0 : Nat × Nat × Nat) : Nat → Nat × Nat × Nat
  | 0 => s0
  | n + 1 => stT ev (is n) (runT ev is s0 n)
theorem runT_succ (ev : Nat) (is : Nat → Bool) (s0 : Nat × Nat × Nat) (n : Nat) : runT ev is s0 (n + 1) = stT ev (is n) (runT ev is s0 n) := rfl
theorem runT_add (ev : Nat) (is : Nat → Bool) (s0 : Nat × Nat × Nat) (m : Nat) : ∀ n, runT ev is s0 (m + n) = runT ev (fun k => is (m + k)) (runT ev is s0 m) n
  | 0 => rfl
  | n + 1 => by rw [runT_succ, ← runT_add ev is s0 m n]; rfl
theorem runT_cong {ev : Nat} {is is' : Nat → Bool} {s0 : Nat × Nat × Nat} : ∀ {n : Nat}, (∀ k, k < n → is k = is' k) → runT ev is s0 n = runT ev is' s0 n
  | 0, _ => rfl
  | n + 1, h => by rw [runT_succ, runT_succ, runT_cong (fun k hk => h k (by omega)), h n (by omega)]
/-- what is kept: rows and closed rows are no more than the days that have counted -/
def okT (s : Nat × Nat × Nat) : Prop := s.2.1 + s.2.2 ≤ s.1
theorem okT_st {ev : Nat} {b : Bool} {s : Nat × Nat × Nat} (h : okT s) : okT (stT ev b s) := by
  obtain ⟨c, l, r⟩ := s
  unfold okT stT at *
  cases b
  · simp only [Bool.false_eq_true, if_false] at *
    split
    · have := Nat.div_le_self r ev; simp at h ⊢; omega
    · simp at h ⊢; omega
  · simp at h ⊢; omega
theorem okT_run {ev : Nat} {is : Nat → Bool} {s0 : Nat × Nat × Nat} (h : okT s0) : ∀ n, okT (runT ev is s0 n)
  | 0 => h
  | n + 1 => okT_st (okT_run h n)
theorem runT_cnt_le {ev : Nat} {is : Nat → Bool} {s0 : Nat × Nat × Nat} : ∀ n, (runT ev is s0 n).1 ≤ s0.1 + n
  | 0 => Nat.le_refl _
  | n + 1 => by
    have := runT_cnt_le (ev := ev) (is := is) (s0 := s0) n
    rw [runT_succ]
    unfold stT
    split <;> simp <;> omega
theorem runT_cnt_mono {ev : Nat} {is : Nat → Bool} {s0 : Nat × Nat × Nat} (n : Nat) : (runT ev is s0 n).1 ≤ (runT ev is s0 (n + 1)).1 := by
  rw [runT_succ]
  unfold stT
  split <;> simp
theorem tkN_le (ev mt cl row : Nat) : tkN ev mt cl row ≤ mt := by
  unfold tkN
  split <;> omega
theorem tkN_cnt {ev mt : Nat} {s : Nat × Nat × Nat} (h : okT s) : tkN ev mt s.2.1 s.2.2 ≤ s.1 := by
  unfold tkN okT at *
  split
  · have := Nat.div_le_self s.2.2 ev; omega
  · omega
theorem tkN_row {ev mt cl a b : Nat} (h : a ≤ b) : tkN ev mt cl a ≤ tkN ev mt cl b := by
  unfold tkN
  split
  · have := Nat.div_le_div_right (c := ev) h; omega
  · omega
theorem tkN_br (ev mt cl row : Nat) : tkN ev mt (if 0 < ev then cl + row / ev else cl) 0 = tkN ev mt cl row := by
  unfold tkN
  split
  · simp
  · rfl
theorem rcN_br (ev mt gv : Nat) (s : Nat × Nat × Nat) : rcN ev mt gv (stT ev false s) = rcN ev mt gv s := by
  unfold rcN stT
  simp only [Bool.false_eq_true, if_false]
  rw [tkN_br]
theorem tkN_stf (ev mt : Nat) (s : Nat × Nat × Nat) : tkN ev mt (stT ev false s).2.1 (stT ev false s).2.2 = tkN ev mt s.2.1 s.2.2 := by
  unfold stT
  simp only [Bool.false_eq_true, if_false]
  rw [tkN_br]
theorem rcN_mono (ev mt gv : Nat) (b : Bool) (s : Nat × Nat × Nat) : rcN ev mt gv s ≤ rcN ev mt gv (stT ev b s) := by
  cases b
  · rw [rcN_br]; exact Nat.le_refl _
  · unfold rcN stT
    have := tkN_row (ev := ev) (mt := mt) (cl := s.2.1) (Nat.le_succ s.2.2)
    simp at this ⊢
    omega
theorem rcN_run (ev mt gv : Nat) (is : Nat → Bool) (s0 : Nat × Nat × Nat) {m n : Nat} (h : m ≤ n) : rcN ev mt gv (runT ev is s0 m) ≤ rcN ev mt gv (runT ev is s0 n) := by
  induction n with
  | zero => have : m = 0 := by omega
            subst this; exact Nat.le_refl _
  | succ n ih =>
    by_cases hm : m = n + 1
    · subst hm; exact Nat.le_refl _
    · exact Nat.le_trans (ih (by omega)) (rcN_mono ev mt gv _ _)
/-- days without a count: as one -/
theorem runT_f {ev : Nat} {s0 : Nat × Nat × Nat} {is : Nat → Bool} : ∀ n, (∀ k, k < n + 1 → is k = false) → runT ev is s0 (n + 1) = stT ev false s0
  | 0, h => by rw [runT_succ, h 0 (by omega)]; rfl
  | n + 1, h => by
    rw [runT_succ, runT_f n (fun k hk => h k (by omega)), h (n + 1) (by omega)]
    unfold stT
    simp
/-- days that all count -/
theorem runT_t {ev : Nat} {s0 : Nat × Nat × Nat} {is : Nat → Bool} : ∀ n, (∀ k, k < n → is k = true) → runT ev is s0 n = (s0.1 + n, s0.2.1, s0.2.2 + n)
  | 0, _ => rfl
  | n + 1, h => by
    rw [runT_succ, runT_t n (fun k hk => h k (by omega)), h n (by omega)]
    unfold stT
    simp
    omega
/-- the cell of the tally holds these numbers -/
def TF (f : Nat → Int32) (ev mt gv : Nat) (s : Nat × Nat × Nat) : Prop := (f 0 = nI ev ∧ f 1 = nI mt ∧ f 2 = nI gv ∧ f 3 = nI s.1 ∧ f 4 = nI s.2.1 ∧ f 5 = nI s.2.2) ∧ ev ≤ 100 ∧ mt ≤ 3600 ∧ gv ≤ 3600 ∧ s.1 ≤ 3600 ∧ okT s
theorem tkW_N {f : Nat → Int32} {ev mt gv : Nat} {s : Nat × Nat × Nat} (h : TF f ev mt gv s) {a : Nat} (ha : a ≤ 100) : tkW f (nI a) = nI (tkN ev mt s.2.1 (s.2.2 + a)) := by
  obtain ⟨⟨h0, h1, h2, h3, h4, h5⟩, b1, b2, b3, b4, b5⟩ := h
  unfold okT at b5
  unfold tkW tkN
  rw [h0, h1, h4, h5]
  have e0 : ((0 : Int32) < nI ev) ↔ 0 < ev := by rw [← nI_0]; exact nI_ltI (by decide) (by omega)
  by_cases hz : 0 < ev
  · have hd : (s.2.2 + a) / ev ≤ s.2.2 + a := Nat.div_le_self _ _
    rw [if_pos (e0.mpr hz), if_pos hz, nI_add, pk_div (by omega) hz (by omega), nI_add]
    by_cases hc : s.2.1 + (s.2.2 + a) / ev < mt
    · rw [if_pos ((nI_ltI (by omega) (by omega)).mpr hc)]; congr 1; omega
    · rw [if_neg (fun q => hc ((nI_ltI (by omega) (by omega)).mp q))]; congr 1; omega
  · rw [if_neg (fun q => hz (e0.mp q)), if_neg hz]; rfl
theorem rcW_N {f : Nat → Int32} {ev mt gv : Nat} {s : Nat × Nat × Nat} (h : TF f ev mt gv s) {a : Nat} (ha : a ≤ 100) : rcW f (nI a) = nI (s.1 + a + (tkN ev mt s.2.1 (s.2.2 + a) - gv)) := by
  have ht := tkW_N h ha
  have hle := tkN_le ev mt s.2.1 (s.2.2 + a)
  obtain ⟨⟨h0, h1, h2, h3, h4, h5⟩, b1, b2, b3, b4, b5⟩ := h
  unfold rcW
  rw [ht, h2, h3, nI_add]
  by_cases hc : gv ≤ tkN ev mt s.2.1 (s.2.2 + a)
  · rw [pk_sub hc]
    by_cases hz : 0 < tkN ev mt s.2.1 (s.2.2 + a) - gv
    · rw [if_pos (by rw [← nI_0]; exact (nI_ltI (by decide) (by omega)).mpr hz), nI_add]
    · rw [if_neg (by rw [← nI_0]; exact fun q => hz ((nI_ltI (by decide) (by omega)).mp q)), show tkN ev mt s.2.1 (s.2.2 + a) - gv = 0 by omega]
      simp
  · have hn := pk_sneg (a := tkN ev mt s.2.1 (s.2.2 + a)) (b := gv) (by omega) (by omega)
    rw [if_neg (fun q => by rw [Int32.lt_iff_toInt_lt] at q hn; omega), show tkN ev mt s.2.1 (s.2.2 + a) - gv = 0 by omega]
    simp
theorem TF_add {f : Nat → Int32} {ev mt gv : Nat} {s : Nat × Nat × Nat} (h : TF f ev mt gv s) {a : Nat} (ha : s.1 + a ≤ 3600) : TF (upd (upd f 3 (f 3 + nI a)) 5 (f 5 + nI a)) ev mt gv (s.1 + a, s.2.1, s.2.2 + a) := by
  obtain ⟨⟨h0, h1, h2, h3, h4, h5⟩, b1, b2, b3, b4, b5⟩ := h
  unfold okT at b5
  refine ⟨⟨?_, ?_, ?_, ?_, ?_, ?_⟩, b1, b2, b3, ha, ?_⟩
  · simp [upd, h0]
  · simp [upd, h1]
  · simp [upd, h2]
  · simp only [upd, h3]; simp [nI_add]
  · simp [upd, h4]
  · simp only [upd, h5]; simp [nI_add]
  · unfold okT; simp; omega
theorem TF_br {f : Nat → Int32} {ev mt gv : Nat} {s : Nat × Nat × Nat} (h : TF f ev mt gv s) : TF (brR f) ev mt gv (stT ev false s) := by
  have hk := okT_st (ev := ev) (b := false) h.2.2.2.2.2
  obtain ⟨⟨h0, h1, h2, h3, h4, h5⟩, b1, b2, b3, b4, b5⟩ := h
  unfold okT at b5
  have e0 : ((0 : Int32) < nI ev) ↔ 0 < ev := by rw [← nI_0]; exact nI_ltI (by decide) (by omega)
  refine ⟨⟨?_, ?_, ?_, ?_, ?_, ?_⟩, b1, b2, b3, ?_, hk⟩
  · simp [brR, upd, h0]
  · simp [brR, upd, h1]
  · simp [brR, upd, h2]
  · simp [brR, upd, h3, stT]
  · simp only [brR, upd, stT]
    simp only [Bool.false_eq_true, if_false]
    rw [if_neg (by decide), if_pos trivial, h0, h4, h5]
    by_cases hz : 0 < ev
    · rw [if_pos (e0.mpr hz), if_pos hz, pk_div (by omega) hz (by omega), nI_add]
    · rw [if_neg (fun q => hz (e0.mp q)), if_neg hz]
  · simp [brR, upd, stT, nI_0]
  · simp [stT]; exact b4
