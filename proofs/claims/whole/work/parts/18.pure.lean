/-! the reckoning in plain words -/
def spU (PP : Nat → Nat → Int32) (c : Int32) (k d : Nat) : Nat → Bool
  | 0 => false
  | n + 1 => spU PP c k d n || decide ((PP n 0 = c ∧ PP n 5 = -1 ∧ bt (PP n 4) k = true) ∧ ix (PP n 1) ≤ d ∧ d ≤ ix (PP n 2))
def spB (PP : Nat → Nat → Int32) (c : Int32) (k d : Nat) : Bool := spU PP c k d 12
theorem spU_iff {PP : Nat → Nat → Int32} {c : Int32} {k d : Nat} : ∀ {n : Nat}, spU PP c k d n = true ↔ ∃ s, s < n ∧ (PP s 0 = c ∧ PP s 5 = -1 ∧ bt (PP s 4) k = true) ∧ ix (PP s 1) ≤ d ∧ d ≤ ix (PP s 2)
  | 0 => by simp [spU]
  | n + 1 => by
    simp only [spU, Bool.or_eq_true, decide_eq_true_eq, spU_iff (n := n)]
    constructor
    · rintro (⟨s, h1, h2⟩ | h)
      · exact ⟨s, by omega, h2⟩
      · exact ⟨n, by omega, h⟩
    · rintro ⟨s, h1, h2⟩
      by_cases e : s = n
      · subst e; exact Or.inr h2
      · exact Or.inl ⟨s, by omega, h2⟩
def stB (PP : Nat → Nat → Int32) (k : Nat) : Bool := decide ((2 ≤ PP k 0 ∧ PP k 0 ≤ 5) ∧ PP k 5 = -1)
def rawB (PP : Nat → Nat → Int32) (hd : Nat → Bool) (k bg d : Nat) : Bool := !spB PP 6 k d && (spB PP 7 k d || (decide (bg ≤ d) && hd d))
def mtN (PP : Nat → Nat → Int32) (k : Nat) : Nat := ix (PP k 3) - (ix (PP k 3) * ix (PP k 7) + 999) / 1000
def ndN (PP : Nat → Nat → Int32) (k : Nat) : Nat := if PP k 0 = 5 then 100000 else ix (PP k 3)
def isEnd (C : Nat → Prop) (e : Nat) : Prop := (e < 3600 ∧ C e ∧ ∀ d, d < e → ¬ C d) ∨ (e = 100000 ∧ ∀ d, d < 3600 → ¬ C d)
theorem isEnd.uniq {C : Nat → Prop} {e e' : Nat} (h : isEnd C e) (h' : isEnd C e') : e = e' := by
  rcases h with ⟨a, b, c⟩ | ⟨a, b⟩ <;> rcases h' with ⟨a', b', c'⟩ | ⟨a', b'⟩
  · rcases Nat.lt_trichotomy e e' with q | q | q
    · exact absurd b (c' e q)
    · exact q
    · exact absurd b' (c e' q)
  · exact absurd b (b' e a)
  · exact absurd b' (b e' a')
  · omega
def tlN (PP : Nat → Nat → Int32) (k : Nat) (is : Nat → Bool) (n : Nat) : Nat × Nat × Nat := runT (ix (PP k 6)) is (0, 0, 0) n
def endC (PP : Nat → Nat → Int32) (hd : Nat → Bool) (k bg d : Nat) : Prop := ndN PP k ≤ rcN (ix (PP k 6)) (mtN PP k) (ix (PP k 8)) (tlN PP k (rawB PP hd k bg) (d + 1))
def maxF (p : Nat → Bool) (f : Nat → Nat) (x : Nat) : Nat → Nat
  | 0 => x
  | n + 1 => if p n then max (maxF p f x n) (f n) else maxF p f x n
def minF (p : Nat → Bool) (f : Nat → Nat) (x : Nat) : Nat → Nat
  | 0 => x
  | n + 1 => if p n then min (minF p f x n) (f n) else minF p f x n
theorem maxF_cong {p : Nat → Bool} {f g : Nat → Nat} {x : Nat} : ∀ {n : Nat}, (∀ i, i < n → p i = true → f i = g i) → maxF p f x n = maxF p g x n
  | 0, _ => rfl
  | n + 1, h => by
    unfold maxF
    rw [maxF_cong (fun i hi => h i (by omega))]
    split
    · next hp => rw [h n (by omega) hp]
    · rfl
theorem minF_cong {p : Nat → Bool} {f g : Nat → Nat} {x : Nat} : ∀ {n : Nat}, (∀ i, i < n → p i = true → f i = g i) → minF p f x n = minF p g x n
  | 0, _ => rfl
  | n + 1, h => by
    unfold minF
    rw [minF_cong (fun i hi => h i (by omega))]
    split
    · next hp => rw [h n (by omega) hp]
    · rfl
def depB (PP : Nat → Nat → Int32) (k i : Nat) : Bool := bt (PP k 4) i && stB PP i
def anyF (p : Nat → Bool) : Nat → Bool
  | 0 => false
  | n + 1 => anyF p n || p n
theorem anyF_iff {p : Nat → Bool} : ∀ {n : Nat}, anyF p n = true ↔ ∃ i, i < n ∧ p i = true
  | 0 => by simp [anyF]
  | n + 1 => by
    simp only [anyF, Bool.or_eq_true, anyF_iff (n := n)]
    constructor
    · rintro (⟨s, h1, h2⟩ | h)
      · exact ⟨s, by omega, h2⟩
      · exact ⟨n, by omega, h⟩
    · rintro ⟨s, h1, h2⟩
      by_cases e : s = n
      · subst e; exact Or.inr h2
      · exact Or.inl ⟨s, by omega, h2⟩
def cutN (b : Nat) : Nat := if b < 3600 then b else 100000
def bgN (PP : Nat → Nat → Int32) (be en : Nat → Nat) (k : Nat) : Nat :=
  cutN (if PP k 0 = 4 then (if anyF (depB PP k) 12 then max (ix (PP k 1)) (minF (depB PP k) be 100000 12) else ix (PP k 1)) else maxF (depB PP k) (fun i => en i + 1) (ix (PP k 1)) 12)
theorem bgN_cong {PP : Nat → Nat → Int32} {be en be' en' : Nat → Nat} {k : Nat} (h : ∀ i, i < 12 → depB PP k i = true → be i = be' i ∧ en i = en' i) : bgN PP be en k = bgN PP be' en' k := by
  unfold bgN
  rw [minF_cong (g := be') (fun i hi hp => (h i hi hp).1), maxF_cong (g := fun i => en' i + 1) (fun i hi hp => by rw [(h i hi hp).2])]
/-- the equations of one order -/
def Eq1 (PP : Nat → Nat → Int32) (hd : Nat → Bool) (be en : Nat → Nat) (k : Nat) : Prop := be k = bgN PP be en k ∧ isEnd (endC PP hd k (be k)) (en k)
def Sol (PP : Nat → Nat → Int32) (hd : Nat → Bool) (be en : Nat → Nat) : Prop := ∀ k, k < 12 → stB PP k = true → Eq1 PP hd be en k
def runsB (PP : Nat → Nat → Int32) (k : Nat) : Bool := decide (2 ≤ PP k 0 ∧ PP k 0 ≤ 5)
theorem stB_runs {PP : Nat → Nat → Int32} {k : Nat} (h : stB PP k = true) : runsB PP k = true := by
  unfold stB at h
  unfold runsB
  rw [decide_eq_true_eq] at h ⊢
  exact h.1
/-- no rings: every set of orders has one that names none of them -/
def acyN (PP : Nat → Nat → Int32) : Prop := ∀ S : Nat → Bool, (∃ k, k < 12 ∧ S k = true) → (∀ k, k < 12 → S k = true → runsB PP k = true) → ∃ k, k < 12 ∧ S k = true ∧ ∀ i, i < 12 → S i = true → bt (PP k 4) i = false
theorem Sol.uniq {PP : Nat → Nat → Int32} {hd : Nat → Bool} {be en be' en' : Nat → Nat} (ha : acyN PP) (h : Sol PP hd be en) (h' : Sol PP hd be' en') : ∀ k, k < 12 → stB PP k = true → be k = be' k ∧ en k = en' k := by
  by_cases hc : ∃ k, k < 12 ∧ (stB PP k && !decide (be k = be' k ∧ en k = en' k)) = true
  · obtain ⟨k, hk, hs, hn⟩ := ha (fun k => stB PP k && !decide (be k = be' k ∧ en k = en' k)) hc (fun k _ hk => by
      simp only [Bool.and_eq_true] at hk
      exact stB_runs hk.1)
    simp only [Bool.and_eq_true, Bool.not_eq_true', decide_eq_false_iff_not] at hs
    exfalso
    have e1 := h k hk hs.1
    have e2 := h' k hk hs.1
    have hb : be k = be' k := by
      rw [e1.1, e2.1]
      apply bgN_cong
      intro i hi hd
      unfold depB at hd
      rw [Bool.and_eq_true] at hd
      by_cases hz : be i = be' i ∧ en i = en' i
      · exact hz
      · have := hn i hi (by simp [hd.2, hz])
        rw [hd.1] at this
        cases this
    exact hs.2 ⟨hb, e1.2.uniq (by rw [hb]; exact e2.2)⟩
  · intro k hk hs
    by_cases hz : be k = be' k ∧ en k = en' k
    · exact hz
    · exact absurd ⟨k, hk, by simp [hs, hz]⟩ hc
/-- the numbers of a file's places are in their bounds -/
def vP (PP : Nat → Nat → Int32) : Prop := ∀ i, i < 12 → (∃ c, c ≤ 8 ∧ PP i 0 = nI c) ∧ (∃ f, f < 3600 ∧ PP i 1 = nI f) ∧ (∃ t, t < 3600 ∧ PP i 2 = nI t) ∧ (∃ n, n ≤ 3600 ∧ PP i 3 = nI n ∧ (runsB PP i = true → 1 ≤ n)) ∧ (∃ s, s < 4096 ∧ PP i 4 = nI s) ∧ (PP i 5 = -1 ∨ ∃ q, q < 12 ∧ PP i 5 = nI q) ∧ (∃ ev, ev ≤ 100 ∧ PP i 6 = nI ev) ∧ (∃ lf, lf ≤ 1000 ∧ PP i 7 = nI lf) ∧ (∃ gv, gv ≤ 3600 ∧ PP i 8 = nI gv) ∧ (PP i 0 = 2 → PP i 4 = 0)
def ctB (PP : Nat → Nat → Int32) (hd : Nat → Bool) (be en : Nat → Nat) (k d : Nat) : Bool := rawB PP hd k (be k) d && decide (d ≤ en k)
/-- the state of the class's reckoning -/
def plF (w : St) (q : Nat) : Nat → Nat → Int32 := fun i k => w.1 (q + 1 + 4 + i) k
def heldF (w : St) (q : Nat) (mo : Int32) (d : Nat) : Bool := bt (hdW w q (d / 30) mo) (d % 30)
def hdOK (w : St) (q : Nat) : Prop := ∀ M, M < 120 → ∃ b, BW (w.1 (q + 4) M) b
theorem hdW_BW {w : St} {q M : Nat} {mo : Int32} (h : hdOK w q) (hM : M < 120) : BW (hdW w q M mo) (fun k => heldF w q mo (30 * M + k)) := by
  have key : ∃ b, BW (hdW w q M mo) b := by
    unfold hdW
    split
    · split
      · exact ⟨fun _ => true, BW.whole (fun k hk => rfl)⟩
      · exact ⟨fun _ => false, BW.zero (fun k hk => rfl)⟩
    · split
      · exact h M hM
      · exact ⟨fun _ => true, BW.whole (fun k hk => rfl)⟩
  obtain ⟨b, hb⟩ := key
  refine hb.to (fun k hk => ?_)
  unfold heldF
  rw [show (30 * M + k) / 30 = M by omega, show (30 * M + k) % 30 = k by omega]
  exact (hb.at hk).symm
def RkS (w : St) (PP : Nat → Nat → Int32) (hd : Nat → Bool) (be en : Nat → Nat) : Prop :=
  (∀ k, k < 12 → w.1 211 k = nI (be k) ∧ w.1 212 k = nI (en k)) ∧ (∀ k, k < 12 → stB PP k = true → ∀ M, M < 120 → BW (w.1 213 (120 * k + M)) (fun d => ctB PP hd be en k (30 * M + d))) ∧ ∀ i, i < 32 → bt (w.1 210 6) i = (decide (i < 12) && stB PP i)
def bdN (x : Nat) : Prop := x < 3600 ∨ x = 100000
theorem bdN_cut (b : Nat) : bdN (cutN b) := by unfold bdN cutN; split <;> omega
theorem bdN_end {C : Nat → Prop} {e : Nat} (h : isEnd C e) : bdN e := by
  rcases h with ⟨a, -⟩ | ⟨a, -⟩
  · exact Or.inl a
  · exact Or.inr a
