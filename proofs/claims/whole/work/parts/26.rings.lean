theorem fb_holes : ∀ (m n : Nat) (f : Nat → Nat), (∀ i, i < n → f i < m) → (∀ i j, i < j → j < n → f i ≠ f j) → n ≤ m := by
  intro m
  induction m with
  | zero =>
    intro n f h1 _
    rcases Nat.eq_zero_or_pos n with h | h
    · omega
    · exact absurd (h1 0 h) (Nat.not_lt_zero _)
  | succ m ih =>
    intro n f h1 h2
    by_cases hx : ∃ i, i < n ∧ f i = m
    · obtain ⟨a, ha, hfa⟩ := hx
      have hg := ih (n - 1) (fun i => if i < a then f i else f (i + 1)) (by
        intro i hi
        by_cases q : i < a
        · simp only [if_pos q]
          have b1 := h1 i (by omega)
          have b2 := h2 i a q ha
          omega
        · simp only [if_neg q]
          have b1 := h1 (i + 1) (by omega)
          have b2 := h2 a (i + 1) (by omega) (by omega)
          omega) (by
        intro i j hij hj
        by_cases q : i < a
        · by_cases r : j < a
          · simp only [if_pos q, if_pos r]
            exact h2 i j hij (by omega)
          · simp only [if_pos q, if_neg r]
            exact h2 i (j + 1) (by omega) (by omega)
        · have r : ¬ j < a := by omega
          simp only [if_neg q, if_neg r]
          exact h2 (i + 1) (j + 1) (by omega) (by omega))
      omega
    · have hg := ih n f (fun i hi => by
        have b1 := h1 i hi
        have b2 : f i ≠ m := fun e => hx ⟨i, hi, e⟩
        omega) h2
      omega
theorem fb_twice {m n : Nat} {f : Nat → Nat} (h : ∀ i, i < n → f i < m) (hm : m < n) : ∃ i j, i < j ∧ j < n ∧ f i = f j := by
  refine Classical.byContradiction fun hx => ?_
  have := fb_holes m n f h (fun i j hij hj e => hx ⟨i, j, hij, hj, e⟩)
  omega
/-! rings: walks in a graph of twelve places -/
def wk (E : Nat → Nat → Bool) : Nat → Nat → Nat → Prop
  | 0, x, y => x = y
  | n + 1, x, y => ∃ z, z < 12 ∧ E x z = true ∧ wk E n z y
theorem wk_app {E : Nat → Nat → Bool} : ∀ {a b x y z : Nat}, wk E a x y → wk E b y z → wk E (a + b) x z
  | 0, b, x, y, z, h1, h2 => by
    unfold wk at h1
    subst h1
    rw [Nat.zero_add]
    exact h2
  | a + 1, b, x, y, z, h1, h2 => by
    obtain ⟨u, hu, he, h1⟩ := h1
    rw [show a + 1 + b = (a + b) + 1 by omega]
    exact ⟨u, hu, he, wk_app h1 h2⟩
theorem wk_1 {E : Nat → Nat → Bool} {x y : Nat} (hy : y < 12) (h : E x y = true) : wk E 1 x y := ⟨y, hy, h, rfl⟩
/-- a walk by its places -/
theorem wk_path {E : Nat → Nat → Bool} : ∀ {n x y : Nat}, wk E n x y ↔ ∃ u : Nat → Nat, u 0 = x ∧ u n = y ∧ (∀ i, i < n → u (i + 1) < 12 ∧ E (u i) (u (i + 1)) = true)
  | 0, x, y => by
    constructor
    · intro h
      unfold wk at h
      subst h
      exact ⟨fun _ => x, rfl, rfl, fun i hi => by omega⟩
    · rintro ⟨u, h1, h2, -⟩
      exact h1.symm.trans h2
  | n + 1, x, y => by
    constructor
    · rintro ⟨z, hz, he, h⟩
      obtain ⟨u, h1, h2, h3⟩ := wk_path.mp h
      refine ⟨fun i => if i = 0 then x else u (i - 1), rfl, ?_, fun i hi => ?_⟩
      · simp; exact h2
      · by_cases h0 : i = 0
        · subst h0
          simp
          rw [h1]
          exact ⟨hz, he⟩
        · have h9 := h3 (i - 1) (by omega)
          rw [show i - 1 + 1 = i by omega] at h9
          simp [h0]
          exact h9
    · rintro ⟨u, h1, h2, h3⟩
      have h9 := h3 0 (by omega)
      rw [h1] at h9
      exact ⟨u 1, h9.1, h9.2, wk_path.mpr ⟨fun i => u (i + 1), rfl, h2, fun i hi => h3 (i + 1) (by omega)⟩⟩
theorem wk_seg {E : Nat → Nat → Bool} {u : Nat → Nat} {n : Nat} (h : ∀ i, i < n → u (i + 1) < 12 ∧ E (u i) (u (i + 1)) = true) {a b : Nat} (hab : a ≤ b) (hb : b ≤ n) : wk E (b - a) (u a) (u b) := by
  refine wk_path.mpr ⟨fun i => u (a + i), rfl, ?_, fun i hi => h (a + i) (by omega)⟩
  show u (a + (b - a)) = u b
  congr 1
  omega
theorem wk_back {E : Nat → Nat → Bool} {n x y : Nat} : wk E (n + 1) x y ↔ ∃ z, wk E n x z ∧ y < 12 ∧ E z y = true := by
  constructor
  · intro h
    obtain ⟨u, h1, h2, h3⟩ := wk_path.mp h
    have h9 := h3 n (by omega)
    rw [h2] at h9
    exact ⟨u n, wk_path.mpr ⟨u, h1, rfl, fun i hi => h3 i (by omega)⟩, h9.1, h9.2⟩
  · rintro ⟨z, h1, h2, h3⟩
    exact wk_app h1 (wk_1 h2 h3)
theorem wk_lt {E : Nat → Nat → Bool} {n x y : Nat} (hx : x < 12) (h : wk E n x y) : y < 12 := by
  cases n with
  | zero => unfold wk at h; omega
  | succ n => obtain ⟨z, -, hy, -⟩ := wk_back.mp h; exact hy
/-- every closed walk comes through p -/
def thru (E : Nat → Nat → Bool) (p : Nat) : Prop := ∀ (n : Nat) (u : Nat → Nat), 1 ≤ n → u n = u 0 → (∀ i, i < n → u (i + 1) < 12 ∧ E (u i) (u (i + 1)) = true) → ∃ i, i < n ∧ u i = p
theorem thru_wk {E : Nat → Nat → Bool} {p : Nat} (h : thru E p) {n x : Nat} (hn : 1 ≤ n) (hw : wk E n x x) : wk E n p p := by
  obtain ⟨u, h1, h2, h3⟩ := wk_path.mp hw
  obtain ⟨i, hi, rfl⟩ := h n u hn (h2.trans h1.symm) h3
  have a := wk_seg h3 (a := i) (b := n) (by omega) (Nat.le_refl _)
  have b := wk_seg h3 (a := 0) (b := i) (by omega) (by omega)
  rw [h2, ← h1] at a
  have c := wk_app a b
  rw [show n - i + (i - 0) = n by omega] at c
  exact c
/-- no walk from p back to it in twelve steps: none of a set's places without one that names none of it -/
theorem acy_new {E : Nat → Nat → Bool} {p : Nat} (ht : thru E p) (hno : ∀ n, 1 ≤ n → n ≤ 12 → ¬ wk E n p p) (S : Nat → Bool) (h1 : ∃ k, k < 12 ∧ S k = true) : ∃ k, k < 12 ∧ S k = true ∧ ∀ i, i < 12 → S i = true → E k i = false := by
  by_cases hc : ∃ k, k < 12 ∧ S k = true ∧ ∀ i, i < 12 → S i = true → E k i = false
  · exact hc
  · exfalso
    have hs : ∀ k, ∃ i, (k < 12 ∧ S k = true) → (i < 12 ∧ S i = true ∧ E k i = true) := by
      intro k
      by_cases hk : k < 12 ∧ S k = true
      · by_cases hz : ∃ i, i < 12 ∧ S i = true ∧ E k i = true
        · obtain ⟨i, hi⟩ := hz
          exact ⟨i, fun _ => hi⟩
        · refine absurd ⟨k, hk.1, hk.2, fun i hi hsi => ?_⟩ hc
          cases he : E k i
          · rfl
          · exact absurd ⟨i, hi, hsi, he⟩ hz
      · exact ⟨0, fun h => absurd h hk⟩
    obtain ⟨k0, hk0, hs0⟩ := h1
    let f : Nat → Nat := fun k => Classical.choose (hs k)
    let u : Nat → Nat := fun n => Nat.rec k0 (fun _ x => f x) n
    have hu : ∀ n, u n < 12 ∧ S (u n) = true := by
      intro n
      induction n with
      | zero => exact ⟨hk0, hs0⟩
      | succ n ih =>
        have h9 := Classical.choose_spec (hs (u n)) ih
        exact ⟨h9.1, h9.2.1⟩
    have he : ∀ n, E (u n) (u (n + 1)) = true := fun n => (Classical.choose_spec (hs (u n)) (hu n)).2.2
    obtain ⟨i, j, hij, hj, e⟩ := fb_twice (m := 12) (n := 13) (f := u) (fun i _ => (hu i).1) (by decide)
    have hw := wk_seg (E := E) (u := u) (n := 13) (fun i _ => ⟨(hu (i + 1)).1, he i⟩) (a := i) (b := j) (by omega) (by omega)
    rw [← e] at hw
    exact hno (j - i) (by omega) (by omega) (thru_wk ht (by omega) hw)
/-- what closes finds: the length, the first place, the ring -/
def ringOf (E : Nat → Nat → Bool) (p L : Nat) (rg : Nat → Nat) : Prop :=
  1 ≤ L ∧ L ≤ 12 ∧ wk E L p p ∧ (∀ m, 1 ≤ m → m < L → ¬ wk E m p p) ∧ rg 0 < 12 ∧ wk E L (rg 0) (rg 0) ∧ (∀ f, f < rg 0 → ¬ wk E L f f) ∧
  (∀ j, j + 1 < L → rg (j + 1) < 12 ∧ E (rg j) (rg (j + 1)) = true ∧ wk E (L - 1 - j) (rg (j + 1)) (rg 0) ∧ ∀ y, y < rg (j + 1) → ¬ (E (rg j) y = true ∧ wk E (L - 1 - j) y (rg 0))) ∧ E (rg (L - 1)) (rg 0) = true
/-- a way round from p, as the search goes it -/
def isRg (E : Nat → Nat → Bool) (p n : Nat) (v : Nat → Nat) : Prop := 1 ≤ n ∧ v 0 = p ∧ (∀ i, i < n → v i < 12) ∧ (∀ i, i + 1 < n → E (v i) (v (i + 1)) = true) ∧ E (v (n - 1)) p = true ∧ (∀ i j, i < j → j < n → v i ≠ v j)
/-- v turned so that it begins with its least place -/
def isTu (n : Nat) (v t : Nat → Nat) : Prop := ∃ l, l < n ∧ (∀ i, i < n → v l ≤ v i) ∧ ∀ i, i < n → t i = v ((l + i) % n)
/-- (n, t) is not behind (m, s): shorter, or place by place less -/
def leR (n : Nat) (t : Nat → Nat) (m : Nat) (s : Nat → Nat) : Prop := n < m ∨ (n = m ∧ ((∀ i, i < n → t i = s i) ∨ ∃ j, j < n ∧ (∀ i, i < j → t i = s i) ∧ t j < s j))
theorem leR.anti {n m : Nat} {t s : Nat → Nat} (h : leR n t m s) (h' : leR m s n t) : n = m ∧ ∀ i, i < n → t i = s i := by
  rcases h with h | ⟨rfl, h⟩
  · rcases h' with h' | ⟨h', -⟩ <;> omega
  · refine ⟨rfl, ?_⟩
    rcases h with h | ⟨j, hj, he, hl⟩
    · exact h
    · rcases h' with h' | ⟨-, h'⟩
      · omega
      · rcases h' with h' | ⟨k, hk, he', hl'⟩
        · intro i hi; exact (h' i hi).symm
        · exfalso
          rcases Nat.lt_trichotomy j k with q | q | q
          · have := he' j q; omega
          · subst q; omega
          · have := he k q; omega
/-- the ring of closes is not behind any way round -/
theorem ring_le {E : Nat → Nat → Bool} {p L n : Nat} {rg v t : Nat → Nat} (hr : ringOf E p L rg) (hp : p < 12) (hv : isRg E p n v) (ht : isTu n v t) : leR L rg n t := by
  obtain ⟨r1, r2, r3, r4, r5, r6, r7, r8, r9⟩ := hr
  obtain ⟨v1, v2, v3, v4, v5, v6⟩ := hv
  obtain ⟨l, hl, hmin, htt⟩ := ht
  have hcyc : ∀ i, i < n → v ((i + 1) % n) < 12 ∧ E (v i) (v ((i + 1) % n)) = true := by
    intro i hi
    by_cases h9 : i + 1 < n
    · rw [Nat.mod_eq_of_lt h9]
      exact ⟨v3 _ h9, v4 i h9⟩
    · have : i + 1 = n := by omega
      rw [this, Nat.mod_self, v2]
      have h8 : i = n - 1 := by omega
      rw [h8]
      exact ⟨hp, v5⟩
  -- the endless walk round
  have hinf : ∀ i, v ((i + 1) % n) < 12 ∧ E (v (i % n)) (v ((i + 1) % n)) = true := by
    intro i
    have h9 := hcyc (i % n) (Nat.mod_lt _ (by omega))
    rw [Nat.mod_add_mod] at h9
    exact h9
  have hwk : ∀ a b, a ≤ b → wk E (b - a) (v (a % n)) (v (b % n)) := fun a b hab => by
    have := wk_seg (E := E) (u := fun i => v (i % n)) (n := b) (fun i _ => hinf i) hab (Nat.le_refl _)
    exact this
  have hLn : L ≤ n := by
    rcases Nat.lt_or_ge n L with q | q
    · exfalso
      apply r4 n v1 q
      have := hwk 0 n (by omega)
      rw [Nat.sub_zero, Nat.zero_mod, Nat.mod_self, v2] at this
      exact this
    · exact q
  rcases Nat.lt_or_ge L n with q | q
  · exact Or.inl q
  · have hLn : L = n := by omega
    subst hLn
    refine Or.inr ⟨rfl, ?_⟩
    have ht0 : t 0 = v l := by rw [htt 0 (by omega), Nat.add_zero, Nat.mod_eq_of_lt hl]
    have hclosed : wk E L (t 0) (t 0) := by
      have := hwk l (l + L) (by omega)
      rw [Nat.add_sub_cancel_left, Nat.add_mod_right, Nat.mod_eq_of_lt hl] at this
      rw [ht0]
      exact this
    by_cases hall : ∀ i, i < L → rg i = t i
    · exact Or.inl hall
    · right
      obtain ⟨j, ⟨hj, hne⟩, hleast⟩ := pk_least (fun j => j < L ∧ rg j ≠ t j) (by
        by_cases hz : ∃ j, j < L ∧ rg j ≠ t j
        · exact hz
        · exfalso
          apply hall
          intro i hi
          by_cases h9 : rg i = t i
          · exact h9
          · exact absurd ⟨i, hi, h9⟩ hz)
      have heq : ∀ i, i < j → rg i = t i := fun i hi => by
        by_cases h9 : rg i = t i
        · exact h9
        · exact absurd ⟨by omega, h9⟩ (hleast i hi)
      refine ⟨j, hj, heq, ?_⟩
      cases j with
      | zero =>
        rcases Nat.lt_or_ge (t 0) (rg 0) with q | q
        · exact absurd hclosed (r7 _ q)
        · omega
      | succ j =>
        obtain ⟨g1, g2, g3, g4⟩ := r8 j hj
        have e0 := heq 0 (by omega)
        have ej := heq j (by omega)
        rcases Nat.lt_or_ge (t (j + 1)) (rg (j + 1)) with q | q
        · exfalso
          refine g4 _ q ⟨?_, ?_⟩
          · rw [ej, htt j (by omega), htt (j + 1) (by omega)]
            exact (hinf (l + j)).2
          · have h9 := hwk (l + (j + 1)) (l + L) (by omega)
            rw [Nat.add_mod_right, Nat.mod_eq_of_lt hl, show l + L - (l + (j + 1)) = L - 1 - j by omega] at h9
            rw [e0, ht0, htt (j + 1) (by omega)]
            exact h9
        · omega
/-- the ring of closes is itself a way round, turned -/
theorem ring_is {E : Nat → Nat → Bool} {p L : Nat} {rg : Nat → Nat} (hp : p < 12) (hth : thru E p) (hr : ringOf E p L rg) : ∃ v, isRg E p L v ∧ isTu L v rg := by
  obtain ⟨r1, r2, r3, r4, r5, r6, r7, r8, r9⟩ := hr
  have hlt : ∀ i, i < L → rg i < 12 := fun i hi => by
    cases i with
    | zero => exact r5
    | succ i => exact (r8 i hi).1
  have hcyc : ∀ i, i < L → rg ((i + 1) % L) < 12 ∧ E (rg i) (rg ((i + 1) % L)) = true := by
    intro i hi
    by_cases h9 : i + 1 < L
    · rw [Nat.mod_eq_of_lt h9]
      exact ⟨(r8 i h9).1, (r8 i h9).2.1⟩
    · have : i + 1 = L := by omega
      rw [this, Nat.mod_self]
      have h8 : i = L - 1 := by omega
      rw [h8]
      exact ⟨r5, r9⟩
  have hinf : ∀ i, rg ((i + 1) % L) < 12 ∧ E (rg (i % L)) (rg ((i + 1) % L)) = true := by
    intro i
    have h9 := hcyc (i % L) (Nat.mod_lt _ (by omega))
    rw [Nat.mod_add_mod] at h9
    exact h9
  have hwk : ∀ a b, a ≤ b → wk E (b - a) (rg (a % L)) (rg (b % L)) := fun a b hab => by
    have := wk_seg (E := E) (u := fun i => rg (i % L)) (n := b) (fun i _ => hinf i) hab (Nat.le_refl _)
    exact this
  obtain ⟨m, hm, em⟩ := hth L (fun i => rg (i % L)) r1 (by simp) (fun i _ => hinf i)
  have em : rg m = p := by
    have : rg (m % L) = p := em
    rwa [Nat.mod_eq_of_lt hm] at this
  have hdis : ∀ i j, i < j → j < L → rg i ≠ rg j := by
    intro i j hij hj e
    have h9 := hwk i j (by omega)
    rw [Nat.mod_eq_of_lt hj, Nat.mod_eq_of_lt (show i < L by omega), ← e] at h9
    exact r4 (j - i) (by omega) (by omega) (thru_wk hth (by omega) h9)
  refine ⟨fun i => rg ((m + i) % L), ⟨r1, ?_, fun i hi => hlt _ (Nat.mod_lt _ (by omega)), fun i hi => ?_, ?_, fun i j hij hj e => ?_⟩, (L - m) % L, Nat.mod_lt _ (by omega), fun i hi => ?_, fun i hi => ?_⟩
  · show rg ((m + 0) % L) = p
    rw [Nat.add_zero, Nat.mod_eq_of_lt hm]
    exact em
  · exact (hinf (m + i)).2
  · have h9 := (hinf (m + (L - 1))).2
    have h8 : (m + (L - 1) + 1) % L = m := by
      rw [show m + (L - 1) + 1 = m + L by omega, Nat.add_mod_right, Nat.mod_eq_of_lt hm]
    rw [h8, em] at h9
    exact h9
  · have h1 : ∀ x, x < L → (m + x) % L = if m + x < L then m + x else m + x - L := by
      intro x hx
      split
      · next q => exact Nat.mod_eq_of_lt q
      · next q =>
        rw [show m + x = (m + x - L) + L by omega, Nat.add_mod_right, Nat.mod_eq_of_lt (by omega)]
        omega
    have e : rg ((m + i) % L) = rg ((m + j) % L) := e
    have hne : (m + i) % L ≠ (m + j) % L := by
      rw [h1 i (by omega), h1 j hj]
      split <;> split <;> omega
    rcases Nat.lt_or_ge ((m + i) % L) ((m + j) % L) with q | q
    · exact hdis _ _ q (Nat.mod_lt _ (by omega)) e
    · exact hdis _ _ (by omega) (Nat.mod_lt _ (by omega)) e.symm
  · show rg ((m + (L - m) % L) % L) ≤ rg ((m + i) % L)
    have h0 : (m + (L - m) % L) % L = 0 := by
      rw [Nat.add_mod_mod, show m + (L - m) = L by omega, Nat.mod_self]
    rw [h0]
    rcases Nat.lt_or_ge (rg ((m + i) % L)) (rg 0) with q | q
    · exfalso
      apply r7 _ q
      have h9 := hwk (m + i) (m + i + L) (by omega)
      rw [Nat.add_sub_cancel_left, Nat.add_mod_right] at h9
      exact h9
    · exact q
  · show rg i = rg ((m + ((L - m) % L + i) % L) % L)
    have h0 : (m + (L - m) % L) % L = 0 := by
      rw [Nat.add_mod_mod, show m + (L - m) = L by omega, Nat.mod_self]
    rw [Nat.add_mod_mod, ← Nat.add_assoc, Nat.add_mod, h0, Nat.zero_add, Nat.mod_mod, Nat.mod_eq_of_lt hi]
