/-! rings: the least one is there, and is one alone; an order that closes none -/
theorem thru_new {PP : Nat → Nat → Int32} {p : Nat} {s : Int32} (ha : acyN PP) : thru (newE PP p s) p := by
  intro n u hn hcl hst
  by_cases hz : ∃ i, i < n ∧ u i = p
  · exact hz
  · exfalso
    have hne : ∀ i, i < n → u i ≠ p := fun i hi e => hz ⟨i, hi, e⟩
    have hu : ∀ i, i < n → u i < 12 := fun i hi => by
      cases i with
      | zero =>
        rw [← hcl]
        have := (hst (n - 1) (by omega)).1
        rwa [show n - 1 + 1 = n by omega] at this
      | succ i => exact (hst i (by omega)).1
    have hE : ∀ i, i < n → runsB PP (u i) = true ∧ bt (PP (u i) 4) (u (i + 1)) = true := fun i hi => by
      have h9 := (hst i hi).2
      unfold newE at h9
      rw [if_neg (hne i hi), Bool.and_eq_true] at h9
      exact h9
    have hS : ∀ k, anyF (fun i => decide (u i = k)) n = true ↔ ∃ i, i < n ∧ u i = k := fun k => by
      rw [anyF_iff]
      simp only [decide_eq_true_eq]
    obtain ⟨k, hk, hs, hx⟩ := ha (fun k => anyF (fun i => decide (u i = k)) n) ⟨u 0, hu 0 (by omega), (hS _).mpr ⟨0, by omega, rfl⟩⟩ (fun k hk hs => by
      obtain ⟨i, hi, rfl⟩ := (hS k).mp hs
      exact (hE i hi).1)
    obtain ⟨i, hi, rfl⟩ := (hS k).mp hs
    by_cases e : i + 1 < n
    · have h9 := hx (u (i + 1)) (hu _ e) ((hS _).mpr ⟨i + 1, e, rfl⟩)
      rw [(hE i hi).2] at h9
      cases h9
    · have e2 : u (i + 1) = u 0 := by rw [show i + 1 = n by omega, hcl]
      have h8 := (hE i hi).2
      rw [e2] at h8
      have h9 := hx (u 0) (hu 0 (by omega)) ((hS _).mpr ⟨0, by omega, rfl⟩)
      rw [h8] at h9
      cases h9
theorem ring_ex {E : Nat → Nat → Bool} {p : Nat} (hp : p < 12) (h : ∃ m, 1 ≤ m ∧ m ≤ 12 ∧ wk E m p p) : ∃ x : Nat × (Nat → Nat), ringOf E p x.1 x.2 := by
  obtain ⟨m, m1, m2, m3⟩ := h
  obtain ⟨L, ⟨hL1, hLw⟩, hLl⟩ := pk_least (fun m => 1 ≤ m ∧ wk E m p p) ⟨m, m1, m3⟩
  have hLm : L ≤ m := Nat.not_lt.mp (fun q => hLl m q ⟨m1, m3⟩)
  obtain ⟨r0, hr0, hrl⟩ := pk_least (fun f => wk E L f f) ⟨p, hLw⟩
  have hr12 : r0 < 12 := Nat.lt_of_le_of_lt (Nat.not_lt.mp (fun q => hrl p q hLw)) hp
  let nx : Nat → Nat → Nat := fun j x => Classical.epsilon (fun y => (y < 12 ∧ E x y = true ∧ wk E (L - 1 - j) y r0) ∧ ∀ z, z < y → ¬ (E x z = true ∧ wk E (L - 1 - j) z r0))
  let rg : Nat → Nat := fun n => Nat.rec r0 (fun j x => nx j x) n
  have hnx : ∀ j x, j < L → wk E (L - j) x r0 → (nx j x < 12 ∧ E x (nx j x) = true ∧ wk E (L - 1 - j) (nx j x) r0) ∧ ∀ z, z < nx j x → ¬ (E x z = true ∧ wk E (L - 1 - j) z r0) := fun j x hj hw => by
    rw [show L - j = (L - 1 - j) + 1 by omega] at hw
    obtain ⟨y, hy, he, hw⟩ := hw
    obtain ⟨z, hz, hzl⟩ := pk_least (fun y => E x y = true ∧ wk E (L - 1 - j) y r0) ⟨y, he, hw⟩
    have hz12 : z < 12 := Nat.lt_of_le_of_lt (Nat.not_lt.mp (fun q => hzl y q ⟨he, hw⟩)) hy
    exact Classical.epsilon_spec (p := fun y => (y < 12 ∧ E x y = true ∧ wk E (L - 1 - j) y r0) ∧ ∀ z, z < y → ¬ (E x z = true ∧ wk E (L - 1 - j) z r0)) ⟨z, ⟨hz12, hz.1, hz.2⟩, hzl⟩
  have hrg : ∀ j, j < L → wk E (L - j) (rg j) r0 := by
    intro j
    induction j with
    | zero => intro _; exact hr0
    | succ j ih =>
      intro hj
      have h9 := (hnx j (rg j) (by omega) (ih (by omega))).1.2.2
      rw [show L - (j + 1) = L - 1 - j by omega]
      exact h9
  refine ⟨(L, rg), hL1, by show L ≤ 12; omega, hLw, fun m h1 h2 h3 => hLl m h2 ⟨h1, h3⟩, hr12, hr0, hrl, fun j hj => ?_, ?_⟩
  · have h9 := hnx j (rg j) (by have : j + 1 < L := hj; omega) (hrg j (by have : j + 1 < L := hj; omega))
    exact ⟨h9.1.1, h9.1.2.1, h9.1.2.2, h9.2⟩
  · have h9 := hrg (L - 1) (by omega)
    rw [show L - (L - 1) = 0 + 1 by omega] at h9
    obtain ⟨z, -, he, hz⟩ := h9
    have hz : z = r0 := hz
    subst hz
    exact he
theorem ring_uniq {E : Nat → Nat → Bool} {p L M : Nat} {rg sg : Nat → Nat} (hp : p < 12) (hth : thru E p) (h : ringOf E p L rg) (h' : ringOf E p M sg) : L = M ∧ ∀ i, i < L → rg i = sg i := by
  obtain ⟨v, hv, ht⟩ := ring_is hp hth h
  obtain ⟨v', hv', ht'⟩ := ring_is hp hth h'
  exact (ring_le h hp hv' ht').anti (ring_le h' hp hv ht)
theorem rgN_spec {E : Nat → Nat → Bool} {p : Nat} (h : ∃ x : Nat × (Nat → Nat), ringOf E p x.1 x.2) : ringOf E p (rgN E p).1 (rgN E p).2 := Classical.epsilon_spec (p := fun x : Nat × (Nat → Nat) => ringOf E p x.1 x.2) h
theorem ok_waits {g : Sg} {p l k f n s : Int32} (ho : okS g) (h4 : gn g < 400) (hr : roomS g p l = 0) (hT : isT f n) (hk : 3 ≤ k ∧ k ≤ 5) (hs : isS s) (hno : ¬ ∃ x : Nat × (Nat → Nat), ringOf (nwE g p l s) (ix l) x.1 x.2) : okS (psh g (en9 (nI (gt g)) 2 p l k f n s 0)) := by
  obtain ⟨hp, hl, -⟩ := roomS_0 hr
  obtain ⟨x, hx, rfl⟩ := isD_ex hT.1
  obtain ⟨y, hy1, hy2, rfl⟩ := isN_ex hT.2
  obtain ⟨z, hz, rfl⟩ := isS_ex hs
  obtain ⟨c, hc, rfl⟩ := le_ex (n := 5) (by decide) ⟨Int32.le_trans (by decide) hk.1, hk.2⟩
  have hk3 : 3 ≤ c := (nI_leI (a := 3) (by decide) (by omega)).mp hk.1
  refine ok_pl ho h4 hp hl rfl rfl rfl (by rw [en9_1]; decide) ⟨fun _ => hk, fun h => by rw [en9_1] at h; exact absurd h (by decide), fun h => by rw [en9_1] at h; exact absurd h (by decide)⟩ (fun P j hP hj ep el hv ha he => ?_)
  have hR := vP_iff.mp hv j hj
  have hj9 : ix l = j := by rw [el]; exact ix_nI (by omega)
  have hp9 : ix p = P := by rw [ep]; exact ix_nI (by omega)
  unfold nwE at hno
  rw [hj9, hp9] at hno
  rw [stP_2 rfl]
  simp only [en9_3, en9_4, en9_5, en9_6, en9_7]
  rw [hj9]
  have hne : ∀ i, i ≠ j → upP (upP (upP (upP ((RSn g).1 P) j 0 (nI c)) j 1 (nI x)) j 3 (nI y)) j 4 (nI z) i = (RSn g).1 P i := fun i hi => by rw [upP_ne _ _ _ hi, upP_ne _ _ _ hi, upP_ne _ _ _ hi, upP_ne _ _ _ hi]
  have e0 : upP (upP (upP (upP ((RSn g).1 P) j 0 (nI c)) j 1 (nI x)) j 3 (nI y)) j 4 (nI z) j 0 = nI c := by
    rw [upP_at, upP_at, upP_at, upP_at]; simp [upd]
  have e4 : upP (upP (upP (upP ((RSn g).1 P) j 0 (nI c)) j 1 (nI x)) j 3 (nI y)) j 4 (nI z) j 4 = nI z := by
    rw [upP_at, upP_at, upP_at, upP_at]; simp [upd]
  refine ⟨vP_upd hv (b := j) hne ?_, ?_, fun i hi h0 => ?_⟩
  · rw [upP_at, upP_at, upP_at, upP_at]
    obtain ⟨r0, r1, r2, r3, r4, r5, r6, r7, r8, r9⟩ := hR
    refine ⟨⟨c, by omega, by simp [upd]⟩, ⟨x, hx, by simp [upd]⟩, by simpa [upd] using r2, ⟨y, hy2, by simp [upd], fun _ => hy1⟩, ⟨z, hz, by simp [upd]⟩, by simpa [upd] using r5, by simpa [upd] using r6, by simpa [upd] using r7, by simpa [upd] using r8, fun h => ?_⟩
    have h2 : nI c = 2 := by simpa [upd] using h
    have := (nI_eq (a := c) (b := 2) (by omega) (by decide)).mp h2
    omega
  · intro S h1 h2
    obtain ⟨q, hq, hsq, hx⟩ := acy_new (thru_new (s := nI z) (p := j) ha) (fun m m1 m2 hw => hno (ring_ex hj ⟨m, m1, m2, hw⟩)) S h1
    refine ⟨q, hq, hsq, fun i hi hsi => ?_⟩
    have h9 := hx i hi hsi
    unfold newE at h9
    by_cases e : q = j
    · subst e
      rw [if_pos rfl] at h9
      rw [e4]; exact h9
    · rw [if_neg e] at h9
      have h8 := h2 q hq hsq
      unfold runsB at h8 h9
      rw [hne q e] at h8 ⊢
      rw [h8, Bool.true_and] at h9
      exact h9
  · by_cases e : i = j
    · subst e
      rw [e0] at h0
      have := (nI_eq (a := c) (b := 0) (by omega) (by decide)).mp h0
      omega
    · rw [hne i e] at h0 ⊢
      exact he i hi h0
/-- days, persons and the day as known -/
theorem kn_spec {g : Sg} (ho : okS g) (D : Nat) {i : Nat} (hi : i < gn g) : ix (gL g i 0) ≤ D ↔ i < kn (gL g) D (gn g) := by
  have key : ∀ n, n ≤ gn g → ∀ i, i < n → (ix (gL g i 0) ≤ D ↔ i < kn (gL g) D n) := by
    intro n
    induction n with
    | zero => intro _ i hi; omega
    | succ n ih =>
      intro hn i hi
      unfold kn
      by_cases h : ix (gL g n 0) ≤ D
      · rw [if_pos h]
        refine ⟨fun _ => hi, fun _ => ?_⟩
        by_cases e : i = n
        · subst e; exact h
        · exact Nat.le_trans (ho.2.2.2.2.1 i n (by omega) (by omega)) h
      · rw [if_neg h]
        by_cases e : i = n
        · subst e
          have := kn_le (gL g) D i
          exact ⟨fun z => absurd z h, fun z => by omega⟩
        · exact ih (by omega) i (by omega)
  exact key _ (Nat.le_refl _) i hi
theorem okS_pers {g : Sg} (ho : okS g) (h : gp g ≠ 6) : okS (gL g, gn g, gp g + 1, gt g, ga g, gr g, gq g) := by
  obtain ⟨⟨a1, a2, a3⟩, b⟩ := ho
  exact ⟨⟨a1, by show gp g + 1 ≤ 6; omega, a3⟩, b⟩
theorem okS_today {g : Sg} (ho : okS g) {d : Nat} (h : d < 3600) (hd : gt g ≤ d) : okS (gL g, gn g, gp g, d, ga g, gr g, gq g) := by
  obtain ⟨⟨a1, a2, a3⟩, b, c, e, f⟩ := ho
  refine ⟨⟨a1, a2, h⟩, ?_, c, fun i hi => ?_, f⟩
  · rcases b with b | ⟨x, hx, ex⟩
    · exact Or.inl b
    · exact Or.inr ⟨x, Nat.le_trans hx hd, ex⟩
  · obtain ⟨⟨x, hx, ex⟩, e2⟩ := e i hi
    exact ⟨⟨x, Nat.le_trans hx hd, ex⟩, e2⟩
theorem okS_as {g : Sg} (ho : okS g) {a : Int32} (h : a = -1 ∨ ∃ d, d ≤ gt g ∧ a = nI d) : okS (gL g, gn g, gp g, gt g, a, gr g, gq g) := ⟨ho.1, h, ho.2.2⟩
theorem okS_ring {g : Sg} (ho : okS g) {n : Nat} {q : Nat → Nat} (h : n ≤ 12) (hq : ∀ j, j < n → q j < 12) : okS (gL g, gn g, gp g, gt g, ga g, n, q) := ⟨ho.1, ho.2.1, ⟨h, hq⟩, ho.2.2.2⟩
theorem ringOf_lt {E : Nat → Nat → Bool} {p L : Nat} {rg : Nat → Nat} (hr : ringOf E p L rg) : L ≤ 12 ∧ ∀ j, j < L → rg j < 12 := ⟨hr.2.1, fun j hj => by
  cases j with
  | zero => exact hr.2.2.2.2.1
  | succ j => exact (hr.2.2.2.2.2.2.2.1 j hj).1⟩
