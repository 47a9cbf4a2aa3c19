/-! the reference's search for rings -/
def EM (w : St) (k o : Nat) : Bool := decide (w.1 224 k ≠ 2 ∧ (2 ≤ w.1 224 k ∧ w.1 224 k ≤ 5) ∧ (2 ≤ w.1 224 o ∧ w.1 224 o ≤ 5)) && bt (w.1 228 k) o
theorem EM_iff {w : St} {k o : Nat} : EM w k o = true ↔ w.1 224 k ≠ 2 ∧ (2 ≤ w.1 224 k ∧ w.1 224 k ≤ 5) ∧ (2 ≤ w.1 224 o ∧ w.1 224 o ≤ 5) ∧ bt (w.1 228 k) o = true := by
  unfold EM
  rw [Bool.and_eq_true, decide_eq_true_eq]
  exact ⟨fun ⟨⟨a, b, c⟩, d⟩ => ⟨a, b, c, d⟩, fun ⟨a, b, c, d⟩ => ⟨⟨a, b, c⟩, d⟩⟩
theorem leR.trans {n m k : Nat} {t s r : Nat → Nat} (h : leR n t m s) (h' : leR m s k r) : leR n t k r := by
  rcases h with h | ⟨rfl, h⟩
  · rcases h' with h' | ⟨rfl, -⟩
    · exact Or.inl (by omega)
    · exact Or.inl h
  · rcases h' with h' | ⟨rfl, h'⟩
    · exact Or.inl h'
    · refine Or.inr ⟨rfl, ?_⟩
      rcases h with h | ⟨i, hi, hie, hil⟩
      · rcases h' with h' | ⟨j, hj, hje, hjl⟩
        · exact Or.inl (fun x hx => (h x hx).trans (h' x hx))
        · exact Or.inr ⟨j, hj, fun x hx => (h x (by omega)).trans (hje x hx), by rw [h j hj]; exact hjl⟩
      · rcases h' with h' | ⟨j, hj, hje, hjl⟩
        · exact Or.inr ⟨i, hi, fun x hx => (hie x hx).trans (h' x (by omega)), by rw [← h' i hi]; exact hil⟩
        · rcases Nat.lt_trichotomy i j with q | q | q
          · exact Or.inr ⟨i, hi, fun x hx => (hie x hx).trans (hje x (by omega)), by rw [← hje i q]; exact hil⟩
          · subst q
            exact Or.inr ⟨i, hi, fun x hx => (hie x hx).trans (hje x hx), Nat.lt_trans hil hjl⟩
          · exact Or.inr ⟨j, hj, fun x hx => (hie x (by omega)).trans (hje x hx), by rw [hie j q]; exact hjl⟩
theorem leR.eq {n : Nat} {t s : Nat → Nat} (h : ∀ i, i < n → t i = s i) : leR n t n s := Or.inr ⟨rfl, Or.inl h⟩
theorem isTu_ex {n : Nat} (v : Nat → Nat) (h : 1 ≤ n) : ∃ s, isTu n v s := by
  have key : ∀ m, 1 ≤ m → ∃ l, l < m ∧ ∀ i, i < m → v l ≤ v i := by
    intro m
    induction m with
    | zero => intro h; omega
    | succ m ih =>
      intro _
      by_cases h0 : m = 0
      · subst h0
        exact ⟨0, by omega, fun i hi => by rw [show i = 0 by omega]; exact Nat.le_refl _⟩
      · obtain ⟨l, hl, hm⟩ := ih (by omega)
        by_cases hc : v m < v l
        · exact ⟨m, by omega, fun i hi => by
            by_cases e : i = m
            · rw [e]; exact Nat.le_refl _
            · have := hm i (by omega); omega⟩
        · exact ⟨l, by omega, fun i hi => by
            by_cases e : i = m
            · rw [e]; omega
            · exact hm i (by omega)⟩
  obtain ⟨l, hl, hm⟩ := key n h
  exact ⟨fun i => v ((l + i) % n), l, hl, hm, fun i hi => rfl⟩
theorem isTu_uniq {n : Nat} {v u t s : Nat → Nat} (hd : ∀ i j, i < j → j < n → v i ≠ v j) (huv : ∀ i, i < n → u i = v i) (h : isTu n v t) (h' : isTu n u s) : ∀ i, i < n → t i = s i := by
  obtain ⟨l, hl, hm, ht⟩ := h
  obtain ⟨k, hk, hm', hs⟩ := h'
  have hlk : l = k := by
    have h1 := hm k hk
    have h2 := hm' l hl
    rw [huv l hl, huv k hk] at h2
    rcases Nat.lt_trichotomy l k with q | q | q
    · exact absurd (by omega) (hd l k q hk)
    · exact q
    · exact absurd (by omega) (hd k l q hl)
  subst hlk
  intro i hi
  rw [ht i hi, hs i hi, huv _ (Nat.mod_lt _ (by omega))]
/-- how the best changes by one ring -/
def BetR (n : Nat) (v : Nat → Nat) (b : Nat) (tb : Nat → Nat) (b' : Nat) (tb' : Nat → Nat) : Prop := (b' = n ∧ isTu n v tb' ∧ (b = 0 ∨ leR n tb' b tb)) ∨ (b' = b ∧ tb' = tb ∧ b ≠ 0 ∧ ∃ t, isTu n v t ∧ leR b tb n t)
/-- the state of the compare -/
def OrdI (n b i : Nat) (t tb : Nat → Nat) (x : Int32) : Prop := (x = 0 ∧ n = b ∧ b ≠ 0 ∧ ∀ j, j < i → t j = tb j) ∨ (x < 0 ∧ (b = 0 ∨ leR n t b tb)) ∨ (0 < x ∧ b ≠ 0 ∧ leR b tb n t)
theorem OrdI_step {n b i : Nat} {t tb : Nat → Nat} (h : OrdI n b i t tb 0) (hi : i < n) (ht : t i < 12) (htb : tb i < 12) : OrdI n b (i + 1) t tb (nI (t i) - nI (tb i)) := by
  have hs := pk_sub_toInt (a := t i) (b := tb i) (by omega) (by omega)
  have e0 : (0 : Int32).toInt = 0 := rfl
  rcases h with ⟨-, hn, hb, he⟩ | ⟨h, -⟩ | ⟨h, -⟩
  · rcases Nat.lt_trichotomy (t i) (tb i) with q | q | q
    · refine Or.inr (Or.inl ⟨by rw [Int32.lt_iff_toInt_lt, hs, e0]; omega, Or.inr (Or.inr ⟨hn, Or.inr ⟨i, hi, he, q⟩⟩)⟩)
    · refine Or.inl ⟨?_, hn, hb, fun j hj => ?_⟩
      · apply i_ext
        rw [hs, e0]; omega
      · by_cases e : j = i
        · subst e; exact q
        · exact he j (by omega)
    · exact Or.inr (Or.inr ⟨by rw [Int32.lt_iff_toInt_lt, hs, e0]; omega, hb, Or.inr ⟨hn.symm, Or.inr ⟨i, by omega, fun j hj => (he j hj).symm, q⟩⟩⟩)
  · exact absurd h (by decide)
  · exact absurd h (by decide)
theorem OrdI_0 {n b : Nat} {t tb : Nat → Nat} (hn : n ≤ 12) (hb : b ≤ 12) (h0 : b ≠ 0) : OrdI n b 0 t tb (nI n - nI b) := by
  have hs := pk_sub_toInt (a := n) (b := b) (by omega) (by omega)
  have e0 : (0 : Int32).toInt = 0 := rfl
  rcases Nat.lt_trichotomy n b with q | q | q
  · exact Or.inr (Or.inl ⟨by rw [Int32.lt_iff_toInt_lt, hs, e0]; omega, Or.inr (Or.inl q)⟩)
  · exact Or.inl ⟨by apply i_ext; rw [hs, e0]; omega, q, h0, fun j hj => by omega⟩
  · exact Or.inr (Or.inr ⟨by rw [Int32.lt_iff_toInt_lt, hs, e0]; omega, h0, Or.inl q⟩)
/-- the next place of a ring -/
def nxR (m : Nat) (u : Nat → Nat) (p i : Nat) : Nat := if i + 1 < m then u (i + 1) else p
theorem isRg_nx {E : Nat → Nat → Bool} {p m : Nat} {u : Nat → Nat} (h : isRg E p m u) (hp : p < 12) {i : Nat} (hi : i < m) : E (u i) (nxR m u p i) = true ∧ nxR m u p i < 12 := by
  unfold nxR
  split
  · next q => exact ⟨h.2.2.2.1 i q, h.2.2.1 _ q⟩
  · next q => rw [show i = m - 1 by omega]; exact ⟨h.2.2.2.2.1, hp⟩
/-- the rings that the search has left behind -/
def DN (p n : Nat) (v x : Nat → Nat) (m : Nat) (u : Nat → Nat) : Prop := n = 0 ∨ ∃ i, i < n ∧ i < m ∧ (∀ j, j ≤ i → u j = v j) ∧ nxR m u p i < (if i + 1 < n then v (i + 1) else x i)
def tcR : Nat → Nat
  | 0 => 1
  | j + 1 => 13 * tcR j + 2
def muR (x : Nat → Nat) : Nat → Nat
  | 0 => 0
  | n + 1 => muR x n + ((13 - x n) * tcR (12 - n) + 1)
theorem muR_cong {x y : Nat → Nat} : ∀ {n : Nat}, (∀ i, i < n → x i = y i) → muR x n = muR y n
  | 0, _ => rfl
  | n + 1, h => by
    unfold muR
    rw [muR_cong (fun i hi => h i (by omega)), h n (by omega)]
theorem tcR_pos : ∀ j, 1 ≤ tcR j
  | 0 => Nat.le_refl _
  | j + 1 => by unfold tcR; omega
/-- the search's state: n places on the way -/
def SI (w w2 : St) (p n : Nat) (v x : Nat → Nat) (b : Nat) (tb : Nat → Nat) : Prop :=
  (n ≤ 12 ∧ b ≤ 12) ∧ (Fr w w2 (fun z => z = 221 ∨ (243 ≤ z ∧ z ≤ 246)) ∧ ∀ k, k ≠ 30 → w2.1 221 k = w.1 221 k) ∧
  (∀ i, i < n → v i < 12 ∧ w2.1 243 i = nI (v i) ∧ x i ≤ 13 ∧ w2.1 244 i = nI (x i)) ∧ (1 ≤ n → v 0 = p) ∧
  (∀ i, i + 1 < n → EM w (v i) (v (i + 1)) = true ∧ x i = v (i + 1) + 1) ∧ (∀ i j, i < j → j < n → v i ≠ v j) ∧
  (w2.1 221 30 = nI b ∧ ∀ j, j < b → tb j < 12 ∧ w2.1 246 j = nI (tb j)) ∧
  (b ≠ 0 → ∃ u, isRg (EM w) p b u ∧ isTu b u tb) ∧ ∀ m u s, isRg (EM w) p m u → DN p n v x m u → isTu m u s → b ≠ 0 ∧ leR b tb m s
/-- one step at the last place: next goes up -/
theorem SI_next {w w2 : St} {p n b : Nat} {v x tb : Nat → Nat} (h : SI w w2 p (n + 1) v x b tb) (hp : p < 12) (hx : x n < 12) (hno : ∀ m u, isRg (EM w) p m u → n < m → (∀ j, j ≤ n → u j = v j) → nxR m u p n ≠ x n) : SI w (wset w2 244 n (nI (x n + 1))) p (n + 1) v (up1 x n (x n + 1)) b tb := by
  obtain ⟨a, ⟨f1, f2⟩, c, d, e, f, g, k1, k2⟩ := h
  have hxn : up1 x n (x n + 1) n = x n + 1 := if_pos rfl
  have hxo : ∀ i, i ≠ n → up1 x n (x n + 1) i = x i := fun i hi => if_neg hi
  refine ⟨a, ⟨Fr.set f1 (by omega), fun k hk => by rw [wset_ne _ _ _ _ (by decide)]; exact f2 k hk⟩, fun i hi => ?_, d, fun i hi => ⟨(e i hi).1, by rw [hxo i (by omega)]; exact (e i hi).2⟩, f, ⟨by rw [wset_ne _ _ _ _ (by decide)]; exact g.1, fun j hj => by rw [wset_ne _ _ _ _ (by decide)]; exact g.2 j hj⟩, k1, fun m u s hu hd hs => k2 m u s hu ?_ hs⟩
  · obtain ⟨c1, c2, c3, c4⟩ := c i hi
    refine ⟨c1, by rw [wset_ne _ _ _ _ (by decide)]; exact c2, ?_, ?_⟩
    · by_cases q : i = n
      · subst q; rw [hxn]; omega
      · rw [hxo i q]; exact c3
    · rw [wset_1]
      by_cases q : i = n
      · subst q; rw [if_pos ⟨rfl, rfl⟩, hxn]
      · rw [if_neg (fun z => q z.2), hxo i q]; exact c4
  · rcases hd with hd | ⟨i, hi, him, hag, hlt⟩
    · omega
    · refine Or.inr ⟨i, hi, him, hag, ?_⟩
      by_cases q : i = n
      · subst q
        rw [if_neg (by omega), hxn] at hlt
        rw [if_neg (by omega)]
        have h9 := hno m u hu him hag
        omega
      · rw [if_pos (by omega)] at hlt ⊢
        exact hlt
theorem muR_next {x : Nat → Nat} {n : Nat} (hn : n < 12) (hx : x n < 13) : muR (up1 x n (x n + 1)) (n + 1) + tcR (12 - n) = muR x (n + 1) := by
  show muR _ n + _ + _ = muR x n + _
  rw [muR_cong (x := up1 x n (x n + 1)) (y := x) (fun i hi => if_neg (by omega)), show up1 x n (x n + 1) n = x n + 1 from if_pos rfl]
  have : 13 - x n = (13 - (x n + 1)) + 1 := by omega
  rw [this, Nat.add_mul, Nat.one_mul]
  omega
/-- back from the last place -/
theorem SI_pop {w w2 : St} {p n b : Nat} {v x tb : Nat → Nat} {y : Int32} (h : SI w w2 p (n + 1) v x b tb) (hp : p < 12) (hx : 12 ≤ x n) : SI w (wset w2 244 n y) p n v x b tb := by
  obtain ⟨a, ⟨f1, f2⟩, c, d, e, f, g, k1, k2⟩ := h
  refine ⟨⟨by omega, a.2⟩, ⟨Fr.set f1 (by omega), fun k hk => by rw [wset_ne _ _ _ _ (by decide)]; exact f2 k hk⟩, fun i hi => ?_, fun hn => d (by omega), fun i hi => e i (by omega), fun i j hij hj => f i j hij (by omega), ⟨by rw [wset_ne _ _ _ _ (by decide)]; exact g.1, fun j hj => by rw [wset_ne _ _ _ _ (by decide)]; exact g.2 j hj⟩, k1, fun m u s hu hd hs => k2 m u s hu ?_ hs⟩
  · obtain ⟨c1, c2, c3, c4⟩ := c i (by omega)
    exact ⟨c1, by rw [wset_ne _ _ _ _ (by decide)]; exact c2, c3, by rw [wset_1, if_neg (by omega)]; exact c4⟩
  · rcases hd with hd | ⟨i, hi, him, hag, hlt⟩
    · subst hd
      refine Or.inr ⟨0, by omega, hu.1, fun j hj => ?_, ?_⟩
      · rw [show j = 0 by omega, hu.2.1, d (by omega)]
      · rw [if_neg (by omega)]
        exact Nat.lt_of_lt_of_le (isRg_nx hu hp hu.1).2 hx
    · by_cases q : i + 1 < n
      · rw [if_pos q] at hlt
        exact Or.inr ⟨i, by omega, him, hag, by rw [if_pos (by omega)]; exact hlt⟩
      · rw [if_neg q] at hlt
        have hin : i + 1 = n := by omega
        have hxi := (e i (by omega)).2
        rw [hxi] at hlt
        rcases Nat.lt_or_ge (nxR m u p i) (v (i + 1)) with q2 | q2
        · exact Or.inr ⟨i, by omega, him, hag, by rw [if_pos (by omega)]; exact q2⟩
        · have heq : nxR m u p i = v (i + 1) := by omega
          have him2 : i + 1 < m := by
            rcases Nat.lt_or_ge (i + 1) m with q3 | q3
            · exact q3
            · exfalso
              unfold nxR at heq
              rw [if_neg (by omega), ← d (by omega)] at heq
              exact f 0 (i + 1) (by omega) (by omega) heq
          refine Or.inr ⟨n, by omega, by omega, fun j hj => ?_, ?_⟩
          · by_cases q4 : j = n
            · rw [q4, ← hin]
              unfold nxR at heq
              rw [if_pos him2] at heq
              exact heq
            · exact hag j (by omega)
          · rw [if_neg (by omega)]
            exact Nat.lt_of_lt_of_le (isRg_nx hu hp (by omega)).2 hx
theorem SI_push {w w2 : St} {p n b : Nat} {v x tb : Nat → Nat} (h : SI w w2 p (n + 1) v x b tb) (hx : x n < 12) (hE : EM w (v n) (x n) = true) (hon : ∀ j, j < n + 1 → v j ≠ x n) :
    n + 2 ≤ 12 ∧ SI w (wset (wset (wset w2 244 n (nI (x n + 1))) 243 (n + 1) (nI (x n))) 244 (n + 1) 0) p (n + 2) (up1 v (n + 1) (x n)) (up1 (up1 x n (x n + 1)) (n + 1) 0) b tb := by
  obtain ⟨a, ⟨f1, f2⟩, c, d, e, f, g, k1, k2⟩ := h
  have hvn : up1 v (n + 1) (x n) (n + 1) = x n := if_pos rfl
  have hvo : ∀ i, i ≠ n + 1 → up1 v (n + 1) (x n) i = v i := fun i hi => if_neg hi
  have hx1 : up1 (up1 x n (x n + 1)) (n + 1) 0 (n + 1) = 0 := if_pos rfl
  have hx0 : up1 (up1 x n (x n + 1)) (n + 1) 0 n = x n + 1 := by
    unfold up1
    rw [if_neg (by omega), if_pos rfl]
  have hxo : ∀ i, i < n → up1 (up1 x n (x n + 1)) (n + 1) 0 i = x i := fun i hi => by
    unfold up1
    rw [if_neg (by omega), if_neg (by omega)]
  have hdis : ∀ i j, i < j → j < n + 2 → up1 v (n + 1) (x n) i ≠ up1 v (n + 1) (x n) j := fun i j hij hj => by
    by_cases q : j = n + 1
    · rw [q, hvn, hvo i (by omega)]
      exact hon i (by omega)
    · rw [hvo i (by omega), hvo j q]
      exact f i j hij (by omega)
  have hlt : ∀ i, i < n + 2 → up1 v (n + 1) (x n) i < 12 := fun i hi => by
    by_cases q : i = n + 1
    · rw [q, hvn]; exact hx
    · rw [hvo i q]; exact (c i (by omega)).1
  have h12 : n + 2 ≤ 12 := by
    rcases Nat.lt_or_ge 12 (n + 2) with q | q
    · exfalso
      have : n + 2 = 13 := by omega
      obtain ⟨i, j, hij, hj, e9⟩ := fb_twice (m := 12) (n := 13) (f := up1 v (n + 1) (x n)) (fun i hi => hlt i (by omega)) (by decide)
      exact hdis i j hij (by omega) e9
    · exact q
  refine ⟨h12, ⟨h12, a.2⟩, ⟨Fr.set (Fr.set (Fr.set f1 (by omega)) (by omega)) (by omega), fun k hk => by rw [wset_ne _ _ _ _ (by decide), wset_ne _ _ _ _ (by decide), wset_ne _ _ _ _ (by decide)]; exact f2 k hk⟩, fun i hi => ⟨hlt i hi, ?_, ?_, ?_⟩, fun _ => by rw [hvo 0 (by omega)]; exact d (by omega), fun i hi => ?_, hdis, ⟨by rw [wset_ne _ _ _ _ (by decide), wset_ne _ _ _ _ (by decide), wset_ne _ _ _ _ (by decide)]; exact g.1, fun j hj => by rw [wset_ne _ _ _ _ (by decide), wset_ne _ _ _ _ (by decide), wset_ne _ _ _ _ (by decide)]; exact g.2 j hj⟩, k1, fun m u s hu hd hs => k2 m u s hu ?_ hs⟩
  · rw [wset_ne _ _ _ _ (by decide), wset_1]
    by_cases q : i = n + 1
    · rw [if_pos ⟨rfl, q⟩, q, hvn]
    · rw [if_neg (fun z => q z.2), wset_ne _ _ _ _ (by decide), hvo i q]
      exact (c i (by omega)).2.1
  · by_cases q : i = n + 1
    · rw [q, hx1]; omega
    · by_cases q2 : i = n
      · rw [q2, hx0]; omega
      · rw [hxo i (by omega)]; exact (c i (by omega)).2.2.1
  · rw [wset_1]
    by_cases q : i = n + 1
    · rw [if_pos ⟨rfl, q⟩, q, hx1]; rfl
    · rw [if_neg (fun z => q z.2), wset_ne _ _ _ _ (by decide), wset_1]
      by_cases q2 : i = n
      · rw [if_pos ⟨rfl, q2⟩, q2, hx0]
      · rw [if_neg (fun z => q2 z.2), hxo i (by omega)]
        exact (c i (by omega)).2.2.2
  · by_cases q : i = n
    · rw [q, hvn, hvo n (by omega), hx0]
      exact ⟨hE, rfl⟩
    · rw [hvo i (by omega), hvo (i + 1) (by omega), hxo i (by omega)]
      exact e i (by omega)
  · rcases hd with hd | ⟨i, hi, him, hag, hl⟩
    · omega
    · by_cases q : i = n + 1
      · rw [q, if_neg (by omega), hx1] at hl
        omega
      · refine Or.inr ⟨i, by omega, him, fun j hj => by rw [hag j hj, hvo j (by omega)], ?_⟩
        rw [if_pos (by omega)] at hl
        by_cases q2 : i = n
        · rw [q2, hvn] at hl
          rw [q2, if_neg (by omega)]
          exact hl
        · rw [hvo (i + 1) (by omega)] at hl
          rw [if_pos (by omega)]
          exact hl
theorem SI_better {w w2 w3 : St} {p n b b' : Nat} {v x tb tb' : Nat → Nat} (h : SI w w2 p (n + 1) v x b tb) (hp : p < 12) (hx : x n = p) (hE : EM w (v n) p = true) (hf : Fr (wset w2 244 n (nI (x n + 1))) w3 (fun z => z = 221 ∨ z = 245 ∨ z = 246)) (hk : ∀ k, k ≠ 30 → w3.1 221 k = (wset w2 244 n (nI (x n + 1))).1 221 k) (hb1 : 1 ≤ b') (hb12 : b' ≤ 12) (hbs : w3.1 221 30 = nI b') (htb : ∀ j, j < b' → tb' j < 12 ∧ w3.1 246 j = nI (tb' j)) (hr : BetR (n + 1) v b tb b' tb') :
    SI w w3 p (n + 1) v (up1 x n (x n + 1)) b' tb' := by
  obtain ⟨a, ⟨f1, f2⟩, c, d, e, f, g, k1, k2⟩ := h
  have hxn : up1 x n (x n + 1) n = x n + 1 := if_pos rfl
  have hxo : ∀ i, i ≠ n → up1 x n (x n + 1) i = x i := fun i hi => if_neg hi
  have hring : isRg (EM w) p (n + 1) v := ⟨by omega, d (by omega), fun i hi => (c i hi).1, fun i hi => (e i hi).1, hE, f⟩
  have hb0 : b' ≠ 0 := by omega
  refine ⟨⟨a.1, hb12⟩, ⟨⟨hf.1.trans f1.1, fun z hz => ?_⟩, fun k hk9 => ?_⟩, fun i hi => ?_, d, fun i hi => ⟨(e i hi).1, by rw [hxo i (by omega)]; exact (e i hi).2⟩, f, ⟨hbs, htb⟩, fun _ => ?_, fun m u s hu hd hs => ⟨hb0, ?_⟩⟩
  · rw [hf.2 z (by omega), wset_ne _ _ _ _ (by omega)]
    exact f1.2 z hz
  · rw [hk k hk9, wset_ne _ _ _ _ (by decide)]
    exact f2 k hk9
  · obtain ⟨c1, c2, c3, c4⟩ := c i hi
    refine ⟨c1, by rw [hf.2 243 (by decide), wset_ne _ _ _ _ (by decide)]; exact c2, ?_, ?_⟩
    · by_cases q : i = n
      · subst q; rw [hxn]; omega
      · rw [hxo i q]; exact c3
    · rw [hf.2 244 (by decide), wset_1]
      by_cases q : i = n
      · subst q; rw [if_pos ⟨rfl, rfl⟩, hxn]
      · rw [if_neg (fun z => q z.2), hxo i q]; exact c4
  · rcases hr with ⟨rfl, ht, -⟩ | ⟨rfl, rfl, hbn, -⟩
    · exact ⟨v, hring, ht⟩
    · exact k1 hbn
  · have hold : DN p (n + 1) v x m u → leR b' tb' m s := fun hd => by
      obtain ⟨h1, h2⟩ := k2 m u s hu hd hs
      rcases hr with ⟨rfl, ht, h3⟩ | ⟨rfl, rfl, -, -⟩
      · rcases h3 with h3 | h3
        · exact absurd h3 h1
        · exact h3.trans h2
      · exact h2
    rcases hd with hd | ⟨i, hi, him, hag, hl⟩
    · omega
    · by_cases q : i = n
      · subst q
        rw [if_neg (by omega), hxn] at hl
        rcases Nat.lt_or_ge (nxR m u p i) (x i) with q2 | q2
        · exact hold (Or.inr ⟨i, hi, him, hag, by rw [if_neg (by omega)]; exact q2⟩)
        · have heq : nxR m u p i = p := by omega
          have hm : m = i + 1 := by
            rcases Nat.lt_or_ge (i + 1) m with q3 | q3
            · exfalso
              unfold nxR at heq
              rw [if_pos q3, ← hu.2.1] at heq
              exact hu.2.2.2.2.2 0 (i + 1) (by omega) q3 heq.symm
            · omega
          subst hm
          have huv : ∀ j, j < i + 1 → u j = v j := fun j hj => hag j (by omega)
          rcases hr with ⟨rfl, ht, -⟩ | ⟨rfl, rfl, -, t, ht, hl2⟩
          · exact leR.eq (isTu_uniq f huv ht hs)
          · exact hl2.trans (leR.eq (isTu_uniq f huv ht hs))
      · rw [if_pos (by omega)] at hl
        exact hold (Or.inr ⟨i, hi, him, hag, by rw [if_pos (by omega)]; exact hl⟩)
abbrev T_X8_names : Tr := fun lay av w Po => ∃ (k o : Nat), av = [.ref (lay 221), .int (nI k), .int (nI o)] ∧ (k < 12) ∧ (o < 12) ∧ Po (some (.int (bI (EM w k o = true)))) w
set_option maxRecDepth 100000 in
set_option maxHeartbeats 4000000 in
theorem c_X8_names : Ct yX8_names cX8_names 3 (some .boolean) 1 0 0 T_X8_names := by
  refine Ct.mk (by decide +kernel) ?_
  intro X av w Po hX hR hT
  obtain ⟨k, o, rfl, hk, ho, h⟩ := hT
  refine ⟨rfl, ?_⟩
  show A X 0 0 0 [some (.ref (xlay X 221)), some (.int (nI k)), some (.int (nI o))] [] w
  refine a_aload_n hX dX8_names_0 rfl ?_
  refine gf_X8_20 rfl hX dX8_names_1 ?_
  refine a_iload_n hX dX8_names_4 rfl ?_
  refine a_iald (k) hX rfl rfl (show _ < 12 by omega) dX8_names_5 ?_
  refine a_iconst (2) hX dX8_names_6 (by decide) ?_
  refine a_icmp_eq 44 hX dX8_names_7 (by decide) (fun c_7 => ?_) (fun c_7 => ?_)
  · refine a_iconst (0) hX dX8_names_44 (by decide) ?_
    refine a_iret hX hR dX8_names_45 ⟨Nat.le_refl _, Nat.le_refl _⟩ rfl ?_
    first
    | exact po_int h (bI_t (EM_iff.mpr ⟨c_7, c_15, c_23, (bt_1c (by omega)).mp c_37⟩))
    | exact po_int h (bI_f (fun z => c_37 ((bt_1c (by omega)).mpr (EM_iff.mp z).2.2.2)))
    | exact po_int h (bI_f (fun z => c_23 (EM_iff.mp z).2.2.1))
    | exact po_int h (bI_f (fun z => c_15 (EM_iff.mp z).2.1))
    | exact po_int h (bI_f (fun z => (EM_iff.mp z).1 c_7))
  · refine a_aload_n hX dX8_names_10 rfl ?_
    refine a_iload_n hX dX8_names_11 rfl ?_
    refine a_callV [_] hX c_X8_runs mi_X8_runs mv_X8_runs se_X8_runs (klt rfl (by decide)) (adr_lt (kd_lt rfl (by decide))) (cell_8 rfl) rfl li_X8_117 (by decide) rfl rfl (Nat.le_of_ble_eq_true rfl) (fun q => q) dX8_names_12 ⟨_, rfl, (by assumption), ?_⟩
    refine a_if_eq_b 44 hX dX8_names_15 (by decide) (fun c_15 => ?_) (fun c_15 => ?_)
    · refine a_iconst (0) hX dX8_names_44 (by decide) ?_
      refine a_iret hX hR dX8_names_45 ⟨Nat.le_refl _, Nat.le_refl _⟩ rfl ?_
      first
      | exact po_int h (bI_t (EM_iff.mpr ⟨c_7, c_15, c_23, (bt_1c (by omega)).mp c_37⟩))
      | exact po_int h (bI_f (fun z => c_37 ((bt_1c (by omega)).mpr (EM_iff.mp z).2.2.2)))
      | exact po_int h (bI_f (fun z => c_23 (EM_iff.mp z).2.2.1))
      | exact po_int h (bI_f (fun z => c_15 (EM_iff.mp z).2.1))
      | exact po_int h (bI_f (fun z => (EM_iff.mp z).1 c_7))
    · refine a_aload_n hX dX8_names_18 rfl ?_
      refine a_iload_n hX dX8_names_19 rfl ?_
      refine a_callV [_] hX c_X8_runs mi_X8_runs mv_X8_runs se_X8_runs (klt rfl (by decide)) (adr_lt (kd_lt rfl (by decide))) (cell_8 rfl) rfl li_X8_117 (by decide) rfl rfl (Nat.le_of_ble_eq_true rfl) (fun q => q) dX8_names_20 ⟨_, rfl, (by assumption), ?_⟩
      refine a_if_eq_b 44 hX dX8_names_23 (by decide) (fun c_23 => ?_) (fun c_23 => ?_)
      · refine a_iconst (0) hX dX8_names_44 (by decide) ?_
        refine a_iret hX hR dX8_names_45 ⟨Nat.le_refl _, Nat.le_refl _⟩ rfl ?_
        first
        | exact po_int h (bI_t (EM_iff.mpr ⟨c_7, c_15, c_23, (bt_1c (by omega)).mp c_37⟩))
        | exact po_int h (bI_f (fun z => c_37 ((bt_1c (by omega)).mpr (EM_iff.mp z).2.2.2)))
        | exact po_int h (bI_f (fun z => c_23 (EM_iff.mp z).2.2.1))
        | exact po_int h (bI_f (fun z => c_15 (EM_iff.mp z).2.1))
        | exact po_int h (bI_f (fun z => (EM_iff.mp z).1 c_7))
      · refine a_aload_n hX dX8_names_26 rfl ?_
        refine gf_X8_32 rfl hX dX8_names_27 ?_
        refine a_iload_n hX dX8_names_30 rfl ?_
        refine a_iald (k) hX rfl rfl (show _ < 12 by omega) dX8_names_31 ?_
        refine a_iload_n hX dX8_names_32 rfl ?_
        refine a_ishr hX dX8_names_33 ?_
        refine a_iconst (1) hX dX8_names_34 (by decide) ?_
        refine a_iand hX dX8_names_35 ?_
        refine a_iconst (1) hX dX8_names_36 (by decide) ?_
        refine a_icmp_ne 44 hX dX8_names_37 (by decide) (fun c_37 => ?_) (fun c_37 => ?_)
        · refine a_iconst (0) hX dX8_names_44 (by decide) ?_
          refine a_iret hX hR dX8_names_45 ⟨Nat.le_refl _, Nat.le_refl _⟩ rfl ?_
          first
          | exact po_int h (bI_t (EM_iff.mpr ⟨c_7, c_15, c_23, (bt_1c (by omega)).mp c_37⟩))
          | exact po_int h (bI_f (fun z => c_37 ((bt_1c (by omega)).mpr (EM_iff.mp z).2.2.2)))
          | exact po_int h (bI_f (fun z => c_23 (EM_iff.mp z).2.2.1))
          | exact po_int h (bI_f (fun z => c_15 (EM_iff.mp z).2.1))
          | exact po_int h (bI_f (fun z => (EM_iff.mp z).1 c_7))
        · refine a_iconst (1) hX dX8_names_40 (by decide) ?_
          refine a_goto 45 hX dX8_names_41 (by decide) ?_
          refine a_iret hX hR dX8_names_45 ⟨Nat.le_refl _, Nat.le_refl _⟩ rfl ?_
          first
          | exact po_int h (bI_t (EM_iff.mpr ⟨c_7, c_15, c_23, (bt_1c (by omega)).mp c_37⟩))
          | exact po_int h (bI_f (fun z => c_37 ((bt_1c (by omega)).mpr (EM_iff.mp z).2.2.2)))
          | exact po_int h (bI_f (fun z => c_23 (EM_iff.mp z).2.2.1))
          | exact po_int h (bI_f (fun z => c_15 (EM_iff.mp z).2.1))
          | exact po_int h (bI_f (fun z => (EM_iff.mp z).1 c_7))
abbrev T_X8_isBetter : Tr := fun lay av w Po => ∃ (n b : Nat) (v tb : Nat → Nat), av = [.ref (lay 221), .int (nI n)] ∧ (1 ≤ n) ∧ (n ≤ 12) ∧ (∀ i, i < n → v i < 12 ∧ w.1 243 i = nI (v i)) ∧ (b ≤ 12) ∧ (w.1 221 30 = nI b) ∧ (∀ j, j < b → tb j < 12 ∧ w.1 246 j = nI (tb j)) ∧ ∀ (w' : St) (b' : Nat) (tb' : Nat → Nat), Fr w w' (fun z => z = 221 ∨ z = 245 ∨ z = 246) → (∀ k, k ≠ 30 → w'.1 221 k = w.1 221 k) → 1 ≤ b' → b' ≤ 12 → w'.1 221 30 = nI b' → (∀ j, j < b' → tb' j < 12 ∧ w'.1 246 j = nI (tb' j)) → BetR n v b tb b' tb' → Po none w'
set_option maxRecDepth 100000 in
set_option maxHeartbeats 4000000 in
theorem c_X8_isBetter : Ct yX8_isBetter cX8_isBetter 5 none 0 0 0 T_X8_isBetter := by
  refine Ct.mk (by decide +kernel) ?_
  intro X av w Po hX hR hT
  obtain ⟨n, b, v, tb, rfl, h1, hn, hv, hb, hbs, htb, h⟩ := hT
  refine ⟨rfl, ?_⟩
  show A X 0 0 0 [some (.ref (xlay X 221)), some (.int (nI n)), none, none, none] [] w
  refine a_iconst (0) hX dX8_isBetter_0 (by decide) ?_
  refine a_istore_n (ls' := [_, _, _, _, _]) hX dX8_isBetter_1 (Nat.le_of_ble_eq_true rfl) rfl ?_
  refine a_iconst (1) hX dX8_isBetter_2 (by decide) ?_
  refine a_istore_n (ls' := [_, _, _, _, _]) hX dX8_isBetter_3 (Nat.le_of_ble_eq_true rfl) rfl ?_
  have L4 : ∀ (fu1 : Nat) (i l : Nat), 12 - i < fu1 → (1 ≤ i ∧ i ≤ n) → (l < i ∧ ∀ j, j < i → v l ≤ v j) → A X 0 0 4 [some (.ref (xlay X 221)), some (.int (nI n)), some (.int (nI l)), some (.int (nI i)), none] [] w := by
    intro fu1
    induction fu1 with
    | zero => intro i l hmu; exact absurd hmu (Nat.not_lt_zero _)
    | succ fu1 ih1 =>
      intro i l hmu1 hi hl
      refine a_iload_n hX dX8_isBetter_4 rfl ?_
      refine a_iload_n hX dX8_isBetter_5 rfl ?_
      refine a_icmp_ge 36 hX dX8_isBetter_6 (by decide) (fun c_6 => ?_) (fun c_6 => ?_)
      · have hin9 : i = n := by
          rcases Nat.lt_or_ge i n with q | q
          · exact absurd (nI_lt q (by omega)) (Int32.not_lt.mpr c_6)
          · omega
        rw [hin9] at hl
        clear hin9
        have htu : isTu n v (fun j => v ((l + j) % n)) := ⟨l, hl.1, hl.2, fun j hj => rfl⟩
        refine a_iconst (0) hX dX8_isBetter_36 (by decide) ?_
        refine a_istore_n (ls' := [_, _, _, _, _]) hX dX8_isBetter_37 (Nat.le_of_ble_eq_true rfl) rfl ?_
        have L38 : ∀ (fu2 : Nat) (i : Nat) (w2 : St), 12 - i < fu2 → (i ≤ n) → (Fr w w2 (fun z => z = 245)) → (∀ j, j < i → w2.1 245 j = nI ((fun j => v ((l + j) % n)) j)) → A X 0 0 38 [some (.ref (xlay X 221)), some (.int (nI n)), some (.int (nI l)), some (.int (nI i)), none] [] w2 := by
          intro fu2
          induction fu2 with
          | zero => intro i w2 hmu; exact absurd hmu (Nat.not_lt_zero _)
          | succ fu2 ih2 =>
            intro i w2 hmu2 hi hf2 htv
            refine a_iload_n hX dX8_isBetter_38 rfl ?_
            refine a_iload_n hX dX8_isBetter_39 rfl ?_
            refine a_icmp_ge 65 hX dX8_isBetter_40 (by decide) (fun c_40 => ?_) (fun c_40 => ?_)
            · have hin9 : i = n := by
                rcases Nat.lt_or_ge i n with q | q
                · exact absurd (nI_lt q (by omega)) (Int32.not_lt.mpr c_40)
                · omega
              rw [hin9] at htv
              clear hin9
              have hb2 : w2.1 221 30 = nI b := by rw [hf2.2 221 (by decide)]; exact hbs
              have hb0 : nI b = 0 ↔ b = 0 := nI_eq (b := 0) (by omega) (by decide)
              have htvl : ∀ j, j < n → (fun j => v ((l + j) % n)) j < 12 := fun j hj => (hv _ (Nat.mod_lt _ (by omega))).1
              refine a_aload_n hX dX8_isBetter_65 rfl ?_
              refine gf_X8_170 rfl hX dX8_isBetter_66 ?_
              rw [hb2]
              refine a_if_ne 76 hX dX8_isBetter_69 (by decide) (fun c_69 => ?_) (fun c_69 => ?_)
              · refine a_iload_n hX dX8_isBetter_76 rfl ?_
                refine a_aload_n hX dX8_isBetter_77 rfl ?_
                refine gf_X8_170 rfl hX dX8_isBetter_78 ?_
                rw [hb2]
                refine a_isub hX dX8_isBetter_81 ?_
                refine a_istore_n (ls' := [_, _, _, _, _]) hX dX8_isBetter_82 (Nat.le_of_ble_eq_true rfl) rfl ?_
                refine a_iconst (0) hX dX8_isBetter_83 (by decide) ?_
                refine a_istore (ls' := [_, _, _, _, _]) hX dX8_isBetter_84 (Nat.le_of_ble_eq_true rfl) rfl ?_
                have L86 : ∀ (fu3 : Nat) (i : Nat) (x : Int32), 12 - i < fu3 → (i ≤ n) → (OrdI n b i (fun j => v ((l + j) % n)) tb x) → A X 0 0 86 [some (.ref (xlay X 221)), some (.int (nI n)), some (.int (nI l)), some (.int x), some (.int (nI i))] [] w2 := by
                  intro fu3
                  induction fu3 with
                  | zero => intro i x hmu; exact absurd hmu (Nat.not_lt_zero _)
                  | succ fu3 ih3 =>
                    intro i x hmu3 hi ho
                    refine a_iload hX dX8_isBetter_86 rfl ?_
                    refine a_iload_n hX dX8_isBetter_88 rfl ?_
                    refine a_icmp_ge 118 hX dX8_isBetter_89 (by decide) (fun c_89 => ?_) (fun c_89 => ?_)
                    · refine a_iload_n hX dX8_isBetter_118 rfl ?_
                      refine a_if_lt 123 hX dX8_isBetter_119 (by decide) (fun c_119 => ?_) (fun c_119 => ?_)
                      · have hltx : b = 0 ∨ leR n (fun j => v ((l + j) % n)) b tb := by
                          rcases ho with ⟨q1, -⟩ | ⟨-, q⟩ | ⟨q, -⟩
                          · rw [q1] at c_119
                            exact absurd c_119 (by decide)
                          · exact q
                          · exact (Int32.lt_irrefl (Int32.lt_trans q c_119)).elim
                        refine a_aload_n hX dX8_isBetter_123 rfl ?_
                        refine a_iload_n hX dX8_isBetter_124 rfl ?_
                        refine pf_X8_170 rfl hX dX8_isBetter_125 ?_
                        refine a_iconst (0) hX dX8_isBetter_128 (by decide) ?_
                        refine a_istore (ls' := [_, _, _, _, _]) hX dX8_isBetter_129 (Nat.le_of_ble_eq_true rfl) rfl ?_
                        have L131 : ∀ (fu4 : Nat) (i : Nat) (w3 : St), 12 - i < fu4 → (i ≤ n) → (Fr w w3 (fun z => z = 221 ∨ z = 245 ∨ z = 246)) → ((∀ k, k ≠ 30 → w3.1 221 k = w.1 221 k) ∧ w3.1 221 30 = nI n ∧ w3.1 245 = w2.1 245) → (∀ j, j < i → w3.1 246 j = nI ((fun j => v ((l + j) % n)) j)) → A X 0 0 131 [some (.ref (xlay X 221)), some (.int (nI n)), some (.int (nI l)), some (.int x), some (.int (nI i))] [] w3 := by
                          intro fu4
                          induction fu4 with
                          | zero => intro i w3 hmu; exact absurd hmu (Nat.not_lt_zero _)
                          | succ fu4 ih4 =>
                            intro i w3 hmu4 hi hf3 hk3 ht3
                            refine a_iload hX dX8_isBetter_131 rfl ?_
                            refine a_iload_n hX dX8_isBetter_133 rfl ?_
                            refine a_icmp_ge 157 hX dX8_isBetter_134 (by decide) (fun c_134 => ?_) (fun c_134 => ?_)
                            · refine a_vret hX hR dX8_isBetter_157 ⟨Nat.le_refl _, Nat.le_refl _⟩ ?_
                              have hin9 : i = n := by
                                rcases Nat.lt_or_ge i n with q | q
                                · exact absurd (nI_lt q (by omega)) (Int32.not_lt.mpr c_134)
                                · omega
                              rw [hin9] at ht3
                              exact h w3 n (fun j => v ((l + j) % n)) hf3 hk3.1 h1 hn hk3.2.1 (fun j hj => ⟨htvl j hj, ht3 j hj⟩) (Or.inl ⟨rfl, htu, hltx⟩)
                            · have hin : i < n := by
                                rcases Nat.lt_or_ge i n with q | q
                                · exact q
                                · exact absurd (nI_le q (by omega)) c_134
                              refine a_aload_n hX dX8_isBetter_137 rfl ?_
                              refine gf_X8_88 rfl hX dX8_isBetter_138 ?_
                              refine a_iload hX dX8_isBetter_141 rfl ?_
                              refine a_aload_n hX dX8_isBetter_143 rfl ?_
                              refine gf_X8_85 rfl hX dX8_isBetter_144 ?_
                              refine a_iload hX dX8_isBetter_147 rfl ?_
                              refine a_iald i hX rfl rfl (show i < 12 by omega) dX8_isBetter_149 ?_
                              refine a_iast i hX rfl rfl (show i < 12 by omega) dX8_isBetter_150 ?_
                              refine a_iinc (ls' := [_, _, _, _, _]) (nI (i + 1)) hX dX8_isBetter_151 rfl (nI_i1 i) rfl ?_
                              refine a_goto 131 hX dX8_isBetter_154 (by decide) ?_
                              refine ih4 (i + 1) _ (by omega) (by omega) (Fr.set hf3 (by omega)) ⟨fun k hk => by rw [wset_ne _ _ _ _ (by decide)]; exact hk3.1 k hk, by rw [wset_ne _ _ _ _ (by decide)]; exact hk3.2.1, by rw [wset_ne _ _ _ _ (by decide)]; exact hk3.2.2⟩ (fun j hj => ?_)
                              rw [wset_1]
                              by_cases e : j = i
                              · rw [if_pos ⟨rfl, e⟩, e, hk3.2.2]
                                exact htv i hin
                              · rw [if_neg (fun z => e z.2)]
                                exact ht3 j (by omega)
                        exact L131 13 0 _ (by omega) (by omega) (Fr.set (hf2.mono (fun z hz => by omega)) (Or.inl rfl)) ⟨fun k hk => by rw [wset_1, if_neg (by omega), hf2.2 221 (by decide)], by rw [wset_1, if_pos ⟨rfl, rfl⟩], by rw [wset_ne _ _ _ _ (by decide)]⟩ (fun j hj => by omega)
                      · refine a_vret hX hR dX8_isBetter_122 ⟨Nat.le_refl _, Nat.le_refl _⟩ ?_
                        have hgt : b ≠ 0 ∧ leR b tb n (fun j => v ((l + j) % n)) := by
                          rcases ho with ⟨q1, q2, q3, q4⟩ | ⟨q, -⟩ | ⟨q1, q2, q3⟩
                          · refine ⟨q3, ?_⟩
                            have hall : ∀ j, j < n → (fun j => v ((l + j) % n)) j = tb j := by
                              first
                              | exact absurd q1 c_93
                              | (intro j hj
                                 refine q4 j ?_
                                 rcases Nat.lt_or_ge i n with q | q
                                 · exact absurd (nI_lt q (by omega)) (Int32.not_lt.mpr c_89)
                                 · omega)
                            rw [← q2]
                            exact leR.eq (fun j hj => (hall j hj).symm)
                          · exact absurd q c_119
                          · exact ⟨q2, q3⟩
                        exact h w2 b tb (hf2.mono (fun z hz => by omega)) (fun k hk => by rw [hf2.2 221 (by decide)]) (by omega) hb hb2 (fun j hj => by rw [hf2.2 246 (by decide)]; exact htb j hj) (Or.inr ⟨rfl, rfl, hgt.1, _, htu, hgt.2⟩)
                    · refine a_iload_n hX dX8_isBetter_92 rfl ?_
                      refine a_if_ne 118 hX dX8_isBetter_93 (by decide) (fun c_93 => ?_) (fun c_93 => ?_)
                      · refine a_iload_n hX dX8_isBetter_118 rfl ?_
                        refine a_if_lt 123 hX dX8_isBetter_119 (by decide) (fun c_119 => ?_) (fun c_119 => ?_)
                        · have hltx : b = 0 ∨ leR n (fun j => v ((l + j) % n)) b tb := by
                            rcases ho with ⟨q1, -⟩ | ⟨-, q⟩ | ⟨q, -⟩
                            · rw [q1] at c_119
                              exact absurd c_119 (by decide)
                            · exact q
                            · exact (Int32.lt_irrefl (Int32.lt_trans q c_119)).elim
                          refine a_aload_n hX dX8_isBetter_123 rfl ?_
                          refine a_iload_n hX dX8_isBetter_124 rfl ?_
                          refine pf_X8_170 rfl hX dX8_isBetter_125 ?_
                          refine a_iconst (0) hX dX8_isBetter_128 (by decide) ?_
                          refine a_istore (ls' := [_, _, _, _, _]) hX dX8_isBetter_129 (Nat.le_of_ble_eq_true rfl) rfl ?_
                          have L131 : ∀ (fu4 : Nat) (i : Nat) (w3 : St), 12 - i < fu4 → (i ≤ n) → (Fr w w3 (fun z => z = 221 ∨ z = 245 ∨ z = 246)) → ((∀ k, k ≠ 30 → w3.1 221 k = w.1 221 k) ∧ w3.1 221 30 = nI n ∧ w3.1 245 = w2.1 245) → (∀ j, j < i → w3.1 246 j = nI ((fun j => v ((l + j) % n)) j)) → A X 0 0 131 [some (.ref (xlay X 221)), some (.int (nI n)), some (.int (nI l)), some (.int x), some (.int (nI i))] [] w3 := by
                            intro fu4
                            induction fu4 with
                            | zero => intro i w3 hmu; exact absurd hmu (Nat.not_lt_zero _)
                            | succ fu4 ih4 =>
                              intro i w3 hmu4 hi hf3 hk3 ht3
                              refine a_iload hX dX8_isBetter_131 rfl ?_
                              refine a_iload_n hX dX8_isBetter_133 rfl ?_
                              refine a_icmp_ge 157 hX dX8_isBetter_134 (by decide) (fun c_134 => ?_) (fun c_134 => ?_)
                              · refine a_vret hX hR dX8_isBetter_157 ⟨Nat.le_refl _, Nat.le_refl _⟩ ?_
                                have hin9 : i = n := by
                                  rcases Nat.lt_or_ge i n with q | q
                                  · exact absurd (nI_lt q (by omega)) (Int32.not_lt.mpr c_134)
                                  · omega
                                rw [hin9] at ht3
                                exact h w3 n (fun j => v ((l + j) % n)) hf3 hk3.1 h1 hn hk3.2.1 (fun j hj => ⟨htvl j hj, ht3 j hj⟩) (Or.inl ⟨rfl, htu, hltx⟩)
                              · have hin : i < n := by
                                  rcases Nat.lt_or_ge i n with q | q
                                  · exact q
                                  · exact absurd (nI_le q (by omega)) c_134
                                refine a_aload_n hX dX8_isBetter_137 rfl ?_
                                refine gf_X8_88 rfl hX dX8_isBetter_138 ?_
                                refine a_iload hX dX8_isBetter_141 rfl ?_
                                refine a_aload_n hX dX8_isBetter_143 rfl ?_
                                refine gf_X8_85 rfl hX dX8_isBetter_144 ?_
                                refine a_iload hX dX8_isBetter_147 rfl ?_
                                refine a_iald i hX rfl rfl (show i < 12 by omega) dX8_isBetter_149 ?_
                                refine a_iast i hX rfl rfl (show i < 12 by omega) dX8_isBetter_150 ?_
                                refine a_iinc (ls' := [_, _, _, _, _]) (nI (i + 1)) hX dX8_isBetter_151 rfl (nI_i1 i) rfl ?_
                                refine a_goto 131 hX dX8_isBetter_154 (by decide) ?_
                                refine ih4 (i + 1) _ (by omega) (by omega) (Fr.set hf3 (by omega)) ⟨fun k hk => by rw [wset_ne _ _ _ _ (by decide)]; exact hk3.1 k hk, by rw [wset_ne _ _ _ _ (by decide)]; exact hk3.2.1, by rw [wset_ne _ _ _ _ (by decide)]; exact hk3.2.2⟩ (fun j hj => ?_)
                                rw [wset_1]
                                by_cases e : j = i
                                · rw [if_pos ⟨rfl, e⟩, e, hk3.2.2]
                                  exact htv i hin
                                · rw [if_neg (fun z => e z.2)]
                                  exact ht3 j (by omega)
                          exact L131 13 0 _ (by omega) (by omega) (Fr.set (hf2.mono (fun z hz => by omega)) (Or.inl rfl)) ⟨fun k hk => by rw [wset_1, if_neg (by omega), hf2.2 221 (by decide)], by rw [wset_1, if_pos ⟨rfl, rfl⟩], by rw [wset_ne _ _ _ _ (by decide)]⟩ (fun j hj => by omega)
                        · refine a_vret hX hR dX8_isBetter_122 ⟨Nat.le_refl _, Nat.le_refl _⟩ ?_
                          have hgt : b ≠ 0 ∧ leR b tb n (fun j => v ((l + j) % n)) := by
                            rcases ho with ⟨q1, q2, q3, q4⟩ | ⟨q, -⟩ | ⟨q1, q2, q3⟩
                            · refine ⟨q3, ?_⟩
                              have hall : ∀ j, j < n → (fun j => v ((l + j) % n)) j = tb j := by
                                first
                                | exact absurd q1 c_93
                                | (intro j hj
                                   refine q4 j ?_
                                   rcases Nat.lt_or_ge i n with q | q
                                   · exact absurd (nI_lt q (by omega)) (Int32.not_lt.mpr c_89)
                                   · omega)
                              rw [← q2]
                              exact leR.eq (fun j hj => (hall j hj).symm)
                            · exact absurd q c_119
                            · exact ⟨q2, q3⟩
                          exact h w2 b tb (hf2.mono (fun z hz => by omega)) (fun k hk => by rw [hf2.2 221 (by decide)]) (by omega) hb hb2 (fun j hj => by rw [hf2.2 246 (by decide)]; exact htb j hj) (Or.inr ⟨rfl, rfl, hgt.1, _, htu, hgt.2⟩)
                      · have hin : i < n := by
                          rcases Nat.lt_or_ge i n with q | q
                          · exact q
                          · exact absurd (nI_le q (by omega)) c_89
                        rw [c_93] at ho
                        have hbn : n = b := by
                          rcases ho with ⟨-, q, -⟩ | ⟨q, -⟩ | ⟨q, -⟩
                          · exact q
                          · exact absurd q (by decide)
                          · exact absurd q (by decide)
                        have hst := OrdI_step ho hin (htvl i hin) (htb i (by omega)).1
                        refine a_aload_n hX dX8_isBetter_96 rfl ?_
                        refine gf_X8_85 rfl hX dX8_isBetter_97 ?_
                        refine a_iload hX dX8_isBetter_100 rfl ?_
                        refine a_iald i hX rfl rfl (show i < 12 by omega) dX8_isBetter_102 ?_
                        refine a_aload_n hX dX8_isBetter_103 rfl ?_
                        refine gf_X8_88 rfl hX dX8_isBetter_104 ?_
                        refine a_iload hX dX8_isBetter_107 rfl ?_
                        refine a_iald i hX rfl rfl (show i < 12 by omega) dX8_isBetter_109 ?_
                        rw [htv i hin, hf2.2 246 (by decide), (htb i (by omega)).2]
                        refine a_isub hX dX8_isBetter_110 ?_
                        refine a_istore_n (ls' := [_, _, _, _, _]) hX dX8_isBetter_111 (Nat.le_of_ble_eq_true rfl) rfl ?_
                        refine a_iinc (ls' := [_, _, _, _, _]) (nI (i + 1)) hX dX8_isBetter_112 rfl (nI_i1 i) rfl ?_
                        refine a_goto 86 hX dX8_isBetter_115 (by decide) ?_
                        exact ih3 (i + 1) _ (by omega) (by omega) hst
                first
                | exact L86 13 0 _ (by omega) (by omega) (OrdI_0 hn hb (fun z => c_69 (hb0.mpr z)))
                | exact L86 13 0 _ (by omega) (by omega) (Or.inr (Or.inl ⟨by decide, Or.inl (hb0.mp c_69)⟩))
              · refine a_iconst (-1) hX dX8_isBetter_72 (by decide) ?_
                refine a_goto 82 hX dX8_isBetter_73 (by decide) ?_
                refine a_istore_n (ls' := [_, _, _, _, _]) hX dX8_isBetter_82 (Nat.le_of_ble_eq_true rfl) rfl ?_
                refine a_iconst (0) hX dX8_isBetter_83 (by decide) ?_
                refine a_istore (ls' := [_, _, _, _, _]) hX dX8_isBetter_84 (Nat.le_of_ble_eq_true rfl) rfl ?_
                have L86 : ∀ (fu3 : Nat) (i : Nat) (x : Int32), 12 - i < fu3 → (i ≤ n) → (OrdI n b i (fun j => v ((l + j) % n)) tb x) → A X 0 0 86 [some (.ref (xlay X 221)), some (.int (nI n)), some (.int (nI l)), some (.int x), some (.int (nI i))] [] w2 := by
                  intro fu3
                  induction fu3 with
                  | zero => intro i x hmu; exact absurd hmu (Nat.not_lt_zero _)
                  | succ fu3 ih3 =>
                    intro i x hmu3 hi ho
                    refine a_iload hX dX8_isBetter_86 rfl ?_
                    refine a_iload_n hX dX8_isBetter_88 rfl ?_
                    refine a_icmp_ge 118 hX dX8_isBetter_89 (by decide) (fun c_89 => ?_) (fun c_89 => ?_)
                    · refine a_iload_n hX dX8_isBetter_118 rfl ?_
                      refine a_if_lt 123 hX dX8_isBetter_119 (by decide) (fun c_119 => ?_) (fun c_119 => ?_)
                      · have hltx : b = 0 ∨ leR n (fun j => v ((l + j) % n)) b tb := by
                          rcases ho with ⟨q1, -⟩ | ⟨-, q⟩ | ⟨q, -⟩
                          · rw [q1] at c_119
                            exact absurd c_119 (by decide)
                          · exact q
                          · exact (Int32.lt_irrefl (Int32.lt_trans q c_119)).elim
                        refine a_aload_n hX dX8_isBetter_123 rfl ?_
                        refine a_iload_n hX dX8_isBetter_124 rfl ?_
                        refine pf_X8_170 rfl hX dX8_isBetter_125 ?_
                        refine a_iconst (0) hX dX8_isBetter_128 (by decide) ?_
                        refine a_istore (ls' := [_, _, _, _, _]) hX dX8_isBetter_129 (Nat.le_of_ble_eq_true rfl) rfl ?_
                        have L131 : ∀ (fu4 : Nat) (i : Nat) (w3 : St), 12 - i < fu4 → (i ≤ n) → (Fr w w3 (fun z => z = 221 ∨ z = 245 ∨ z = 246)) → ((∀ k, k ≠ 30 → w3.1 221 k = w.1 221 k) ∧ w3.1 221 30 = nI n ∧ w3.1 245 = w2.1 245) → (∀ j, j < i → w3.1 246 j = nI ((fun j => v ((l + j) % n)) j)) → A X 0 0 131 [some (.ref (xlay X 221)), some (.int (nI n)), some (.int (nI l)), some (.int x), some (.int (nI i))] [] w3 := by
                          intro fu4
                          induction fu4 with
                          | zero => intro i w3 hmu; exact absurd hmu (Nat.not_lt_zero _)
                          | succ fu4 ih4 =>
                            intro i w3 hmu4 hi hf3 hk3 ht3
                            refine a_iload hX dX8_isBetter_131 rfl ?_
                            refine a_iload_n hX dX8_isBetter_133 rfl ?_
                            refine a_icmp_ge 157 hX dX8_isBetter_134 (by decide) (fun c_134 => ?_) (fun c_134 => ?_)
                            · refine a_vret hX hR dX8_isBetter_157 ⟨Nat.le_refl _, Nat.le_refl _⟩ ?_
                              have hin9 : i = n := by
                                rcases Nat.lt_or_ge i n with q | q
                                · exact absurd (nI_lt q (by omega)) (Int32.not_lt.mpr c_134)
                                · omega
                              rw [hin9] at ht3
                              exact h w3 n (fun j => v ((l + j) % n)) hf3 hk3.1 h1 hn hk3.2.1 (fun j hj => ⟨htvl j hj, ht3 j hj⟩) (Or.inl ⟨rfl, htu, hltx⟩)
                            · have hin : i < n := by
                                rcases Nat.lt_or_ge i n with q | q
                                · exact q
                                · exact absurd (nI_le q (by omega)) c_134
                              refine a_aload_n hX dX8_isBetter_137 rfl ?_
                              refine gf_X8_88 rfl hX dX8_isBetter_138 ?_
                              refine a_iload hX dX8_isBetter_141 rfl ?_
                              refine a_aload_n hX dX8_isBetter_143 rfl ?_
                              refine gf_X8_85 rfl hX dX8_isBetter_144 ?_
                              refine a_iload hX dX8_isBetter_147 rfl ?_
                              refine a_iald i hX rfl rfl (show i < 12 by omega) dX8_isBetter_149 ?_
                              refine a_iast i hX rfl rfl (show i < 12 by omega) dX8_isBetter_150 ?_
                              refine a_iinc (ls' := [_, _, _, _, _]) (nI (i + 1)) hX dX8_isBetter_151 rfl (nI_i1 i) rfl ?_
                              refine a_goto 131 hX dX8_isBetter_154 (by decide) ?_
                              refine ih4 (i + 1) _ (by omega) (by omega) (Fr.set hf3 (by omega)) ⟨fun k hk => by rw [wset_ne _ _ _ _ (by decide)]; exact hk3.1 k hk, by rw [wset_ne _ _ _ _ (by decide)]; exact hk3.2.1, by rw [wset_ne _ _ _ _ (by decide)]; exact hk3.2.2⟩ (fun j hj => ?_)
                              rw [wset_1]
                              by_cases e : j = i
                              · rw [if_pos ⟨rfl, e⟩, e, hk3.2.2]
                                exact htv i hin
                              · rw [if_neg (fun z => e z.2)]
                                exact ht3 j (by omega)
                        exact L131 13 0 _ (by omega) (by omega) (Fr.set (hf2.mono (fun z hz => by omega)) (Or.inl rfl)) ⟨fun k hk => by rw [wset_1, if_neg (by omega), hf2.2 221 (by decide)], by rw [wset_1, if_pos ⟨rfl, rfl⟩], by rw [wset_ne _ _ _ _ (by decide)]⟩ (fun j hj => by omega)
                      · refine a_vret hX hR dX8_isBetter_122 ⟨Nat.le_refl _, Nat.le_refl _⟩ ?_
                        have hgt : b ≠ 0 ∧ leR b tb n (fun j => v ((l + j) % n)) := by
                          rcases ho with ⟨q1, q2, q3, q4⟩ | ⟨q, -⟩ | ⟨q1, q2, q3⟩
                          · refine ⟨q3, ?_⟩
                            have hall : ∀ j, j < n → (fun j => v ((l + j) % n)) j = tb j := by
                              first
                              | exact absurd q1 c_93
                              | (intro j hj
                                 refine q4 j ?_
                                 rcases Nat.lt_or_ge i n with q | q
                                 · exact absurd (nI_lt q (by omega)) (Int32.not_lt.mpr c_89)
                                 · omega)
                            rw [← q2]
                            exact leR.eq (fun j hj => (hall j hj).symm)
                          · exact absurd q c_119
                          · exact ⟨q2, q3⟩
                        exact h w2 b tb (hf2.mono (fun z hz => by omega)) (fun k hk => by rw [hf2.2 221 (by decide)]) (by omega) hb hb2 (fun j hj => by rw [hf2.2 246 (by decide)]; exact htb j hj) (Or.inr ⟨rfl, rfl, hgt.1, _, htu, hgt.2⟩)
                    · refine a_iload_n hX dX8_isBetter_92 rfl ?_
                      refine a_if_ne 118 hX dX8_isBetter_93 (by decide) (fun c_93 => ?_) (fun c_93 => ?_)
                      · refine a_iload_n hX dX8_isBetter_118 rfl ?_
                        refine a_if_lt 123 hX dX8_isBetter_119 (by decide) (fun c_119 => ?_) (fun c_119 => ?_)
                        · have hltx : b = 0 ∨ leR n (fun j => v ((l + j) % n)) b tb := by
                            rcases ho with ⟨q1, -⟩ | ⟨-, q⟩ | ⟨q, -⟩
                            · rw [q1] at c_119
                              exact absurd c_119 (by decide)
                            · exact q
                            · exact (Int32.lt_irrefl (Int32.lt_trans q c_119)).elim
                          refine a_aload_n hX dX8_isBetter_123 rfl ?_
                          refine a_iload_n hX dX8_isBetter_124 rfl ?_
                          refine pf_X8_170 rfl hX dX8_isBetter_125 ?_
                          refine a_iconst (0) hX dX8_isBetter_128 (by decide) ?_
                          refine a_istore (ls' := [_, _, _, _, _]) hX dX8_isBetter_129 (Nat.le_of_ble_eq_true rfl) rfl ?_
                          have L131 : ∀ (fu4 : Nat) (i : Nat) (w3 : St), 12 - i < fu4 → (i ≤ n) → (Fr w w3 (fun z => z = 221 ∨ z = 245 ∨ z = 246)) → ((∀ k, k ≠ 30 → w3.1 221 k = w.1 221 k) ∧ w3.1 221 30 = nI n ∧ w3.1 245 = w2.1 245) → (∀ j, j < i → w3.1 246 j = nI ((fun j => v ((l + j) % n)) j)) → A X 0 0 131 [some (.ref (xlay X 221)), some (.int (nI n)), some (.int (nI l)), some (.int x), some (.int (nI i))] [] w3 := by
                            intro fu4
                            induction fu4 with
                            | zero => intro i w3 hmu; exact absurd hmu (Nat.not_lt_zero _)
                            | succ fu4 ih4 =>
                              intro i w3 hmu4 hi hf3 hk3 ht3
                              refine a_iload hX dX8_isBetter_131 rfl ?_
                              refine a_iload_n hX dX8_isBetter_133 rfl ?_
                              refine a_icmp_ge 157 hX dX8_isBetter_134 (by decide) (fun c_134 => ?_) (fun c_134 => ?_)
                              · refine a_vret hX hR dX8_isBetter_157 ⟨Nat.le_refl _, Nat.le_refl _⟩ ?_
                                have hin9 : i = n := by
                                  rcases Nat.lt_or_ge i n with q | q
                                  · exact absurd (nI_lt q (by omega)) (Int32.not_lt.mpr c_134)
                                  · omega
                                rw [hin9] at ht3
                                exact h w3 n (fun j => v ((l + j) % n)) hf3 hk3.1 h1 hn hk3.2.1 (fun j hj => ⟨htvl j hj, ht3 j hj⟩) (Or.inl ⟨rfl, htu, hltx⟩)
                              · have hin : i < n := by
                                  rcases Nat.lt_or_ge i n with q | q
                                  · exact q
                                  · exact absurd (nI_le q (by omega)) c_134
                                refine a_aload_n hX dX8_isBetter_137 rfl ?_
                                refine gf_X8_88 rfl hX dX8_isBetter_138 ?_
                                refine a_iload hX dX8_isBetter_141 rfl ?_
                                refine a_aload_n hX dX8_isBetter_143 rfl ?_
                                refine gf_X8_85 rfl hX dX8_isBetter_144 ?_
                                refine a_iload hX dX8_isBetter_147 rfl ?_
                                refine a_iald i hX rfl rfl (show i < 12 by omega) dX8_isBetter_149 ?_
                                refine a_iast i hX rfl rfl (show i < 12 by omega) dX8_isBetter_150 ?_
                                refine a_iinc (ls' := [_, _, _, _, _]) (nI (i + 1)) hX dX8_isBetter_151 rfl (nI_i1 i) rfl ?_
                                refine a_goto 131 hX dX8_isBetter_154 (by decide) ?_
                                refine ih4 (i + 1) _ (by omega) (by omega) (Fr.set hf3 (by omega)) ⟨fun k hk => by rw [wset_ne _ _ _ _ (by decide)]; exact hk3.1 k hk, by rw [wset_ne _ _ _ _ (by decide)]; exact hk3.2.1, by rw [wset_ne _ _ _ _ (by decide)]; exact hk3.2.2⟩ (fun j hj => ?_)
                                rw [wset_1]
                                by_cases e : j = i
                                · rw [if_pos ⟨rfl, e⟩, e, hk3.2.2]
                                  exact htv i hin
                                · rw [if_neg (fun z => e z.2)]
                                  exact ht3 j (by omega)
                          exact L131 13 0 _ (by omega) (by omega) (Fr.set (hf2.mono (fun z hz => by omega)) (Or.inl rfl)) ⟨fun k hk => by rw [wset_1, if_neg (by omega), hf2.2 221 (by decide)], by rw [wset_1, if_pos ⟨rfl, rfl⟩], by rw [wset_ne _ _ _ _ (by decide)]⟩ (fun j hj => by omega)
                        · refine a_vret hX hR dX8_isBetter_122 ⟨Nat.le_refl _, Nat.le_refl _⟩ ?_
                          have hgt : b ≠ 0 ∧ leR b tb n (fun j => v ((l + j) % n)) := by
                            rcases ho with ⟨q1, q2, q3, q4⟩ | ⟨q, -⟩ | ⟨q1, q2, q3⟩
                            · refine ⟨q3, ?_⟩
                              have hall : ∀ j, j < n → (fun j => v ((l + j) % n)) j = tb j := by
                                first
                                | exact absurd q1 c_93
                                | (intro j hj
                                   refine q4 j ?_
                                   rcases Nat.lt_or_ge i n with q | q
                                   · exact absurd (nI_lt q (by omega)) (Int32.not_lt.mpr c_89)
                                   · omega)
                              rw [← q2]
                              exact leR.eq (fun j hj => (hall j hj).symm)
                            · exact absurd q c_119
                            · exact ⟨q2, q3⟩
                          exact h w2 b tb (hf2.mono (fun z hz => by omega)) (fun k hk => by rw [hf2.2 221 (by decide)]) (by omega) hb hb2 (fun j hj => by rw [hf2.2 246 (by decide)]; exact htb j hj) (Or.inr ⟨rfl, rfl, hgt.1, _, htu, hgt.2⟩)
                      · have hin : i < n := by
                          rcases Nat.lt_or_ge i n with q | q
                          · exact q
                          · exact absurd (nI_le q (by omega)) c_89
                        rw [c_93] at ho
                        have hbn : n = b := by
                          rcases ho with ⟨-, q, -⟩ | ⟨q, -⟩ | ⟨q, -⟩
                          · exact q
                          · exact absurd q (by decide)
                          · exact absurd q (by decide)
                        have hst := OrdI_step ho hin (htvl i hin) (htb i (by omega)).1
                        refine a_aload_n hX dX8_isBetter_96 rfl ?_
                        refine gf_X8_85 rfl hX dX8_isBetter_97 ?_
                        refine a_iload hX dX8_isBetter_100 rfl ?_
                        refine a_iald i hX rfl rfl (show i < 12 by omega) dX8_isBetter_102 ?_
                        refine a_aload_n hX dX8_isBetter_103 rfl ?_
                        refine gf_X8_88 rfl hX dX8_isBetter_104 ?_
                        refine a_iload hX dX8_isBetter_107 rfl ?_
                        refine a_iald i hX rfl rfl (show i < 12 by omega) dX8_isBetter_109 ?_
                        rw [htv i hin, hf2.2 246 (by decide), (htb i (by omega)).2]
                        refine a_isub hX dX8_isBetter_110 ?_
                        refine a_istore_n (ls' := [_, _, _, _, _]) hX dX8_isBetter_111 (Nat.le_of_ble_eq_true rfl) rfl ?_
                        refine a_iinc (ls' := [_, _, _, _, _]) (nI (i + 1)) hX dX8_isBetter_112 rfl (nI_i1 i) rfl ?_
                        refine a_goto 86 hX dX8_isBetter_115 (by decide) ?_
                        exact ih3 (i + 1) _ (by omega) (by omega) hst
                first
                | exact L86 13 0 _ (by omega) (by omega) (OrdI_0 hn hb (fun z => c_69 (hb0.mpr z)))
                | exact L86 13 0 _ (by omega) (by omega) (Or.inr (Or.inl ⟨by decide, Or.inl (hb0.mp c_69)⟩))
            · have hin : i < n := by
                rcases Nat.lt_or_ge i n with q | q
                · exact q
                · exact absurd (nI_le q (by omega)) c_40
              have hml : (l + i) % n < n := Nat.mod_lt _ (by omega)
              refine a_aload_n hX dX8_isBetter_43 rfl ?_
              refine gf_X8_85 rfl hX dX8_isBetter_44 ?_
              refine a_iload_n hX dX8_isBetter_47 rfl ?_
              refine a_aload_n hX dX8_isBetter_48 rfl ?_
              refine gf_X8_79 rfl hX dX8_isBetter_49 ?_
              refine a_iload_n hX dX8_isBetter_52 rfl ?_
              refine a_iload_n hX dX8_isBetter_53 rfl ?_
              refine a_iadd hX dX8_isBetter_54 ?_
              refine a_iload_n hX dX8_isBetter_55 rfl ?_
              rw [nI_add]
              refine a_irem hX dX8_isBetter_56 (fun z => by have := (nI_eq (a := n) (b := 0) (by omega) (by decide)).mp z; omega) ?_
              rw [show nI (l + i) - nI (l + i) / nI n * nI n = nI ((l + i) % n) from pk_rem (by omega) (by omega) (by omega)]
              refine a_iald ((l + i) % n) hX rfl rfl (show _ < 12 by omega) dX8_isBetter_57 ?_
              rw [hf2.2 243 (by decide), (hv _ hml).2]
              refine a_iast i hX rfl rfl (show i < 12 by omega) dX8_isBetter_58 ?_
              refine a_iinc (ls' := [_, _, _, _, _]) (nI (i + 1)) hX dX8_isBetter_59 rfl (nI_i1 i) rfl ?_
              refine a_goto 38 hX dX8_isBetter_62 (by decide) ?_
              refine ih2 (i + 1) _ (by omega) (by omega) (Fr.set hf2 rfl) (fun j hj => ?_)
              rw [wset_1]
              by_cases e : j = i
              · rw [if_pos ⟨rfl, e⟩, e]
              · rw [if_neg (fun z => e z.2)]
                exact htv j (by omega)
        exact L38 13 0 w (by omega) (by omega) Fr.rf (fun j hj => by omega)
      · have hin : i < n := by
          rcases Nat.lt_or_ge i n with q | q
          · exact q
          · exact absurd (nI_le q (by omega)) c_6
        refine a_aload_n hX dX8_isBetter_9 rfl ?_
        refine gf_X8_79 rfl hX dX8_isBetter_10 ?_
        refine a_iload_n hX dX8_isBetter_13 rfl ?_
        refine a_iald i hX rfl rfl (show i < 12 by omega) dX8_isBetter_14 ?_
        refine a_aload_n hX dX8_isBetter_15 rfl ?_
        refine gf_X8_79 rfl hX dX8_isBetter_16 ?_
        refine a_iload_n hX dX8_isBetter_19 rfl ?_
        refine a_iald l hX rfl rfl (show l < 12 by omega) dX8_isBetter_20 ?_
        rw [(hv i (by omega)).2, (hv l (by omega)).2]
        have hvi := (hv i (by omega)).1
        have hvl := (hv l (by omega)).1
        refine a_icmp_ge 28 hX dX8_isBetter_21 (by decide) (fun c_21 => ?_) (fun c_21 => ?_)
        · refine a_iload_n hX dX8_isBetter_28 rfl ?_
          refine a_istore_n (ls' := [_, _, _, _, _]) hX dX8_isBetter_29 (Nat.le_of_ble_eq_true rfl) rfl ?_
          refine a_iinc (ls' := [_, _, _, _, _]) (nI (i + 1)) hX dX8_isBetter_30 rfl (nI_i1 i) rfl ?_
          refine a_goto 4 hX dX8_isBetter_33 (by decide) ?_
          have h9 := (nI_leI (by omega) (by omega)).mp c_21
          exact ih1 (i + 1) l (by omega) (by omega) ⟨by omega, fun j hj => by
            by_cases e : j = i
            · rw [e]; exact h9
            · exact hl.2 j (by omega)⟩
        · refine a_iload_n hX dX8_isBetter_24 rfl ?_
          refine a_goto 29 hX dX8_isBetter_25 (by decide) ?_
          refine a_istore_n (ls' := [_, _, _, _, _]) hX dX8_isBetter_29 (Nat.le_of_ble_eq_true rfl) rfl ?_
          refine a_iinc (ls' := [_, _, _, _, _]) (nI (i + 1)) hX dX8_isBetter_30 rfl (nI_i1 i) rfl ?_
          refine a_goto 4 hX dX8_isBetter_33 (by decide) ?_
          have h9 := (nI_ltI (by omega) (by omega)).mp (lt_nle c_21)
          exact ih1 (i + 1) i (by omega) (by omega) ⟨by omega, fun j hj => by
            by_cases e : j = i
            · rw [e]; exact Nat.le_refl _
            · have := hl.2 j (by omega); omega⟩
  exact L4 13 1 0 (by omega) (by omega) ⟨by omega, fun j hj => by rw [show j = 0 by omega]; exact Nat.le_refl _⟩
abbrev T_X8_isRing : Tr := fun lay av w Po => ∃ (p : Nat), av = [.ref (lay 221), .int (nI p)] ∧ (p < 12) ∧ ((∀ (w' : St) (n : Nat) (t : Nat → Nat), Fr w w' (fun z => z = 221 ∨ (243 ≤ z ∧ z ≤ 246)) → (∀ k, k ≠ 30 → w'.1 221 k = w.1 221 k) → 1 ≤ n → n ≤ 12 → w'.1 221 30 = nI n → (∀ j, j < n → t j < 12 ∧ w'.1 246 j = nI (t j)) → (∃ v, isRg (EM w) p n v ∧ isTu n v t) → (∀ m v s, isRg (EM w) p m v → isTu m v s → leR n t m s) → Po (some (.int (bI True))) w') ∧ (∀ w' : St, Fr w w' (fun z => z = 221 ∨ (243 ≤ z ∧ z ≤ 246)) → (∀ k, k ≠ 30 → w'.1 221 k = w.1 221 k) → (∀ m v, ¬ isRg (EM w) p m v) → Po (some (.int (bI False))) w'))
set_option maxRecDepth 100000 in
set_option maxHeartbeats 4000000 in
theorem c_X8_isRing : Ct yX8_isRing cX8_isRing 7 (some .boolean) 2 0 0 T_X8_isRing := by
  refine Ct.mk (by decide +kernel) ?_
  intro X av w Po hX hR hT
  obtain ⟨p, rfl, hp, h⟩ := hT
  refine ⟨rfl, ?_⟩
  show A X 0 0 0 [some (.ref (xlay X 221)), some (.int (nI p)), none, none, none, none, none] [] w
  refine a_aload_n hX dX8_isRing_0 rfl ?_
  refine a_iconst (0) hX dX8_isRing_1 (by decide) ?_
  refine pf_X8_170 rfl hX dX8_isRing_2 ?_
  refine a_iconst (1) hX dX8_isRing_5 (by decide) ?_
  refine a_istore_n (ls' := [_, _, _, _, _, _, _]) hX dX8_isRing_6 (Nat.le_of_ble_eq_true rfl) rfl ?_
  refine a_aload_n hX dX8_isRing_7 rfl ?_
  refine gf_X8_79 rfl hX dX8_isRing_8 ?_
  refine a_iconst (0) hX dX8_isRing_11 (by decide) ?_
  refine a_iload_n hX dX8_isRing_12 rfl ?_
  refine a_iast 0 hX rfl rfl (by decide) dX8_isRing_13 ?_
  refine a_aload_n hX dX8_isRing_14 rfl ?_
  refine gf_X8_82 rfl hX dX8_isRing_15 ?_
  refine a_iconst (0) hX dX8_isRing_18 (by decide) ?_
  refine a_iconst (0) hX dX8_isRing_19 (by decide) ?_
  refine a_iast 0 hX rfl rfl (by decide) dX8_isRing_20 ?_
  have L21 : ∀ (fu1 : Nat) (m : Nat) (v x : Nat → Nat) (b : Nat) (tb : Nat → Nat) (w2 : St) (y3 y4 y5 y6 : Option Value), muR x m < fu1 → (SI w w2 p m v x b tb) → A X 0 0 21 [some (.ref (xlay X 221)), some (.int (nI p)), some (.int (nI m)), y3, y4, y5, y6] [] w2 := by
    intro fu1
    induction fu1 with
    | zero => intro m v x b tb w2 y3 y4 y5 y6 hmu; exact absurd hmu (Nat.not_lt_zero _)
    | succ fu1 ih1 =>
      intro m v x b tb w2 y3 y4 y5 y6 hmu1 hI
      refine a_iload_n hX dX8_isRing_21 rfl ?_
      refine a_if_le 167 hX dX8_isRing_22 (by decide) (fun c_22 => ?_) (fun c_22 => ?_)
      · have hm0 : m = 0 := by
          cases m with
          | zero => rfl
          | succ n =>
            have h12 := hI.1.1
            have := (nI_leI (a := n + 1) (b := 0) (by omega) (by decide)).mp (by first | exact c_22 | exact Decidable.not_not.mp c_22)
            omega
        subst hm0
        have hb12 := hI.1.2
        refine a_aload_n hX dX8_isRing_167 rfl ?_
        refine gf_X8_170 rfl hX dX8_isRing_168 ?_
        rw [hI.2.2.2.2.2.2.1.1]
        have hbc : nI b ≤ 0 ↔ b = 0 := by
          have h9 : nI b ≤ nI 0 ↔ b ≤ 0 := nI_leI (by omega) (by decide)
          exact h9.trans (by omega)
        refine a_if_le 178 hX dX8_isRing_171 (by decide) (fun c_171 => ?_) (fun c_171 => ?_)
        · refine a_iconst (0) hX dX8_isRing_178 (by decide) ?_
          refine a_iret hX hR dX8_isRing_179 ⟨Nat.le_refl _, Nat.le_refl _⟩ rfl ?_
          first
          | (have hb0 : b ≠ 0 := fun z => c_171 (hbc.mpr z)
             exact po_int (h.1 w2 b tb hI.2.1.1 hI.2.1.2 (by omega) hb12 hI.2.2.2.2.2.2.1.1 hI.2.2.2.2.2.2.1.2 (hI.2.2.2.2.2.2.2.1 hb0) (fun m u s hu hs => (hI.2.2.2.2.2.2.2.2 m u s hu (Or.inl rfl) hs).2)) rfl)
          | (have hb0 : b = 0 := hbc.mp c_171
             exact po_int (h.2 w2 hI.2.1.1 hI.2.1.2 (fun m u hu => by
               obtain ⟨s, hs⟩ := isTu_ex u hu.1
               exact (hI.2.2.2.2.2.2.2.2 m u s hu (Or.inl rfl) hs).1 hb0)) rfl)
        · refine a_iconst (1) hX dX8_isRing_174 (by decide) ?_
          refine a_goto 179 hX dX8_isRing_175 (by decide) ?_
          refine a_iret hX hR dX8_isRing_179 ⟨Nat.le_refl _, Nat.le_refl _⟩ rfl ?_
          first
          | (have hb0 : b ≠ 0 := fun z => c_171 (hbc.mpr z)
             exact po_int (h.1 w2 b tb hI.2.1.1 hI.2.1.2 (by omega) hb12 hI.2.2.2.2.2.2.1.1 hI.2.2.2.2.2.2.1.2 (hI.2.2.2.2.2.2.2.1 hb0) (fun m u s hu hs => (hI.2.2.2.2.2.2.2.2 m u s hu (Or.inl rfl) hs).2)) rfl)
          | (have hb0 : b = 0 := hbc.mp c_171
             exact po_int (h.2 w2 hI.2.1.1 hI.2.1.2 (fun m u hu => by
               obtain ⟨s, hs⟩ := isTu_ex u hu.1
               exact (hI.2.2.2.2.2.2.2.2 m u s hu (Or.inl rfl) hs).1 hb0)) rfl)
      · obtain ⟨n, rfl⟩ : ∃ n, m = n + 1 := by
          cases m with
          | zero => exact absurd (by decide : nI 0 ≤ 0) (by first | exact c_22 | exact fun z => c_22 z)
          | succ n => exact ⟨n, rfl⟩
        have hn12 := hI.1.1
        obtain ⟨hvn, hcv, hxn, hcx⟩ := hI.2.2.1 n (by omega)
        have htc := tcR_pos (12 - n)
        refine a_aload_n hX dX8_isRing_25 rfl ?_
        refine gf_X8_79 rfl hX dX8_isRing_26 ?_
        refine a_iload_n hX dX8_isRing_29 rfl ?_
        refine a_iconst (1) hX dX8_isRing_30 (by decide) ?_
        refine a_isub hX dX8_isRing_31 ?_
        rw [nI_s1]
        refine a_iald n hX rfl rfl (show n < 12 by omega) dX8_isRing_32 ?_
        rw [hcv]
        refine a_istore_n (ls' := [_, _, _, _, _, _, _]) hX dX8_isRing_33 (Nat.le_of_ble_eq_true rfl) rfl ?_
        refine a_aload_n hX dX8_isRing_34 rfl ?_
        refine gf_X8_82 rfl hX dX8_isRing_35 ?_
        refine a_iload_n hX dX8_isRing_38 rfl ?_
        refine a_iconst (1) hX dX8_isRing_39 (by decide) ?_
        refine a_isub hX dX8_isRing_40 ?_
        rw [nI_s1]
        refine a_iald n hX rfl rfl (show n < 12 by omega) dX8_isRing_41 ?_
        rw [hcx]
        refine a_istore (ls' := [_, _, _, _, _, _, _]) hX dX8_isRing_42 (Nat.le_of_ble_eq_true rfl) rfl ?_
        refine a_aload_n hX dX8_isRing_44 rfl ?_
        refine gf_X8_82 rfl hX dX8_isRing_45 ?_
        refine a_iload_n hX dX8_isRing_48 rfl ?_
        refine a_iconst (1) hX dX8_isRing_49 (by decide) ?_
        refine a_isub hX dX8_isRing_50 ?_
        rw [nI_s1]
        refine a_dup2 hX dX8_isRing_51 rfl rfl ?_
        refine a_iald n hX rfl rfl (show n < 12 by omega) dX8_isRing_52 ?_
        rw [hcx]
        refine a_iconst (1) hX dX8_isRing_53 (by decide) ?_
        refine a_iadd hX dX8_isRing_54 ?_
        rw [nI_1]
        refine a_iast n hX rfl rfl (show n < 12 by omega) dX8_isRing_55 ?_
        refine a_iload hX dX8_isRing_56 rfl ?_
        refine a_bipush (12) hX dX8_isRing_58 (by decide) ?_
        refine a_icmp_lt 69 hX dX8_isRing_60 (by decide) (fun c_60 => ?_) (fun c_60 => ?_)
        · have hx12 : x n < 12 := (nI_ltI (b := 12) (by omega) (by decide)).mp c_60
          have hmn := muR_next (x := x) (n := n) (by omega) (by omega)
          have hEM : EM (wset w2 244 n (nI (x n + 1))) (v n) (x n) = EM w (v n) (x n) := by
            unfold EM
            rw [wset_ne _ _ _ _ (by decide), wset_ne _ _ _ _ (by decide), hI.2.1.1.2 224 (by omega), hI.2.1.1.2 228 (by omega)]
          refine a_aload_n hX dX8_isRing_69 rfl ?_
          refine a_iload_n hX dX8_isRing_70 rfl ?_
          refine a_iload hX dX8_isRing_71 rfl ?_
          refine a_callV [_, _] hX c_X8_names mi_X8_names mv_X8_names se_X8_names (klt rfl (by decide)) (adr_lt (kd_lt rfl (by decide))) (cell_8 rfl) rfl li_X8_173 (by decide) rfl rfl (Nat.le_of_ble_eq_true rfl) (fun q => q) dX8_isRing_73 ⟨_, _, rfl, hvn, hx12, ?_⟩
          rw [hEM]
          refine a_if_ne_b 82 hX dX8_isRing_76 (by decide) (fun c_76 => ?_) (fun c_76 => ?_)
          · refine a_iload hX dX8_isRing_82 rfl ?_
            refine a_iload_n hX dX8_isRing_84 rfl ?_
            refine a_icmp_ne 96 hX dX8_isRing_85 (by decide) (fun c_85 => ?_) (fun c_85 => ?_)
            · have hxp : x n ≠ p := fun z => c_85 (by rw [z])
              refine a_iconst (0) hX dX8_isRing_96 (by decide) ?_
              refine a_istore (ls' := [_, _, _, _, _, _, _]) hX dX8_isRing_97 (Nat.le_of_ble_eq_true rfl) rfl ?_
              refine a_iconst (0) hX dX8_isRing_99 (by decide) ?_
              refine a_istore (ls' := [_, _, _, _, _, _, _]) hX dX8_isRing_100 (Nat.le_of_ble_eq_true rfl) rfl ?_
              have L102 : ∀ (fu2 : Nat) (i : Nat) (f : Int32), 13 - i < fu2 → (i ≤ n + 1) → (f = if anyF (fun j => decide (v j = x n)) i then 1 else 0) → A X 0 0 102 [some (.ref (xlay X 221)), some (.int (nI p)), some (.int (nI (n + 1))), some (.int (nI (v n))), some (.int (nI (x n))), some (.int f), some (.int (nI i))] [] (wset w2 244 n (nI (x n + 1))) := by
                intro fu2
                induction fu2 with
                | zero => intro i f hmu; exact absurd hmu (Nat.not_lt_zero _)
                | succ fu2 ih2 =>
                  intro i f hmu2 hi hf
                  refine a_iload hX dX8_isRing_102 rfl ?_
                  refine a_iload_n hX dX8_isRing_104 rfl ?_
                  refine a_icmp_ge 138 hX dX8_isRing_105 (by decide) (fun c_105 => ?_) (fun c_105 => ?_)
                  · have hin9 : i = n + 1 := by
                      rcases Nat.lt_or_ge i (n + 1) with q | q
                      · exact absurd (nI_lt q (by omega)) (Int32.not_lt.mpr c_105)
                      · omega
                    rw [hin9] at hf
                    refine a_iload hX dX8_isRing_138 rfl ?_
                    refine a_if_eq 146 hX dX8_isRing_140 (by decide) (fun c_140 => ?_) (fun c_140 => ?_)
                    · have haf : anyF (fun j => decide (v j = x n)) (n + 1) = false := by
                        cases hz : anyF (fun j => decide (v j = x n)) (n + 1)
                        · rfl
                        · rw [hf, hz] at c_140
                          exact absurd c_140 (by decide)
                      have hon : ∀ j, j < n + 1 → v j ≠ x n := fun j hj z => by
                        have : anyF (fun j => decide (v j = x n)) (n + 1) = true := anyF_iff.mpr ⟨j, hj, by simp [z]⟩
                        rw [haf] at this
                        cases this
                      obtain ⟨h12, hI2⟩ := SI_push hI hx12 c_76 hon
                      have hmu2 : muR (up1 (up1 x n (x n + 1)) (n + 1) 0) (n + 2) < muR x (n + 1) := by
                        have e1 : muR (up1 (up1 x n (x n + 1)) (n + 1) 0) (n + 2) = muR (up1 (up1 x n (x n + 1)) (n + 1) 0) (n + 1) + ((13 - up1 (up1 x n (x n + 1)) (n + 1) 0 (n + 1)) * tcR (12 - (n + 1)) + 1) := rfl
                        rw [e1, muR_cong (x := up1 (up1 x n (x n + 1)) (n + 1) 0) (y := up1 x n (x n + 1)) (fun i hi => if_neg (by omega)), show up1 (up1 x n (x n + 1)) (n + 1) 0 (n + 1) = 0 from if_pos rfl]
                        have e2 : tcR (12 - n) = 13 * tcR (12 - (n + 1)) + 2 := by
                          rw [show 12 - n = (12 - (n + 1)) + 1 by omega]
                          rfl
                        omega
                      refine a_aload_n hX dX8_isRing_146 rfl ?_
                      refine gf_X8_79 rfl hX dX8_isRing_147 ?_
                      refine a_iload_n hX dX8_isRing_150 rfl ?_
                      refine a_iload hX dX8_isRing_151 rfl ?_
                      refine a_iast (n + 1) hX rfl rfl (show n + 1 < 12 by omega) dX8_isRing_153 ?_
                      refine a_aload_n hX dX8_isRing_154 rfl ?_
                      refine gf_X8_82 rfl hX dX8_isRing_155 ?_
                      refine a_iload_n hX dX8_isRing_158 rfl ?_
                      refine a_iconst (0) hX dX8_isRing_159 (by decide) ?_
                      refine a_iast (n + 1) hX rfl rfl (show n + 1 < 12 by omega) dX8_isRing_160 ?_
                      refine a_iinc (ls' := [_, _, _, _, _, _, _]) (nI (n + 2)) hX dX8_isRing_161 rfl (nI_i1 (n + 1)) rfl ?_
                      refine a_goto 21 hX dX8_isRing_164 (by decide) ?_
                      exact ih1 (n + 2) _ _ b tb _ _ _ _ _ (by omega) hI2
                    · refine a_goto 21 hX dX8_isRing_143 (by decide) ?_
                      have hat : anyF (fun j => decide (v j = x n)) (n + 1) = true := by
                        cases hz : anyF (fun j => decide (v j = x n)) (n + 1)
                        · rw [hf, hz] at c_140
                          exact absurd rfl c_140
                        · rfl
                      obtain ⟨j0, hj0, hje⟩ := anyF_iff.mp hat
                      have hje : v j0 = x n := by simpa using hje
                      exact ih1 (n + 1) v (up1 x n (x n + 1)) b tb _ _ _ _ _ (by omega) (SI_next hI hp hx12 (fun m u hu hm hag z => by
                        unfold nxR at z
                        by_cases hm1 : n + 1 < m
                        · rw [if_pos hm1, ← hje, ← hag j0 (by omega)] at z
                          exact hu.2.2.2.2.2 j0 (n + 1) (by omega) hm1 z.symm
                        · rw [if_neg hm1] at z
                          exact hxp z.symm))
                  · have hin : i < n + 1 := by
                      rcases Nat.lt_or_ge i (n + 1) with q | q
                      · exact q
                      · exact absurd (nI_le q (by omega)) c_105
                    have hci := hI.2.2.1 i hin
                    refine a_iload hX dX8_isRing_108 rfl ?_
                    refine a_if_ne 125 hX dX8_isRing_110 (by decide) (fun c_110 => ?_) (fun c_110 => ?_)
                    · refine a_iconst (1) hX dX8_isRing_125 (by decide) ?_
                      refine a_goto 130 hX dX8_isRing_126 (by decide) ?_
                      refine a_istore (ls' := [_, _, _, _, _, _, _]) hX dX8_isRing_130 (Nat.le_of_ble_eq_true rfl) rfl ?_
                      refine a_iinc (ls' := [_, _, _, _, _, _, _]) (nI (i + 1)) hX dX8_isRing_132 rfl (nI_i1 i) rfl ?_
                      refine a_goto 102 hX dX8_isRing_135 (by decide) ?_
                      have hat : anyF (fun j => decide (v j = x n)) i = true := by
                        cases hz : anyF (fun j => decide (v j = x n)) i
                        · rw [hf, hz] at c_110
                          exact absurd rfl c_110
                        · rfl
                      exact ih2 (i + 1) 1 (by omega) (by omega) (by rw [anyF_step, hat]; rfl)
                    · refine a_aload_n hX dX8_isRing_113 rfl ?_
                      refine gf_X8_79 rfl hX dX8_isRing_114 ?_
                      refine a_iload hX dX8_isRing_117 rfl ?_
                      refine a_iald i hX rfl rfl (show i < 12 by omega) dX8_isRing_119 ?_
                      rw [wset_ne _ _ _ _ (by decide), hci.2.1]
                      refine a_iload hX dX8_isRing_120 rfl ?_
                      refine a_icmp_ne 129 hX dX8_isRing_122 (by decide) (fun c_122 => ?_) (fun c_122 => ?_)
                      · refine a_iconst (0) hX dX8_isRing_129 (by decide) ?_
                        refine a_istore (ls' := [_, _, _, _, _, _, _]) hX dX8_isRing_130 (Nat.le_of_ble_eq_true rfl) rfl ?_
                        refine a_iinc (ls' := [_, _, _, _, _, _, _]) (nI (i + 1)) hX dX8_isRing_132 rfl (nI_i1 i) rfl ?_
                        refine a_goto 102 hX dX8_isRing_135 (by decide) ?_
                        have hne : ¬ v i = x n := fun z => c_122 (by rw [z])
                        have haf : anyF (fun j => decide (v j = x n)) i = false := by
                          cases hz : anyF (fun j => decide (v j = x n)) i
                          · rfl
                          · rw [hf, hz] at c_110
                            exact absurd c_110 (by decide)
                        exact ih2 (i + 1) 0 (by omega) (by omega) (by rw [anyF_step, haf, decide_eq_false hne]; rfl)
                      · refine a_iconst (1) hX dX8_isRing_125 (by decide) ?_
                        refine a_goto 130 hX dX8_isRing_126 (by decide) ?_
                        refine a_istore (ls' := [_, _, _, _, _, _, _]) hX dX8_isRing_130 (Nat.le_of_ble_eq_true rfl) rfl ?_
                        refine a_iinc (ls' := [_, _, _, _, _, _, _]) (nI (i + 1)) hX dX8_isRing_132 rfl (nI_i1 i) rfl ?_
                        refine a_goto 102 hX dX8_isRing_135 (by decide) ?_
                        have heq : v i = x n := (nI_eq (by omega) (by omega)).mp c_122
                        exact ih2 (i + 1) 1 (by omega) (by omega) (by rw [anyF_step, decide_eq_true heq, Bool.or_true]; rfl)
              exact L102 14 0 0 (by omega) (by omega) rfl
            · refine a_aload_n hX dX8_isRing_88 rfl ?_
              refine a_iload_n hX dX8_isRing_89 rfl ?_
              have hxp : x n = p := (nI_eq (by omega) (by omega)).mp c_85
              refine a_callV [_] hX c_X8_isBetter mi_X8_isBetter mv_X8_isBetter se_X8_isBetter (klt rfl (by decide)) (adr_lt (kd_lt rfl (by decide))) (cell_8 rfl) rfl li_X8_176 (by decide) rfl rfl (Nat.le_of_ble_eq_true rfl) (fun q => q) dX8_isRing_90 ⟨_, b, v, tb, rfl, (by omega), hn12, (fun i hi => ⟨(hI.2.2.1 i hi).1, by rw [wset_ne _ _ _ _ (by decide)]; exact (hI.2.2.1 i hi).2.1⟩), hI.1.2, (by rw [wset_ne _ _ _ _ (by decide)]; exact hI.2.2.2.2.2.2.1.1), (fun j hj => by rw [wset_ne _ _ _ _ (by decide)]; exact hI.2.2.2.2.2.2.1.2 j hj), ?_⟩
              intro w90 b90 tb90 hf90 hk90 h190 h1290 hs90 ht90 hr90
              refine a_goto 21 hX dX8_isRing_93 (by decide) ?_
              exact ih1 (n + 1) v (up1 x n (x n + 1)) b90 tb90 _ _ _ _ _ (by omega) (SI_better hI hp hxp (by rw [← hxp]; exact c_76) hf90 hk90 h190 h1290 hs90 ht90 hr90)
          · refine a_goto 21 hX dX8_isRing_79 (by decide) ?_
            exact ih1 (n + 1) v (up1 x n (x n + 1)) b tb _ _ _ _ _ (by omega) (SI_next hI hp hx12 (fun m u hu hm hag z => by
              have h9 := (isRg_nx hu hp hm).1
              rw [z, hag n (Nat.le_refl _)] at h9
              exact c_76 h9))
        · have hx12 : 12 ≤ x n := by
            rcases Nat.lt_or_ge (x n) 12 with q | q
            · exact absurd (nI_lt (b := 12) q (by decide)) c_60
            · exact q
          have hmu9 : muR x n < muR x (n + 1) := by
            show _ < muR x n + _
            omega
          refine a_iinc (ls' := [_, _, _, _, _, _, _]) (nI n) hX dX8_isRing_63 rfl (nI_m1' n) rfl ?_
          refine a_goto 21 hX dX8_isRing_66 (by decide) ?_
          exact ih1 n v x b tb _ _ _ _ _ (by omega) (SI_pop hI hp hx12)
  have hI0 : SI w (wset (wset (wset w 221 30 0) 243 0 (nI p)) 244 0 0) p 1 (fun _ => p) (fun _ => 0) 0 (fun _ => 0) := by
    refine ⟨⟨by omega, by omega⟩, ⟨Fr.set (Fr.set (Fr.set Fr.rf (by omega)) (by omega)) (by omega), fun k hk => ?_⟩, fun i hi => ?_, fun _ => rfl, fun i hi => by omega, fun i j hij hj => by omega, ⟨?_, fun j hj => by omega⟩, fun z => absurd rfl z, fun m u s hu hd hs => ?_⟩
    · rw [wset_ne _ _ _ _ (by decide), wset_ne _ _ _ _ (by decide), wset_1, if_neg (by omega)]
    · have : i = 0 := by omega
      subst this
      refine ⟨hp, ?_, Nat.zero_le _, ?_⟩
      · rw [wset_ne _ _ _ _ (by decide), wset_1, if_pos ⟨rfl, rfl⟩]
      · rw [wset_1, if_pos ⟨rfl, rfl⟩]; rfl
    · rw [wset_ne _ _ _ _ (by decide), wset_ne _ _ _ _ (by decide), wset_1, if_pos ⟨rfl, rfl⟩]; rfl
    · rcases hd with hd | ⟨i, hi, -, -, hl⟩
      · omega
      · rw [if_neg (by omega)] at hl
        exact absurd hl (Nat.not_lt_zero _)
  exact L21 (muR (fun _ => 0) 1 + 1) 1 (fun _ => p) (fun _ => 0) 0 (fun _ => 0) _ none none none none (Nat.lt_succ_self _) hI0
