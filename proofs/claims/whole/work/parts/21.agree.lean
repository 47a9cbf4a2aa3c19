def fb_ct (p : Nat → Bool) : Nat → Nat
  | 0 => 0
  | n + 1 => fb_ct p n + (if p n then 1 else 0)
theorem fb_ct_succ (p : Nat → Bool) (n : Nat) : fb_ct p (n + 1) = fb_ct p n + (if p n then 1 else 0) := rfl
theorem fb_ct_le (p : Nat → Bool) : ∀ n, fb_ct p n ≤ n
  | 0 => Nat.le_refl _
  | n + 1 => by
    have h := fb_ct_le p n
    rw [fb_ct_succ]
    split <;> omega
theorem fb_ct_step (p : Nat → Bool) (m : Nat) : ∀ n, fb_ct p m ≤ fb_ct p (m + n)
  | 0 => Nat.le_refl _
  | n + 1 => by
    have h := fb_ct_step p m n
    show fb_ct p m ≤ fb_ct p (m + n + 1)
    rw [fb_ct_succ]
    omega
theorem fb_ct_mono (p : Nat → Bool) {m n : Nat} (h : m ≤ n) : fb_ct p m ≤ fb_ct p n := by
  have := fb_ct_step p m (n - m)
  rwa [Nat.add_sub_cancel' h] at this
theorem fb_ct_cong {p q : Nat → Bool} : ∀ {n : Nat}, (∀ k, k < n → p k = q k) → fb_ct p n = fb_ct q n
  | 0, _ => rfl
  | n + 1, h => by
    rw [fb_ct_succ, fb_ct_succ, fb_ct_cong (fun k hk => h k (by omega)), h n (by omega)]
/-- one place changed -/
theorem fb_ct_out (p : Nat → Bool) (b : Bool) {i n : Nat} (h : n ≤ i) : fb_ct (fun k => if k = i then b else p k) n = fb_ct p n :=
  fb_ct_cong fun k hk => if_neg (by omega)
theorem fb_ct_upd (p : Nat → Bool) (b : Bool) {i : Nat} : ∀ {n : Nat}, i < n → fb_ct (fun k => if k = i then b else p k) n + (if p i then 1 else 0) = fb_ct p n + (if b then 1 else 0)
  | 0, h => absurd h (Nat.not_lt_zero i)
  | n + 1, h => by
    rw [fb_ct_succ, fb_ct_succ]
    rcases Nat.lt_or_ge i n with q | q
    · have := fb_ct_upd p b q
      have e : (if n = i then b else p n) = p n := if_neg (by omega)
      rw [e]
      omega
    · have e : i = n := by omega
      subst e
      rw [fb_ct_out p b (Nat.le_refl _)]
      simp only [if_true]
      omega
theorem fb_ct_sub {p q : Nat → Bool} : ∀ {n : Nat}, (∀ k, k < n → p k = true → q k = true) → fb_ct p n ≤ fb_ct q n
  | 0, _ => Nat.le_refl _
  | n + 1, h => by
    have h1 := fb_ct_sub (n := n) (p := p) (q := q) (fun k hk => h k (by omega))
    have h2 := h n (by omega)
    rw [fb_ct_succ, fb_ct_succ]
    cases hp : p n <;> cases hq : q n <;> simp_all <;> omega
theorem fb_ct_or {p q : Nat → Bool} : ∀ {n : Nat}, (∀ k, k < n → ¬ (p k = true ∧ q k = true)) → fb_ct (fun k => p k || q k) n = fb_ct p n + fb_ct q n
  | 0, _ => rfl
  | n + 1, h => by
    have h1 := fb_ct_or (n := n) (p := p) (q := q) (fun k hk => h k (by omega))
    have h2 := h n (by omega)
    rw [fb_ct_succ, fb_ct_succ, fb_ct_succ, h1]
    cases hp : p n <;> cases hq : q n <;> simp_all <;> omega
theorem fb_ct_not (p : Nat → Bool) : ∀ n, fb_ct p n + fb_ct (fun k => !p k) n = n
  | 0 => rfl
  | n + 1 => by
    have h := fb_ct_not p n
    rw [fb_ct_succ, fb_ct_succ]
    cases p n <;> simp <;> omega
theorem fb_ct_split (p : Nat → Bool) (m : Nat) : ∀ n, fb_ct p (m + n) = fb_ct p m + fb_ct (fun k => p (m + k)) n
  | 0 => rfl
  | n + 1 => by
    have h := fb_ct_split p m n
    show fb_ct p (m + n + 1) = _
    rw [fb_ct_succ, fb_ct_succ, h, Nat.add_assoc]
theorem fb_ct_zero {p : Nat → Bool} : ∀ {n : Nat}, fb_ct p n = 0 ↔ ∀ k, k < n → p k = false
  | 0 => ⟨fun _ k hk => absurd hk (Nat.not_lt_zero k), fun _ => rfl⟩
  | n + 1 => by
    have h := fb_ct_zero (p := p) (n := n)
    rw [fb_ct_succ]
    constructor
    · intro e k hk
      have e1 : fb_ct p n = 0 := by omega
      rcases Nat.lt_or_ge k n with q | q
      · exact h.mp e1 k q
      · have ek : k = n := by omega
        subst ek
        cases hp : p k
        · rfl
        · simp [hp] at e
    · intro a
      rw [h.mpr (fun k hk => a k (by omega)), a n (by omega)]
      rfl
theorem fb_ct_pos {p : Nat → Bool} {n : Nat} : 0 < fb_ct p n ↔ ∃ k, k < n ∧ p k = true := by
  constructor
  · intro h
    refine Classical.byContradiction fun hx => ?_
    have := fb_ct_zero.mpr (fun k hk => by
      cases hp : p k
      · rfl
      · exact absurd ⟨k, hk, hp⟩ hx : ∀ k, k < n → p k = false)
    omega
  · rintro ⟨k, hk, hp⟩
    rcases Nat.eq_zero_or_pos (fb_ct p n) with e | e
    · have := fb_ct_zero.mp e k hk
      rw [this] at hp
      cases hp
    · exact e
theorem fb_ct_all {p : Nat → Bool} {n : Nat} : fb_ct p n = n ↔ ∀ k, k < n → p k = true := by
  have h := fb_ct_not p n
  constructor
  · intro e k hk
    have z : fb_ct (fun k => !p k) n = 0 := by omega
    have := fb_ct_zero.mp z k hk
    cases hp : p k
    · simp [hp] at this
    · rfl
  · intro a
    have z : fb_ct (fun k => !p k) n = 0 := fb_ct_zero.mpr (fun k hk => by simp [a k hk])
    omega
/-! places that agree give the same reckoning -/
def agP (PP QQ : Nat → Nat → Int32) : Prop := ∀ i, i < 12 → ∀ k, k < 9 → PP i k = QQ i k
theorem agP.symm {PP QQ : Nat → Nat → Int32} (h : agP PP QQ) : agP QQ PP := fun i hi k hk => (h i hi k hk).symm
theorem stB_ag {PP QQ : Nat → Nat → Int32} (h : agP PP QQ) {i : Nat} (hi : i < 12) : stB PP i = stB QQ i := by
  unfold stB
  rw [h i hi 0 (by omega), h i hi 5 (by omega)]
theorem runsB_ag {PP QQ : Nat → Nat → Int32} (h : agP PP QQ) {i : Nat} (hi : i < 12) : runsB PP i = runsB QQ i := by
  unfold runsB
  rw [h i hi 0 (by omega)]
theorem depB_ag {PP QQ : Nat → Nat → Int32} (h : agP PP QQ) {k i : Nat} (hk : k < 12) (hi : i < 12) : depB PP k i = depB QQ k i := by
  unfold depB
  rw [h k hk 4 (by omega), stB_ag h hi]
theorem spU_ag {PP QQ : Nat → Nat → Int32} (h : agP PP QQ) {c : Int32} {k d : Nat} : ∀ {n : Nat}, n ≤ 12 → spU PP c k d n = spU QQ c k d n
  | 0, _ => rfl
  | n + 1, hn => by
    simp only [spU]
    rw [spU_ag h (n := n) (by omega), h n (by omega) 0 (by omega), h n (by omega) 1 (by omega), h n (by omega) 2 (by omega), h n (by omega) 4 (by omega), h n (by omega) 5 (by omega)]
theorem spB_ag {PP QQ : Nat → Nat → Int32} (h : agP PP QQ) (c : Int32) (k d : Nat) : spB PP c k d = spB QQ c k d := spU_ag h (Nat.le_refl _)
theorem rawB_ag {PP QQ : Nat → Nat → Int32} (h : agP PP QQ) (hd : Nat → Bool) (k bg : Nat) : rawB PP hd k bg = rawB QQ hd k bg := by
  funext d
  unfold rawB
  rw [spB_ag h, spB_ag h]
theorem mtN_ag {PP QQ : Nat → Nat → Int32} (h : agP PP QQ) {k : Nat} (hk : k < 12) : mtN PP k = mtN QQ k := by
  unfold mtN
  rw [h k hk 3 (by omega), h k hk 7 (by omega)]
theorem ndN_ag {PP QQ : Nat → Nat → Int32} (h : agP PP QQ) {k : Nat} (hk : k < 12) : ndN PP k = ndN QQ k := by
  unfold ndN
  rw [h k hk 0 (by omega), h k hk 3 (by omega)]
theorem tlN_ag {PP QQ : Nat → Nat → Int32} (h : agP PP QQ) {k : Nat} (hk : k < 12) (is : Nat → Bool) (n : Nat) : tlN PP k is n = tlN QQ k is n := by
  unfold tlN
  rw [h k hk 6 (by omega)]
theorem endC_ag {PP QQ : Nat → Nat → Int32} (h : agP PP QQ) {k : Nat} (hk : k < 12) (hd : Nat → Bool) (bg : Nat) : endC PP hd k bg = endC QQ hd k bg := by
  funext d
  unfold endC
  rw [ndN_ag h hk, mtN_ag h hk, rawB_ag h, tlN_ag h hk, h k hk 6 (by omega), h k hk 8 (by omega)]
theorem maxF_p {p q : Nat → Bool} {f : Nat → Nat} {x : Nat} : ∀ {n : Nat}, (∀ i, i < n → p i = q i) → maxF p f x n = maxF q f x n
  | 0, _ => rfl
  | n + 1, h => by
    unfold maxF
    rw [maxF_p (fun i hi => h i (by omega)), h n (by omega)]
theorem minF_p {p q : Nat → Bool} {f : Nat → Nat} {x : Nat} : ∀ {n : Nat}, (∀ i, i < n → p i = q i) → minF p f x n = minF q f x n
  | 0, _ => rfl
  | n + 1, h => by
    unfold minF
    rw [minF_p (fun i hi => h i (by omega)), h n (by omega)]
theorem anyF_p {p q : Nat → Bool} : ∀ {n : Nat}, (∀ i, i < n → p i = q i) → anyF p n = anyF q n
  | 0, _ => rfl
  | n + 1, h => by
    unfold anyF
    rw [anyF_p (fun i hi => h i (by omega)), h n (by omega)]
theorem bgN_ag {PP QQ : Nat → Nat → Int32} (h : agP PP QQ) {k : Nat} (hk : k < 12) (be en : Nat → Nat) : bgN PP be en k = bgN QQ be en k := by
  unfold bgN
  rw [maxF_p (q := depB QQ k) (fun i hi => depB_ag h hk hi), minF_p (q := depB QQ k) (fun i hi => depB_ag h hk hi), anyF_p (q := depB QQ k) (fun i hi => depB_ag h hk hi), h k hk 0 (by omega), h k hk 1 (by omega)]
theorem Eq1_ag {PP QQ : Nat → Nat → Int32} (h : agP PP QQ) {k : Nat} (hk : k < 12) {hd : Nat → Bool} {be en : Nat → Nat} (he : Eq1 PP hd be en k) : Eq1 QQ hd be en k := by
  unfold Eq1 at *
  rw [← bgN_ag h hk, ← endC_ag h hk]
  exact he
theorem Sol_ag {PP QQ : Nat → Nat → Int32} (h : agP PP QQ) {hd : Nat → Bool} {be en : Nat → Nat} (he : Sol PP hd be en) : Sol QQ hd be en := fun k hk hs => Eq1_ag h hk (he k hk (by rw [stB_ag h hk]; exact hs))
theorem vP_ag {PP QQ : Nat → Nat → Int32} (h : agP PP QQ) (hv : vP PP) : vP QQ := by
  intro i hi
  have := hv i hi
  rw [h i hi 0 (by omega), h i hi 1 (by omega), h i hi 2 (by omega), h i hi 3 (by omega), h i hi 4 (by omega), h i hi 5 (by omega), h i hi 6 (by omega), h i hi 7 (by omega), h i hi 8 (by omega), runsB_ag h hi] at this
  exact this
theorem acyN_ag {PP QQ : Nat → Nat → Int32} (h : agP PP QQ) (ha : acyN PP) : acyN QQ := by
  intro S h1 h2
  obtain ⟨k, hk, hs, hn⟩ := ha S h1 (fun k hk hs => by rw [runsB_ag h hk]; exact h2 k hk hs)
  exact ⟨k, hk, hs, fun i hi hsi => by rw [← h k hk 4 (by omega)]; exact hn i hi hsi⟩
theorem ctB_ag {PP QQ : Nat → Nat → Int32} (h : agP PP QQ) (hd : Nat → Bool) (be en : Nat → Nat) (k d : Nat) : ctB PP hd be en k d = ctB QQ hd be en k d := by
  unfold ctB
  rw [rawB_ag h]
theorem RkS_ag {w : St} {PP QQ : Nat → Nat → Int32} (h : agP PP QQ) {hd : Nat → Bool} {be en : Nat → Nat} (hr : RkS w PP hd be en) : RkS w QQ hd be en := by
  obtain ⟨a, b, c⟩ := hr
  refine ⟨a, fun k hk hs M hM => (b k hk (by rw [stB_ag h hk]; exact hs) M hM).to (fun d hd => ctB_ag h _ _ _ _ _), fun i hi => ?_⟩
  rw [c i hi]
  by_cases h12 : i < 12
  · rw [stB_ag h h12]
  · simp [h12]
theorem plF_ag {w w' : St} {q : Nat} {T : Nat → Prop} (hf : Fr w w' T) (hT : ∀ z, T z → 210 ≤ z) (hq : kd q = 1) : agP (plF w' q) (plF w q) := fun i hi k hk => congrFun (plF_fr hf hT hq hi) k
theorem heldF_fr {w w' : St} {q : Nat} {T : Nat → Prop} (hf : Fr w w' T) (hT : ∀ z, T z → 210 ≤ z) (hq : kd q = 1) (mo : Int32) : heldF w' q mo = heldF w q mo := by
  have hz : ∀ z, z < 5 → w'.1 (q + z) = w.1 (q + z) := fun z hz => hf.2 _ (fun h => by have := hT _ h; have := kd1_208 hq; omega)
  funext d
  unfold heldF hdW opP rowP
  rw [hz 2 (by omega), hz 3 (by omega), hz 4 (by omega)]
theorem hdOK_fr {w w' : St} {q : Nat} {T : Nat → Prop} (hf : Fr w w' T) (hT : ∀ z, T z → 210 ≤ z) (hq : kd q = 1) (h : hdOK w q) : hdOK w' q := by
  intro M hM
  rw [hf.2 _ (fun h => by have := hT _ h; have := kd1_208 hq; omega)]
  exact h M hM
/-- the inside of reckon: the orders dn are reckoned, lf are left -/
def RI (w w2 : St) (q : Nat) (mo : Int32) (dn : Nat → Bool) (be en : Nat → Nat) (lf : Int32) : Prop :=
  Fr w w2 (fun z => 210 ≤ z ∧ z ≤ 216) ∧ (∀ k, k < 12 → (w2.1 211 k = nI (be k) ∧ bdN (be k)) ∧ (w2.1 212 k = nI (en k) ∧ bdN (en k))) ∧ stW (w2.1 210 6) (plF w q) ∧
  (∀ x, x < 32 → bt lf x = (decide (x < 12) && (stB (plF w q) x && !dn x))) ∧
  (∀ k, k < 12 → dn k = true → stB (plF w q) k = true → Eq1 (plF w q) (heldF w q mo) be en k ∧ (∀ i, i < 12 → depB (plF w q) k i = true → dn i = true) ∧ ∀ M, M < 120 → BW (w2.1 213 (120 * k + M)) (fun d => ctB (plF w q) (heldF w q mo) be en k (30 * M + d))) ∧
  (∀ k, k < 12 → stB (plF w q) k = false → be k = 100000 ∧ en k = 100000)
def up1 (f : Nat → Nat) (k v : Nat) : Nat → Nat := fun i => if i = k then v else f i
def up1b (f : Nat → Bool) (k : Nat) : Nat → Bool := fun i => if i = k then true else f i
theorem Eq1_keep {PP : Nat → Nat → Int32} {hd : Nat → Bool} {be en be' en' : Nat → Nat} {k : Nat} (h : Eq1 PP hd be en k) (hb : be' k = be k) (he : en' k = en k) (hdp : ∀ i, i < 12 → depB PP k i = true → be' i = be i ∧ en' i = en i) : Eq1 PP hd be' en' k := by
  unfold Eq1 at *
  rw [hb, he, bgN_cong (be' := be) (en' := en) hdp]
  exact h
theorem RI_step {w w2 w3 : St} {q : Nat} {mo : Int32} {dn : Nat → Bool} {be en : Nat → Nat} {lf : Int32} {i b e : Nat} (hI : RI w w2 q mo dn be en lf) (hi : i < 12) (hli : stB (plF w q) i = true) (hnd : dn i = false) (hrd : ∀ x, x < 12 → depB (plF w q) i x = true → dn x = true)
    (hf : Fr w2 w3 (fun z => 211 ≤ z ∧ z ≤ 216)) (hb : b = bgN (plF w q) be en i) (he : isEnd (endC (plF w q) (heldF w q mo) i b) e) (h1 : w3.1 211 = upd (w2.1 211) i (nI b)) (h2 : w3.1 212 = upd (w2.1 212) i (nI e)) (h3 : ∀ j, (j < 120 * i ∨ 120 * i + 120 ≤ j) → w3.1 213 j = w2.1 213 j)
    (hc : ∀ M, M < 120 → BW (w3.1 213 (120 * i + M)) (fun d => rawB (plF w q) (heldF w q mo) i b (30 * M + d) && decide (30 * M + d ≤ e))) : RI w w3 q mo (up1b dn i) (up1 be i b) (up1 en i e) (lf &&& (((1 : Int32) <<< (nI i &&& 31)) ^^^ (-1))) := by
  obtain ⟨a1, a2, a3, a4, a5, a6⟩ := hI
  refine ⟨a1.tr (hf.mono (fun z hz => by omega)), fun k hk => ?_, ?_, fun x hx => ?_, fun k hk hd hs => ?_, fun k hk hs => ?_⟩
  · rw [h1, h2]
    unfold up1
    by_cases hki : k = i
    · subst hki
      simp only [upd, if_true]
      exact ⟨⟨trivial, by rw [hb]; exact bdN_cut _⟩, trivial, bdN_end he⟩
    · simp only [upd, if_neg hki]
      exact a2 k hk
  · rw [hf.2 210 (by omega)]
    exact a3
  · rw [b_and, bt_not _ hx, a4 x hx, b_shl i (by omega) 1 hx, bt_1]
    unfold up1b
    by_cases hxi : x = i
    · subst hxi
      simp
    · rw [if_neg hxi]
      have : (decide (i ≤ x) && decide (x - i = 0)) = false := by
        simp
        omega
      rw [this]
      simp
  · have hbe : ∀ x, x ≠ i → up1 be i b x = be x ∧ up1 en i e x = en x := fun x hx => by
      unfold up1
      rw [if_neg hx, if_neg hx]
      exact ⟨rfl, rfl⟩
    by_cases hki : k = i
    · subst hki
      have hdk : ∀ x, x < 12 → depB (plF w q) k x = true → x ≠ k := fun x hx hdx => by
        have := hrd x hx hdx
        intro hxk
        subst hxk
        rw [hnd] at this
        cases this
      refine ⟨?_, fun x hx hdx => ?_, fun M hM => ?_⟩
      · unfold Eq1
        rw [bgN_cong (be' := be) (en' := en) (fun x hx hdx => hbe x (hdk x hx hdx))]
        unfold up1
        simp only [if_true]
        exact ⟨hb, he⟩
      · unfold up1b
        rw [if_neg (hdk x hx hdx)]
        exact hrd x hx hdx
      · refine (hc M hM).to (fun d hd => ?_)
        unfold ctB up1
        simp only [if_true]
    · unfold up1b at hd
      rw [if_neg hki] at hd
      obtain ⟨e1, e2, e3⟩ := a5 k hk hd hs
      have hdx : ∀ x, x < 12 → depB (plF w q) k x = true → x ≠ i := fun x hx hdx hxi => by
        have := e2 x hx hdx
        rw [hxi, hnd] at this
        cases this
      refine ⟨Eq1_keep e1 (hbe k hki).1 (hbe k hki).2 (fun x hx hd => hbe x (hdx x hx hd)), fun x hx hd => ?_, fun M hM => ?_⟩
      · unfold up1b
        rw [if_neg (hdx x hx hd)]
        exact e2 x hx hd
      · rw [h3 _ (by omega)]
        refine (e3 M hM).to (fun d hd => ?_)
        unfold ctB
        rw [(hbe k hki).1, (hbe k hki).2]
  · have hki : k ≠ i := fun z => by
      subst z
      rw [hli] at hs
      cases hs
    unfold up1
    rw [if_neg hki, if_neg hki]
    exact a6 k hk hs
