/-! what is told keeps the registry sound -/
theorem isL_ex {l : Int32} (h : isL l) : ∃ j, j < 12 ∧ l = nI j := rng_ex (n := 12) (by decide) h
theorem isM_ex {l : Int32} (h : isM l) : ∃ j, j < 120 ∧ l = nI j := rng_ex (n := 120) (by decide) h
theorem isD_ex {l : Int32} (h : isD l) : ∃ j, j < 3600 ∧ l = nI j := rng_ex (n := 3600) (by decide) h
theorem isP_ex {g : Sg} {l : Int32} (ho : okS g) (h : isP g l) : ∃ j, j < gp g ∧ j < 6 ∧ l = nI j := by
  have h6 := ho.1.2.1
  obtain ⟨j, hj, e⟩ := rng_ex (n := gp g) (by omega) h
  exact ⟨j, hj, by omega, e⟩
theorem isN_ex {n : Int32} (h : 1 ≤ n ∧ n ≤ 3600) : ∃ j, 1 ≤ j ∧ j ≤ 3600 ∧ n = nI j := by
  obtain ⟨h1, h2⟩ := h
  rw [Int32.le_iff_toInt_le] at h1 h2
  have e1 : (1 : Int32).toInt = 1 := rfl
  have e2 : (3600 : Int32).toInt = 3600 := rfl
  obtain ⟨j, hj, e⟩ := nI_ofI (x := n) (n := 3601) (by omega) (by omega) (by decide)
  subst e
  rw [nI_toInt (by omega)] at h1
  exact ⟨j, by omega, by omega, rfl⟩
theorem le_ex {x : Int32} {n : Nat} (hn : n < 2 ^ 30) (h : 0 ≤ x ∧ x ≤ nI n) : ∃ j, j ≤ n ∧ x = nI j := by
  obtain ⟨h1, h2⟩ := h
  rw [Int32.le_iff_toInt_le] at h1 h2
  rw [nI_toInt (by omega)] at h2
  obtain ⟨j, hj, e⟩ := nI_ofI (x := x) (n := n + 1) h1 (by omega) (by omega)
  exact ⟨j, by omega, e⟩
theorem roomS_0 {g : Sg} {p l : Int32} (h : roomS g p l = 0) : isP g p ∧ isL l ∧ pl (RSn g) p l 0 = 0 := by
  unfold roomS at h
  by_cases h1 : isP g p ∧ isL l
  · rw [if_pos h1] at h
    by_cases h2 : pl (RSn g) p l 0 = 0
    · exact ⟨h1.1, h1.2, h2⟩
    · rw [if_neg h2] at h; exact absurd h (by decide)
  · rw [if_neg h1] at h; exact absurd h (by decide)
/-- one place's numbers in their bounds -/
def vR (f : Nat → Int32) : Prop := (∃ c, c ≤ 8 ∧ f 0 = nI c) ∧ (∃ x, x < 3600 ∧ f 1 = nI x) ∧ (∃ t, t < 3600 ∧ f 2 = nI t) ∧ (∃ n, n ≤ 3600 ∧ f 3 = nI n ∧ ((2 ≤ f 0 ∧ f 0 ≤ 5) → 1 ≤ n)) ∧ (∃ s, s < 4096 ∧ f 4 = nI s) ∧ (f 5 = -1 ∨ ∃ q, q < 12 ∧ f 5 = nI q) ∧ (∃ ev, ev ≤ 100 ∧ f 6 = nI ev) ∧ (∃ lf, lf ≤ 1000 ∧ f 7 = nI lf) ∧ (∃ gv, gv ≤ 3600 ∧ f 8 = nI gv) ∧ (f 0 = 2 → f 4 = 0)
theorem vP_iff {PP : Nat → Nat → Int32} : vP PP ↔ ∀ i, i < 12 → vR (PP i) := by
  unfold vP vR runsB
  simp only [decide_eq_true_eq]
theorem upP_at (PP : Nat → Nat → Int32) (b k : Nat) (v : Int32) : upP PP b k v b = upd (PP b) k v := by
  funext q
  simp [upP, upd]
theorem upP_ne (PP : Nat → Nat → Int32) {b i : Nat} (k : Nat) (v : Int32) (h : i ≠ b) : upP PP b k v i = PP i := by
  funext q
  simp [upP, h]
theorem vP_upd {PP PP' : Nat → Nat → Int32} {b : Nat} (h : vP PP) (hn : ∀ i, i ≠ b → PP' i = PP i) (hb : vR (PP' b)) : vP PP' := by
  rw [vP_iff] at h ⊢
  intro i hi
  by_cases e : i = b
  · subst e; exact hb
  · rw [hn i e]; exact h i hi
theorem acyN_upd {PP PP' : Nat → Nat → Int32} {b : Nat} (h : acyN PP) (hn : ∀ i, i ≠ b → PP' i = PP i) (hb : runsB PP' b = true → ∀ i, i < 12 → bt (PP' b 4) i = false) : acyN PP' := by
  intro S h1 h2
  by_cases hS : b < 12 ∧ S b = true
  · exact ⟨b, hS.1, hS.2, fun i hi _ => hb (h2 b hS.1 hS.2) i hi⟩
  · have hne : ∀ k, k < 12 → S k = true → k ≠ b := fun k hk hs e => hS (by subst e; exact ⟨hk, hs⟩)
    obtain ⟨k, hk, hs, hx⟩ := h S h1 (fun k hk hs => by
      have h9 := h2 k hk hs
      unfold runsB at h9 ⊢
      rw [hn k (hne k hk hs)] at h9
      exact h9)
    exact ⟨k, hk, hs, fun i hi hsi => by rw [hn k (hne k hk hs)]; exact hx i hi hsi⟩
theorem acyN_04 {PP PP' : Nat → Nat → Int32} (h : acyN PP) (h0 : ∀ i, PP' i 0 = PP i 0) (h4 : ∀ i, PP' i 4 = PP i 4) : acyN PP' := by
  intro S h1 h2
  obtain ⟨k, hk, hs, hx⟩ := h S h1 (fun k hk hs => by
    have h9 := h2 k hk hs
    unfold runsB at h9 ⊢
    rw [h0] at h9
    exact h9)
  exact ⟨k, hk, hs, fun i hi hsi => by rw [h4]; exact hx i hi hsi⟩
theorem gdS_pl {S : RS} {e : Nat → Int32} {P : Nat} (h : gdS S) (hP : P < 6) (e2 : e 2 = nI P) (h5 : e 1 ≠ 5) (h7 : e 1 ≠ 7) (h8 : e 1 ≠ 8) (h11 : e 1 ≠ 11) (hv : vP (stP e (S.1 P))) (ha : acyN (stP e (S.1 P))) (hem : emP (stP e (S.1 P))) : gdS (lrn e S) := by
  have hix : ix (e 2) = P := by rw [e2]; exact ix_nI (by omega)
  refine ⟨fun Q hQ => ?_, fun Q hQ M hM => ?_⟩
  · have h9 := h.1 Q hQ
    have eg : (lrn e S).2.2.2 Q = S.2.2.2 Q := by simp [lrn, h11]
    rw [eg, lrn_pl, hix]
    by_cases e9 : Q = P
    · subst e9
      rw [if_pos rfl]
      exact ⟨hv, ha, h9.2.2.1, hem⟩
    · rw [if_neg e9]
      exact h9
  · have eg : ∀ k, (lrn e S).2.1 Q M k = S.2.1 Q M k := fun k => by simp [lrn, h5, h7, h8]
    rw [eg, eg]
    exact h.2 Q hQ M hM
theorem okS_psh {g : Sg} {e : Nat → Int32} (h : okS g) (h4 : gn g < 400) (e0 : e 0 = nI (gt g)) (hv : vE e (RSn g)) (hm : vM e (RSn g)) (hg : gdS (lrn e (RSn g))) : okS (psh g e) := by
  obtain ⟨⟨a1, a2, a3⟩, b, c, d, f, i⟩ := h
  have hL : ∀ m, m ≤ gn g → rpl (gL (psh g e)) m = rpl (gL g) m := fun m hm => rpl_cong (fun x hx j _ => by
    show (if x = gn g then e else gL g x) j = _
    rw [if_neg (by omega)])
  have hLi : ∀ x, x < gn g → gL (psh g e) x = gL g x := fun x hx => by
    show (if x = gn g then e else gL g x) = _
    rw [if_neg (by omega)]
  have hLn : gL (psh g e) (gn g) = e := by
    show (if gn g = gn g then e else gL g (gn g)) = _
    rw [if_pos rfl]
  have hn : gn (psh g e) = gn g + 1 := rfl
  refine ⟨⟨by rw [hn]; omega, a2, a3⟩, b, c, fun x hx => ?_, fun x y hxy hy => ?_, fun m hm1 => ?_⟩
  · rw [hn] at hx
    by_cases ex : x = gn g
    · subst ex
      rw [hL _ (Nat.le_refl _), hLn]
      exact ⟨⟨gt g, Nat.le_refl _, e0⟩, hv, hm⟩
    · rw [hL _ (by omega), hLi x (by omega)]
      exact d x (by omega)
  · rw [hn] at hy
    rw [hLi x (by omega)]
    by_cases ey : y = gn g
    · subst ey
      rw [hLn, e0, ix_nI (by omega)]
      obtain ⟨⟨z, hz, ez⟩, -⟩ := d x hxy
      rw [ez, ix_nI (by omega)]
      exact hz
    · rw [hLi y (by omega)]
      exact f x y hxy (by omega)
  · rw [hn] at hm1
    by_cases em : m = gn g + 1
    · subst em
      rw [rpl_succ, hL _ (Nat.le_refl _), hLn]
      exact hg
    · rw [hL _ (by omega)]
      exact i m (by omega)
theorem en9_0 (t c a b c4 d e f nd : Int32) : en9 t c a b c4 d e f nd 0 = t := rfl
theorem en9_1 (t c a b c4 d e f nd : Int32) : en9 t c a b c4 d e f nd 1 = c := rfl
theorem en9_2 (t c a b c4 d e f nd : Int32) : en9 t c a b c4 d e f nd 2 = a := rfl
theorem en9_3 (t c a b c4 d e f nd : Int32) : en9 t c a b c4 d e f nd 3 = b := rfl
theorem en9_4 (t c a b c4 d e f nd : Int32) : en9 t c a b c4 d e f nd 4 = c4 := rfl
theorem en9_5 (t c a b c4 d e f nd : Int32) : en9 t c a b c4 d e f nd 5 = d := rfl
theorem en9_6 (t c a b c4 d e f nd : Int32) : en9 t c a b c4 d e f nd 6 = e := rfl
theorem en9_7 (t c a b c4 d e f nd : Int32) : en9 t c a b c4 d e f nd 7 = f := rfl
theorem en9_8 (t c a b c4 d e f nd : Int32) : en9 t c a b c4 d e f nd 8 = nd := rfl
/-- a place entry of a call that fills an empty place: what is to be shown of the place's row -/
theorem ok_pl {g : Sg} {p l : Int32} {e : Nat → Int32} (ho : okS g) (h4 : gn g < 400) (hp : isP g p) (hl : isL l) (e0 : e 0 = nI (gt g)) (e2 : e 2 = p) (e3 : e 3 = l) (hc : e 1 = 0 ∨ e 1 = 1 ∨ e 1 = 2 ∨ e 1 = 3 ∨ e 1 = 9 ∨ e 1 = 10 ∨ e 1 = 12) (hm : vM e (RSn g))
    (hv : ∀ P j, P < 6 → j < 12 → p = nI P → l = nI j → vP ((RSn g).1 P) → acyN ((RSn g).1 P) → emP ((RSn g).1 P) → vP (stP e ((RSn g).1 P)) ∧ acyN (stP e ((RSn g).1 P)) ∧ emP (stP e ((RSn g).1 P))) : okS (psh g e) := by
  obtain ⟨P, -, hP, rfl⟩ := isP_ex ho hp
  obtain ⟨j, hj, rfl⟩ := isL_ex hl
  have hg := ho.n.1 P hP
  obtain ⟨v1, v2, v3⟩ := hv P j hP hj rfl rfl hg.1 hg.2.1 hg.2.2.2
  refine okS_psh ho h4 e0 ⟨P, hP, e2, Or.inl ⟨hc, j, hj, e3⟩⟩ hm (gdS_pl ho.n hP e2 ?_ ?_ ?_ ?_ v1 v2 v3)
  all_goals (rcases hc with h | h | h | h | h | h | h <;> rw [h] <;> decide)
theorem vM_no {e : Nat → Int32} {S : RS} (h2 : e 1 ≠ 2) (h3 : e 1 ≠ 3) (h8 : e 1 ≠ 8) : vM e S := ⟨fun h => absurd h h2, fun h => absurd h h3, fun h => absurd h h8⟩
theorem ok_letter {g : Sg} {p l : Int32} (ho : okS g) (h4 : gn g < 400) (hr : roomS g p l = 0) : okS (psh g (en9 (nI (gt g)) 0 p l 0 0 0 0 0)) := by
  obtain ⟨hp, hl, -⟩ := roomS_0 hr
  refine ok_pl ho h4 hp hl rfl rfl rfl (Or.inl rfl) (vM_no (by rw [en9_1]; decide) (by rw [en9_1]; decide) (by rw [en9_1]; decide)) (fun P j hP hj ep el hv ha he => ?_)
  rw [stP_0 rfl]
  simp only [en9_3]
  rw [el, ix_nI (by omega)]
  have hR := vP_iff.mp hv j hj
  refine ⟨vP_upd hv (b := j) (fun i hi => upP_ne _ _ _ hi) ?_, acyN_upd ha (b := j) (fun i hi => upP_ne _ _ _ hi) (fun h => ?_), fun i hi h0 => ?_⟩
  · rw [upP_at]
    obtain ⟨r0, r1, r2, ⟨n, hn, en, -⟩, r4, r5, r6, r7, r8, r9⟩ := hR
    exact ⟨⟨1, by omega, rfl⟩, r1, r2, ⟨n, hn, en, fun z => absurd z.1 (by simp [upd])⟩, r4, r5, r6, r7, r8, fun z => absurd z (by simp [upd])⟩
  · unfold runsB at h
    rw [upP_at, decide_eq_true_eq] at h
    exact absurd h.1 (by simp [upd])
  · by_cases e9 : i = j
    · subst e9
      rw [upP_at] at h0
      exact absurd h0 (by simp [upd])
    · rw [upP_ne _ _ _ e9] at h0 ⊢
      exact he i hi h0
theorem fill3 {PP PP' : Nat → Nat → Int32} {j : Nat} (hv : vP PP) (ha : acyN PP) (he : emP PP) (hn : ∀ i, i ≠ j → PP' i = PP i) (hR : vR (PP' j)) (hb : runsB PP' j = true → ∀ i, i < 12 → bt (PP' j 4) i = false) (hz : PP' j 0 = 0 → PP' j 4 = 0) : vP PP' ∧ acyN PP' ∧ emP PP' := by
  refine ⟨vP_upd hv hn hR, acyN_upd ha hn hb, fun i hi h0 => ?_⟩
  by_cases e : i = j
  · subst e; exact hz h0
  · rw [hn i e] at h0 ⊢; exact he i hi h0
theorem ok_term {g : Sg} {p l f n : Int32} {c : Int32} {d nd : Int32} (ho : okS g) (h4 : gn g < 400) (hr : roomS g p l = 0) (hf : isD f) (hn : 1 ≤ n ∧ n ≤ 3600) (hc : (c = 1 ∧ d = n) ∨ (c = 12 ∧ nd = n)) : okS (psh g (en9 (nI (gt g)) c p l f d 0 0 nd)) := by
  obtain ⟨hp, hl, hk⟩ := roomS_0 hr
  obtain ⟨x, hx, rfl⟩ := isD_ex hf
  obtain ⟨y, hy1, hy2, rfl⟩ := isN_ex hn
  refine ok_pl ho h4 hp hl rfl rfl rfl ?_ ?_ (fun P j hP hj ep el hv ha he => ?_)
  · rcases hc with h | h <;> rw [en9_1, h.1] <;> decide
  · rcases hc with h | h <;> rw [h.1] <;> exact vM_no (by rw [en9_1]; decide) (by rw [en9_1]; decide) (by rw [en9_1]; decide)
  have hR := vP_iff.mp hv j hj
  have h40 : (RSn g).1 P j 4 = 0 := he j hj (by unfold pl at hk; rw [ep, el, ix_nI (by omega), ix_nI (by omega)] at hk; exact hk)
  have hst : stP (en9 (nI (gt g)) c p l (nI x) d 0 0 nd) ((RSn g).1 P) = upP (upP (upP ((RSn g).1 P) j 0 2) j 1 (nI x)) j 3 (nI y) := by
    have hj9 : ix l = j := by rw [el]; exact ix_nI (by omega)
    rcases hc with h | h
    · rw [stP_1 (by rw [en9_1]; exact h.1)]
      simp only [en9_3, en9_4, en9_5]
      rw [hj9, h.2]
    · rw [stP_12 (by rw [en9_1]; exact h.1)]
      simp only [en9_3, en9_4, en9_8]
      rw [hj9, h.2]
  rw [hst]
  have e4 : upP (upP (upP ((RSn g).1 P) j 0 2) j 1 (nI x)) j 3 (nI y) j 4 = 0 := by
    rw [upP_at, upP_at, upP_at]; simp [upd, h40]
  refine fill3 hv ha he (j := j) (fun i hi => by rw [upP_ne _ _ _ hi, upP_ne _ _ _ hi, upP_ne _ _ _ hi]) ?_ (fun _ i _ => by rw [e4, b_0]) (fun _ => e4)
  rw [upP_at, upP_at, upP_at]
  obtain ⟨r0, r1, r2, r3, r4, r5, r6, r7, r8, r9⟩ := hR
  refine ⟨⟨2, by omega, by simp [upd]; rfl⟩, ⟨x, hx, by simp [upd]⟩, by simpa [upd] using r2, ⟨y, hy2, by simp [upd], fun _ => hy1⟩, ⟨0, by omega, by simp [upd, h40]; rfl⟩, by simpa [upd] using r5, by simpa [upd] using r6, by simpa [upd] using r7, by simpa [upd] using r8, fun _ => by simp [upd, h40]⟩
theorem isS_ex {s : Int32} (h : isS s) : ∃ z, z < 4096 ∧ s = nI z := rng_ex (n := 4096) (by decide) h
theorem ok_stay {g : Sg} {p l k f t s : Int32} (ho : okS g) (h4 : gn g < 400) (hr : roomS g p l = 0) (hk : k = 6 ∨ k = 7) (hs : isS s) (hf : isD f) (ht : isD t) : okS (psh g (en9 (nI (gt g)) 3 p l k f t s 0)) := by
  obtain ⟨hp, hl, -⟩ := roomS_0 hr
  obtain ⟨x, hx, rfl⟩ := isD_ex hf
  obtain ⟨y, hy, rfl⟩ := isD_ex ht
  obtain ⟨z, hz, rfl⟩ := isS_ex hs
  refine ok_pl ho h4 hp hl rfl rfl rfl (by rw [en9_1]; decide) ⟨fun h => by rw [en9_1] at h; exact absurd h (by decide), fun _ => hk, fun h => by rw [en9_1] at h; exact absurd h (by decide)⟩ (fun P j hP hj ep el hv ha he => ?_)
  have hR := vP_iff.mp hv j hj
  have hj9 : ix l = j := by rw [el]; exact ix_nI (by omega)
  rw [stP_3 rfl]
  simp only [en9_3, en9_4, en9_5, en9_6, en9_7]
  rw [hj9]
  have e0 : upP (upP (upP (upP ((RSn g).1 P) j 0 k) j 1 (nI x)) j 2 (nI y)) j 4 (nI z) j 0 = k := by
    rw [upP_at, upP_at, upP_at, upP_at]; simp [upd]
  refine fill3 hv ha he (j := j) (fun i hi => by rw [upP_ne _ _ _ hi, upP_ne _ _ _ hi, upP_ne _ _ _ hi, upP_ne _ _ _ hi]) ?_ (fun h => ?_) (fun h => ?_)
  · rw [upP_at, upP_at, upP_at, upP_at]
    obtain ⟨r0, r1, r2, ⟨n, hn, en, -⟩, r4, r5, r6, r7, r8, r9⟩ := hR
    refine ⟨?_, ⟨x, hx, by simp [upd]⟩, ⟨y, hy, by simp [upd]⟩, ⟨n, hn, by simp [upd, en], fun h => ?_⟩, ⟨z, hz, by simp [upd]⟩, by simpa [upd] using r5, by simpa [upd] using r6, by simpa [upd] using r7, by simpa [upd] using r8, fun h => ?_⟩
    · rcases hk with rfl | rfl
      · exact ⟨6, by omega, by simp [upd]; rfl⟩
      · exact ⟨7, by omega, by simp [upd]; rfl⟩
    · have h2 : k ≤ 5 := by simpa [upd] using h.2
      rcases hk with rfl | rfl <;> exact absurd h2 (by decide)
    · have h2 : k = 2 := by simpa [upd] using h
      rcases hk with rfl | rfl <;> exact absurd h2 (by decide)
  · unfold runsB at h
    rw [decide_eq_true_eq, e0] at h
    rcases hk with rfl | rfl <;> exact absurd h.2 (by decide)
  · rw [e0] at h
    rcases hk with rfl | rfl <;> exact absurd h (by decide)
theorem ok_quash {g : Sg} {p l o : Int32} (ho : okS g) (h4 : gn g < 400) (hr : roomS g p l = 0) (hoL : isL o) (hk : 2 ≤ pl (RSn g) p o 0) : okS (psh g (en9 (nI (gt g)) 4 p l o 0 0 0 0)) := by
  obtain ⟨hp, hl, -⟩ := roomS_0 hr
  obtain ⟨P, -, hP, rfl⟩ := isP_ex ho hp
  obtain ⟨j, hj, rfl⟩ := isL_ex hl
  obtain ⟨y, hy, rfl⟩ := isL_ex hoL
  have hg := ho.n.1 P hP
  obtain ⟨hv, ha, -, he⟩ := hg
  refine okS_psh ho h4 rfl ⟨P, hP, rfl, Or.inr (Or.inl ⟨rfl, j, hj, rfl, y, hy, rfl⟩)⟩ (vM_no (by rw [en9_1]; decide) (by rw [en9_1]; decide) (by rw [en9_1]; decide)) ?_
  have hst : stP (en9 (nI (gt g)) 4 (nI P) (nI j) (nI y) 0 0 0 0) ((RSn g).1 P) = upP (upP ((RSn g).1 P) j 0 8) y 5 (nI j) := by
    rw [stP_4 rfl]
    simp only [en9_3, en9_4]
    rw [ix_nI (by omega), ix_nI (by omega)]
  have hR := vP_iff.mp hv j hj
  obtain ⟨k1, k2, k3⟩ : vP (upP ((RSn g).1 P) j 0 8) ∧ acyN (upP ((RSn g).1 P) j 0 8) ∧ emP (upP ((RSn g).1 P) j 0 8) := by
    have e0 : upP ((RSn g).1 P) j 0 8 j 0 = 8 := by rw [upP_at]; simp [upd]
    refine fill3 hv ha he (j := j) (fun i hi => upP_ne _ _ _ hi) ?_ (fun h => ?_) (fun h => ?_)
    · rw [upP_at]
      obtain ⟨r0, r1, r2, ⟨n, hn, en, -⟩, r4, r5, r6, r7, r8, r9⟩ := hR
      refine ⟨⟨8, by omega, by simp [upd]; rfl⟩, by simpa [upd] using r1, by simpa [upd] using r2, ⟨n, hn, by simp [upd, en], fun h => ?_⟩, by simpa [upd] using r4, by simpa [upd] using r5, by simpa [upd] using r6, by simpa [upd] using r7, by simpa [upd] using r8, fun h => ?_⟩
      · have h2 : (8 : Int32) ≤ 5 := by simpa [upd] using h.2
        exact absurd h2 (by decide)
      · have h2 : (8 : Int32) = 2 := by simpa [upd] using h
        exact absurd h2 (by decide)
    · unfold runsB at h
      rw [decide_eq_true_eq, e0] at h
      exact absurd h.2 (by decide)
    · rw [e0] at h
      exact absurd h (by decide)
  refine gdS_pl ho.n hP rfl (by rw [en9_1]; decide) (by rw [en9_1]; decide) (by rw [en9_1]; decide) (by rw [en9_1]; decide) ?_ ?_ ?_
  · rw [hst]
    refine vP_upd k1 (b := y) (fun i hi => upP_ne _ _ _ hi) ?_
    rw [upP_at]
    obtain ⟨r0, r1, r2, r3, r4, r5, r6, r7, r8, r9⟩ := vP_iff.mp k1 y hy
    exact ⟨by simpa [upd] using r0, by simpa [upd] using r1, by simpa [upd] using r2, by simpa [upd] using r3, by simpa [upd] using r4, Or.inr ⟨j, hj, by simp [upd]⟩, by simpa [upd] using r6, by simpa [upd] using r7, by simpa [upd] using r8, by simpa [upd] using r9⟩
  · rw [hst]
    exact acyN_04 k2 (fun i => by simp [upP]) (fun i => by simp [upP])
  · rw [hst]
    intro i hi h0
    have e0 : upP (upP ((RSn g).1 P) j 0 8) y 5 (nI j) i 0 = upP ((RSn g).1 P) j 0 8 i 0 := by simp [upP]
    have e4 : upP (upP ((RSn g).1 P) j 0 8) y 5 (nI j) i 4 = upP ((RSn g).1 P) j 0 8 i 4 := by simp [upP]
    rw [e4]
    exact k3 i hi (by rw [← e0]; exact h0)
theorem ok_off {g : Sg} {p l k f : Int32} (ho : okS g) (h4 : gn g < 400) (hp : isP g p) (hl : isL l) (hk : 2 ≤ k ∧ k ≤ 100) (hf : 0 ≤ f ∧ f ≤ 1000) : okS (psh g (en9 (nI (gt g)) 9 p l k f 0 0 0)) := by
  obtain ⟨x, hx, rfl⟩ := le_ex (n := 100) (by decide) ⟨Int32.le_trans (by decide) hk.1, hk.2⟩
  obtain ⟨y, hy, rfl⟩ := le_ex (n := 1000) (by decide) hf
  refine ok_pl ho h4 hp hl rfl rfl rfl (by rw [en9_1]; decide) (vM_no (by rw [en9_1]; decide) (by rw [en9_1]; decide) (by rw [en9_1]; decide)) (fun P j hP hj ep el hv ha he => ?_)
  have hR := vP_iff.mp hv j hj
  have hj9 : ix l = j := by rw [el]; exact ix_nI (by omega)
  rw [stP_9 rfl]
  simp only [en9_3, en9_4, en9_5]
  rw [hj9]
  refine ⟨vP_upd hv (b := j) (fun i hi => by rw [upP_ne _ _ _ hi, upP_ne _ _ _ hi]) ?_, acyN_04 ha (fun i => by simp [upP]) (fun i => by simp [upP]), fun i hi h0 => ?_⟩
  · rw [upP_at, upP_at]
    obtain ⟨r0, r1, r2, r3, r4, r5, r6, r7, r8, r9⟩ := hR
    exact ⟨by simpa [upd] using r0, by simpa [upd] using r1, by simpa [upd] using r2, by simpa [upd] using r3, by simpa [upd] using r4, by simpa [upd] using r5, ⟨x, hx, by simp [upd]⟩, ⟨y, hy, by simp [upd]⟩, by simpa [upd] using r8, by simpa [upd] using r9⟩
  · have h1 : (RSn g).1 P i 0 = 0 := by simpa [upP] using h0
    have h2 := he i hi h1
    simpa [upP] using h2
theorem ok_back {g : Sg} {p l d : Int32} (ho : okS g) (h4 : gn g < 400) (hp : isP g p) (hl : isL l) (h0 : 0 ≤ (pl (RSn g) p l 8).toInt + d.toInt) (h1 : (pl (RSn g) p l 8).toInt + d.toInt ≤ 3600) : okS (psh g (en9 (nI (gt g)) 10 p l d 0 0 0 0)) := by
  refine ok_pl ho h4 hp hl rfl rfl rfl (by rw [en9_1]; decide) (vM_no (by rw [en9_1]; decide) (by rw [en9_1]; decide) (by rw [en9_1]; decide)) (fun P j hP hj ep el hv ha he => ?_)
  have hR := vP_iff.mp hv j hj
  have hj9 : ix l = j := by rw [el]; exact ix_nI (by omega)
  have hp9 : ix p = P := by rw [ep]; exact ix_nI (by omega)
  rw [stP_10 rfl]
  simp only [en9_3, en9_4]
  unfold pl at h0 h1
  rw [hj9, hp9] at h0 h1
  rw [hj9]
  refine ⟨vP_upd hv (b := j) (fun i hi => by rw [upP_ne _ _ _ hi]) ?_, acyN_04 ha (fun i => by simp [upP]) (fun i => by simp [upP]), fun i hi h0 => ?_⟩
  · rw [upP_at]
    obtain ⟨r0, r1, r2, r3, r4, r5, r6, r7, r8, r9⟩ := hR
    have e8 : ((RSn g).1 P j 8 + d).toInt = ((RSn g).1 P j 8).toInt + d.toInt := i_add (by omega) (by omega)
    refine ⟨by simpa [upd] using r0, by simpa [upd] using r1, by simpa [upd] using r2, by simpa [upd] using r3, by simpa [upd] using r4, by simpa [upd] using r5, by simpa [upd] using r6, by simpa [upd] using r7, ⟨((RSn g).1 P j 8 + d).toInt.toNat, by omega, ?_⟩, by simpa [upd] using r9⟩
    simp only [upd, if_true]
    exact i_n (by omega)
  · have h1 : (RSn g).1 P i 0 = 0 := by simpa [upP] using h0
    have h2 := he i hi h1
    simpa [upP] using h2
/-- month entries leave the places -/
theorem gdS_mo {S : RS} {e : Nat → Int32} (h : gdS S) (hc : e 1 = 5 ∨ e 1 = 6 ∨ e 1 = 7 ∨ e 1 = 8) (hm : moOK (lrn e S)) : gdS (lrn e S) := by
  refine ⟨fun Q hQ => ?_, hm⟩
  have h9 := h.1 Q hQ
  have eg : (lrn e S).2.2.2 Q = S.2.2.2 Q := by
    have : e 1 ≠ 11 := by rcases hc with h | h | h | h <;> rw [h] <;> decide
    simp [lrn, this]
  have ep : (lrn e S).1 Q = S.1 Q := by
    rw [lrn_pl]
    split
    · rcases hc with h | h | h | h
      · exact stP_5 h
      · exact stP_6 h
      · exact stP_7 h
      · exact stP_8 h
    · rfl
  rw [eg, ep]
  exact h9
theorem ok_month {g : Sg} {p m b n : Int32} (ho : okS g) (h4 : gn g < 400) (hp : isP g p) (hm : isM m) (hn : 0 ≤ n ∧ n ≤ 30) : okS (psh g (en9 (nI (gt g)) 5 p m (if b = 0 then 0 else 1) n 0 0 0)) := by
  obtain ⟨P, -, hP, rfl⟩ := isP_ex ho hp
  obtain ⟨M, hM, rfl⟩ := isM_ex hm
  obtain ⟨x, hx, rfl⟩ := le_ex (n := 30) (by decide) hn
  refine okS_psh ho h4 rfl ⟨P, hP, rfl, Or.inr (Or.inr (Or.inl ⟨rfl, M, hM, rfl, x, hx, rfl⟩))⟩ (vM_no (by rw [en9_1]; decide) (by rw [en9_1]; decide) (by rw [en9_1]; decide)) (gdS_mo ho.n (by rw [en9_1]; decide) (fun Q hQ K hK => ?_))
  have h9 := ho.n.2 Q hQ K hK
  by_cases hc : Q = P ∧ K = M
  · obtain ⟨rfl, rfl⟩ := hc
    have e0 : (lrn (en9 (nI (gt g)) 5 (nI Q) (nI K) (if b = 0 then 0 else 1) (nI x) 0 0 0) (RSn g)).2.1 Q K 0 = if (if b = 0 then (0 : Int32) else 1) = 0 then 1 else 2 := by simp [lrn, en9, ix_nI (show Q < 2 ^ 31 by omega), ix_nI (show K < 2 ^ 31 by omega)]
    have e1 : (lrn (en9 (nI (gt g)) 5 (nI Q) (nI K) (if b = 0 then 0 else 1) (nI x) 0 0 0) (RSn g)).2.1 Q K 1 = nI x := by simp [lrn, en9, ix_nI (show Q < 2 ^ 31 by omega), ix_nI (show K < 2 ^ 31 by omega)]
    rw [e0, e1]
    refine ⟨?_, x, hx, rfl⟩
    by_cases hb : b = 0 <;> simp [hb]
  · have e : ∀ k, (lrn (en9 (nI (gt g)) 5 (nI P) (nI M) (if b = 0 then 0 else 1) (nI x) 0 0 0) (RSn g)).2.1 Q K k = (RSn g).2.1 Q K k := fun k => by simp [lrn, en9, ix_nI (show P < 2 ^ 31 by omega), ix_nI (show M < 2 ^ 31 by omega), hc]
    rw [e, e]
    exact h9
theorem ok_held {g : Sg} {p m k v : Int32} (ho : okS g) (h4 : gn g < 400) (hp : isP g p) (hm : isM m) (hk : 0 ≤ k ∧ k < mo (RSn g) p m 1) : okS (psh g (en9 (nI (gt g)) 6 p m k v 0 0 0)) := by
  obtain ⟨P, -, hP, rfl⟩ := isP_ex ho hp
  obtain ⟨M, hM, rfl⟩ := isM_ex hm
  unfold mo at hk
  rw [ix_nI (by omega), ix_nI (by omega)] at hk
  obtain ⟨-, n, hn, en⟩ := ho.n.2 P hP M hM
  rw [en] at hk
  obtain ⟨x, hx, rfl⟩ := rng_ex (n := n) (by omega) hk
  refine okS_psh ho h4 rfl ⟨P, hP, rfl, Or.inr (Or.inr (Or.inr (Or.inl ⟨rfl, M, hM, rfl, x, by omega, rfl, by rw [en, nI_toInt (by omega)]; omega⟩)))⟩ (vM_no (by rw [en9_1]; decide) (by rw [en9_1]; decide) (by rw [en9_1]; decide)) (gdS_mo ho.n (by rw [en9_1]; decide) (fun Q hQ K hK => ?_))
  have e : ∀ k, (lrn (en9 (nI (gt g)) 6 (nI P) (nI M) (nI x) v 0 0 0) (RSn g)).2.1 Q K k = (RSn g).2.1 Q K k := fun k => by simp [lrn, en9]
  rw [e, e]
  exact ho.n.2 Q hQ K hK
theorem ok_tear {g : Sg} {p m : Int32} (ho : okS g) (h4 : gn g < 400) (hp : isP g p) (hm : isM m) : okS (psh g (en9 (nI (gt g)) 7 p m 0 0 0 0 0)) := by
  obtain ⟨P, -, hP, rfl⟩ := isP_ex ho hp
  obtain ⟨M, hM, rfl⟩ := isM_ex hm
  refine okS_psh ho h4 rfl ⟨P, hP, rfl, Or.inr (Or.inr (Or.inr (Or.inr (Or.inl ⟨rfl, M, hM, rfl⟩))))⟩ (vM_no (by rw [en9_1]; decide) (by rw [en9_1]; decide) (by rw [en9_1]; decide)) (gdS_mo ho.n (by rw [en9_1]; decide) (fun Q hQ K hK => ?_))
  have h9 := ho.n.2 Q hQ K hK
  have e1 : (lrn (en9 (nI (gt g)) 7 (nI P) (nI M) 0 0 0 0 0) (RSn g)).2.1 Q K 1 = (RSn g).2.1 Q K 1 := by simp [lrn, en9]
  rw [e1]
  refine ⟨?_, h9.2⟩
  by_cases hc : Q = P ∧ K = M
  · right; right; right
    simp [lrn, en9, ix_nI (show P < 2 ^ 31 by omega), ix_nI (show M < 2 ^ 31 by omega), hc]
  · have e0 : (lrn (en9 (nI (gt g)) 7 (nI P) (nI M) 0 0 0 0 0) (RSn g)).2.1 Q K 0 = (RSn g).2.1 Q K 0 := by simp [lrn, en9, ix_nI (show P < 2 ^ 31 by omega), ix_nI (show M < 2 ^ 31 by omega), hc]
    rw [e0]
    exact h9.1
theorem ok_copy {g : Sg} {p m o t : Int32} (ho : okS g) (h4 : gn g < 400) (hp : isP g p) (hm : isM m) (hop : isP g o) (ht : isM t) (hr : rowS (RSn g) p m) : okS (psh g (en9 (nI (gt g)) 8 p m o t 0 0 0)) := by
  obtain ⟨P, -, hP, rfl⟩ := isP_ex ho hp
  obtain ⟨M, hM, rfl⟩ := isM_ex hm
  obtain ⟨O, -, hO, rfl⟩ := isP_ex ho hop
  obtain ⟨T, hT, rfl⟩ := isM_ex ht
  refine okS_psh ho h4 rfl ⟨P, hP, rfl, Or.inr (Or.inr (Or.inr (Or.inr (Or.inr (Or.inl ⟨rfl, M, hM, rfl, O, hO, rfl, T, hT, rfl⟩)))))⟩ ⟨fun h => by rw [en9_1] at h; exact absurd h (by decide), fun h => by rw [en9_1] at h; exact absurd h (by decide), fun _ => hr⟩ (gdS_mo ho.n (by rw [en9_1]; decide) (fun Q hQ K hK => ?_))
  by_cases hc : Q = O ∧ K = T
  · have e : ∀ k, (lrn (en9 (nI (gt g)) 8 (nI P) (nI M) (nI O) (nI T) 0 0 0) (RSn g)).2.1 Q K k = (RSn g).2.1 P M k := fun k => by simp [lrn, en9, ix_nI (show P < 2 ^ 31 by omega), ix_nI (show M < 2 ^ 31 by omega), ix_nI (show O < 2 ^ 31 by omega), ix_nI (show T < 2 ^ 31 by omega), hc]
    rw [e, e]
    exact ho.n.2 P hP M hM
  · have e : ∀ k, (lrn (en9 (nI (gt g)) 8 (nI P) (nI M) (nI O) (nI T) 0 0 0) (RSn g)).2.1 Q K k = (RSn g).2.1 Q K k := fun k => by simp [lrn, en9, ix_nI (show P < 2 ^ 31 by omega), ix_nI (show M < 2 ^ 31 by omega), ix_nI (show O < 2 ^ 31 by omega), ix_nI (show T < 2 ^ 31 by omega), hc]
    rw [e, e]
    exact ho.n.2 Q hQ K hK
theorem ok_grant {g : Sg} {p d : Int32} (ho : okS g) (h4 : gn g < 400) (hp : isP g p) (hd : isD d) : okS (psh g (en9 (nI (gt g)) 11 p d 0 0 0 0 0)) := by
  obtain ⟨P, -, hP, rfl⟩ := isP_ex ho hp
  obtain ⟨x, hx, rfl⟩ := isD_ex hd
  refine okS_psh ho h4 rfl ⟨P, hP, rfl, Or.inr (Or.inr (Or.inr (Or.inr (Or.inr (Or.inr rfl)))))⟩ (vM_no (by rw [en9_1]; decide) (by rw [en9_1]; decide) (by rw [en9_1]; decide)) ⟨fun Q hQ => ?_, fun Q hQ M hM => ?_⟩
  · have h9 := ho.n.1 Q hQ
    have ep : (lrn (en9 (nI (gt g)) 11 (nI P) (nI x) 0 0 0 0 0) (RSn g)).1 Q = (RSn g).1 Q := by
      rw [lrn_pl]
      split
      · exact stP_11 rfl
      · rfl
    rw [ep]
    refine ⟨h9.1, h9.2.1, ?_, h9.2.2.2⟩
    by_cases e : Q = P
    · subst e
      right
      exact ⟨x, hx, by simp [lrn, en9, ix_nI (show Q < 2 ^ 31 by omega)]⟩
    · have : (lrn (en9 (nI (gt g)) 11 (nI P) (nI x) 0 0 0 0 0) (RSn g)).2.2.2 Q = (RSn g).2.2.2 Q := by simp [lrn, en9, ix_nI (show P < 2 ^ 31 by omega), e]
      rw [this]
      exact h9.2.2.1
  · have e : ∀ k, (lrn (en9 (nI (gt g)) 11 (nI P) (nI x) 0 0 0 0 0) (RSn g)).2.1 Q M k = (RSn g).2.1 Q M k := fun k => by simp [lrn, en9]
    rw [e, e]
    exact ho.n.2 Q hQ M hM
