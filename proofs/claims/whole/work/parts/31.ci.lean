/-! the class's state holds a registry in plain words -/
theorem lrn_cong {e e' : Nat → Int32} {S : RS} (h : ∀ j, j < 9 → e j = e' j) : lrn e S = lrn e' S := by
  unfold lrn stP
  rw [h 1 (by decide), h 2 (by decide), h 3 (by decide), h 4 (by decide), h 5 (by decide), h 6 (by decide), h 7 (by decide), h 8 (by decide)]
theorem rpl_cong {L L' : Nat → Nat → Int32} : ∀ {m : Nat}, (∀ i, i < m → ∀ j, j < 9 → L i j = L' i j) → rpl L m = rpl L' m
  | 0, _ => rfl
  | m + 1, h => by
    rw [rpl_succ, rpl_succ, rpl_cong (fun i hi => h i (by omega)), lrn_cong (h m (by omega))]
theorem vE_cong {e e' : Nat → Int32} {S : RS} (h : ∀ j, j < 9 → e j = e' j) (hv : vE e S) : vE e' S := by
  unfold vE at *
  rw [h 1 (by decide), h 2 (by decide), h 3 (by decide), h 4 (by decide), h 5 (by decide)] at hv
  exact hv
def moOK (S : RS) : Prop := ∀ P, P < 6 → ∀ M, M < 120 → (S.2.1 P M 0 = 0 ∨ S.2.1 P M 0 = 1 ∨ S.2.1 P M 0 = 2 ∨ S.2.1 P M 0 = 3) ∧ ∃ n, n ≤ 30 ∧ S.2.1 P M 1 = nI n
def emP (PP : Nat → Nat → Int32) : Prop := ∀ i, i < 12 → PP i 0 = 0 → PP i 4 = 0
def gdS (S : RS) : Prop := (∀ P, P < 6 → vP (S.1 P) ∧ acyN (S.1 P) ∧ (S.2.2.2 P = -1 ∨ ∃ d, d < 3600 ∧ S.2.2.2 P = nI d) ∧ emP (S.1 P)) ∧ moOK S
/-- what the replay of an entry rests on besides -/
def vM (e : Nat → Int32) (S : RS) : Prop := (e 1 = 2 → 3 ≤ e 4 ∧ e 4 ≤ 5) ∧ (e 1 = 3 → e 4 = 6 ∨ e 4 = 7) ∧ (e 1 = 8 → S.2.1 (ix (e 2)) (ix (e 3)) 0 = 1 ∨ S.2.1 (ix (e 2)) (ix (e 3)) 0 = 2)
def okS (g : Sg) : Prop := (gn g ≤ 400 ∧ gp g ≤ 6 ∧ gt g < 3600) ∧ (ga g = -1 ∨ ∃ d, d ≤ gt g ∧ ga g = nI d) ∧ (gr g ≤ 12 ∧ ∀ j, j < gr g → gq g j < 12) ∧
  (∀ i, i < gn g → (∃ d, d ≤ gt g ∧ gL g i 0 = nI d) ∧ vE (gL g i) (rpl (gL g) i) ∧ vM (gL g i) (rpl (gL g) i)) ∧ (∀ i j, i < j → j < gn g → ix (gL g i 0) ≤ ix (gL g j 0)) ∧ ∀ m, m ≤ gn g → gdS (rpl (gL g) m)
theorem kn_le (L : Nat → Nat → Int32) (D : Nat) : ∀ n, kn L D n ≤ n
  | 0 => Nat.le_refl _
  | n + 1 => by
    unfold kn
    have := kn_le L D n
    split <;> omega
theorem okS.k {g : Sg} (h : okS g) : gdS (RSk g) := h.2.2.2.2.2 _ (kn_le _ _ _)
theorem okS.n {g : Sg} (h : okS g) : gdS (RSn g) := h.2.2.2.2.2 _ (Nat.le_refl _)
theorem okS.da {g : Sg} (h : okS g) : daN g ≤ gt g ∧ (if ga g = -1 then nI (gt g) else ga g) = nI (daN g) := by
  unfold daN
  rcases h.2.1 with e | ⟨d, hd, e⟩
  · rw [e]; exact ⟨Nat.le_refl _, rfl⟩
  · have h3 := h.1.2.2
    have hne : ¬ nI d = -1 := fun z => by
      have := congrArg Int32.toInt z
      rw [nI_toInt (by omega)] at this
      have h9 : (-1 : Int32).toInt = -1 := rfl
      omega
    rw [e, if_neg hne, if_neg hne, ix_nI (by omega)]
    exact ⟨hd, rfl⟩
/-- the class's part -/
def CIg (g : Sg) (w : St) : Prop := (w.1 0 1 = nI (gn g) ∧ w.1 0 2 = nI (gp g) ∧ w.1 0 3 = nI (gt g) ∧ w.1 0 4 = ga g) ∧ w.2.1 = gn g ∧ gn g ≤ w.2.2.1 ∧ (∀ i, i < gn g → ∀ j, j < 9 → w.1 (248 + i) j = gL g i j) ∧
  (RegS w 2 (RSn g) ∧ w.1 2 1 = nI (gn g)) ∧ (∃ m, m ≤ gn g ∧ w.1 106 1 = nI m ∧ RegS w 106 (rpl (gL g) m)) ∧ w.1 217 1 = nI (gr g) ∧ ∀ j, j < gr g → w.1 218 j = nI (gq g j)
def CI (g : Sg) (w : St) : Prop := CIg g w ∧ (gn g < 400 → w.2.2.1 = gn g)
/-- the reference's cells are as they were -/
def FrM (w w' : St) : Prop := ∀ r, 221 ≤ r → r < 248 → w'.1 r = w.1 r
theorem FrM.rf {w : St} : FrM w w := fun _ _ _ => rfl
theorem FrM.tr {w w' w'' : St} (h : FrM w w') (h2 : FrM w' w'') : FrM w w'' := fun r a b => (h2 r a b).trans (h r a b)
theorem Fr.M {w w' : St} {T : Nat → Prop} (hf : Fr w w' T) (hT : ∀ z, T z → z < 221 ∨ 248 ≤ z) : FrM w w' := fun r a b => hf.2 r (fun h => by have := hT r h; omega)
theorem New.M {w w1 : St} (h : New w w1) : FrM w w1 := fun r a b => h.2.2.1 r (by omega)
theorem CIg.fr {g : Sg} {w w' : St} {T : Nat → Prop} (h : CIg g w) (hf : Fr w w' T) (hT : ∀ z, T z → 210 ≤ z ∧ z < 248 ∧ z ≠ 217 ∧ z ≠ 218) : CIg g w' := by
  obtain ⟨a, b, c, d, e, ⟨m, f1, f2, f3⟩, i, j⟩ := h
  have h0 := hf.2 0 (fun z => by have := hT _ z; omega)
  have h2 := hf.2 2 (fun z => by have := hT _ z; omega)
  have h106 := hf.2 106 (fun z => by have := hT _ z; omega)
  have h217 := hf.2 217 (fun z => by have := hT _ z; omega)
  have h218 := hf.2 218 (fun z => by have := hT _ z; omega)
  refine ⟨by rw [h0]; exact a, by rw [hf.1]; exact b, by rw [hf.1]; exact c, fun i hi j hj => ?_, ⟨e.1.fr hf (fun z h1 h2 h3 => by have := hT _ h3; omega), by rw [h2]; exact e.2⟩, ⟨m, f1, by rw [h106]; exact f2, f3.fr hf (fun z h1 h2 h3 => by have := hT _ h3; omega)⟩, by rw [h217]; exact i, by rw [h218]; exact j⟩
  rw [hf.2 _ (fun z => by have := hT _ z; omega)]
  exact d i hi j hj
theorem CI.fr {g : Sg} {w w' : St} {T : Nat → Prop} (h : CI g w) (hf : Fr w w' T) (hT : ∀ z, T z → 210 ≤ z ∧ z < 248 ∧ z ≠ 217 ∧ z ≠ 218) : CI g w' := ⟨h.1.fr hf hT, by rw [hf.1]; exact h.2⟩
theorem RegS.new {w w1 : St} {r : Nat} {S : RS} (h : RegS w r S) (hn : New w w1) (hr : r < 140) : RegS w1 r S := fun P hP => (h P hP).kept (fun z h1 h2 => hn.2.2.1 z (by omega)) rfl rfl rfl rfl
theorem CIg.new {g : Sg} {w w1 : St} (h : CIg g w) (hn : New w w1) : CIg g w1 := by
  obtain ⟨a, b, c, d, e, ⟨m, f1, f2, f3⟩, i, j⟩ := h
  refine ⟨by rw [hn.2.2.1 0 (by omega)]; exact a, by rw [hn.1]; exact b, by rw [hn.2.1]; omega, fun i hi j hj => ?_, ⟨e.1.new hn (by decide), by rw [hn.2.2.1 2 (by omega)]; exact e.2⟩, ⟨m, f1, by rw [hn.2.2.1 106 (by omega)]; exact f2, f3.new hn (by decide)⟩, by rw [hn.2.2.1 217 (by omega)]; exact i, by rw [hn.2.2.1 218 (by omega)]; exact j⟩
  rw [hn.2.2.1 _ (by omega)]
  exact d i hi j hj
/-- entries beyond the log may change -/
theorem CIg.ent {g : Sg} {w w' : St} {i : Nat} (h : CIg g w) (hf : Fr w w' (fun z => z = 248 + i)) (hi : gn g ≤ i) : CIg g w' := by
  obtain ⟨a, b, c, d, e, ⟨m, f1, f2, f3⟩, k, j⟩ := h
  refine ⟨by rw [hf.2 0 (by omega)]; exact a, by rw [hf.1]; exact b, by rw [hf.1]; exact c, fun x hx j hj => ?_, ⟨e.1.fr hf (fun z h1 h2 h3 => by omega), by rw [hf.2 2 (by omega)]; exact e.2⟩, ⟨m, f1, by rw [hf.2 106 (by omega)]; exact f2, f3.fr hf (fun z h1 h2 h3 => by omega)⟩, by rw [hf.2 217 (by omega)]; exact k, by rw [hf.2 218 (by omega)]; exact j⟩
  rw [hf.2 _ (by omega)]
  exact d x hx j hj
theorem CIg.rp {g : Sg} {w : St} (h : CIg g w) {m : Nat} (hm : m ≤ gn g) : rpl (lg w) m = rpl (gL g) m := rpl_cong (fun i hi j hj => h.2.2.2.1 i (by omega) j hj)
theorem CIg.ve {g : Sg} {w : St} (h : CIg g w) (ho : okS g) {i : Nat} (hi : i < gn g) : vE (lg w i) (rpl (lg w) i) := by
  rw [h.rp (Nat.le_of_lt hi)]
  exact vE_cong (fun j hj => (h.2.2.2.1 i hi j hj).symm) (ho.2.2.2.1 i hi).2.1
/-- a file's cells, read in plain words -/
theorem FileS.ag {w : St} {q P : Nat} {S : RS} (h : FileS w q S P) : agP (plF w q) (S.1 P) := h.1
theorem FileS.hd {w : St} {q P : Nat} {S : RS} (h : FileS w q S P) : hdOK w q := fun M hM => ⟨_, (h.2.1 M hM).2.2⟩
theorem FileS.held {w : St} {q P : Nat} {S : RS} (h : FileS w q S P) (hm : moOK S) (hP : P < 6) (mst : Int32) {d : Nat} (hd : d < 3600) : heldF w q mst d = hdN S P mst d := by
  obtain ⟨a, b, c⟩ := h.2.1 (d / 30) (by omega)
  obtain ⟨h0, n, hn, e⟩ := hm P hP (d / 30) (by omega)
  unfold heldF hdW opP rowP hdN
  rw [a, b]
  by_cases hop : S.2.1 P (d / 30) 0 = 3 ∨ ((S.2.1 P (d / 30) 0 = 1 ∨ S.2.1 P (d / 30) 0 = 2) ∧ S.2.1 P (d / 30) 1 < 30)
  · rw [if_pos hop, if_pos hop]
    by_cases hz : mst = 0
    · rw [if_pos hz, bt_whole _ (by omega)]; simp [hz]; omega
    · rw [if_neg hz, b_0]; simp [hz]
  · rw [if_neg hop, if_neg hop]
    by_cases hr : S.2.1 P (d / 30) 0 = 1 ∨ S.2.1 P (d / 30) 0 = 2
    · rw [if_pos hr, if_pos hr, c.at (by omega)]
      have h30 : n = 30 := by
        rcases Nat.lt_or_ge n 30 with q9 | q9
        · exact absurd (Or.inr ⟨hr, by rw [e]; exact nI_lt q9 (by decide)⟩) hop
        · omega
      rw [e, h30, nI_toInt (by decide)]
      rw [decide_eq_true (show ((d % 30 : Nat) : Int) < ((30 : Nat) : Int) by omega), Bool.and_true]
    · rw [if_neg hr, if_neg hr, bt_whole _ (by omega)]; simp; omega
theorem FileS.tdh {w : St} {q P : Nat} {S : RS} (h : FileS w q S P) (hm : moOK S) (hP : P < 6) {d : Nat} (hd : d < 3600) : (rowP w q (d / 30) ∧ ¬ opP w q (d / 30) ∧ bt (w.1 (q + 4) (d / 30)) (d % 30) = true) ↔ tdB S P d = true := by
  obtain ⟨a, b, c⟩ := h.2.1 (d / 30) (by omega)
  obtain ⟨h0, n, hn, e⟩ := hm P hP (d / 30) (by omega)
  unfold rowP opP rowP tdB
  rw [a, b, c.at (by omega), e]
  have h30 : ¬ nI n < 30 ↔ n = 30 := by
    have h9 : nI n < 30 ↔ n < 30 := nI_ltI (b := 30) (by omega) (by decide)
    rw [h9]
    omega
  have h31 : ¬ S.2.1 P (d / 30) 0 = 3 ∨ ¬ (S.2.1 P (d / 30) 0 = 1 ∨ S.2.1 P (d / 30) 0 = 2) := by
    by_cases h3 : S.2.1 P (d / 30) 0 = 3
    · rw [h3]; right; decide
    · exact Or.inl h3
  have hlt : (n = 30) → ((d % 30 : Nat) : Int) < (nI n).toInt := fun z => by
    rw [z, nI_toInt (by decide)]
    omega
  constructor
  · rintro ⟨h1, h2, h3⟩
    rw [Bool.and_eq_true] at h3 ⊢
    exact ⟨by rw [decide_eq_true_eq]; exact ⟨h1, fun z => h2 (Or.inr ⟨h1, z⟩)⟩, h3.1⟩
  · intro h1
    rw [Bool.and_eq_true, decide_eq_true_eq] at h1
    refine ⟨h1.1.1, fun z => ?_, ?_⟩
    · rcases z with z | z
      · rcases h31 with y | y
        · exact y z
        · exact y h1.1.1
      · exact h1.1.2 z.2
    · rw [Bool.and_eq_true, decide_eq_true_eq]
      exact ⟨h1.2, hlt (h30.mp h1.1.2)⟩
theorem rawB_hd {PP : Nat → Nat → Int32} {hd hd' : Nat → Bool} {k bg d : Nat} (h : hd d = hd' d) : rawB PP hd k bg d = rawB PP hd' k bg d := by
  unfold rawB
  rw [h]
theorem endC_hd {PP : Nat → Nat → Int32} {hd hd' : Nat → Bool} {k bg d : Nat} (h : ∀ x, x < 3600 → hd x = hd' x) (hd0 : d < 3600) : endC PP hd k bg d ↔ endC PP hd' k bg d := by
  unfold endC tlN
  rw [runT_cong (is' := rawB PP hd' k bg) (fun x hx => rawB_hd (h x (by omega)))]
theorem isEnd_cong {C C' : Nat → Prop} {e : Nat} (h : ∀ d, d < 3600 → (C d ↔ C' d)) (he : isEnd C e) : isEnd C' e := by
  rcases he with ⟨a, b, c⟩ | ⟨a, b⟩
  · exact Or.inl ⟨a, (h e a).mp b, fun d hd z => c d hd ((h d (by omega)).mpr z)⟩
  · exact Or.inr ⟨a, fun d hd z => b d hd ((h d hd).mpr z)⟩
theorem Sol_hd {PP : Nat → Nat → Int32} {hd hd' : Nat → Bool} {be en : Nat → Nat} (h : ∀ x, x < 3600 → hd x = hd' x) (hs : Sol PP hd be en) : Sol PP hd' be en := fun k hk hst => ⟨(hs k hk hst).1, isEnd_cong (fun d hd0 => endC_hd h hd0) (hs k hk hst).2⟩
theorem slv_Sol {PP : Nat → Nat → Int32} {hd : Nat → Bool} {be en : Nat → Nat} (h : Sol PP hd be en) : Sol PP hd (slv PP hd).1 (slv PP hd).2 := Classical.epsilon_spec (p := fun x : (Nat → Nat) × (Nat → Nat) => Sol PP hd x.1 x.2) ⟨(be, en), h⟩
/-- any solution of the file's equations is the one of the plain words -/
theorem sol_tie {S : RS} {P : Nat} {mst : Int32} {be en : Nat → Nat} (hg : gdS S) (hP : P < 6) (h : Sol (S.1 P) (hdN S P mst) be en) {k : Nat} (hk : k < 12) (hs : stB (S.1 P) k = true) : be k = beN S P mst k ∧ en k = eeN S P mst k ∧ ∀ d, ctB (S.1 P) (hdN S P mst) be en k d = ctN S P mst k d := by
  obtain ⟨h1, h2⟩ := h.uniq (hg.1 P hP).2.1 (slv_Sol h) k hk hs
  refine ⟨h1, h2, fun d => ?_⟩
  unfold ctN ctB beN eeN
  rw [h1, h2]
theorem ctB_hd {PP : Nat → Nat → Int32} {hd hd' : Nat → Bool} {be en : Nat → Nat} {k d : Nat} (h : hd d = hd' d) : ctB PP hd be en k d = ctB PP hd' be en k d := by
  unfold ctB
  rw [rawB_hd h]
/-- the reckoning's cells hold the solution of this file -/
def RkT (w : St) (q : Nat) (S : RS) (P : Nat) (mst : Int32) (be en : Nat → Nat) : Prop := kd q = 1 ∧ FileS w q S P ∧ RkS w (plF w q) (heldF w q mst) be en ∧ (∀ k, k < 12 → bdN (be k) ∧ bdN (en k)) ∧ Sol (S.1 P) (hdN S P mst) be en
theorem RkT.ct {w : St} {q P : Nat} {S : RS} {mst : Int32} {be en : Nat → Nat} (h : RkT w q S P mst be en) (hg : gdS S) (hP : P < 6) {k : Nat} (hk : k < 12) (hs : stB (S.1 P) k = true) {d : Nat} (hd : d < 3600) : ctB (plF w q) (heldF w q mst) be en k d = ctN S P mst k d := by
  rw [ctB_ag h.2.1.ag, ctB_hd (h.2.1.held hg.2 hP mst hd), (sol_tie hg hP h.2.2.2.2 hk hs).2.2]
theorem RkT.fu {w : St} {q P : Nat} {S : RS} {mst : Int32} {be en : Nat → Nat} (h : RkT w q S P mst be en) (hg : gdS S) (hP : P < 6) : maxF (stB (plF w q)) (fun i => en i + 1) 0 12 = fuN S P mst := by
  unfold fuN
  rw [maxF_p (q := stB (S.1 P)) (fun i hi => stB_ag h.2.1.ag hi)]
  exact maxF_cong (fun i hi hp => by rw [(sol_tie hg hP h.2.2.2.2 hi hp).2.1])
theorem fb_ct_cong2 {p q : Nat → Bool} : ∀ {n : Nat}, (∀ i, i < n → p i = q i) → fb_ct p n = fb_ct q n
  | 0, _ => rfl
  | n + 1, h => by
    rw [fb_ct_succ, fb_ct_succ, fb_ct_cong2 (fun i hi => h i (by omega)), h n (by omega)]
theorem RkT.cd {w : St} {q P : Nat} {S : RS} {mst : Int32} {be en : Nat → Nat} (h : RkT w q S P mst be en) (hg : gdS S) (hP : P < 6) {k : Nat} (hk : k < 12) (hs : stB (S.1 P) k = true) {d : Nat} (hd : d < 3600) : fb_ct (ctB (plF w q) (heldF w q mst) be en k) (d + 1) = fb_ct (ctN S P mst k) (d + 1) := fb_ct_cong2 (fun i hi => h.ct hg hP hk hs (by omega))
theorem wnN_ag {PP QQ : Nat → Nat → Int32} (h : agP PP QQ) {t i : Nat} (hi : i < 12) : wnN PP t i = wnN QQ t i := by
  unfold wnN
  rw [h i hi 0 (by omega), h i hi 3 (by omega)]
theorem RkT.wa {w : St} {q P : Nat} {S : RS} {mst : Int32} {be en dc : Nat → Nat} {t : Nat} (h : RkT w q S P mst be en) (hg : gdS S) (hP : P < 6) (hd : ∀ i, i < 12 → stB (plF w q) i = true → isEnd (fun d => wnN (plF w q) t i ≤ fb_ct (ctB (plF w q) (heldF w q mst) be en i) (d + 1)) (dc i)) : maxF (stB (plF w q)) (fun i => min (dc i) (en i)) 0 12 = waD S P mst t := by
  unfold waD
  rw [maxF_p (q := stB (S.1 P)) (fun i hi => stB_ag h.2.1.ag hi)]
  refine maxF_cong (fun i hi hp => ?_)
  have h1 := hd i hi (by rw [stB_ag h.2.1.ag hi]; exact hp)
  have h2 : isEnd (fun d => wnN (S.1 P) t i ≤ fb_ct (ctN S P mst i) (d + 1)) (dc i) := isEnd_cong (fun d hd0 => by
    show wnN (plF w q) t i ≤ fb_ct _ (d + 1) ↔ _
    rw [h.cd hg hP hi hp hd0, wnN_ag h.2.1.ag hi]) h1
  have h3 : isEnd (fun d => wnN (S.1 P) t i ≤ fb_ct (ctN S P mst i) (d + 1)) (dcN S P mst t i) := Classical.epsilon_spec ⟨_, h2⟩
  rw [(sol_tie hg hP h.2.2.2.2 hi hp).2.1, h2.uniq h3]
theorem RkT.tk {w : St} {q P : Nat} {S : RS} {mst : Int32} {be en : Nat → Nat} (h : RkT w q S P mst be en) (hg : gdS S) (hP : P < 6) {k : Nat} (hk : k < 12) (hs : stB (S.1 P) k = true) {d : Nat} (hd : d < 3600) : tkN (ix (plF w q k 6)) (mtN (plF w q) k) (tlN (plF w q) k (ctB (plF w q) (heldF w q mst) be en k) (d + 1)).2.1 (tlN (plF w q) k (ctB (plF w q) (heldF w q mst) be en k) (d + 1)).2.2 = tkS S P mst k d := by
  unfold tkS
  have e : tlN (plF w q) k (ctB (plF w q) (heldF w q mst) be en k) (d + 1) = tlN (S.1 P) k (ctN S P mst k) (d + 1) := by
    rw [tlN_ag h.2.1.ag hk]
    unfold tlN
    exact runT_cong (fun x hx => h.ct hg hP hk hs (by omega))
  rw [e, mtN_ag h.2.1.ag hk, h.2.1.ag k hk 6 (by omega)]
/-- least place of a stay or credit -/
theorem hsN_none {PP : Nat → Nat → Int32} {c : Int32} {k d : Nat} : ∀ {n : Nat}, (∀ i, i < n → ¬ ((PP i 0 = c ∧ PP i 5 = -1 ∧ bt (PP i 4) k = true) ∧ ix (PP i 1) ≤ d ∧ d ≤ ix (PP i 2))) → hsN PP c k d n = -1
  | 0, _ => rfl
  | n + 1, h => by
    unfold hsN
    rw [hsN_none (fun i hi => h i (by omega)), if_neg (by simp), if_neg (h n (by omega))]
theorem nI_nm1 {i : Nat} (h : i < 2 ^ 31) : nI i ≠ -1 := fun z => by
  have := congrArg Int32.toInt z
  rw [nI_toInt h] at this
  have h9 : (-1 : Int32).toInt = -1 := rfl
  omega
theorem hsN_some {PP : Nat → Nat → Int32} {c : Int32} {k d i : Nat} (hi2 : i < 12) (hp : (PP i 0 = c ∧ PP i 5 = -1 ∧ bt (PP i 4) k = true) ∧ ix (PP i 1) ≤ d ∧ d ≤ ix (PP i 2)) (hl : ∀ j, j < i → ¬ ((PP j 0 = c ∧ PP j 5 = -1 ∧ bt (PP j 4) k = true) ∧ ix (PP j 1) ≤ d ∧ d ≤ ix (PP j 2))) : ∀ {n : Nat}, i < n → hsN PP c k d n = nI i
  | 0, h => by omega
  | n + 1, h => by
    unfold hsN
    by_cases e : i = n
    · subst e
      rw [hsN_none hl, if_neg (by simp), if_pos hp]
    · rw [hsN_some hi2 hp hl (by omega), if_pos (nI_nm1 (by omega))]
theorem hsN_lo {w : St} {q P k d : Nat} {S : RS} {c res : Int32} (h : FileS w q S P) (hv : vP (S.1 P)) (hk : k < 12) (hd : d < 3600) (hl : loR (loP w q c (nI k) (nI d)) res) : res = hsN (S.1 P) c k d 12 := by
  have hc : ∀ i, i < 12 → (loP w q c (nI k) (nI d) i ↔ ((S.1 P i 0 = c ∧ S.1 P i 5 = -1 ∧ bt (S.1 P i 4) k = true) ∧ ix (S.1 P i 1) ≤ d ∧ d ≤ ix (S.1 P i 2))) := by
    intro i hi
    obtain ⟨-, ⟨f, hf, ef⟩, ⟨t, ht, et⟩, -⟩ := hv i hi
    unfold loP
    rw [h.1 i hi 0 (by omega), h.1 i hi 5 (by omega), h.1 i hi 4 (by omega), h.1 i hi 1 (by omega), h.1 i hi 2 (by omega), nm_bt (by omega), ef, et, ix_nI (by omega), ix_nI (by omega), nI_leI (by omega) (by omega), nI_leI (by omega) (by omega)]
  rcases hl with ⟨i, hi, h1, h2, rfl⟩ | ⟨h1, rfl⟩
  · exact (hsN_some hi ((hc i hi).mp h1) (fun j hj z => h2 j hj ((hc j (by omega)).mpr z)) hi).symm
  · exact (hsN_none (fun i hi z => h1 i hi ((hc i hi).mpr z))).symm
