/-! Ring.keep, Ring.closes -/
/-- so far kept: c places from f on, then y -/
def kpI (E : Nat → Nat → Bool) (f L c y : Nat) (rg : Nat → Nat) : Prop := y < 12 ∧ wk E (L - c) y f ∧ (c = 0 → y = f) ∧ (0 < c → rg 0 = f) ∧ (∀ j, j + 1 < c → rg (j + 1) < 12 ∧ E (rg j) (rg (j + 1)) = true ∧ wk E (L - 1 - j) (rg (j + 1)) f ∧ ∀ z, z < rg (j + 1) → ¬ (E (rg j) z = true ∧ wk E (L - 1 - j) z f)) ∧
  (0 < c → E (rg (c - 1)) y = true ∧ ∀ z, z < y → ¬ (E (rg (c - 1)) z = true ∧ wk E (L - c) z f))
theorem kpI_step {E : Nat → Nat → Bool} {f L c y z : Nat} {rg : Nat → Nat} (h : kpI E f L c y rg) (hc : c < L) (hz : z < 12) (he : E y z = true) (hw : wk E (L - 1 - c) z f) (hl : ∀ x, x < z → ¬ (E y x = true ∧ wk E (L - 1 - c) x f)) : kpI E f L (c + 1) z (up1 rg c y) := by
  obtain ⟨a, b, c0, c1, d, e⟩ := h
  have hcc : up1 rg c y c = y := by unfold up1; rw [if_pos rfl]
  have hcn : ∀ j, j ≠ c → up1 rg c y j = rg j := fun j hj => by unfold up1; rw [if_neg hj]
  refine ⟨hz, by rw [show L - (c + 1) = L - 1 - c by omega]; exact hw, fun q => by omega, fun _ => ?_, fun j hj => ?_, fun _ => ?_⟩
  · by_cases q : c = 0
    · subst q; rw [hcc]; exact c0 rfl
    · rw [hcn 0 (by omega)]; exact c1 (by omega)
  · by_cases q : j + 1 = c
    · have e9 := e (by omega)
      rw [← q, Nat.add_sub_cancel] at e9
      rw [q, hcc, hcn j (by omega)]
      refine ⟨a, e9.1, ?_, fun x hx => ?_⟩
      · rw [show L - 1 - j = L - c by omega]; exact b
      · have := e9.2 x hx
        rw [show L - (j + 1) = L - 1 - j by omega] at this
        exact this
    · rw [hcn j (by omega), hcn (j + 1) q]
      exact d j (by omega)
  · rw [Nat.add_sub_cancel, hcc]
    refine ⟨he, fun x hx => ?_⟩
    rw [show L - (c + 1) = L - 1 - c by omega]
    exact hl x hx
theorem nI_m1 (n : Nat) : nI n + Int32.ofInt (-1) = nI n - 1 := by
  rw [Int32.sub_eq_add_neg, show Int32.ofInt (-1) = -1 from by decide]
theorem nat_bits {x : Int32} (h : ∀ i, 12 ≤ i → bt x i = false) : ∃ Z, Z < 4096 ∧ x = nI Z ∧ ∀ i, Z.testBit i = bt x i := by
  obtain ⟨Z, hZ, e, hb⟩ := BW_nat (x := x) (b := fun k => bt x k) (fun k hk => by
    by_cases q : k < 30
    · simp [q]
    · rw [h k (by omega)]; simp [q])
  refine ⟨Z, ?_, e, fun i => ?_⟩
  · show Z < 2 ^ 12
    apply Nat.lt_pow_two_of_testBit
    intro i hi
    rw [hb, h i hi]
    simp
  · rw [hb]
    by_cases q : i < 30
    · simp [q]
    · rw [h i (by omega)]; simp
abbrev T_X5_keep : Tr := fun lay av w Po => ∃ (f L : Nat), av = [.ref (lay 217), .int (nI f), .int (nI L)] ∧ (f < 12) ∧ (1 ≤ L) ∧ (L ≤ 12) ∧ (lowW (w.1 219)) ∧ (∀ s, s ≤ L → ∀ x, x < 32 → (bt (w.1 220 s) x = true ↔ x < 12 ∧ wk (EW (w.1 219)) s x f)) ∧ (wk (EW (w.1 219)) L f f) ∧ ∀ (w' : St) (rg : Nat → Nat), Fr w w' (fun z => z = 217 ∨ z = 218) → w'.1 217 1 = nI L → (∀ j, j < L → w'.1 218 j = nI (rg j)) → rg 0 = f → (∀ j, j + 1 < L → rg (j + 1) < 12 ∧ EW (w.1 219) (rg j) (rg (j + 1)) = true ∧ wk (EW (w.1 219)) (L - 1 - j) (rg (j + 1)) f ∧ ∀ z, z < rg (j + 1) → ¬ (EW (w.1 219) (rg j) z = true ∧ wk (EW (w.1 219)) (L - 1 - j) z f)) → EW (w.1 219) (rg (L - 1)) f = true → Po none w'
set_option maxRecDepth 100000 in
set_option maxHeartbeats 4000000 in
theorem c_X5_keep : Ct yX5_keep cX5_keep 5 none 1 0 0 T_X5_keep := by
  refine Ct.mk (by decide +kernel) ?_
  intro X av w Po hX hR hT
  obtain ⟨f, L, rfl, hf, h1, hL, hl, hld, hw, h⟩ := hT
  refine ⟨rfl, ?_⟩
  show A X 0 0 0 [some (.ref (xlay X 217)), some (.int (nI f)), some (.int (nI L)), none, none] [] w
  refine a_iload_n hX dX5_keep_0 rfl ?_
  refine a_istore_n (ls' := [_, _, _, _, _]) hX dX5_keep_1 (Nat.le_of_ble_eq_true rfl) rfl ?_
  refine a_aload_n hX dX5_keep_2 rfl ?_
  refine a_iconst (0) hX dX5_keep_3 (by decide) ?_
  refine pf_X5_15 rfl hX dX5_keep_4 ?_
  refine a_iload_n hX dX5_keep_7 rfl ?_
  refine a_iconst (1) hX dX5_keep_8 (by decide) ?_
  refine a_isub hX dX5_keep_9 ?_
  refine a_istore (ls' := [_, _, _, _, _]) hX dX5_keep_10 (Nat.le_of_ble_eq_true rfl) rfl ?_
  have L12 : ∀ (fu : Nat) (c y : Nat) (rg : Nat → Nat) (w2 : St), L - c < fu → (c ≤ L) → (Fr w w2 (fun z => z = 217 ∨ z = 218)) → (w2.1 217 1 = nI c) → (∀ j, j < c → w2.1 218 j = nI (rg j)) → (kpI (EW (w.1 219)) f L c y rg) → A X 0 0 12 [some (.ref (xlay X 217)), some (.int (nI f)), some (.int (nI L)), some (.int (nI y)), some (.int (nI (L - c) - 1))] [] w2 := by
    intro fu
    induction fu with
    | zero => intro c y rg w2 hmu; exact absurd hmu (Nat.not_lt_zero _)
    | succ fu ih =>
      intro c y rg w2 hmu hc hf2 hs hp hk
      refine a_iload hX dX5_keep_12 rfl ?_
      refine a_if_lt 75 hX dX5_keep_14 (by decide) (fun c_14 => ?_) (fun c_14 => ?_)
      · refine a_vret hX hR dX5_keep_75 ⟨Nat.le_refl _, Nat.le_refl _⟩ ?_
        have hcL : c = L := by
          rcases Nat.lt_or_ge c L with q | q
          · exfalso
            have e9 : nI (L - c) - 1 = nI (L - 1 - c) := by
              rw [show L - c = (L - 1 - c) + 1 by omega]
              exact nI_pred _
            rw [e9] at c_14
            exact nI_pos (by omega) c_14
          · omega
        subst hcL
        have hyf : y = f := by
          have h9 := hk.2.1
          rw [Nat.sub_self] at h9
          exact h9
        subst hyf
        exact h _ rg hf2 hs hp (hk.2.2.2.1 (by omega)) hk.2.2.2.2.1 (hk.2.2.2.2.2 (by omega)).1
      · have hcL : c < L := by
          rcases Nat.lt_or_ge c L with q | q
          · exact q
          · have e9 : L - c = 0 := by omega
            rw [e9] at c_14
            exact absurd (by decide) c_14
        have est : nI (L - c) - 1 = nI (L - 1 - c) := by
          rw [show L - c = (L - 1 - c) + 1 by omega]
          exact nI_pred _
        rw [est]
        refine a_iload hX dX5_keep_17 rfl ?_
        refine a_bipush (12) hX dX5_keep_19 (by decide) ?_
        refine a_icmp_ge 75 hX dX5_keep_21 (by decide) (fun c_21 => ?_) (fun c_21 => ?_)
        · exact absurd (in_rng (show L - 1 - c < 12 by omega) (by decide)).2 (Int32.not_lt.mpr c_21)
        · refine a_iload_n hX dX5_keep_24 rfl ?_
          refine a_callSN [_] hX c_X7_isPlace mi_X7_isPlace ms_X7_isPlace ln_X5_25 (by decide) rfl rfl (Nat.le_of_ble_eq_true rfl) (fun q => q) dX5_keep_25 ⟨_, rfl, ?_⟩
          refine a_if_eq_b 75 hX dX5_keep_28 (by decide) (fun c_28 => ?_) (fun c_28 => ?_)
          · exact absurd (in_rng hk.1 (by decide)) c_28
          · refine a_aload_n hX dX5_keep_31 rfl ?_
            refine gf_X5_9 rfl hX dX5_keep_32 ?_
            refine a_aload_n hX dX5_keep_35 rfl ?_
            refine gf_X5_15 rfl hX dX5_keep_36 ?_
            rw [hs]
            refine a_iload_n hX dX5_keep_39 rfl ?_
            refine a_iast c hX rfl rfl (show c < 12 by omega) dX5_keep_40 ?_
            refine a_aload_n hX dX5_keep_41 rfl ?_
            refine a_dup hX dX5_keep_42 rfl ?_
            refine gf_X5_15 rfl hX dX5_keep_43 ?_
            refine a_iconst (1) hX dX5_keep_46 (by decide) ?_
            refine a_iadd hX dX5_keep_47 ?_
            refine pf_X5_15 rfl hX dX5_keep_48 ?_
            refine a_aload_n hX dX5_keep_51 rfl ?_
            refine gf_X5_19 rfl hX dX5_keep_52 ?_
            refine a_iload_n hX dX5_keep_55 rfl ?_
            refine a_iald y hX rfl rfl (show y < 12 from hk.1) dX5_keep_56 ?_
            refine a_aload_n hX dX5_keep_57 rfl ?_
            refine gf_X5_22 rfl hX dX5_keep_58 ?_
            refine a_iload hX dX5_keep_61 rfl ?_
            refine a_iald (L - 1 - c) hX rfl rfl (show L - 1 - c < 13 by omega) dX5_keep_63 ?_
            refine a_iand hX dX5_keep_64 ?_
            rw [show (wset (wset w2 218 c (nI y)) 217 1 ((wset w2 218 c (nI y)).1 217 1 + 1)).1 219 y = w.1 219 y from by rw [wset_ne _ _ _ _ (by decide), wset_ne _ _ _ _ (by decide), hf2.2 219 (by decide)], show (wset (wset w2 218 c (nI y)) 217 1 ((wset w2 218 c (nI y)).1 217 1 + 1)).1 220 (L - 1 - c) = w.1 220 (L - 1 - c) from by rw [wset_ne _ _ _ _ (by decide), wset_ne _ _ _ _ (by decide), hf2.2 220 (by decide)]]
            obtain ⟨z0, hz0, hE0, hw0⟩ : ∃ z, z < 12 ∧ EW (w.1 219) y z = true ∧ wk (EW (w.1 219)) (L - 1 - c) z f := by
              have h9 := hk.2.1
              rw [show L - c = (L - 1 - c) + 1 by omega] at h9
              exact h9
            obtain ⟨Z, hZ, eZ, hZb⟩ := nat_bits (x := w.1 219 y &&& w.1 220 (L - 1 - c)) (fun i hi => by rw [b_and, hl y hk.1 i hi]; rfl)
            have hbb : ∀ i, i < 32 → (Z.testBit i = true ↔ EW (w.1 219) y i = true ∧ i < 12 ∧ wk (EW (w.1 219)) (L - 1 - c) i f) := fun i hi => by
              rw [hZb, b_and, Bool.and_eq_true, hld (L - 1 - c) (by omega) i hi]
              rfl
            have hZ0 : 0 < Z := by
              rcases Nat.eq_zero_or_pos Z with q | q
              · have h9 := (hbb z0 (by omega)).mpr ⟨hE0, hz0, hw0⟩
                rw [q, Nat.zero_testBit] at h9
                cases h9
              · exact q
            rw [eZ]
            refine a_callS [_] hX c_J6_numberOfTrailingZeros_0f7a4 mi_J6_numberOfTrailingZeros_0f7a4 ms_J6_numberOfTrailingZeros_0f7a4 li_X5_63 (by decide) rfl rfl (Nat.le_of_ble_eq_true rfl) (fun q => q) dX5_keep_65 ⟨_, rfl, hZ, hZ0, ?_⟩
            intro z hz12 hzb hzl
            obtain ⟨hEz, -, hwz⟩ := (hbb z (by omega)).mp hzb
            have hlz : ∀ x, x < z → ¬ (EW (w.1 219) y x = true ∧ wk (EW (w.1 219)) (L - 1 - c) x f) := fun x hx h9 => by
              have := hzl x hx
              rw [(hbb x (by omega)).mpr ⟨h9.1, by omega, h9.2⟩] at this
              cases this
            refine a_istore_n (ls' := [_, _, _, _, _]) hX dX5_keep_68 (Nat.le_of_ble_eq_true rfl) rfl ?_
            refine a_iinc (ls' := [_, _, _, _, _]) ((nI (L - (c + 1)) - 1)) hX dX5_keep_69 rfl (by rw [show L - (c + 1) = L - 1 - c by omega]; exact nI_m1 _) rfl ?_
            refine a_goto 12 hX dX5_keep_72 (by decide) ?_
            refine ih (c + 1) z (up1 rg c y) _ (by omega) (by omega) (Fr.set (Fr.set hf2 (Or.inr rfl)) (Or.inl rfl)) ?_ (fun j hj => ?_) (kpI_step hk hcL hz12 hEz hwz hlz)
            · rw [wset_1, if_pos ⟨rfl, rfl⟩, wset_ne _ _ _ _ (by decide), hs, nI_1]
            · rw [wset_ne _ _ _ _ (by decide), wset_1]
              unfold up1
              by_cases e : j = c
              · rw [if_pos ⟨rfl, e⟩, if_pos e]
              · rw [if_neg (fun z => e z.2), if_neg e]
                exact hp j (by omega)
  exact L12 (L + 1) 0 f (fun _ => 0) _ (by omega) (by omega) (Fr.set Fr.rf (Or.inl rfl)) (by rw [wset_1, if_pos ⟨rfl, rfl⟩]; rfl) (fun j hj => by omega) ⟨hf, hw, fun _ => rfl, fun q => by omega, fun j hj => by omega, fun q => by omega⟩
/-- the graph with a new order at p -/
def newE (PP : Nat → Nat → Int32) (p : Nat) (s : Int32) : Nat → Nat → Bool := fun k i => if k = p then bt s i else runsB PP k && bt (PP k 4) i
theorem wk_cong {E E' : Nat → Nat → Bool} (h : ∀ k, k < 12 → ∀ i, i < 12 → E k i = E' k i) : ∀ {n x y : Nat}, x < 12 → (wk E n x y ↔ wk E' n x y)
  | 0, x, y, _ => Iff.rfl
  | n + 1, x, y, hx => by
    constructor
    · rintro ⟨z, hz, he, hw⟩
      exact ⟨z, hz, by rw [← h x hx z hz]; exact he, (wk_cong h hz).mp hw⟩
    · rintro ⟨z, hz, he, hw⟩
      exact ⟨z, hz, by rw [h x hx z hz]; exact he, (wk_cong h hz).mpr hw⟩
theorem ringOf_cong {E E' : Nat → Nat → Bool} (h : ∀ k, k < 12 → ∀ i, i < 12 → E k i = E' k i) {p L : Nat} {rg : Nat → Nat} (hp : p < 12) (hr : ringOf E p L rg) : ringOf E' p L rg := by
  obtain ⟨r1, r2, r3, r4, r5, r6, r7, r8, r9⟩ := hr
  have hlt : ∀ i, i < L → rg i < 12 := fun i hi => by
    cases i with
    | zero => exact r5
    | succ i => exact (r8 i hi).1
  refine ⟨r1, r2, (wk_cong h hp).mp r3, fun m h1 h2 hw => r4 m h1 h2 ((wk_cong h hp).mpr hw), r5, (wk_cong h r5).mp r6, fun f hf hw => r7 f hf ((wk_cong h (by omega)).mpr hw), fun j hj => ?_, by rw [← h _ (hlt _ (by omega)) _ r5]; exact r9⟩
  obtain ⟨a, b, c, d⟩ := r8 j hj
  refine ⟨a, by rw [← h _ (hlt j (by omega)) _ a]; exact b, (wk_cong h a).mp c, fun y hy h9 => d y hy ⟨by rw [h _ (hlt j (by omega)) _ (by omega)]; exact h9.1, (wk_cong h (by omega)).mpr h9.2⟩⟩
theorem low_nat : ∀ s, s < 4096 → ∀ i, i < 32 → 12 ≤ i → bt (nI s) i = false := by
  intro s hs i hi h12
  have h9 : (nI s).toBitVec.toNat = s := pk_tn (by omega)
  show (nI s).toBitVec.getLsbD i = false
  rw [← BitVec.testBit_toNat, h9]
  exact Nat.testBit_lt_two_pow (Nat.lt_of_lt_of_le hs (Nat.pow_le_pow_right (n := 2) (by decide) h12))
abbrev T_X5_closes : Tr := fun lay av w Po => ∃ (q p s : Nat), av = [.ref (lay 217), .ref (lay q), .int (nI p), .int (nI s)] ∧ (kd q = 1) ∧ (p < 12) ∧ (s < 4096) ∧ (∀ k, k < 12 → ∀ i, 12 ≤ i → bt (w.1 (q + 1 + 4 + k) 4) i = false) ∧ ((∀ (w' : St) (L : Nat) (rg : Nat → Nat), Fr w w' (fun z => 217 ≤ z ∧ z ≤ 220) → ringOf (newE (plF w q) p (nI s)) p L rg → w'.1 217 1 = nI L → (∀ j, j < L → w'.1 218 j = nI (rg j)) → Po (some (.int (bI True))) w') ∧ (∀ w' : St, Fr w w' (fun z => z = 219 ∨ z = 220) → (∀ m, 1 ≤ m → m ≤ 12 → ¬ wk (newE (plF w q) p (nI s)) m p p) → Po (some (.int (bI False))) w'))
set_option maxRecDepth 100000 in
set_option maxHeartbeats 4000000 in
theorem c_X5_closes : Ct yX5_closes cX5_closes 6 (some .boolean) 3 0 0 T_X5_closes := by
  refine Ct.mk (by decide +kernel) ?_
  intro X av w Po hX hR hT
  obtain ⟨q, p, s, rfl, hq, hp, hs, hlo, h⟩ := hT
  refine ⟨rfl, ?_⟩
  show A X 0 0 0 [some (.ref (xlay X 217)), some (.ref (xlay X q)), some (.int (nI p)), some (.int (nI s)), none, none] [] w
  refine a_aload_n hX dX5_closes_0 rfl ?_
  refine a_ifnull hX dX5_closes_1 ?_
  refine a_iload_n hX dX5_closes_4 rfl ?_
  refine a_callSN [_] hX c_X7_isPlace mi_X7_isPlace ms_X7_isPlace ln_X5_25 (by decide) rfl rfl (Nat.le_of_ble_eq_true rfl) (fun q => q) dX5_closes_5 ⟨_, rfl, ?_⟩
  refine a_if_ne_b 13 hX dX5_closes_8 (by decide) (fun c_8 => ?_) (fun c_8 => ?_)
  · refine a_aload_n hX dX5_closes_13 rfl ?_
    refine a_aload_n hX dX5_closes_14 rfl ?_
    refine a_iload_n hX dX5_closes_15 rfl ?_
    refine a_iload_n hX dX5_closes_16 rfl ?_
    refine a_callV [_, _, _] hX c_X5_findNext mi_X5_findNext mv_X5_findNext se_X5_findNext (klt rfl (by decide)) (adr_lt (kd_lt rfl (by decide))) (cell_5 rfl) rfl li_X5_29 (by decide) rfl rfl (Nat.le_of_ble_eq_true rfl) (fun q => q) dX5_closes_17 ⟨_, _, _, rfl, hq, (by assumption), ?_⟩
    intro w17 h17 hv17
    have hEE : ∀ k, k < 12 → ∀ i, i < 12 → EW (w17.1 219) k i = newE (plF w q) p (nI s) k i := fun k hk i hi => by
      unfold EW newE
      rw [hv17 k hk]
      by_cases e : k = p
      · rw [if_pos e, if_pos e]
      · rw [if_neg e, if_neg e]
        unfold runsB plF
        split
        · next q9 => simp [q9]
        · next q9 => simp [q9, b_0]
    have hlow : lowW (w17.1 219) := fun k hk i hi => by
      by_cases h32 : i < 32
      · rw [hv17 k hk]
        split
        · exact low_nat s hs i h32 hi
        · split
          · exact hlo k hk i hi
          · exact b_0 i
      · exact b_big (by omega)
    refine a_aload_n hX dX5_closes_20 rfl ?_
    refine a_iload_n hX dX5_closes_21 rfl ?_
    refine a_callV [_] hX c_X5_lengthOfLeast mi_X5_lengthOfLeast mv_X5_lengthOfLeast se_X5_lengthOfLeast (klt rfl (by decide)) (adr_lt (kd_lt rfl (by decide))) (cell_5 rfl) rfl li_X5_33 (by decide) rfl rfl (Nat.le_of_ble_eq_true rfl) (fun q => q) dX5_closes_22 ⟨_, rfl, hp, hlow, ?_⟩
    intro L hL
    refine a_istore (ls' := [_, _, _, _, _, _]) hX dX5_closes_25 (Nat.le_of_ble_eq_true rfl) rfl ?_
    refine a_iload hX dX5_closes_27 rfl ?_
    refine a_if_ne 34 hX dX5_closes_29 (by decide) (fun c_29 => ?_) (fun c_29 => ?_)
    · have hL1 : 1 ≤ L ∧ L ≤ 12 ∧ wk (EW (w17.1 219)) L p p ∧ ∀ m, 1 ≤ m → m < L → ¬ wk (EW (w17.1 219)) m p p := by
        rcases hL with hL | hL
        · exact hL
        · exact absurd (by rw [hL.1]; rfl) c_29
      refine a_iconst (0) hX dX5_closes_34 (by decide) ?_
      refine a_istore (ls' := [_, _, _, _, _, _]) hX dX5_closes_35 (Nat.le_of_ble_eq_true rfl) rfl ?_
      have L37 : ∀ (fu : Nat) (f : Nat) (w2 : St), 12 - f < fu → (f ≤ 12) → (Fr w w2 (fun z => z = 219 ∨ z = 220)) → (w2.1 219 = w17.1 219) → (∀ g, g < f → ¬ wk (EW (w17.1 219)) L g g) → A X 0 0 37 [some (.ref (xlay X 217)), some (.ref (xlay X q)), some (.int (nI p)), some (.int (nI s)), some (.int (nI L)), some (.int (nI f))] [] w2 := by
        intro fu
        induction fu with
        | zero => intro f w2 hmu; exact absurd hmu (Nat.not_lt_zero _)
        | succ fu ih =>
          intro f w2 hmu hf hf2 e219 hno
          refine a_iload hX dX5_closes_37 rfl ?_
          refine a_bipush (12) hX dX5_closes_39 (by decide) ?_
          refine a_icmp_ge 83 hX dX5_closes_41 (by decide) (fun c_41 => ?_) (fun c_41 => ?_)
          · refine a_iconst (0) hX dX5_closes_83 (by decide) ?_
            refine a_iret hX hR dX5_closes_84 ⟨Nat.le_refl _, Nat.le_refl _⟩ (bI_nar (p := False)) ?_
            exfalso
            have hf12 : f = 12 := by
              have := le_of_c (b := 12) c_41 (by omega) (by omega)
              omega
            subst hf12
            exact hno p hp hL1.2.2.1
          · have hf12 : f < 12 := lt_of_c (b := 12) c_41 (by omega) (by omega)
            refine a_aload_n hX dX5_closes_44 rfl ?_
            refine a_iload hX dX5_closes_45 rfl ?_
            refine a_iload hX dX5_closes_47 rfl ?_
            refine a_callV [_, _] hX c_X5_findLeads mi_X5_findLeads mv_X5_findLeads se_X5_findLeads (klt rfl (by decide)) (adr_lt (kd_lt rfl (by decide))) (cell_5 rfl) rfl li_X5_37 (by decide) rfl rfl (Nat.le_of_ble_eq_true rfl) (fun q => q) dX5_closes_49 ⟨_, _, rfl, hf12, hL1.2.1, (by rw [e219]; exact hlow), ?_⟩
            intro w49 h49 hv49
            rw [e219] at hv49
            have hnm : nmP (w49.1 220 L) (nI f) ↔ wk (EW (w17.1 219)) L f f := by
              rw [nm_bt (by omega), hv49 L (Nat.le_refl _) f (by omega)]
              simp [hf12]
            refine a_aload_n hX dX5_closes_52 rfl ?_
            refine gf_X5_22 rfl hX dX5_closes_53 ?_
            refine a_iload hX dX5_closes_56 rfl ?_
            refine a_iald L hX rfl rfl (show L < 13 by omega) dX5_closes_58 ?_
            refine a_iload hX dX5_closes_59 rfl ?_
            refine a_callSN [_, _] hX c_X7_names mi_X7_names ms_X7_names ln_X5_41 (by decide) rfl rfl (Nat.le_of_ble_eq_true rfl) (fun q => q) dX5_closes_61 ⟨_, (nI f), rfl, ?_⟩
            refine a_if_eq_b 77 hX dX5_closes_64 (by decide) (fun c_64 => ?_) (fun c_64 => ?_)
            · have hnf : ¬ wk (EW (w17.1 219)) L f f := fun z => c_64 (hnm.mpr z)
              refine a_iinc (ls' := [_, _, _, _, _, _]) (nI (f + 1)) hX dX5_closes_77 rfl (nI_i1 f) rfl ?_
              refine a_goto 37 hX dX5_closes_80 (by decide) ?_
              exact ih (f + 1) w49 (by omega) (by omega) (hf2.tr (h49.mono (fun z hz => Or.inr hz))) (by rw [h49.2 219 (by decide), e219]) (fun g hg => by
                by_cases e : g = f
                · subst e; exact hnf
                · exact hno g (by omega))
            · refine a_aload_n hX dX5_closes_67 rfl ?_
              refine a_iload hX dX5_closes_68 rfl ?_
              refine a_iload hX dX5_closes_70 rfl ?_
              refine a_callV [_, _] hX c_X5_keep mi_X5_keep mv_X5_keep se_X5_keep (klt rfl (by decide)) (adr_lt (kd_lt rfl (by decide))) (cell_5 rfl) rfl li_X5_45 (by decide) rfl rfl (Nat.le_of_ble_eq_true rfl) (fun q => q) dX5_closes_72 ⟨_, _, rfl, hf12, hL1.1, hL1.2.1, (by rw [h49.2 219 (by decide), e219]; exact hlow), (by rw [h49.2 219 (by decide), e219]; exact hv49), (by rw [h49.2 219 (by decide), e219]; exact hnm.mp c_64), ?_⟩
              intro w72 rg72 h72 hs72 hp72 h072 hr72 hl72
              refine a_iconst (1) hX dX5_closes_75 (by decide) ?_
              refine a_iret hX hR dX5_closes_76 ⟨Nat.le_refl _, Nat.le_refl _⟩ (bI_nar (p := True)) ?_
              rw [h49.2 219 (by decide), e219] at hr72 hl72
              exact h.1 _ L rg72 ((hf2.mono (fun z hz => by omega)).tr ((h49.mono (fun z hz => by omega)).tr (h72.mono (fun z hz => by omega)))) (ringOf_cong hEE hp ⟨hL1.1, hL1.2.1, hL1.2.2.1, hL1.2.2.2, by rw [h072]; exact hf12, by rw [h072]; exact hnm.mp c_64, by rw [h072]; exact hno, fun j hj => by rw [h072]; exact hr72 j hj, by rw [h072]; exact hl72⟩) hs72 hp72
      exact L37 13 0 w17 (by omega) (by omega) (h17.mono (fun z hz => Or.inl hz)) rfl (fun g hg => by omega)
    · refine a_iconst (0) hX dX5_closes_32 (by decide) ?_
      refine a_iret hX hR dX5_closes_33 ⟨Nat.le_refl _, Nat.le_refl _⟩ (bI_nar (p := False)) ?_
      have hL0 : L = 0 := by
        rcases hL with hL | hL
        · have : ¬ nI L = nI 0 := fun z => by
            have := (nI_eq (by omega) (by decide)).mp z
            omega
          exact absurd c_29 this
        · exact hL.1
      rcases hL with hL | ⟨-, hL⟩
      · omega
      · exact h.2 _ (h17.mono (fun z hz => Or.inl hz)) (fun m h1 h2 hw => hL m h1 h2 ((wk_cong hEE hp).mpr hw))
  · exact absurd (in_rng hp (by decide)) c_8
