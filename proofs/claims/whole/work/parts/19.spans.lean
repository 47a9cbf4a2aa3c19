/-! Reckoning: begins, spans -/
theorem mx_nI {a b : Nat} (ha : a < 2 ^ 31) (hb : b < 2 ^ 31) : (if nI a < nI b then nI b else nI a) = nI (max a b) := by
  by_cases h : a < b
  · rw [if_pos (nI_lt h hb)]; congr 1; omega
  · rw [if_neg (nI_nlt (by omega) ha)]; congr 1; omega
theorem mn_nI {a b : Nat} (ha : a < 2 ^ 31) (hb : b < 2 ^ 31) : (if nI b < nI a then nI b else nI a) = nI (min a b) := by
  by_cases h : b < a
  · rw [if_pos (nI_lt h ha)]; congr 1; omega
  · rw [if_neg (nI_nlt (by omega) hb)]; congr 1; omega
theorem maxF_le {p : Nat → Bool} {f : Nat → Nat} {x B : Nat} : ∀ {n : Nat}, x ≤ B → (∀ i, i < n → p i = true → f i ≤ B) → maxF p f x n ≤ B
  | 0, h, _ => h
  | n + 1, h, hf => by
    unfold maxF
    have := maxF_le (n := n) h (fun i hi => hf i (by omega))
    split
    · next hp => have := hf n (by omega) hp; omega
    · exact this
theorem minF_le {p : Nat → Bool} {f : Nat → Nat} {x : Nat} : ∀ {n : Nat}, minF p f x n ≤ x
  | 0 => Nat.le_refl _
  | n + 1 => by
    unfold minF
    have := minF_le (p := p) (f := f) (x := x) (n := n)
    split <;> omega
theorem mx_t {p : Nat → Bool} {f : Nat → Nat} {x i : Nat} {a b : Int32} (hp : p i = true) (ha : a = nI (maxF p f x i)) (hb : b = nI (f i)) (h1 : maxF p f x i < 2 ^ 31) (h2 : f i < 2 ^ 31) : (if a < b then b else a) = nI (maxF p f x (i + 1)) := by
  rw [ha, hb, mx_nI h1 h2]
  simp [maxF, hp]
theorem mx_f {p : Nat → Bool} {f : Nat → Nat} {x i : Nat} {a : Int32} (hp : p i = false) (ha : a = nI (maxF p f x i)) : a = nI (maxF p f x (i + 1)) := by
  rw [ha]
  simp [maxF, hp]
theorem mn_t {p : Nat → Bool} {f : Nat → Nat} {x i : Nat} {a b : Int32} (hp : p i = true) (ha : a = nI (minF p f x i)) (hb : b = nI (f i)) (h1 : minF p f x i < 2 ^ 31) (h2 : f i < 2 ^ 31) : (if b < a then b else a) = nI (minF p f x (i + 1)) := by
  rw [ha, hb, mn_nI h1 h2]
  simp [minF, hp]
theorem mn_f {p : Nat → Bool} {f : Nat → Nat} {x i : Nat} {a : Int32} (hp : p i = false) (ha : a = nI (minF p f x i)) : a = nI (minF p f x (i + 1)) := by
  rw [ha]
  simp [minF, hp]
def stW (x : Int32) (PP : Nat → Nat → Int32) : Prop := ∀ i, i < 32 → bt x i = (decide (i < 12) && stB PP i)
theorem dep_bt {x y : Int32} {PP : Nat → Nat → Int32} {k : Nat} (hx : x = PP k 4) (hy : stW y PP) {i : Nat} (hi : i < 12) : bt (x &&& y) i = depB PP k i := by
  rw [b_and, hx, hy i (by omega)]
  simp [depB, hi]
theorem dep_nm {x y : Int32} {PP : Nat → Nat → Int32} {k : Nat} (hx : x = PP k 4) (hy : stW y PP) {i : Nat} (hi : i < 12) : nmP (x &&& y) (nI i) ↔ depB PP k i = true := by
  rw [nm_bt (by omega), dep_bt hx hy hi]
theorem dep_z {x y : Int32} {PP : Nat → Nat → Int32} {k : Nat} (hx : x = PP k 4) (hy : stW y PP) : x &&& y = 0 ↔ anyF (depB PP k) 12 = false := by
  constructor
  · intro h
    rw [← Bool.not_eq_true, anyF_iff]
    rintro ⟨i, hi, hd⟩
    rw [← dep_bt hx hy hi, h, b_0] at hd
    cases hd
  · intro h
    rw [← Bool.not_eq_true, anyF_iff] at h
    apply b_ext
    intro i hi
    rw [b_0]
    by_cases h12 : i < 12
    · rw [dep_bt hx hy h12]
      cases hd : depB PP k i
      · rfl
      · exact absurd ⟨i, h12, hd⟩ h
    · rw [b_and, hy i hi]
      simp [h12]
abbrev T_X3_beginOf : Tr := fun lay av w Po => ∃ (k : Nat), av = [.ref (lay 210), .int (nI k)] ∧ (k < 12) ∧ Po (some (.int (w.1 211 k))) w
set_option maxRecDepth 100000 in
set_option maxHeartbeats 4000000 in
theorem c_X3_beginOf : Ct yX3_beginOf cX3_beginOf 2 (some .int) 1 0 0 T_X3_beginOf := by
  refine Ct.mk (by decide +kernel) ?_
  intro X av w Po hX hR hT
  obtain ⟨k, rfl, hk, h⟩ := hT
  refine ⟨rfl, ?_⟩
  show A X 0 0 0 [some (.ref (xlay X 210)), some (.int (nI k))] [] w
  refine a_iload_n hX dX3_beginOf_0 rfl ?_
  refine a_callSN [_] hX c_X7_isPlace mi_X7_isPlace ms_X7_isPlace ln_X3_38 (by decide) rfl rfl (Nat.le_of_ble_eq_true rfl) (fun q => q) dX3_beginOf_1 ⟨_, rfl, ?_⟩
  refine a_if_eq_b 16 hX dX3_beginOf_4 (by decide) (fun c_4 => ?_) (fun c_4 => ?_)
  · exact absurd (in_rng hk (by decide)) c_4
  · refine a_aload_n hX dX3_beginOf_7 rfl ?_
    refine gf_X3_9 rfl hX dX3_beginOf_8 ?_
    refine a_iload_n hX dX3_beginOf_11 rfl ?_
    refine a_iald (k) hX rfl rfl (show _ < 12 by omega) dX3_beginOf_12 ?_
    refine a_goto 18 hX dX3_beginOf_13 (by decide) ?_
    refine a_iret hX hR dX3_beginOf_18 ⟨Nat.le_refl _, Nat.le_refl _⟩ rfl ?_
    exact h
abbrev T_X3_endOf : Tr := fun lay av w Po => ∃ (k : Nat), av = [.ref (lay 210), .int (nI k)] ∧ (k < 12) ∧ Po (some (.int (w.1 212 k))) w
set_option maxRecDepth 100000 in
set_option maxHeartbeats 4000000 in
theorem c_X3_endOf : Ct yX3_endOf cX3_endOf 2 (some .int) 1 0 0 T_X3_endOf := by
  refine Ct.mk (by decide +kernel) ?_
  intro X av w Po hX hR hT
  obtain ⟨k, rfl, hk, h⟩ := hT
  refine ⟨rfl, ?_⟩
  show A X 0 0 0 [some (.ref (xlay X 210)), some (.int (nI k))] [] w
  refine a_iload_n hX dX3_endOf_0 rfl ?_
  refine a_callSN [_] hX c_X7_isPlace mi_X7_isPlace ms_X7_isPlace ln_X3_38 (by decide) rfl rfl (Nat.le_of_ble_eq_true rfl) (fun q => q) dX3_endOf_1 ⟨_, rfl, ?_⟩
  refine a_if_eq_b 16 hX dX3_endOf_4 (by decide) (fun c_4 => ?_) (fun c_4 => ?_)
  · exact absurd (in_rng hk (by decide)) c_4
  · refine a_aload_n hX dX3_endOf_7 rfl ?_
    refine gf_X3_15 rfl hX dX3_endOf_8 ?_
    refine a_iload_n hX dX3_endOf_11 rfl ?_
    refine a_iald (k) hX rfl rfl (show _ < 12 by omega) dX3_endOf_12 ?_
    refine a_goto 18 hX dX3_endOf_13 (by decide) ?_
    refine a_iret hX hR dX3_endOf_18 ⟨Nat.le_refl _, Nat.le_refl _⟩ rfl ?_
    exact h
abbrev T_X3_beginBehind : Tr := fun lay av w Po => ∃ (q k : Nat) (en : Nat → Nat), av = [.ref (lay 210), .ref (lay (q + 1 + 4 + k))] ∧ (kd q = 1) ∧ (k < 12) ∧ (vP (plF w q)) ∧ (stW (w.1 210 6) (plF w q)) ∧ (∀ i, i < 12 → depB (plF w q) k i = true → w.1 212 i = nI (en i) ∧ bdN (en i)) ∧ Po (some (.int (nI (maxF (depB (plF w q) k) (fun i => en i + 1) (ix (plF w q k 1)) 12)))) w
set_option maxRecDepth 100000 in
set_option maxHeartbeats 4000000 in
theorem c_X3_beginBehind : Ct yX3_beginBehind cX3_beginBehind 4 (some .int) 1 0 0 T_X3_beginBehind := by
  refine Ct.mk (by decide +kernel) ?_
  intro X av w Po hX hR hT
  obtain ⟨q, k, en, rfl, hq, hk, hv, hst, hen, h⟩ := hT
  refine ⟨rfl, ?_⟩
  show A X 0 0 0 [some (.ref (xlay X 210)), some (.ref (xlay X (q + 1 + 4 + k))), none, none] [] w
  obtain ⟨f1, hf1, ef1⟩ := (hv k hk).2.1
  refine a_aload_n hX dX3_beginBehind_0 rfl ?_
  refine gf_X3_102 (K1_p hq hk) hX dX3_beginBehind_1 ?_
  refine a_istore_n (ls' := [_, _, _, _]) hX dX3_beginBehind_4 (Nat.le_of_ble_eq_true rfl) rfl ?_
  refine a_iconst (0) hX dX3_beginBehind_5 (by decide) ?_
  refine a_istore_n (ls' := [_, _, _, _]) hX dX3_beginBehind_6 (Nat.le_of_ble_eq_true rfl) rfl ?_
  have L7 : ∀ (fu : Nat) (i : Nat) (x : Int32), 12 - i < fu → (i ≤ 12) → (x = nI (maxF (depB (plF w q) k) (fun i => en i + 1) (ix (plF w q k 1)) i)) → A X 0 0 7 [some (.ref (xlay X 210)), some (.ref (xlay X (q + 1 + 4 + k))), some (.int x), some (.int (nI i))] [] w := by
    intro fu
    induction fu with
    | zero => intro i x hmu; exact absurd hmu (Nat.not_lt_zero _)
    | succ fu ih =>
      intro i x hmu hi hx
      refine a_iload_n hX dX3_beginBehind_7 rfl ?_
      refine a_bipush (12) hX dX3_beginBehind_8 (by decide) ?_
      refine a_icmp_ge 48 hX dX3_beginBehind_10 (by decide) (fun c_10 => ?_) (fun c_10 => ?_)
      · refine a_iload_n hX dX3_beginBehind_48 rfl ?_
        refine a_iret hX hR dX3_beginBehind_49 ⟨Nat.le_refl _, Nat.le_refl _⟩ rfl ?_
        have hi12 : i = 12 := by
            have := le_of_c (b := 12) c_10 (by omega) (by omega)
            omega
        subst hi12
        exact po_int h hx.symm
      · have hi12 : i < 12 := lt_of_c (b := 12) c_10 (by omega) (by omega)
        refine a_aload_n hX dX3_beginBehind_13 rfl ?_
        refine gf_X3_59 (K1_p hq hk) hX dX3_beginBehind_14 ?_
        refine a_aload_n hX dX3_beginBehind_17 rfl ?_
        refine gf_X3_34 rfl hX dX3_beginBehind_18 ?_
        refine a_iand hX dX3_beginBehind_21 ?_
        refine a_iload_n hX dX3_beginBehind_22 rfl ?_
        refine a_callSN [_, _] hX c_X7_names mi_X7_names ms_X7_names ln_X3_55 (by decide) rfl rfl (Nat.le_of_ble_eq_true rfl) (fun q => q) dX3_beginBehind_23 ⟨_, _, rfl, ?_⟩
        refine a_if_eq_b 42 hX dX3_beginBehind_26 (by decide) (fun c_26 => ?_) (fun c_26 => ?_)
        · refine a_iinc (ls' := [_, _, _, _]) (nI (i + 1)) hX dX3_beginBehind_42 rfl (nI_i1 i) rfl ?_
          refine a_goto 7 hX dX3_beginBehind_45 (by decide) ?_
          exact ih (i + 1) _ (by omega) (by omega) (by
            first
            | exact mx_f (by
                have h9 := fun z => c_26 ((dep_nm (PP := plF w q) (k := k) rfl hst hi12).mpr z)
                simpa using h9) hx
            | (have hdp := (dep_nm (PP := plF w q) (k := k) rfl hst hi12).mp c_26
               have h9 := hen i hi12 hdp
               refine mx_t hdp hx (by rw [h9.1, nI_1]) ?_ ?_
               · exact Nat.lt_of_le_of_lt (maxF_le (B := 200000) (by rw [ef1, ix_nI (by omega)]; omega) (fun j hj hp => by
                   have := (hen j (by omega) hp).2
                   unfold bdN at this
                   omega)) (by decide)
               · have := h9.2
                 unfold bdN at this
                 omega))
        · refine a_iload_n hX dX3_beginBehind_29 rfl ?_
          refine a_aload_n hX dX3_beginBehind_30 rfl ?_
          refine gf_X3_15 rfl hX dX3_beginBehind_31 ?_
          refine a_iload_n hX dX3_beginBehind_34 rfl ?_
          have hdp := (dep_nm (PP := plF w q) (k := k) rfl hst hi12).mp c_26
          refine a_iald (i) hX rfl rfl (show _ < 12 by omega) dX3_beginBehind_35 ?_
          refine a_iconst (1) hX dX3_beginBehind_36 (by decide) ?_
          refine a_iadd hX dX3_beginBehind_37 ?_
          refine a_mmax hX (by decide) rfl (Nat.le_of_ble_eq_true rfl) dX3_beginBehind_38 li_X3_105 ?_
          refine a_istore_n (ls' := [_, _, _, _]) hX dX3_beginBehind_41 (Nat.le_of_ble_eq_true rfl) rfl ?_
          refine a_iinc (ls' := [_, _, _, _]) (nI (i + 1)) hX dX3_beginBehind_42 rfl (nI_i1 i) rfl ?_
          refine a_goto 7 hX dX3_beginBehind_45 (by decide) ?_
          exact ih (i + 1) _ (by omega) (by omega) (by
            first
            | exact mx_f (by
                have h9 := fun z => c_26 ((dep_nm (PP := plF w q) (k := k) rfl hst hi12).mpr z)
                simpa using h9) hx
            | (have hdp := (dep_nm (PP := plF w q) (k := k) rfl hst hi12).mp c_26
               have h9 := hen i hi12 hdp
               refine mx_t hdp hx (by rw [h9.1, nI_1]) ?_ ?_
               · exact Nat.lt_of_le_of_lt (maxF_le (B := 200000) (by rw [ef1, ix_nI (by omega)]; omega) (fun j hj hp => by
                   have := (hen j (by omega) hp).2
                   unfold bdN at this
                   omega)) (by decide)
               · have := h9.2
                 unfold bdN at this
                 omega))
  exact L7 13 0 _ (by omega) (by omega) (by
    show plF w q k 1 = _
    rw [ef1]
    simp only [maxF]
    rw [ix_nI (by omega)])
abbrev T_X3_beginBeside : Tr := fun lay av w Po => ∃ (q k : Nat) (be : Nat → Nat), av = [.ref (lay 210), .ref (lay (q + 1 + 4 + k))] ∧ (kd q = 1) ∧ (k < 12) ∧ (vP (plF w q)) ∧ (stW (w.1 210 6) (plF w q)) ∧ (∀ i, i < 12 → depB (plF w q) k i = true → w.1 211 i = nI (be i) ∧ bdN (be i)) ∧ Po (some (.int (nI (if anyF (depB (plF w q) k) 12 then max (ix (plF w q k 1)) (minF (depB (plF w q) k) be 100000 12) else ix (plF w q k 1))))) w
set_option maxRecDepth 100000 in
set_option maxHeartbeats 4000000 in
theorem c_X3_beginBeside : Ct yX3_beginBeside cX3_beginBeside 5 (some .int) 1 0 0 T_X3_beginBeside := by
  refine Ct.mk (by decide +kernel) ?_
  intro X av w Po hX hR hT
  obtain ⟨q, k, be, rfl, hq, hk, hv, hst, hbe, h⟩ := hT
  refine ⟨rfl, ?_⟩
  show A X 0 0 0 [some (.ref (xlay X 210)), some (.ref (xlay X (q + 1 + 4 + k))), none, none, none] [] w
  obtain ⟨f1, hf1, ef1⟩ := (hv k hk).2.1
  have ef2 : w.1 (q + 1 + 4 + k) 1 = nI f1 := ef1
  have hz := dep_z (PP := plF w q) (k := k) (x := w.1 (q + 1 + 4 + k) 4) rfl hst
  refine a_aload_n hX dX3_beginBeside_0 rfl ?_
  refine gf_X3_59 (K1_p hq hk) hX dX3_beginBeside_1 ?_
  refine a_aload_n hX dX3_beginBeside_4 rfl ?_
  refine gf_X3_34 rfl hX dX3_beginBeside_5 ?_
  refine a_iand hX dX3_beginBeside_8 ?_
  refine a_istore_n (ls' := [_, _, _, _, _]) hX dX3_beginBeside_9 (Nat.le_of_ble_eq_true rfl) rfl ?_
  refine a_iload_n hX dX3_beginBeside_10 rfl ?_
  refine a_if_ne 19 hX dX3_beginBeside_11 (by decide) (fun c_11 => ?_) (fun c_11 => ?_)
  · refine a_ldc hX dX3_beginBeside_19 co_X3_42 ?_
    refine a_istore_n (ls' := [_, _, _, _, _]) hX dX3_beginBeside_21 (Nat.le_of_ble_eq_true rfl) rfl ?_
    refine a_iconst (0) hX dX3_beginBeside_22 (by decide) ?_
    refine a_istore (ls' := [_, _, _, _, _]) hX dX3_beginBeside_23 (Nat.le_of_ble_eq_true rfl) rfl ?_
    have L25 : ∀ (fu : Nat) (i : Nat) (x : Int32), 12 - i < fu → (i ≤ 12) → (x = nI (minF (depB (plF w q) k) be 100000 i)) → A X 0 0 25 [some (.ref (xlay X 210)), some (.ref (xlay X (q + 1 + 4 + k))), some (.int (w.1 (q + 1 + 4 + k) 4 &&& w.1 210 6)), some (.int x), some (.int (nI i))] [] w := by
      intro fu
      induction fu with
      | zero => intro i x hmu; exact absurd hmu (Nat.not_lt_zero _)
      | succ fu ih =>
        intro i x hmu hi hx
        refine a_iload hX dX3_beginBeside_25 rfl ?_
        refine a_bipush (12) hX dX3_beginBeside_27 (by decide) ?_
        refine a_icmp_ge 59 hX dX3_beginBeside_29 (by decide) (fun c_29 => ?_) (fun c_29 => ?_)
        · refine a_aload_n hX dX3_beginBeside_59 rfl ?_
          refine gf_X3_102 (K1_p hq hk) hX dX3_beginBeside_60 ?_
          refine a_iload_n hX dX3_beginBeside_63 rfl ?_
          refine a_mmax hX (by decide) rfl (Nat.le_of_ble_eq_true rfl) dX3_beginBeside_64 li_X3_105 ?_
          refine a_iret hX hR dX3_beginBeside_67 ⟨Nat.le_refl _, Nat.le_refl _⟩ rfl ?_
          have hi12 : i = 12 := by
              have := le_of_c (b := 12) c_29 (by omega) (by omega)
              omega
          subst hi12
          have hm := minF_le (p := depB (plF w q) k) (f := be) (x := 100000) (n := 12)
          exact po_int h (by
            rw [if_pos (by have := fun z => c_11 (hz.mpr z); simpa using this), hx, ef2, ef1, ix_nI (by omega), mx_nI (by omega) (by omega)])
        · have hi12 : i < 12 := lt_of_c (b := 12) c_29 (by omega) (by omega)
          refine a_iload_n hX dX3_beginBeside_32 rfl ?_
          refine a_iload hX dX3_beginBeside_33 rfl ?_
          refine a_callSN [_, _] hX c_X7_names mi_X7_names ms_X7_names ln_X3_55 (by decide) rfl rfl (Nat.le_of_ble_eq_true rfl) (fun q => q) dX3_beginBeside_35 ⟨_, _, rfl, ?_⟩
          refine a_if_eq_b 53 hX dX3_beginBeside_38 (by decide) (fun c_38 => ?_) (fun c_38 => ?_)
          · refine a_iinc (ls' := [_, _, _, _, _]) (nI (i + 1)) hX dX3_beginBeside_53 rfl (nI_i1 i) rfl ?_
            refine a_goto 25 hX dX3_beginBeside_56 (by decide) ?_
            exact ih (i + 1) _ (by omega) (by omega) (by
              first
              | exact mn_f (by
                  have h9 := fun z => c_38 ((dep_nm (PP := plF w q) (k := k) rfl hst hi12).mpr z)
                  simpa using h9) hx
              | (have hdp := (dep_nm (PP := plF w q) (k := k) rfl hst hi12).mp c_38
                 have h9 := hbe i hi12 hdp
                 refine mn_t hdp hx h9.1 ?_ ?_
                 · exact Nat.lt_of_le_of_lt minF_le (by decide)
                 · have := h9.2
                   unfold bdN at this
                   omega))
          · refine a_iload_n hX dX3_beginBeside_41 rfl ?_
            refine a_aload_n hX dX3_beginBeside_42 rfl ?_
            refine gf_X3_9 rfl hX dX3_beginBeside_43 ?_
            refine a_iload hX dX3_beginBeside_46 rfl ?_
            refine a_iald (i) hX rfl rfl (show _ < 12 by omega) dX3_beginBeside_48 ?_
            refine a_mmin hX (by decide) rfl (Nat.le_of_ble_eq_true rfl) dX3_beginBeside_49 li_X3_110 ?_
            refine a_istore_n (ls' := [_, _, _, _, _]) hX dX3_beginBeside_52 (Nat.le_of_ble_eq_true rfl) rfl ?_
            refine a_iinc (ls' := [_, _, _, _, _]) (nI (i + 1)) hX dX3_beginBeside_53 rfl (nI_i1 i) rfl ?_
            refine a_goto 25 hX dX3_beginBeside_56 (by decide) ?_
            exact ih (i + 1) _ (by omega) (by omega) (by
              first
              | exact mn_f (by
                  have h9 := fun z => c_38 ((dep_nm (PP := plF w q) (k := k) rfl hst hi12).mpr z)
                  simpa using h9) hx
              | (have hdp := (dep_nm (PP := plF w q) (k := k) rfl hst hi12).mp c_38
                 have h9 := hbe i hi12 hdp
                 refine mn_t hdp hx h9.1 ?_ ?_
                 · exact Nat.lt_of_le_of_lt minF_le (by decide)
                 · have := h9.2
                   unfold bdN at this
                   omega))
    exact L25 13 0 _ (by omega) (by omega) rfl
  · refine a_aload_n hX dX3_beginBeside_14 rfl ?_
    refine gf_X3_102 (K1_p hq hk) hX dX3_beginBeside_15 ?_
    refine a_iret hX hR dX3_beginBeside_18 ⟨Nat.le_refl _, Nat.le_refl _⟩ rfl ?_
    exact po_int h (by
      rw [if_neg (by rw [hz.mp c_11]; decide), ef1, ix_nI (by omega)]
      exact ef2.symm)
theorem spU_t {PP : Nat → Nat → Int32} {c : Int32} {k d i f t : Nat} (h : PP i 0 = c ∧ PP i 5 = -1 ∧ bt (PP i 4) k = true) (e1 : PP i 1 = nI f) (e2 : PP i 2 = nI t) (hf : f < 3600) (ht : t < 3600) : spU PP c k d (i + 1) = (spU PP c k d i || (decide (f ≤ d) && decide (d ≤ t))) := by
  simp only [spU, e1, e2, ix_nI (show f < 2 ^ 31 by omega), ix_nI (show t < 2 ^ 31 by omega), h, true_and, and_self, Bool.decide_and]
theorem spU_f {PP : Nat → Nat → Int32} {c : Int32} {k d i : Nat} (h : ¬ (PP i 0 = c ∧ PP i 5 = -1 ∧ bt (PP i 4) k = true)) : spU PP c k d (i + 1) = spU PP c k d i := by
  simp [spU, h]
/-- one stay's or credit's days are laid over the months -/
theorem BW_day {x : Int32} {b : Nat → Bool} {M f t : Nat} (h : BW x b) (hf : f < 3600) (ht : t < 3600) (hM : M < 120) : BW (x ||| (bFrom (nI f - nI (M * 30)) &&& bUpTo (nI t - nI (M * 30)))) (fun k => b k || (decide (f ≤ 30 * M + k) && decide (30 * M + k ≤ t))) := by
  refine (h.or ((bFrom_BW _).and (bUpTo_BW _))).to (fun k hk => ?_)
  rw [pk_sub_toInt (by omega) (by omega), pk_sub_toInt (by omega) (by omega)]
  congr 2
  · simp only [decide_eq_decide]; omega
  · simp only [decide_eq_decide]; omega
abbrev T_X3_addSpan : Tr := fun lay av w Po => ∃ (r m f t : Nat) (b : Nat → Nat → Bool), av = [.ref (lay r), .ref (lay m)] ∧ (kd r = 2) ∧ (kd m = 10) ∧ (ln m = 120) ∧ (f < 3600) ∧ (t < 3600) ∧ (w.1 r 1 = nI f) ∧ (w.1 r 2 = nI t) ∧ (∀ M, M < 120 → BW (w.1 m M) (b M)) ∧ ∀ w' : St, Fr w w' (fun z => z = m) → (∀ M, M < 120 → BW (w'.1 m M) (fun k => b M k || (decide (f ≤ 30 * M + k) && decide (30 * M + k ≤ t)))) → Po none w'
set_option maxRecDepth 100000 in
set_option maxHeartbeats 4000000 in
theorem c_X3_addSpan : Ct yX3_addSpan cX3_addSpan 5 none 1 0 0 T_X3_addSpan := by
  refine Ct.mk (by decide +kernel) ?_
  intro X av w Po hX hR hT
  obtain ⟨r, m, f, t, b, rfl, hr, hm, hl, hf, ht, ef, et, hb, h⟩ := hT
  refine ⟨rfl, ?_⟩
  show A X 0 0 0 [some (.ref (xlay X r)), some (.ref (xlay X m)), none, none, none] [] w
  refine a_aload_n hX dX3_addSpan_0 rfl ?_
  refine gf_X3_126 hr hX dX3_addSpan_1 ?_
  refine a_bipush (30) hX dX3_addSpan_4 (by decide) ?_
  rw [et]
  refine a_idiv hX dX3_addSpan_6 (by decide) ?_
  refine a_aload_n hX dX3_addSpan_7 rfl ?_
  refine a_ilen hX hm dX3_addSpan_8 ?_
  refine a_iconst (1) hX dX3_addSpan_9 (by decide) ?_
  refine a_isub hX dX3_addSpan_10 ?_
  rw [hl, show nI t / 30 = nI (t / 30) from pk_div (d := 30) (by omega) (by decide) (by decide), show nI 120 - (1 : Int32) = nI 119 from rfl]
  refine a_mmin hX (by decide) rfl (Nat.le_of_ble_eq_true rfl) dX3_addSpan_11 li_X3_110 ?_
  rw [show (if nI 119 < nI (t / 30) then nI 119 else nI (t / 30)) = nI (t / 30) from by rw [if_neg (nI_nlt (by omega) (by omega))]]
  refine a_istore_n (ls' := [_, _, _, _, _]) hX dX3_addSpan_14 (Nat.le_of_ble_eq_true rfl) rfl ?_
  refine a_iconst (0) hX dX3_addSpan_15 (by decide) ?_
  refine a_aload_n hX dX3_addSpan_16 rfl ?_
  refine gf_X3_102 hr hX dX3_addSpan_17 ?_
  refine a_bipush (30) hX dX3_addSpan_20 (by decide) ?_
  rw [ef]
  refine a_idiv hX dX3_addSpan_22 (by decide) ?_
  rw [show nI f / 30 = nI (f / 30) from pk_div (d := 30) (by omega) (by decide) (by decide)]
  refine a_mmax hX (by decide) rfl (Nat.le_of_ble_eq_true rfl) dX3_addSpan_23 li_X3_105 ?_
  rw [show (if (0 : Int32) < nI (f / 30) then nI (f / 30) else 0) = nI (f / 30) from (mx_nI (a := 0) (b := f / 30) (by decide) (by omega)).trans (by congr 1)]
  refine a_istore_n (ls' := [_, _, _, _, _]) hX dX3_addSpan_26 (Nat.le_of_ble_eq_true rfl) rfl ?_
  have L27 : ∀ (fu : Nat) (M : Nat) (w2 : St) (y : Option Value), 120 - M < fu → (f / 30 ≤ M) → (M ≤ 120) → (Fr w w2 (fun z => z = m)) → (∀ K, K < 120 → BW (w2.1 m K) (fun k => b K k || (decide (K < M) && (decide (f ≤ 30 * K + k) && decide (30 * K + k ≤ t))))) → A X 0 0 27 [some (.ref (xlay X r)), some (.ref (xlay X m)), some (.int (nI (t / 30))), some (.int (nI M)), y] [] w2 := by
    intro fu
    induction fu with
    | zero => intro M w2 y hmu; exact absurd hmu (Nat.not_lt_zero _)
    | succ fu ih =>
      intro M w2 y hmu h1 h2 hf2 hb2
      refine a_iload_n hX dX3_addSpan_27 rfl ?_
      refine a_iload_n hX dX3_addSpan_28 rfl ?_
      refine a_icmp_gt 71 hX dX3_addSpan_29 (by decide) (fun c_29 => ?_) (fun c_29 => ?_)
      · refine a_vret hX hR dX3_addSpan_71 ⟨Nat.le_refl _, Nat.le_refl _⟩ ?_
        have hM : t / 30 < M := (nI_ltI (by omega) (by omega)).mp c_29
        exact h _ hf2 (fun K hK => (hb2 K hK).to (fun k hk => by
          by_cases h9 : K < M
          · simp [h9]
          · have h8 : ¬ (30 * K + k ≤ t) := by omega
            simp [h9, h8]))
      · have hM : M ≤ t / 30 := Nat.not_lt.mp (fun q => c_29 (nI_lt q (by omega)))
        have er : w2.1 r = w.1 r := hf2.2 r (fun e => by rw [e, hm] at hr; exact absurd hr (by decide))
        refine a_iload_n hX dX3_addSpan_32 rfl ?_
        refine a_bipush (30) hX dX3_addSpan_33 (by decide) ?_
        refine a_imul hX dX3_addSpan_35 ?_
        refine a_istore (ls' := [_, _, _, _, _]) hX dX3_addSpan_36 (Nat.le_of_ble_eq_true rfl) rfl ?_
        refine a_aload_n hX dX3_addSpan_38 rfl ?_
        refine a_iload_n hX dX3_addSpan_39 rfl ?_
        refine a_dup2 hX dX3_addSpan_40 rfl rfl ?_
        refine a_iald M hX hm rfl (by rw [hl]; omega) dX3_addSpan_41 ?_
        refine a_aload_n hX dX3_addSpan_42 rfl ?_
        refine gf_X3_102 hr hX dX3_addSpan_43 ?_
        refine a_iload hX dX3_addSpan_46 rfl ?_
        rw [er, ef]
        refine a_isub hX dX3_addSpan_48 ?_
        refine a_callSN [_] hX c_X7_bitsFrom mi_X7_bitsFrom ms_X7_bitsFrom ln_X3_91 (by decide) rfl rfl (Nat.le_of_ble_eq_true rfl) (fun q => q) dX3_addSpan_49 ⟨_, rfl, ?_⟩
        refine a_aload_n hX dX3_addSpan_52 rfl ?_
        refine gf_X3_126 hr hX dX3_addSpan_53 ?_
        refine a_iload hX dX3_addSpan_56 rfl ?_
        rw [er, et]
        refine a_isub hX dX3_addSpan_58 ?_
        refine a_callSN [_] hX c_X7_bitsUpTo mi_X7_bitsUpTo ms_X7_bitsUpTo ln_X3_99 (by decide) rfl rfl (Nat.le_of_ble_eq_true rfl) (fun q => q) dX3_addSpan_59 ⟨_, rfl, ?_⟩
        refine a_iand hX dX3_addSpan_62 ?_
        refine a_ior hX dX3_addSpan_63 ?_
        rw [show nI M * 30 = nI (M * 30) from pk_mul M 30]
        refine a_iast M hX hm rfl (by rw [hl]; omega) dX3_addSpan_64 ?_
        refine a_iinc (ls' := [_, _, _, _, _]) (nI (M + 1)) hX dX3_addSpan_65 rfl (nI_i1 M) rfl ?_
        refine a_goto 27 hX dX3_addSpan_68 (by decide) ?_
        exact ih (M + 1) _ _ (by omega) (by omega) (by omega) (Fr.set hf2 rfl) (fun K hK => by
          rw [wset_1]
          by_cases e : K = M
          · subst e
            rw [if_pos ⟨rfl, rfl⟩]
            refine (BW_day (hb2 K hK) hf ht hK).to (fun k hk => ?_)
            simp
          · rw [if_neg (fun z => e z.2)]
            refine (hb2 K hK).to (fun k hk => ?_)
            rw [show decide (K < M + 1) = decide (K < M) by simp; omega])
  exact L27 (121 - f / 30) (f / 30) w none (by omega) (Nat.le_refl _) (by omega) Fr.rf (fun K hK => (hb K hK).to (fun k hk => by by_cases h9 : K < f / 30 <;> simp [h9]; intro h8; omega))
abbrev T_X3_findSpans : Tr := fun lay av w Po => ∃ (q m k : Nat) (c : Int32), av = [.ref (lay q), .int c, .int (nI k), .ref (lay m)] ∧ (kd q = 1) ∧ (kd m = 10) ∧ (ln m = 120) ∧ (k < 12) ∧ (vP (plF w q)) ∧ ∀ w' : St, Fr w w' (fun z => z = m) → (∀ M, M < 120 → BW (w'.1 m M) (fun d => spB (plF w q) c k (30 * M + d))) → Po none w'
set_option maxRecDepth 100000 in
set_option maxHeartbeats 4000000 in
theorem c_X3_findSpans : Ct yX3_findSpans cX3_findSpans 6 none 2 0 0 T_X3_findSpans := by
  refine Ct.mk (by decide +kernel) ?_
  intro X av w Po hX hR hT
  obtain ⟨q, m, k, c, rfl, hq, hm, hl, hk, hv, h⟩ := hT
  refine ⟨rfl, ?_⟩
  show A X 0 0 0 [some (.ref (xlay X q)), some (.int c), some (.int (nI k)), some (.ref (xlay X m)), none, none] [] w
  refine a_aload_n hX dX3_findSpans_0 rfl ?_
  refine a_iconst (0) hX dX3_findSpans_1 (by decide) ?_
  refine a_callS [_, _] hX c_J7_fill_53178 mi_J7_fill_53178 ms_J7_fill_53178 li_X3_113 (by decide) rfl rfl (Nat.le_of_ble_eq_true rfl) (fun q => q) dX3_findSpans_2 ⟨_, _, rfl, hm, ?_⟩
  intro w2 h2
  refine a_iconst (0) hX dX3_findSpans_5 (by decide) ?_
  refine a_istore (ls' := [_, _, _, _, _, _]) hX dX3_findSpans_6 (Nat.le_of_ble_eq_true rfl) rfl ?_
  have L8 : ∀ (fu : Nat) (i : Nat) (w2 : St) (y : Option Value), 12 - i < fu → (i ≤ 12) → (Fr w w2 (fun z => z = m)) → (∀ M, M < 120 → BW (w2.1 m M) (fun d => spU (plF w q) c k (30 * M + d) i)) → A X 0 0 8 [some (.ref (xlay X q)), some (.int c), some (.int (nI k)), some (.ref (xlay X m)), some (.int (nI i)), y] [] w2 := by
    intro fu
    induction fu with
    | zero => intro i w2 y hmu; exact absurd hmu (Nat.not_lt_zero _)
    | succ fu ih =>
      intro i w2 y hmu hi hf2 hb2
      refine a_iload hX dX3_findSpans_8 rfl ?_
      refine a_bipush (12) hX dX3_findSpans_10 (by decide) ?_
      refine a_icmp_ge 50 hX dX3_findSpans_12 (by decide) (fun c_12 => ?_) (fun c_12 => ?_)
      · refine a_vret hX hR dX3_findSpans_50 ⟨Nat.le_refl _, Nat.le_refl _⟩ ?_
        have hi12 : i = 12 := by
            have := le_of_c (b := 12) c_12 (by omega) (by omega)
            omega
        subst hi12
        exact h _ hf2 hb2
      · have hi12 : i < 12 := lt_of_c (b := 12) c_12 (by omega) (by omega)
        have hne : q + 1 + 4 + i ≠ m := fun e => by
          have := K1_p hq hi12
          rw [e, hm] at this
          exact absurd this (by decide)
        have er : w2.1 (q + 1 + 4 + i) = w.1 (q + 1 + 4 + i) := hf2.2 _ hne
        obtain ⟨f1, hf1, ef1⟩ := (hv i hi12).2.1
        obtain ⟨t1, ht1, et1⟩ := (hv i hi12).2.2.1
        have hc5 : (w2.1 (q + 1 + 4 + i) 0 = c ∧ w2.1 (q + 1 + 4 + i) 5 = -1 ∧ nmP (w2.1 (q + 1 + 4 + i) 4) (nI k)) ↔ (plF w q i 0 = c ∧ plF w q i 5 = -1 ∧ bt (plF w q i 4) k = true) := by
          rw [er, nm_bt (by omega)]
          rfl
        refine a_aload_n hX dX3_findSpans_15 rfl ?_
        refine a_iload hX dX3_findSpans_16 rfl ?_
        refine a_callV [_] hX c_X1_at mi_X1_at mv_X1_at se_X1_at (klt hq (by decide)) (adr_lt (kd_lt hq (by decide))) (cell_1 hq) rfl li_X3_43 (by decide) rfl rfl (Nat.le_of_ble_eq_true rfl) (fun q => q) dX3_findSpans_18 ⟨_, _, rfl, hq, Or.inl ⟨i, hi12, rfl, ?_⟩⟩
        refine a_astore (ls' := [_, _, _, _, _, _]) hX dX3_findSpans_21 (Nat.le_of_ble_eq_true rfl) rfl ?_
        refine a_aload hX dX3_findSpans_23 rfl ?_
        refine a_ifnull hX dX3_findSpans_25 ?_
        refine a_aload hX dX3_findSpans_28 rfl ?_
        refine a_iload_n hX dX3_findSpans_30 rfl ?_
        refine a_iload_n hX dX3_findSpans_31 rfl ?_
        refine a_callV [_, _] hX c_X2_isFor mi_X2_isFor mv_X2_isFor se_X2_isFor (klt (K1_p hq hi12) (by decide)) (adr_lt (kd_lt (K1_p hq hi12) (by decide))) (cell_2 (K1_p hq hi12)) rfl li_X3_119 (by decide) rfl rfl (Nat.le_of_ble_eq_true rfl) (fun q => q) dX3_findSpans_32 ⟨_, _, _, rfl, (K1_p hq hi12), ?_⟩
        refine a_if_eq_b 44 hX dX3_findSpans_35 (by decide) (fun c_35 => ?_) (fun c_35 => ?_)
        · refine a_iinc (ls' := [_, _, _, _, _, _]) (nI (i + 1)) hX dX3_findSpans_44 rfl (nI_i1 i) rfl ?_
          refine a_goto 8 hX dX3_findSpans_47 (by decide) ?_
          exact ih (i + 1) _ _ (by omega) (by omega) (by first | exact hf2.tr h41 | exact hf2) (fun M hM => by
            first
            | exact (hb41 M hM).to (fun d hd => (spU_t (hc5.mp c_35) ef1 et1 hf1 ht1).symm)
            | exact (hb2 M hM).to (fun d hd => (spU_f (fun z => c_35 (hc5.mpr z))).symm))
        · refine a_aload hX dX3_findSpans_38 rfl ?_
          refine a_aload_n hX dX3_findSpans_40 rfl ?_
          refine a_callS [_, _] hX c_X3_addSpan mi_X3_addSpan ms_X3_addSpan li_X3_122 (by decide) rfl rfl (Nat.le_of_ble_eq_true rfl) (fun q => q) dX3_findSpans_41 ⟨_, _, f1, t1, _, rfl, (K1_p hq hi12), hm, hl, hf1, ht1, (by rw [er]; exact ef1), (by rw [er]; exact et1), hb2, ?_⟩
          intro w41 h41 hb41
          refine a_iinc (ls' := [_, _, _, _, _, _]) (nI (i + 1)) hX dX3_findSpans_44 rfl (nI_i1 i) rfl ?_
          refine a_goto 8 hX dX3_findSpans_47 (by decide) ?_
          exact ih (i + 1) _ _ (by omega) (by omega) (by first | exact hf2.tr h41 | exact hf2) (fun M hM => by
            first
            | exact (hb41 M hM).to (fun d hd => (spU_t (hc5.mp c_35) ef1 et1 hf1 ht1).symm)
            | exact (hb2 M hM).to (fun d hd => (spU_f (fun z => c_35 (hc5.mpr z))).symm))
  exact L8 13 0 w2 none (by omega) (by omega) h2.1 (fun M hM => by rw [h2.2 M (by rw [hl]; exact hM)]; exact BW.zero (fun d hd => rfl))
