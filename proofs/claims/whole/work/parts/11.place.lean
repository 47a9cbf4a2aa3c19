/-! Place, Tally -/
abbrev T_X2_wipe : Tr := fun lay av w Po => ∃ (r : Nat), av = [.ref (lay r)] ∧ (kd r = 2) ∧ ∀ w' : St, Fr w w' (fun q => q = r) ∧ (∀ k, k < 9 → w'.1 r k = if k = 5 then -1 else 0) → Po none w'
set_option maxRecDepth 100000 in
set_option maxHeartbeats 4000000 in
theorem c_X2_wipe : Ct yX2_wipe cX2_wipe 1 none 0 0 0 T_X2_wipe := by
  refine Ct.mk (by decide +kernel) ?_
  intro X av w Po hX hR hT
  obtain ⟨r, rfl, hr, h⟩ := hT
  refine ⟨rfl, ?_⟩
  show A X 0 0 0 [some (.ref (xlay X r))] [] w
  refine a_aload_n hX dX2_wipe_0 rfl ?_
  refine a_iconst (0) hX dX2_wipe_1 (by decide) ?_
  refine pf_X2_9 hr hX dX2_wipe_2 ?_
  refine a_aload_n hX dX2_wipe_5 rfl ?_
  refine a_iconst (0) hX dX2_wipe_6 (by decide) ?_
  refine pf_X2_15 hr hX dX2_wipe_7 ?_
  refine a_aload_n hX dX2_wipe_10 rfl ?_
  refine a_iconst (0) hX dX2_wipe_11 (by decide) ?_
  refine pf_X2_18 hr hX dX2_wipe_12 ?_
  refine a_aload_n hX dX2_wipe_15 rfl ?_
  refine a_iconst (0) hX dX2_wipe_16 (by decide) ?_
  refine pf_X2_21 hr hX dX2_wipe_17 ?_
  refine a_aload_n hX dX2_wipe_20 rfl ?_
  refine a_iconst (0) hX dX2_wipe_21 (by decide) ?_
  refine pf_X2_24 hr hX dX2_wipe_22 ?_
  refine a_aload_n hX dX2_wipe_25 rfl ?_
  refine a_iconst (-1) hX dX2_wipe_26 (by decide) ?_
  refine pf_X2_27 hr hX dX2_wipe_27 ?_
  refine a_aload_n hX dX2_wipe_30 rfl ?_
  refine a_iconst (0) hX dX2_wipe_31 (by decide) ?_
  refine pf_X2_30 hr hX dX2_wipe_32 ?_
  refine a_aload_n hX dX2_wipe_35 rfl ?_
  refine a_iconst (0) hX dX2_wipe_36 (by decide) ?_
  refine pf_X2_33 hr hX dX2_wipe_37 ?_
  refine a_aload_n hX dX2_wipe_40 rfl ?_
  refine a_iconst (0) hX dX2_wipe_41 (by decide) ?_
  refine pf_X2_36 hr hX dX2_wipe_42 ?_
  refine a_vret hX hR dX2_wipe_45 ⟨Nat.le_refl _, Nat.le_refl _⟩ ?_
  refine h _ ⟨?_, ?_⟩
  · repeat (refine Fr.set ?_ rfl)
    exact Fr.rf
  · intro k hk
    simp only [wset_1]
    grind
abbrev T_X2_runs : Tr := fun lay av w Po => ∃ (r : Nat), av = [.ref (lay r)] ∧ (kd r = 2) ∧ Po (some (.int (bI (2 ≤ w.1 r 0 ∧ w.1 r 0 ≤ 5)))) w
set_option maxRecDepth 100000 in
set_option maxHeartbeats 4000000 in
theorem c_X2_runs : Ct yX2_runs cX2_runs 1 (some .boolean) 0 0 0 T_X2_runs := by
  refine Ct.mk (by decide +kernel) ?_
  intro X av w Po hX hR hT
  obtain ⟨r, rfl, hr, h⟩ := hT
  refine ⟨rfl, ?_⟩
  show A X 0 0 0 [some (.ref (xlay X r))] [] w
  refine a_aload_n hX dX2_runs_0 rfl ?_
  refine gf_X2_9 hr hX dX2_runs_1 ?_
  refine a_iconst (2) hX dX2_runs_4 (by decide) ?_
  refine a_icmp_lt 20 hX dX2_runs_5 (by decide) (fun c_5 => ?_) (fun c_5 => ?_)
  · refine a_iconst (0) hX dX2_runs_20 (by decide) ?_
    refine a_iret hX hR dX2_runs_21 ⟨Nat.le_refl _, Nat.le_refl _⟩ rfl ?_
    exact po_int h (by grind [bI])
  · refine a_aload_n hX dX2_runs_8 rfl ?_
    refine gf_X2_9 hr hX dX2_runs_9 ?_
    refine a_iconst (5) hX dX2_runs_12 (by decide) ?_
    refine a_icmp_gt 20 hX dX2_runs_13 (by decide) (fun c_13 => ?_) (fun c_13 => ?_)
    · refine a_iconst (0) hX dX2_runs_20 (by decide) ?_
      refine a_iret hX hR dX2_runs_21 ⟨Nat.le_refl _, Nat.le_refl _⟩ rfl ?_
      exact po_int h (by grind [bI])
    · refine a_iconst (1) hX dX2_runs_16 (by decide) ?_
      refine a_goto 21 hX dX2_runs_17 (by decide) ?_
      refine a_iret hX hR dX2_runs_21 ⟨Nat.le_refl _, Nat.le_refl _⟩ rfl ?_
      exact po_int h (by grind [bI])
abbrev T_X2_isQuashed : Tr := fun lay av w Po => ∃ (r : Nat), av = [.ref (lay r)] ∧ (kd r = 2) ∧ Po (some (.int (bI (w.1 r 5 ≠ -1)))) w
set_option maxRecDepth 100000 in
set_option maxHeartbeats 4000000 in
theorem c_X2_isQuashed : Ct yX2_isQuashed cX2_isQuashed 1 (some .boolean) 0 0 0 T_X2_isQuashed := by
  refine Ct.mk (by decide +kernel) ?_
  intro X av w Po hX hR hT
  obtain ⟨r, rfl, hr, h⟩ := hT
  refine ⟨rfl, ?_⟩
  show A X 0 0 0 [some (.ref (xlay X r))] [] w
  refine a_aload_n hX dX2_isQuashed_0 rfl ?_
  refine gf_X2_27 hr hX dX2_isQuashed_1 ?_
  refine a_iconst (-1) hX dX2_isQuashed_4 (by decide) ?_
  refine a_icmp_eq 12 hX dX2_isQuashed_5 (by decide) (fun c_5 => ?_) (fun c_5 => ?_)
  · refine a_iconst (0) hX dX2_isQuashed_12 (by decide) ?_
    refine a_iret hX hR dX2_isQuashed_13 ⟨Nat.le_refl _, Nat.le_refl _⟩ rfl ?_
    exact po_int h (by grind [bI])
  · refine a_iconst (1) hX dX2_isQuashed_8 (by decide) ?_
    refine a_goto 13 hX dX2_isQuashed_9 (by decide) ?_
    refine a_iret hX hR dX2_isQuashed_13 ⟨Nat.le_refl _, Nat.le_refl _⟩ rfl ?_
    exact po_int h (by grind [bI])
abbrev T_X2_stands : Tr := fun lay av w Po => ∃ (r : Nat), av = [.ref (lay r)] ∧ (kd r = 2) ∧ Po (some (.int (bI ((2 ≤ w.1 r 0 ∧ w.1 r 0 ≤ 5) ∧ w.1 r 5 = -1)))) w
set_option maxRecDepth 100000 in
set_option maxHeartbeats 4000000 in
theorem c_X2_stands : Ct yX2_stands cX2_stands 1 (some .boolean) 1 0 0 T_X2_stands := by
  refine Ct.mk (by decide +kernel) ?_
  intro X av w Po hX hR hT
  obtain ⟨r, rfl, hr, h⟩ := hT
  refine ⟨rfl, ?_⟩
  show A X 0 0 0 [some (.ref (xlay X r))] [] w
  refine a_aload_n hX dX2_stands_0 rfl ?_
  refine a_callV [] hX c_X2_runs mi_X2_runs mv_X2_runs se_X2_runs (klt hr (by decide)) (adr_lt (kd_lt hr (by decide))) (cell_2 hr) rfl li_X2_39 (by decide) rfl rfl (Nat.le_of_ble_eq_true rfl) (fun q => q) dX2_stands_1 ⟨_, rfl, (by assumption), ?_⟩
  refine a_if_eq_b 18 hX dX2_stands_4 (by decide) (fun c_4 => ?_) (fun c_4 => ?_)
  · refine a_iconst (0) hX dX2_stands_18 (by decide) ?_
    refine a_iret hX hR dX2_stands_19 ⟨Nat.le_refl _, Nat.le_refl _⟩ rfl ?_
    exact po_int h (by grind [bI])
  · refine a_aload_n hX dX2_stands_7 rfl ?_
    refine a_callV [] hX c_X2_isQuashed mi_X2_isQuashed mv_X2_isQuashed se_X2_isQuashed (klt hr (by decide)) (adr_lt (kd_lt hr (by decide))) (cell_2 hr) rfl li_X2_43 (by decide) rfl rfl (Nat.le_of_ble_eq_true rfl) (fun q => q) dX2_stands_8 ⟨_, rfl, (by assumption), ?_⟩
    refine a_if_ne_b 18 hX dX2_stands_11 (by decide) (fun c_11 => ?_) (fun c_11 => ?_)
    · refine a_iconst (0) hX dX2_stands_18 (by decide) ?_
      refine a_iret hX hR dX2_stands_19 ⟨Nat.le_refl _, Nat.le_refl _⟩ rfl ?_
      exact po_int h (by grind [bI])
    · refine a_iconst (1) hX dX2_stands_14 (by decide) ?_
      refine a_goto 19 hX dX2_stands_15 (by decide) ?_
      refine a_iret hX hR dX2_stands_19 ⟨Nat.le_refl _, Nat.le_refl _⟩ rfl ?_
      exact po_int h (by grind [bI])
abbrev T_X2_mayHaveRule : Tr := fun lay av w Po => ∃ (r : Nat), av = [.ref (lay r)] ∧ (kd r = 2) ∧ Po (some (.int (bI (((2 ≤ w.1 r 0 ∧ w.1 r 0 ≤ 5) ∧ w.1 r 5 = -1) ∧ w.1 r 0 ≠ 5)))) w
set_option maxRecDepth 100000 in
set_option maxHeartbeats 4000000 in
theorem c_X2_mayHaveRule : Ct yX2_mayHaveRule cX2_mayHaveRule 1 (some .boolean) 2 0 0 T_X2_mayHaveRule := by
  refine Ct.mk (by decide +kernel) ?_
  intro X av w Po hX hR hT
  obtain ⟨r, rfl, hr, h⟩ := hT
  refine ⟨rfl, ?_⟩
  show A X 0 0 0 [some (.ref (xlay X r))] [] w
  refine a_aload_n hX dX2_mayHaveRule_0 rfl ?_
  refine a_callV [] hX c_X2_stands mi_X2_stands mv_X2_stands se_X2_stands (klt hr (by decide)) (adr_lt (kd_lt hr (by decide))) (cell_2 hr) rfl li_X2_46 (by decide) rfl rfl (Nat.le_of_ble_eq_true rfl) (fun q => q) dX2_mayHaveRule_1 ⟨_, rfl, (by assumption), ?_⟩
  refine a_if_eq_b 19 hX dX2_mayHaveRule_4 (by decide) (fun c_4 => ?_) (fun c_4 => ?_)
  · refine a_iconst (0) hX dX2_mayHaveRule_19 (by decide) ?_
    refine a_iret hX hR dX2_mayHaveRule_20 ⟨Nat.le_refl _, Nat.le_refl _⟩ rfl ?_
    exact po_int h (by grind [bI])
  · refine a_aload_n hX dX2_mayHaveRule_7 rfl ?_
    refine gf_X2_9 hr hX dX2_mayHaveRule_8 ?_
    refine a_iconst (5) hX dX2_mayHaveRule_11 (by decide) ?_
    refine a_icmp_eq 19 hX dX2_mayHaveRule_12 (by decide) (fun c_12 => ?_) (fun c_12 => ?_)
    · refine a_iconst (0) hX dX2_mayHaveRule_19 (by decide) ?_
      refine a_iret hX hR dX2_mayHaveRule_20 ⟨Nat.le_refl _, Nat.le_refl _⟩ rfl ?_
      exact po_int h (by grind [bI])
    · refine a_iconst (1) hX dX2_mayHaveRule_15 (by decide) ?_
      refine a_goto 20 hX dX2_mayHaveRule_16 (by decide) ?_
      refine a_iret hX hR dX2_mayHaveRule_20 ⟨Nat.le_refl _, Nat.le_refl _⟩ rfl ?_
      exact po_int h (by grind [bI])
abbrev T_X2_isFor : Tr := fun lay av w Po => ∃ (r : Nat) (a p : Int32), av = [.ref (lay r), .int a, .int p] ∧ (kd r = 2) ∧ Po (some (.int (bI (w.1 r 0 = a ∧ w.1 r 5 = -1 ∧ nmP (w.1 r 4) p)))) w
set_option maxRecDepth 100000 in
set_option maxHeartbeats 4000000 in
theorem c_X2_isFor : Ct yX2_isFor cX2_isFor 3 (some .boolean) 1 0 0 T_X2_isFor := by
  refine Ct.mk (by decide +kernel) ?_
  intro X av w Po hX hR hT
  obtain ⟨r, a, p, rfl, hr, h⟩ := hT
  refine ⟨rfl, ?_⟩
  show A X 0 0 0 [some (.ref (xlay X r)), some (.int a), some (.int p)] [] w
  refine a_aload_n hX dX2_isFor_0 rfl ?_
  refine gf_X2_9 hr hX dX2_isFor_1 ?_
  refine a_iload_n hX dX2_isFor_4 rfl ?_
  refine a_icmp_ne 30 hX dX2_isFor_5 (by decide) (fun c_5 => ?_) (fun c_5 => ?_)
  · refine a_iconst (0) hX dX2_isFor_30 (by decide) ?_
    refine a_iret hX hR dX2_isFor_31 ⟨Nat.le_refl _, Nat.le_refl _⟩ rfl ?_
    exact po_int h (by grind [bI])
  · refine a_aload_n hX dX2_isFor_8 rfl ?_
    refine a_callV [] hX c_X2_isQuashed mi_X2_isQuashed mv_X2_isQuashed se_X2_isQuashed (klt hr (by decide)) (adr_lt (kd_lt hr (by decide))) (cell_2 hr) rfl li_X2_43 (by decide) rfl rfl (Nat.le_of_ble_eq_true rfl) (fun q => q) dX2_isFor_9 ⟨_, rfl, (by assumption), ?_⟩
    refine a_if_ne_b 30 hX dX2_isFor_12 (by decide) (fun c_12 => ?_) (fun c_12 => ?_)
    · refine a_iconst (0) hX dX2_isFor_30 (by decide) ?_
      refine a_iret hX hR dX2_isFor_31 ⟨Nat.le_refl _, Nat.le_refl _⟩ rfl ?_
      exact po_int h (by grind [bI])
    · refine a_aload_n hX dX2_isFor_15 rfl ?_
      refine gf_X2_24 hr hX dX2_isFor_16 ?_
      refine a_iload_n hX dX2_isFor_19 rfl ?_
      refine a_callSN [_, _] hX c_X7_names mi_X7_names ms_X7_names ln_X2_49 (by decide) rfl rfl (Nat.le_of_ble_eq_true rfl) (fun q => q) dX2_isFor_20 ⟨_, _, rfl, ?_⟩
      refine a_if_eq_b 30 hX dX2_isFor_23 (by decide) (fun c_23 => ?_) (fun c_23 => ?_)
      · refine a_iconst (0) hX dX2_isFor_30 (by decide) ?_
        refine a_iret hX hR dX2_isFor_31 ⟨Nat.le_refl _, Nat.le_refl _⟩ rfl ?_
        exact po_int h (by grind [bI])
      · refine a_iconst (1) hX dX2_isFor_26 (by decide) ?_
        refine a_goto 31 hX dX2_isFor_27 (by decide) ?_
        refine a_iret hX hR dX2_isFor_31 ⟨Nat.le_refl _, Nat.le_refl _⟩ rfl ?_
        exact po_int h (by grind [bI])
abbrev T_X2_mostTaken : Tr := fun lay av w Po => ∃ (r : Nat), av = [.ref (lay r)] ∧ (kd r = 2) ∧ Po (some (.int (w.1 r 3 - (w.1 r 3 * w.1 r 7 + 999) / 1000))) w
set_option maxRecDepth 100000 in
set_option maxHeartbeats 4000000 in
theorem c_X2_mostTaken : Ct yX2_mostTaken cX2_mostTaken 1 (some .int) 1 0 0 T_X2_mostTaken := by
  refine Ct.mk (by decide +kernel) ?_
  intro X av w Po hX hR hT
  obtain ⟨r, rfl, hr, h⟩ := hT
  refine ⟨rfl, ?_⟩
  show A X 0 0 0 [some (.ref (xlay X r))] [] w
  refine a_aload_n hX dX2_mostTaken_0 rfl ?_
  refine gf_X2_21 hr hX dX2_mostTaken_1 ?_
  refine a_aload_n hX dX2_mostTaken_4 rfl ?_
  refine gf_X2_21 hr hX dX2_mostTaken_5 ?_
  refine a_aload_n hX dX2_mostTaken_8 rfl ?_
  refine gf_X2_33 hr hX dX2_mostTaken_9 ?_
  refine a_callSN [_, _] hX c_X7_part mi_X7_part ms_X7_part ln_X2_53 (by decide) rfl rfl (Nat.le_of_ble_eq_true rfl) (fun q => q) dX2_mostTaken_12 ⟨_, _, rfl, ?_⟩
  refine a_isub hX dX2_mostTaken_15 ?_
  refine a_iret hX hR dX2_mostTaken_16 ⟨Nat.le_refl _, Nat.le_refl _⟩ rfl ?_
  exact h
abbrev T_X6_start : Tr := fun lay av w Po => ∃ (r : Nat), av = [.ref (lay 216), .ref (lay r)] ∧ (kd r = 2) ∧ ∀ w' : St, Fr w w' (fun q => q = 216) ∧ (w'.1 216 0 = w.1 r 6 ∧ w'.1 216 1 = w.1 r 3 - (w.1 r 3 * w.1 r 7 + 999) / 1000 ∧ w'.1 216 2 = w.1 r 8 ∧ w'.1 216 3 = 0 ∧ w'.1 216 4 = 0 ∧ w'.1 216 5 = 0) → Po none w'
set_option maxRecDepth 100000 in
set_option maxHeartbeats 4000000 in
theorem c_X6_start : Ct yX6_start cX6_start 2 none 2 0 0 T_X6_start := by
  refine Ct.mk (by decide +kernel) ?_
  intro X av w Po hX hR hT
  obtain ⟨r, rfl, hr, h⟩ := hT
  refine ⟨rfl, ?_⟩
  show A X 0 0 0 [some (.ref (xlay X 216)), some (.ref (xlay X r))] [] w
  refine a_aload_n hX dX6_start_0 rfl ?_
  refine a_aload_n hX dX6_start_1 rfl ?_
  refine gf_X6_30 hr hX dX6_start_2 ?_
  refine pf_X6_9 rfl hX dX6_start_5 ?_
  refine a_aload_n hX dX6_start_8 rfl ?_
  refine a_aload_n hX dX6_start_9 rfl ?_
  refine a_callV [] hX c_X2_mostTaken mi_X2_mostTaken mv_X2_mostTaken se_X2_mostTaken (klt hr (by decide)) (adr_lt (kd_lt hr (by decide))) (cell_2 hr) rfl li_X6_33 (by decide) rfl rfl (Nat.le_of_ble_eq_true rfl) (fun q => q) dX6_start_10 ⟨_, rfl, (by assumption), ?_⟩
  refine pf_X6_15 rfl hX dX6_start_13 ?_
  refine a_aload_n hX dX6_start_16 rfl ?_
  refine a_aload_n hX dX6_start_17 rfl ?_
  refine gf_X6_36 hr hX dX6_start_18 ?_
  refine pf_X6_18 rfl hX dX6_start_21 ?_
  refine a_aload_n hX dX6_start_24 rfl ?_
  refine a_iconst (0) hX dX6_start_25 (by decide) ?_
  refine pf_X6_21 rfl hX dX6_start_26 ?_
  refine a_aload_n hX dX6_start_29 rfl ?_
  refine a_iconst (0) hX dX6_start_30 (by decide) ?_
  refine pf_X6_24 rfl hX dX6_start_31 ?_
  refine a_aload_n hX dX6_start_34 rfl ?_
  refine a_iconst (0) hX dX6_start_35 (by decide) ?_
  refine pf_X6_27 rfl hX dX6_start_36 ?_
  refine a_vret hX hR dX6_start_39 ⟨Nat.le_refl _, Nat.le_refl _⟩ ?_
  have hne : r ≠ 216 := fun e => absurd (e ▸ hr) (by decide)
  refine h _ ⟨?_, ?_⟩
  · repeat (refine Fr.set ?_ rfl)
    exact Fr.rf
  · simp [wset_1, hne]
/-- TAKEN when the row that goes on is longer by a -/
def tkW (f : Nat → Int32) (a : Int32) : Int32 := if 0 < f 0 then (if f 4 + (f 5 + a) / f 0 < f 1 then f 4 + (f 5 + a) / f 0 else f 1) else 0
def rcW (f : Nat → Int32) (a : Int32) : Int32 := f 3 + a + (if 0 < tkW f a - f 2 then tkW f a - f 2 else 0)
abbrev T_X6_takenWith : Tr := fun lay av w Po => ∃ (a : Int32), av = [.ref (lay 216), .int a] ∧ Po (some (.int (tkW (w.1 216) a))) w
set_option maxRecDepth 100000 in
set_option maxHeartbeats 4000000 in
theorem c_X6_takenWith : Ct yX6_takenWith cX6_takenWith 2 (some .int) 1 0 0 T_X6_takenWith := by
  refine Ct.mk (by decide +kernel) ?_
  intro X av w Po hX hR hT
  obtain ⟨a, rfl, h⟩ := hT
  refine ⟨rfl, ?_⟩
  show A X 0 0 0 [some (.ref (xlay X 216)), some (.int a)] [] w
  refine a_aload_n hX dX6_takenWith_0 rfl ?_
  refine gf_X6_9 rfl hX dX6_takenWith_1 ?_
  refine a_if_le 33 hX dX6_takenWith_4 (by decide) (fun c_4 => ?_) (fun c_4 => ?_)
  · refine a_iconst (0) hX dX6_takenWith_33 (by decide) ?_
    refine a_iret hX hR dX6_takenWith_34 ⟨Nat.le_refl _, Nat.le_refl _⟩ rfl ?_
    exact po_int h (by unfold tkW; grind)
  · refine a_aload_n hX dX6_takenWith_7 rfl ?_
    refine gf_X6_15 rfl hX dX6_takenWith_8 ?_
    refine a_aload_n hX dX6_takenWith_11 rfl ?_
    refine gf_X6_24 rfl hX dX6_takenWith_12 ?_
    refine a_aload_n hX dX6_takenWith_15 rfl ?_
    refine gf_X6_27 rfl hX dX6_takenWith_16 ?_
    refine a_iload_n hX dX6_takenWith_19 rfl ?_
    refine a_iadd hX dX6_takenWith_20 ?_
    refine a_aload_n hX dX6_takenWith_21 rfl ?_
    refine gf_X6_9 rfl hX dX6_takenWith_22 ?_
    refine a_idiv hX dX6_takenWith_25 (fun z => by grind) ?_
    refine a_iadd hX dX6_takenWith_26 ?_
    refine a_mmin hX (by decide) rfl (Nat.le_of_ble_eq_true rfl) dX6_takenWith_27 li_X6_37 ?_
    refine a_goto 34 hX dX6_takenWith_30 (by decide) ?_
    refine a_iret hX hR dX6_takenWith_34 ⟨Nat.le_refl _, Nat.le_refl _⟩ rfl ?_
    exact po_int h (by unfold tkW; grind)
abbrev T_X6_reachedWith : Tr := fun lay av w Po => ∃ (a : Int32), av = [.ref (lay 216), .int a] ∧ Po (some (.int (rcW (w.1 216) a))) w
set_option maxRecDepth 100000 in
set_option maxHeartbeats 4000000 in
theorem c_X6_reachedWith : Ct yX6_reachedWith cX6_reachedWith 2 (some .int) 2 0 0 T_X6_reachedWith := by
  refine Ct.mk (by decide +kernel) ?_
  intro X av w Po hX hR hT
  obtain ⟨a, rfl, h⟩ := hT
  refine ⟨rfl, ?_⟩
  show A X 0 0 0 [some (.ref (xlay X 216)), some (.int a)] [] w
  refine a_aload_n hX dX6_reachedWith_0 rfl ?_
  refine gf_X6_21 rfl hX dX6_reachedWith_1 ?_
  refine a_iload_n hX dX6_reachedWith_4 rfl ?_
  refine a_iadd hX dX6_reachedWith_5 ?_
  refine a_iconst (0) hX dX6_reachedWith_6 (by decide) ?_
  refine a_aload_n hX dX6_reachedWith_7 rfl ?_
  refine a_iload_n hX dX6_reachedWith_8 rfl ?_
  refine a_callV [_] hX c_X6_takenWith mi_X6_takenWith mv_X6_takenWith se_X6_takenWith (klt rfl (by decide)) (adr_lt (kd_lt rfl (by decide))) (cell_6 rfl) rfl li_X6_43 (by decide) rfl rfl (Nat.le_of_ble_eq_true rfl) (fun q => q) dX6_reachedWith_9 ⟨_, rfl, ?_⟩
  refine a_aload_n hX dX6_reachedWith_12 rfl ?_
  refine gf_X6_18 rfl hX dX6_reachedWith_13 ?_
  refine a_isub hX dX6_reachedWith_16 ?_
  refine a_mmax hX (by decide) rfl (Nat.le_of_ble_eq_true rfl) dX6_reachedWith_17 li_X6_47 ?_
  refine a_iadd hX dX6_reachedWith_20 ?_
  refine a_iret hX hR dX6_reachedWith_21 ⟨Nat.le_refl _, Nat.le_refl _⟩ rfl ?_
  exact po_int h (by unfold rcW; grind)
abbrev T_X6_addDays : Tr := fun lay av w Po => ∃ (a : Int32), av = [.ref (lay 216), .int a] ∧ ∀ w' : St, Fr w w' (fun q => q = 216) ∧ w'.1 216 = upd (upd (w.1 216) 3 (w.1 216 3 + a)) 5 (w.1 216 5 + a) → Po none w'
set_option maxRecDepth 100000 in
set_option maxHeartbeats 4000000 in
theorem c_X6_addDays : Ct yX6_addDays cX6_addDays 2 none 0 0 0 T_X6_addDays := by
  refine Ct.mk (by decide +kernel) ?_
  intro X av w Po hX hR hT
  obtain ⟨a, rfl, h⟩ := hT
  refine ⟨rfl, ?_⟩
  show A X 0 0 0 [some (.ref (xlay X 216)), some (.int a)] [] w
  refine a_aload_n hX dX6_addDays_0 rfl ?_
  refine a_dup hX dX6_addDays_1 rfl ?_
  refine gf_X6_21 rfl hX dX6_addDays_2 ?_
  refine a_iload_n hX dX6_addDays_5 rfl ?_
  refine a_iadd hX dX6_addDays_6 ?_
  refine pf_X6_21 rfl hX dX6_addDays_7 ?_
  refine a_aload_n hX dX6_addDays_10 rfl ?_
  refine a_dup hX dX6_addDays_11 rfl ?_
  refine gf_X6_27 rfl hX dX6_addDays_12 ?_
  refine a_iload_n hX dX6_addDays_15 rfl ?_
  refine a_iadd hX dX6_addDays_16 ?_
  refine pf_X6_27 rfl hX dX6_addDays_17 ?_
  refine a_vret hX hR dX6_addDays_20 ⟨Nat.le_refl _, Nat.le_refl _⟩ ?_
  refine h _ ⟨?_, ?_⟩
  · repeat (refine Fr.set ?_ rfl)
    exact Fr.rf
  · simp [wset_row, upd]
def brR (f : Nat → Int32) : Nat → Int32 := upd (upd f 4 (if 0 < f 0 then f 4 + f 5 / f 0 else f 4)) 5 0
abbrev T_X6_breakRow : Tr := fun lay av w Po => av = [.ref (lay 216)] ∧ ∀ w' : St, Fr w w' (fun q => q = 216) ∧ w'.1 216 = brR (w.1 216) → Po none w'
set_option maxRecDepth 100000 in
set_option maxHeartbeats 4000000 in
theorem c_X6_breakRow : Ct yX6_breakRow cX6_breakRow 1 none 0 0 0 T_X6_breakRow := by
  refine Ct.mk (by decide +kernel) ?_
  intro X av w Po hX hR hT
  obtain ⟨rfl, h⟩ := hT
  refine ⟨rfl, ?_⟩
  show A X 0 0 0 [some (.ref (xlay X 216))] [] w
  refine a_aload_n hX dX6_breakRow_0 rfl ?_
  refine gf_X6_9 rfl hX dX6_breakRow_1 ?_
  refine a_if_le 25 hX dX6_breakRow_4 (by decide) (fun c_4 => ?_) (fun c_4 => ?_)
  · refine a_aload_n hX dX6_breakRow_25 rfl ?_
    refine a_iconst (0) hX dX6_breakRow_26 (by decide) ?_
    refine pf_X6_27 rfl hX dX6_breakRow_27 ?_
    refine a_vret hX hR dX6_breakRow_30 ⟨Nat.le_refl _, Nat.le_refl _⟩ ?_
    refine h _ ⟨?_, ?_⟩
    · repeat (refine Fr.set ?_ rfl)
      exact Fr.rf
    · funext j
      simp only [wset_row, brR, upd]
      grind
  · refine a_aload_n hX dX6_breakRow_7 rfl ?_
    refine a_dup hX dX6_breakRow_8 rfl ?_
    refine gf_X6_24 rfl hX dX6_breakRow_9 ?_
    refine a_aload_n hX dX6_breakRow_12 rfl ?_
    refine gf_X6_27 rfl hX dX6_breakRow_13 ?_
    refine a_aload_n hX dX6_breakRow_16 rfl ?_
    refine gf_X6_9 rfl hX dX6_breakRow_17 ?_
    refine a_idiv hX dX6_breakRow_20 (fun z => by grind) ?_
    refine a_iadd hX dX6_breakRow_21 ?_
    refine pf_X6_24 rfl hX dX6_breakRow_22 ?_
    refine a_aload_n hX dX6_breakRow_25 rfl ?_
    refine a_iconst (0) hX dX6_breakRow_26 (by decide) ?_
    refine pf_X6_27 rfl hX dX6_breakRow_27 ?_
    refine a_vret hX hR dX6_breakRow_30 ⟨Nat.le_refl _, Nat.le_refl _⟩ ?_
    refine h _ ⟨?_, ?_⟩
    · repeat (refine Fr.set ?_ rfl)
      exact Fr.rf
    · funext j
      simp only [wset_row, brR, upd]
      grind
