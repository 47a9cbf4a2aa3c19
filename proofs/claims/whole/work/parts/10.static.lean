/-! static helpers of the class -/
abbrev T_X7_isDay : Tr := fun lay av w Po => ∃ (a : Int32), av = [.int a] ∧ Po (some (.int (bI (0 ≤ a ∧ a < 3600)))) w
set_option maxRecDepth 100000 in
set_option maxHeartbeats 4000000 in
theorem c_X7_isDay : Ct yX7_isDay cX7_isDay 1 (some .boolean) 0 0 0 T_X7_isDay := by
  refine Ct.mk (by decide +kernel) ?_
  intro X av w Po hX hR hT
  obtain ⟨a, rfl, h⟩ := hT
  refine ⟨rfl, ?_⟩
  show A X 0 0 0 [some (.int a)] [] w
  refine a_iload_n hX dX7_isDay_0 rfl ?_
  refine a_if_lt 15 hX dX7_isDay_1 (by decide) (fun c_1 => ?_) (fun c_1 => ?_)
  · refine a_iconst (0) hX dX7_isDay_15 (by decide) ?_
    refine a_iret hX hR dX7_isDay_16 ⟨Nat.le_refl _, Nat.le_refl _⟩ rfl ?_
    exact po_int h (by grind [bI])
  · refine a_iload_n hX dX7_isDay_4 rfl ?_
    refine a_sipush (3600) hX dX7_isDay_5 (by decide) ?_
    refine a_icmp_ge 15 hX dX7_isDay_8 (by decide) (fun c_8 => ?_) (fun c_8 => ?_)
    · refine a_iconst (0) hX dX7_isDay_15 (by decide) ?_
      refine a_iret hX hR dX7_isDay_16 ⟨Nat.le_refl _, Nat.le_refl _⟩ rfl ?_
      exact po_int h (by grind [bI])
    · refine a_iconst (1) hX dX7_isDay_11 (by decide) ?_
      refine a_goto 16 hX dX7_isDay_12 (by decide) ?_
      refine a_iret hX hR dX7_isDay_16 ⟨Nat.le_refl _, Nat.le_refl _⟩ rfl ?_
      exact po_int h (by grind [bI])
abbrev T_X7_isMonth : Tr := fun lay av w Po => ∃ (a : Int32), av = [.int a] ∧ Po (some (.int (bI (0 ≤ a ∧ a < 120)))) w
set_option maxRecDepth 100000 in
set_option maxHeartbeats 4000000 in
theorem c_X7_isMonth : Ct yX7_isMonth cX7_isMonth 1 (some .boolean) 0 0 0 T_X7_isMonth := by
  refine Ct.mk (by decide +kernel) ?_
  intro X av w Po hX hR hT
  obtain ⟨a, rfl, h⟩ := hT
  refine ⟨rfl, ?_⟩
  show A X 0 0 0 [some (.int a)] [] w
  refine a_iload_n hX dX7_isMonth_0 rfl ?_
  refine a_if_lt 14 hX dX7_isMonth_1 (by decide) (fun c_1 => ?_) (fun c_1 => ?_)
  · refine a_iconst (0) hX dX7_isMonth_14 (by decide) ?_
    refine a_iret hX hR dX7_isMonth_15 ⟨Nat.le_refl _, Nat.le_refl _⟩ rfl ?_
    exact po_int h (by grind [bI])
  · refine a_iload_n hX dX7_isMonth_4 rfl ?_
    refine a_bipush (120) hX dX7_isMonth_5 (by decide) ?_
    refine a_icmp_ge 14 hX dX7_isMonth_7 (by decide) (fun c_7 => ?_) (fun c_7 => ?_)
    · refine a_iconst (0) hX dX7_isMonth_14 (by decide) ?_
      refine a_iret hX hR dX7_isMonth_15 ⟨Nat.le_refl _, Nat.le_refl _⟩ rfl ?_
      exact po_int h (by grind [bI])
    · refine a_iconst (1) hX dX7_isMonth_10 (by decide) ?_
      refine a_goto 15 hX dX7_isMonth_11 (by decide) ?_
      refine a_iret hX hR dX7_isMonth_15 ⟨Nat.le_refl _, Nat.le_refl _⟩ rfl ?_
      exact po_int h (by grind [bI])
abbrev T_X7_isPlace : Tr := fun lay av w Po => ∃ (a : Int32), av = [.int a] ∧ Po (some (.int (bI (0 ≤ a ∧ a < 12)))) w
set_option maxRecDepth 100000 in
set_option maxHeartbeats 4000000 in
theorem c_X7_isPlace : Ct yX7_isPlace cX7_isPlace 1 (some .boolean) 0 0 0 T_X7_isPlace := by
  refine Ct.mk (by decide +kernel) ?_
  intro X av w Po hX hR hT
  obtain ⟨a, rfl, h⟩ := hT
  refine ⟨rfl, ?_⟩
  show A X 0 0 0 [some (.int a)] [] w
  refine a_iload_n hX dX7_isPlace_0 rfl ?_
  refine a_if_lt 14 hX dX7_isPlace_1 (by decide) (fun c_1 => ?_) (fun c_1 => ?_)
  · refine a_iconst (0) hX dX7_isPlace_14 (by decide) ?_
    refine a_iret hX hR dX7_isPlace_15 ⟨Nat.le_refl _, Nat.le_refl _⟩ rfl ?_
    exact po_int h (by grind [bI])
  · refine a_iload_n hX dX7_isPlace_4 rfl ?_
    refine a_bipush (12) hX dX7_isPlace_5 (by decide) ?_
    refine a_icmp_ge 14 hX dX7_isPlace_7 (by decide) (fun c_7 => ?_) (fun c_7 => ?_)
    · refine a_iconst (0) hX dX7_isPlace_14 (by decide) ?_
      refine a_iret hX hR dX7_isPlace_15 ⟨Nat.le_refl _, Nat.le_refl _⟩ rfl ?_
      exact po_int h (by grind [bI])
    · refine a_iconst (1) hX dX7_isPlace_10 (by decide) ?_
      refine a_goto 15 hX dX7_isPlace_11 (by decide) ?_
      refine a_iret hX hR dX7_isPlace_15 ⟨Nat.le_refl _, Nat.le_refl _⟩ rfl ?_
      exact po_int h (by grind [bI])
abbrev T_X7_isNeed : Tr := fun lay av w Po => ∃ (a : Int32), av = [.int a] ∧ Po (some (.int (bI (1 ≤ a ∧ a ≤ 3600)))) w
set_option maxRecDepth 100000 in
set_option maxHeartbeats 4000000 in
theorem c_X7_isNeed : Ct yX7_isNeed cX7_isNeed 1 (some .boolean) 0 0 0 T_X7_isNeed := by
  refine Ct.mk (by decide +kernel) ?_
  intro X av w Po hX hR hT
  obtain ⟨a, rfl, h⟩ := hT
  refine ⟨rfl, ?_⟩
  show A X 0 0 0 [some (.int a)] [] w
  refine a_iload_n hX dX7_isNeed_0 rfl ?_
  refine a_iconst (1) hX dX7_isNeed_1 (by decide) ?_
  refine a_icmp_lt 16 hX dX7_isNeed_2 (by decide) (fun c_2 => ?_) (fun c_2 => ?_)
  · refine a_iconst (0) hX dX7_isNeed_16 (by decide) ?_
    refine a_iret hX hR dX7_isNeed_17 ⟨Nat.le_refl _, Nat.le_refl _⟩ rfl ?_
    exact po_int h (by grind [bI])
  · refine a_iload_n hX dX7_isNeed_5 rfl ?_
    refine a_sipush (3600) hX dX7_isNeed_6 (by decide) ?_
    refine a_icmp_gt 16 hX dX7_isNeed_9 (by decide) (fun c_9 => ?_) (fun c_9 => ?_)
    · refine a_iconst (0) hX dX7_isNeed_16 (by decide) ?_
      refine a_iret hX hR dX7_isNeed_17 ⟨Nat.le_refl _, Nat.le_refl _⟩ rfl ?_
      exact po_int h (by grind [bI])
    · refine a_iconst (1) hX dX7_isNeed_12 (by decide) ?_
      refine a_goto 17 hX dX7_isNeed_13 (by decide) ?_
      refine a_iret hX hR dX7_isNeed_17 ⟨Nat.le_refl _, Nat.le_refl _⟩ rfl ?_
      exact po_int h (by grind [bI])
abbrev T_X7_isSet : Tr := fun lay av w Po => ∃ (a : Int32), av = [.int a] ∧ Po (some (.int (bI (0 ≤ a ∧ a < 4096)))) w
set_option maxRecDepth 100000 in
set_option maxHeartbeats 4000000 in
theorem c_X7_isSet : Ct yX7_isSet cX7_isSet 1 (some .boolean) 0 0 0 T_X7_isSet := by
  refine Ct.mk (by decide +kernel) ?_
  intro X av w Po hX hR hT
  obtain ⟨a, rfl, h⟩ := hT
  refine ⟨rfl, ?_⟩
  show A X 0 0 0 [some (.int a)] [] w
  refine a_iload_n hX dX7_isSet_0 rfl ?_
  refine a_if_lt 15 hX dX7_isSet_1 (by decide) (fun c_1 => ?_) (fun c_1 => ?_)
  · refine a_iconst (0) hX dX7_isSet_15 (by decide) ?_
    refine a_iret hX hR dX7_isSet_16 ⟨Nat.le_refl _, Nat.le_refl _⟩ rfl ?_
    exact po_int h (by grind [bI])
  · refine a_iload_n hX dX7_isSet_4 rfl ?_
    refine a_sipush (4096) hX dX7_isSet_5 (by decide) ?_
    refine a_icmp_ge 15 hX dX7_isSet_8 (by decide) (fun c_8 => ?_) (fun c_8 => ?_)
    · refine a_iconst (0) hX dX7_isSet_15 (by decide) ?_
      refine a_iret hX hR dX7_isSet_16 ⟨Nat.le_refl _, Nat.le_refl _⟩ rfl ?_
      exact po_int h (by grind [bI])
    · refine a_iconst (1) hX dX7_isSet_11 (by decide) ?_
      refine a_goto 16 hX dX7_isSet_12 (by decide) ?_
      refine a_iret hX hR dX7_isSet_16 ⟨Nat.le_refl _, Nat.le_refl _⟩ rfl ?_
      exact po_int h (by grind [bI])
abbrev T_X7_names : Tr := fun lay av w Po => ∃ (s p : Int32), av = [.int s, .int p] ∧ Po (some (.int (bI (nmP s p)))) w
set_option maxRecDepth 100000 in
set_option maxHeartbeats 4000000 in
theorem c_X7_names : Ct yX7_names cX7_names 2 (some .boolean) 0 0 0 T_X7_names := by
  refine Ct.mk (by decide +kernel) ?_
  intro X av w Po hX hR hT
  obtain ⟨s, p, rfl, h⟩ := hT
  refine ⟨rfl, ?_⟩
  show A X 0 0 0 [some (.int s), some (.int p)] [] w
  refine a_iload_n hX dX7_names_0 rfl ?_
  refine a_iload_n hX dX7_names_1 rfl ?_
  refine a_ishr hX dX7_names_2 ?_
  refine a_iconst (1) hX dX7_names_3 (by decide) ?_
  refine a_iand hX dX7_names_4 ?_
  refine a_if_eq 12 hX dX7_names_5 (by decide) (fun c_5 => ?_) (fun c_5 => ?_)
  · refine a_iconst (0) hX dX7_names_12 (by decide) ?_
    refine a_iret hX hR dX7_names_13 ⟨Nat.le_refl _, Nat.le_refl _⟩ rfl ?_
    exact po_int h (by grind [bI])
  · refine a_iconst (1) hX dX7_names_8 (by decide) ?_
    refine a_goto 13 hX dX7_names_9 (by decide) ?_
    refine a_iret hX hR dX7_names_13 ⟨Nat.le_refl _, Nat.le_refl _⟩ rfl ?_
    exact po_int h (by grind [bI])
abbrev T_X7_part : Tr := fun lay av w Po => ∃ (a t : Int32), av = [.int a, .int t] ∧ Po (some (.int ((a * t + 999) / 1000))) w
set_option maxRecDepth 100000 in
set_option maxHeartbeats 4000000 in
theorem c_X7_part : Ct yX7_part cX7_part 2 (some .int) 0 0 0 T_X7_part := by
  refine Ct.mk (by decide +kernel) ?_
  intro X av w Po hX hR hT
  obtain ⟨a, t, rfl, h⟩ := hT
  refine ⟨rfl, ?_⟩
  show A X 0 0 0 [some (.int a), some (.int t)] [] w
  refine a_iload_n hX dX7_part_0 rfl ?_
  refine a_iload_n hX dX7_part_1 rfl ?_
  refine a_imul hX dX7_part_2 ?_
  refine a_sipush (999) hX dX7_part_3 (by decide) ?_
  refine a_iadd hX dX7_part_6 ?_
  refine a_sipush (1000) hX dX7_part_7 (by decide) ?_
  refine a_idiv hX dX7_part_10 (by decide) ?_
  refine a_iret hX hR dX7_part_11 ⟨Nat.le_refl _, Nat.le_refl _⟩ rfl ?_
  exact h
abbrev T_X7_dayOrNone : Tr := fun lay av w Po => ∃ (a : Int32), av = [.int a] ∧ Po (some (.int (if 0 ≤ a ∧ a < 3600 then a else -1))) w
set_option maxRecDepth 100000 in
set_option maxHeartbeats 4000000 in
theorem c_X7_dayOrNone : Ct yX7_dayOrNone cX7_dayOrNone 1 (some .int) 1 0 0 T_X7_dayOrNone := by
  refine Ct.mk (by decide +kernel) ?_
  intro X av w Po hX hR hT
  obtain ⟨a, rfl, h⟩ := hT
  refine ⟨rfl, ?_⟩
  show A X 0 0 0 [some (.int a)] [] w
  refine a_iload_n hX dX7_dayOrNone_0 rfl ?_
  refine a_callS [_] hX c_X7_isDay mi_X7_isDay ms_X7_isDay li_X7_52 (by decide) rfl rfl (Nat.le_of_ble_eq_true rfl) (fun q => q) dX7_dayOrNone_1 ⟨_, rfl, ?_⟩
  refine a_if_eq_b 11 hX dX7_dayOrNone_4 (by decide) (fun c_4 => ?_) (fun c_4 => ?_)
  · refine a_iconst (-1) hX dX7_dayOrNone_11 (by decide) ?_
    refine a_iret hX hR dX7_dayOrNone_12 ⟨Nat.le_refl _, Nat.le_refl _⟩ rfl ?_
    exact po_int h (by first | exact if_pos ‹_› | exact if_neg ‹_›)
  · refine a_iload_n hX dX7_dayOrNone_7 rfl ?_
    refine a_goto 12 hX dX7_dayOrNone_8 (by decide) ?_
    refine a_iret hX hR dX7_dayOrNone_12 ⟨Nat.le_refl _, Nat.le_refl _⟩ rfl ?_
    exact po_int h (by first | exact if_pos ‹_› | exact if_neg ‹_›)
abbrev T_X7_bitsFrom : Tr := fun lay av w Po => ∃ (a : Int32), av = [.int a] ∧ Po (some (.int (bFrom a))) w
set_option maxRecDepth 100000 in
set_option maxHeartbeats 4000000 in
theorem c_X7_bitsFrom : Ct yX7_bitsFrom cX7_bitsFrom 1 (some .int) 0 0 0 T_X7_bitsFrom := by
  refine Ct.mk (by decide +kernel) ?_
  intro X av w Po hX hR hT
  obtain ⟨a, rfl, h⟩ := hT
  refine ⟨rfl, ?_⟩
  show A X 0 0 0 [some (.int a)] [] w
  refine a_iload_n hX dX7_bitsFrom_0 rfl ?_
  refine a_if_gt 8 hX dX7_bitsFrom_1 (by decide) (fun c_1 => ?_) (fun c_1 => ?_)
  · refine a_iload_n hX dX7_bitsFrom_8 rfl ?_
    refine a_bipush (30) hX dX7_bitsFrom_9 (by decide) ?_
    refine a_icmp_ge 26 hX dX7_bitsFrom_11 (by decide) (fun c_11 => ?_) (fun c_11 => ?_)
    · refine a_iconst (0) hX dX7_bitsFrom_26 (by decide) ?_
      refine a_iret hX hR dX7_bitsFrom_27 ⟨Nat.le_refl _, Nat.le_refl _⟩ rfl ?_
      exact po_int h (by unfold bFrom; grind)
    · refine a_ldcw hX dX7_bitsFrom_14 co_X7_268 ?_
      refine a_ldcw hX dX7_bitsFrom_17 co_X7_268 ?_
      refine a_iload_n hX dX7_bitsFrom_20 rfl ?_
      refine a_ishl hX dX7_bitsFrom_21 ?_
      refine a_iand hX dX7_bitsFrom_22 ?_
      refine a_goto 27 hX dX7_bitsFrom_23 (by decide) ?_
      refine a_iret hX hR dX7_bitsFrom_27 ⟨Nat.le_refl _, Nat.le_refl _⟩ rfl ?_
      exact po_int h (by unfold bFrom; grind)
  · refine a_ldcw hX dX7_bitsFrom_4 co_X7_268 ?_
    refine a_iret hX hR dX7_bitsFrom_7 ⟨Nat.le_refl _, Nat.le_refl _⟩ rfl ?_
    exact po_int h (by unfold bFrom; grind)
abbrev T_X7_bitsUpTo : Tr := fun lay av w Po => ∃ (a : Int32), av = [.int a] ∧ Po (some (.int (bUpTo a))) w
set_option maxRecDepth 100000 in
set_option maxHeartbeats 4000000 in
theorem c_X7_bitsUpTo : Ct yX7_bitsUpTo cX7_bitsUpTo 1 (some .int) 0 0 0 T_X7_bitsUpTo := by
  refine Ct.mk (by decide +kernel) ?_
  intro X av w Po hX hR hT
  obtain ⟨a, rfl, h⟩ := hT
  refine ⟨rfl, ?_⟩
  show A X 0 0 0 [some (.int a)] [] w
  refine a_iload_n hX dX7_bitsUpTo_0 rfl ?_
  refine a_if_ge 6 hX dX7_bitsUpTo_1 (by decide) (fun c_1 => ?_) (fun c_1 => ?_)
  · refine a_iload_n hX dX7_bitsUpTo_6 rfl ?_
    refine a_bipush (29) hX dX7_bitsUpTo_7 (by decide) ?_
    refine a_icmp_ge 22 hX dX7_bitsUpTo_9 (by decide) (fun c_9 => ?_) (fun c_9 => ?_)
    · refine a_ldcw hX dX7_bitsUpTo_22 co_X7_268 ?_
      refine a_iret hX hR dX7_bitsUpTo_25 ⟨Nat.le_refl _, Nat.le_refl _⟩ rfl ?_
      exact po_int h (by unfold bUpTo; grind)
    · refine a_iconst (1) hX dX7_bitsUpTo_12 (by decide) ?_
      refine a_iload_n hX dX7_bitsUpTo_13 rfl ?_
      refine a_iconst (1) hX dX7_bitsUpTo_14 (by decide) ?_
      refine a_iadd hX dX7_bitsUpTo_15 ?_
      refine a_ishl hX dX7_bitsUpTo_16 ?_
      refine a_iconst (1) hX dX7_bitsUpTo_17 (by decide) ?_
      refine a_isub hX dX7_bitsUpTo_18 ?_
      refine a_goto 25 hX dX7_bitsUpTo_19 (by decide) ?_
      refine a_iret hX hR dX7_bitsUpTo_25 ⟨Nat.le_refl _, Nat.le_refl _⟩ rfl ?_
      exact po_int h (by unfold bUpTo; grind)
  · refine a_iconst (0) hX dX7_bitsUpTo_4 (by decide) ?_
    refine a_iret hX hR dX7_bitsUpTo_5 ⟨Nat.le_refl _, Nat.le_refl _⟩ rfl ?_
    exact po_int h (by unfold bUpTo; grind)
abbrev T_X7_isBehind : Tr := fun lay av w Po => ∃ (i : Nat) (a : Int32), av = [.ref (w.2.2.2 i), .int a] ∧ (i < w.2.2.1) ∧ Po (some (.int (bI (a < w.1 (248 + i) 0)))) w
set_option maxRecDepth 100000 in
set_option maxHeartbeats 4000000 in
theorem c_X7_isBehind : Ct yX7_isBehind cX7_isBehind 2 (some .boolean) 0 0 0 T_X7_isBehind := by
  refine Ct.mk (by decide +kernel) ?_
  intro X av w Po hX hR hT
  obtain ⟨i, a, rfl, hi, h⟩ := hT
  refine ⟨rfl, ?_⟩
  show A X 0 0 0 [some (.ref (w.2.2.2 i)), some (.int a)] [] w
  refine a_aload_n hX dX7_isBehind_0 rfl ?_
  refine a_ifnull hX dX7_isBehind_1 ?_
  refine a_aload_n hX dX7_isBehind_4 rfl ?_
  refine gf_X7_277 hi hX dX7_isBehind_5 ?_
  refine a_iload_n hX dX7_isBehind_8 rfl ?_
  refine a_icmp_le 16 hX dX7_isBehind_9 (by decide) (fun c_9 => ?_) (fun c_9 => ?_)
  · refine a_iconst (0) hX dX7_isBehind_16 (by decide) ?_
    refine a_iret hX hR dX7_isBehind_17 ⟨Nat.le_refl _, Nat.le_refl _⟩ rfl ?_
    exact po_int h (by grind [bI])
  · refine a_iconst (1) hX dX7_isBehind_12 (by decide) ?_
    refine a_goto 17 hX dX7_isBehind_13 (by decide) ?_
    refine a_iret hX hR dX7_isBehind_17 ⟨Nat.le_refl _, Nat.le_refl _⟩ rfl ?_
    exact po_int h (by grind [bI])
