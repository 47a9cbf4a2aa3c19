/-! File -/
theorem in_rng {j n : Nat} (h : j < n) (hn : n < 2 ^ 31) : (0 : Int32) ≤ nI j ∧ nI j < nI n := ⟨nI_pos' (by omega), nI_lt h hn⟩
theorem ln_rng {j n : Nat} (h : j < n) (hn : n < 2 ^ 31) : (1 : Int32) ≤ nI (j + 1) ∧ nI (j + 1) ≤ nI n := ⟨nI_le (a := 1) (by omega) (by omega), nI_le h hn⟩
theorem rng_ex {x : Int32} {n : Nat} (hn : n < 2 ^ 31) (h : 0 ≤ x ∧ x < nI n) : ∃ j, j < n ∧ x = nI j := by
  obtain ⟨h1, h2⟩ := h
  rw [Int32.le_iff_toInt_le] at h1
  rw [Int32.lt_iff_toInt_lt, nI_toInt hn] at h2
  exact nI_ofI h1 h2 hn
theorem rng_cs (x : Int32) (n : Nat) (hn : n < 2 ^ 31) : (∃ j, j < n ∧ x = nI j) ∨ ¬ (0 ≤ x ∧ x < nI n) := by
  by_cases h : 0 ≤ x ∧ x < nI n
  · exact Or.inl (rng_ex hn h)
  · exact Or.inr h
abbrev rowP (w : St) (r j : Nat) : Prop := w.1 (r + 2) j = 1 ∨ w.1 (r + 2) j = 2
abbrev opP (w : St) (r j : Nat) : Prop := w.1 (r + 2) j = 3 ∨ (rowP w r j ∧ w.1 (r + 3) j < 30)
def hdW (w : St) (r j : Nat) (mo : Int32) : Int32 := if opP w r j then (if mo = 0 then 1073741823 else 0) else if rowP w r j then w.1 (r + 4) j else 1073741823
abbrev loP (w : St) (r : Nat) (k o d : Int32) (i : Nat) : Prop := (w.1 (r + 1 + 4 + i) 0 = k ∧ w.1 (r + 1 + 4 + i) 5 = -1 ∧ nmP (w.1 (r + 1 + 4 + i) 4) o) ∧ w.1 (r + 1 + 4 + i) 1 ≤ d ∧ d ≤ w.1 (r + 1 + 4 + i) 2
def loR (P : Nat → Prop) (res : Int32) : Prop := (∃ i, i < 12 ∧ P i ∧ (∀ j, j < i → ¬ P j) ∧ res = nI i) ∨ ((∀ i, i < 12 → ¬ P i) ∧ res = -1)
abbrev T_X1_at : Tr := fun lay av w Po => ∃ (r : Nat) (a : Int32), av = [.ref (lay r), .int a] ∧ (kd r = 1) ∧ ((∃ j, j < 12 ∧ a = nI j ∧ Po (some (.ref (lay (r + 1 + 4 + j)))) w) ∨ (¬ (0 ≤ a ∧ a < 12) ∧ Po (some .null) w))
set_option maxRecDepth 100000 in
set_option maxHeartbeats 4000000 in
theorem c_X1_at : Ct yX1_at cX1_at 2 (some (.object "TermReckoner$Place")) 1 0 0 T_X1_at := by
  refine Ct.mk (by decide +kernel) ?_
  intro X av w Po hX hR hT
  obtain ⟨r, a, rfl, hr, h⟩ := hT
  refine ⟨rfl, ?_⟩
  show A X 0 0 0 [some (.ref (xlay X r)), some (.int a)] [] w
  refine a_iload_n hX dX1_at_0 rfl ?_
  refine a_callSN [_] hX c_X7_isPlace mi_X7_isPlace ms_X7_isPlace ln_X1_45 (by decide) rfl rfl (Nat.le_of_ble_eq_true rfl) (fun q => q) dX1_at_1 ⟨_, rfl, ?_⟩
  refine a_if_eq_b 16 hX dX1_at_4 (by decide) (fun c_4 => ?_) (fun c_4 => ?_)
  · rcases h with ⟨j, hj, rfl, h⟩ | ⟨hn, h⟩
    · exact absurd (in_rng hj (by decide)) c_4
    · refine a_null hX dX1_at_16 ?_
      refine a_aret hX hR dX1_at_17 ⟨Nat.le_refl _, Nat.le_refl _⟩ (Or.inl rfl) ?_
      exact h
  · rcases h with ⟨j, hj, rfl, h⟩ | ⟨hn, h⟩
    · refine a_aload_n hX dX1_at_7 rfl ?_
      refine gf_X1_11 hr hX dX1_at_8 ?_
      refine a_iload_n hX dX1_at_11 rfl ?_
      refine a_ald_places j hX (K1_1 hr) rfl hj dX1_at_12 ?_
      refine a_goto 17 hX dX1_at_13 (by decide) ?_
      refine a_aret hX hR dX1_at_17 ⟨Nat.le_refl _, Nat.le_refl _⟩ (Or.inr ⟨_, rfl⟩) ?_
      exact h
    · exact absurd c_4 hn
abbrev T_X1_isRow : Tr := fun lay av w Po => ∃ (r j : Nat), av = [.ref (lay r), .int (nI j)] ∧ (kd r = 1) ∧ (j < 120) ∧ Po (some (.int (bI (rowP w r j)))) w
set_option maxRecDepth 100000 in
set_option maxHeartbeats 4000000 in
theorem c_X1_isRow : Ct yX1_isRow cX1_isRow 2 (some .boolean) 1 0 0 T_X1_isRow := by
  refine Ct.mk (by decide +kernel) ?_
  intro X av w Po hX hR hT
  obtain ⟨r, j, rfl, hr, hj, h⟩ := hT
  refine ⟨rfl, ?_⟩
  show A X 0 0 0 [some (.ref (xlay X r)), some (.int (nI j))] [] w
  refine a_iload_n hX dX1_isRow_0 rfl ?_
  refine a_callSN [_] hX c_X7_isMonth mi_X7_isMonth ms_X7_isMonth ln_X1_49 (by decide) rfl rfl (Nat.le_of_ble_eq_true rfl) (fun q => q) dX1_isRow_1 ⟨_, rfl, ?_⟩
  refine a_if_eq_b 31 hX dX1_isRow_4 (by decide) (fun c_4 => ?_) (fun c_4 => ?_)
  · exact absurd (in_rng hj (by decide)) c_4
  · refine a_aload_n hX dX1_isRow_7 rfl ?_
    refine gf_X1_17 hr hX dX1_isRow_8 ?_
    refine a_iload_n hX dX1_isRow_11 rfl ?_
    refine a_iald (j) hX (K1_2 hr) rfl (by rw [L1_2 hr]; omega) dX1_isRow_12 ?_
    refine a_iconst (1) hX dX1_isRow_13 (by decide) ?_
    refine a_icmp_eq 27 hX dX1_isRow_14 (by decide) (fun c_14 => ?_) (fun c_14 => ?_)
    · refine a_iconst (1) hX dX1_isRow_27 (by decide) ?_
      refine a_goto 32 hX dX1_isRow_28 (by decide) ?_
      refine a_iret hX hR dX1_isRow_32 ⟨Nat.le_refl _, Nat.le_refl _⟩ rfl ?_
      exact po_int h (by grind [bI])
    · refine a_aload_n hX dX1_isRow_17 rfl ?_
      refine gf_X1_17 hr hX dX1_isRow_18 ?_
      refine a_iload_n hX dX1_isRow_21 rfl ?_
      refine a_iald (j) hX (K1_2 hr) rfl (by rw [L1_2 hr]; omega) dX1_isRow_22 ?_
      refine a_iconst (2) hX dX1_isRow_23 (by decide) ?_
      refine a_icmp_ne 31 hX dX1_isRow_24 (by decide) (fun c_24 => ?_) (fun c_24 => ?_)
      · refine a_iconst (0) hX dX1_isRow_31 (by decide) ?_
        refine a_iret hX hR dX1_isRow_32 ⟨Nat.le_refl _, Nat.le_refl _⟩ rfl ?_
        exact po_int h (by grind [bI])
      · refine a_iconst (1) hX dX1_isRow_27 (by decide) ?_
        refine a_goto 32 hX dX1_isRow_28 (by decide) ?_
        refine a_iret hX hR dX1_isRow_32 ⟨Nat.le_refl _, Nat.le_refl _⟩ rfl ?_
        exact po_int h (by grind [bI])
abbrev T_X1_fitsRow : Tr := fun lay av w Po => ∃ (r j : Nat) (v : Int32), av = [.ref (lay r), .int (nI j), .int v] ∧ (kd r = 1) ∧ (j < 120) ∧ Po (some (.int (bI (if w.1 (r + 2) j = 2 then -32768 ≤ v ∧ v ≤ 32767 else -128 ≤ v ∧ v ≤ 127)))) w
set_option maxRecDepth 100000 in
set_option maxHeartbeats 4000000 in
theorem c_X1_fitsRow : Ct yX1_fitsRow cX1_fitsRow 3 (some .boolean) 1 0 0 T_X1_fitsRow := by
  refine Ct.mk (by decide +kernel) ?_
  intro X av w Po hX hR hT
  obtain ⟨r, j, v, rfl, hr, hj, h⟩ := hT
  refine ⟨rfl, ?_⟩
  show A X 0 0 0 [some (.ref (xlay X r)), some (.int (nI j)), some (.int v)] [] w
  refine a_iload_n hX dX1_fitsRow_0 rfl ?_
  refine a_callSN [_] hX c_X7_isMonth mi_X7_isMonth ms_X7_isMonth ln_X1_49 (by decide) rfl rfl (Nat.le_of_ble_eq_true rfl) (fun q => q) dX1_fitsRow_1 ⟨_, rfl, ?_⟩
  refine a_if_eq_b 37 hX dX1_fitsRow_4 (by decide) (fun c_4 => ?_) (fun c_4 => ?_)
  · exact absurd (in_rng hj (by decide)) c_4
  · refine a_aload_n hX dX1_fitsRow_7 rfl ?_
    refine gf_X1_17 hr hX dX1_fitsRow_8 ?_
    refine a_iload_n hX dX1_fitsRow_11 rfl ?_
    refine a_iald (j) hX (K1_2 hr) rfl (by rw [L1_2 hr]; omega) dX1_fitsRow_12 ?_
    refine a_iconst (2) hX dX1_fitsRow_13 (by decide) ?_
    refine a_icmp_ne 37 hX dX1_fitsRow_14 (by decide) (fun c_14 => ?_) (fun c_14 => ?_)
    · refine a_iload_n hX dX1_fitsRow_37 rfl ?_
      refine a_bipush (-128) hX dX1_fitsRow_38 (by decide) ?_
      refine a_icmp_lt 53 hX dX1_fitsRow_40 (by decide) (fun c_40 => ?_) (fun c_40 => ?_)
      · refine a_iconst (0) hX dX1_fitsRow_53 (by decide) ?_
        refine a_iret hX hR dX1_fitsRow_54 ⟨Nat.le_refl _, Nat.le_refl _⟩ rfl ?_
        exact po_int h (by grind [bI])
      · refine a_iload_n hX dX1_fitsRow_43 rfl ?_
        refine a_bipush (127) hX dX1_fitsRow_44 (by decide) ?_
        refine a_icmp_gt 53 hX dX1_fitsRow_46 (by decide) (fun c_46 => ?_) (fun c_46 => ?_)
        · refine a_iconst (0) hX dX1_fitsRow_53 (by decide) ?_
          refine a_iret hX hR dX1_fitsRow_54 ⟨Nat.le_refl _, Nat.le_refl _⟩ rfl ?_
          exact po_int h (by grind [bI])
        · refine a_iconst (1) hX dX1_fitsRow_49 (by decide) ?_
          refine a_goto 54 hX dX1_fitsRow_50 (by decide) ?_
          refine a_iret hX hR dX1_fitsRow_54 ⟨Nat.le_refl _, Nat.le_refl _⟩ rfl ?_
          exact po_int h (by grind [bI])
    · refine a_iload_n hX dX1_fitsRow_17 rfl ?_
      refine a_sipush (-32768) hX dX1_fitsRow_18 (by decide) ?_
      refine a_icmp_lt 35 hX dX1_fitsRow_21 (by decide) (fun c_21 => ?_) (fun c_21 => ?_)
      · refine a_iconst (0) hX dX1_fitsRow_35 (by decide) ?_
        refine a_iret hX hR dX1_fitsRow_36 ⟨Nat.le_refl _, Nat.le_refl _⟩ rfl ?_
        exact po_int h (by grind [bI])
      · refine a_iload_n hX dX1_fitsRow_24 rfl ?_
        refine a_sipush (32767) hX dX1_fitsRow_25 (by decide) ?_
        refine a_icmp_gt 35 hX dX1_fitsRow_28 (by decide) (fun c_28 => ?_) (fun c_28 => ?_)
        · refine a_iconst (0) hX dX1_fitsRow_35 (by decide) ?_
          refine a_iret hX hR dX1_fitsRow_36 ⟨Nat.le_refl _, Nat.le_refl _⟩ rfl ?_
          exact po_int h (by grind [bI])
        · refine a_iconst (1) hX dX1_fitsRow_31 (by decide) ?_
          refine a_goto 36 hX dX1_fitsRow_32 (by decide) ?_
          refine a_iret hX hR dX1_fitsRow_36 ⟨Nat.le_refl _, Nat.le_refl _⟩ rfl ?_
          exact po_int h (by grind [bI])
abbrev T_X1_rowLength : Tr := fun lay av w Po => ∃ (r j : Nat), av = [.ref (lay r), .int (nI j)] ∧ (kd r = 1) ∧ (j < 120) ∧ Po (some (.int (w.1 (r + 3) j))) w
set_option maxRecDepth 100000 in
set_option maxHeartbeats 4000000 in
theorem c_X1_rowLength : Ct yX1_rowLength cX1_rowLength 2 (some .int) 1 0 0 T_X1_rowLength := by
  refine Ct.mk (by decide +kernel) ?_
  intro X av w Po hX hR hT
  obtain ⟨r, j, rfl, hr, hj, h⟩ := hT
  refine ⟨rfl, ?_⟩
  show A X 0 0 0 [some (.ref (xlay X r)), some (.int (nI j))] [] w
  refine a_iload_n hX dX1_rowLength_0 rfl ?_
  refine a_callSN [_] hX c_X7_isMonth mi_X7_isMonth ms_X7_isMonth ln_X1_49 (by decide) rfl rfl (Nat.le_of_ble_eq_true rfl) (fun q => q) dX1_rowLength_1 ⟨_, rfl, ?_⟩
  refine a_if_eq_b 16 hX dX1_rowLength_4 (by decide) (fun c_4 => ?_) (fun c_4 => ?_)
  · exact absurd (in_rng hj (by decide)) c_4
  · refine a_aload_n hX dX1_rowLength_7 rfl ?_
    refine gf_X1_21 hr hX dX1_rowLength_8 ?_
    refine a_iload_n hX dX1_rowLength_11 rfl ?_
    refine a_iald (j) hX (K1_3 hr) rfl (by rw [L1_3 hr]; omega) dX1_rowLength_12 ?_
    refine a_goto 17 hX dX1_rowLength_13 (by decide) ?_
    refine a_iret hX hR dX1_rowLength_17 ⟨Nat.le_refl _, Nat.le_refl _⟩ rfl ?_
    exact h
abbrev T_X1_isOpen : Tr := fun lay av w Po => ∃ (r j : Nat), av = [.ref (lay r), .int (nI j)] ∧ (kd r = 1) ∧ (j < 120) ∧ Po (some (.int (bI (opP w r j)))) w
set_option maxRecDepth 100000 in
set_option maxHeartbeats 4000000 in
theorem c_X1_isOpen : Ct yX1_isOpen cX1_isOpen 2 (some .boolean) 2 0 0 T_X1_isOpen := by
  refine Ct.mk (by decide +kernel) ?_
  intro X av w Po hX hR hT
  obtain ⟨r, j, rfl, hr, hj, h⟩ := hT
  refine ⟨rfl, ?_⟩
  show A X 0 0 0 [some (.ref (xlay X r)), some (.int (nI j))] [] w
  refine a_iload_n hX dX1_isOpen_0 rfl ?_
  refine a_callSN [_] hX c_X7_isMonth mi_X7_isMonth ms_X7_isMonth ln_X1_49 (by decide) rfl rfl (Nat.le_of_ble_eq_true rfl) (fun q => q) dX1_isOpen_1 ⟨_, rfl, ?_⟩
  refine a_if_ne_b 9 hX dX1_isOpen_4 (by decide) (fun c_4 => ?_) (fun c_4 => ?_)
  · refine a_aload_n hX dX1_isOpen_9 rfl ?_
    refine gf_X1_17 hr hX dX1_isOpen_10 ?_
    refine a_iload_n hX dX1_isOpen_13 rfl ?_
    refine a_iald (j) hX (K1_2 hr) rfl (by rw [L1_2 hr]; omega) dX1_isOpen_14 ?_
    refine a_iconst (3) hX dX1_isOpen_15 (by decide) ?_
    refine a_icmp_eq 38 hX dX1_isOpen_16 (by decide) (fun c_16 => ?_) (fun c_16 => ?_)
    · refine a_iconst (1) hX dX1_isOpen_38 (by decide) ?_
      refine a_goto 43 hX dX1_isOpen_39 (by decide) ?_
      refine a_iret hX hR dX1_isOpen_43 ⟨Nat.le_refl _, Nat.le_refl _⟩ rfl ?_
      exact po_int h (by grind [bI])
    · refine a_aload_n hX dX1_isOpen_19 rfl ?_
      refine a_iload_n hX dX1_isOpen_20 rfl ?_
      refine a_callV [_] hX c_X1_isRow mi_X1_isRow mv_X1_isRow se_X1_isRow (klt hr (by decide)) (adr_lt (kd_lt hr (by decide))) (cell_1 hr) rfl li_X1_52 (by decide) rfl rfl (Nat.le_of_ble_eq_true rfl) (fun q => q) dX1_isOpen_21 ⟨_, _, rfl, hr, (by assumption), ?_⟩
      refine a_if_eq_b 42 hX dX1_isOpen_24 (by decide) (fun c_24 => ?_) (fun c_24 => ?_)
      · refine a_iconst (0) hX dX1_isOpen_42 (by decide) ?_
        refine a_iret hX hR dX1_isOpen_43 ⟨Nat.le_refl _, Nat.le_refl _⟩ rfl ?_
        exact po_int h (by grind [bI])
      · refine a_aload_n hX dX1_isOpen_27 rfl ?_
        refine gf_X1_21 hr hX dX1_isOpen_28 ?_
        refine a_iload_n hX dX1_isOpen_31 rfl ?_
        refine a_iald (j) hX (K1_3 hr) rfl (by rw [L1_3 hr]; omega) dX1_isOpen_32 ?_
        refine a_bipush (30) hX dX1_isOpen_33 (by decide) ?_
        refine a_icmp_ge 42 hX dX1_isOpen_35 (by decide) (fun c_35 => ?_) (fun c_35 => ?_)
        · refine a_iconst (0) hX dX1_isOpen_42 (by decide) ?_
          refine a_iret hX hR dX1_isOpen_43 ⟨Nat.le_refl _, Nat.le_refl _⟩ rfl ?_
          exact po_int h (by grind [bI])
        · refine a_iconst (1) hX dX1_isOpen_38 (by decide) ?_
          refine a_goto 43 hX dX1_isOpen_39 (by decide) ?_
          refine a_iret hX hR dX1_isOpen_43 ⟨Nat.le_refl _, Nat.le_refl _⟩ rfl ?_
          exact po_int h (by grind [bI])
  · exact absurd (in_rng hj (by decide)) c_4
abbrev T_X1_heldDays : Tr := fun lay av w Po => ∃ (r j : Nat) (mo : Int32), av = [.ref (lay r), .int (nI j), .int mo] ∧ (kd r = 1) ∧ (j < 120) ∧ Po (some (.int (hdW w r j mo))) w
set_option maxRecDepth 100000 in
set_option maxHeartbeats 4000000 in
theorem c_X1_heldDays : Ct yX1_heldDays cX1_heldDays 3 (some .int) 3 0 0 T_X1_heldDays := by
  refine Ct.mk (by decide +kernel) ?_
  intro X av w Po hX hR hT
  obtain ⟨r, j, mo, rfl, hr, hj, h⟩ := hT
  refine ⟨rfl, ?_⟩
  show A X 0 0 0 [some (.ref (xlay X r)), some (.int (nI j)), some (.int mo)] [] w
  refine a_aload_n hX dX1_heldDays_0 rfl ?_
  refine a_iload_n hX dX1_heldDays_1 rfl ?_
  refine a_callV [_] hX c_X1_isOpen mi_X1_isOpen mv_X1_isOpen se_X1_isOpen (klt hr (by decide)) (adr_lt (kd_lt hr (by decide))) (cell_1 hr) rfl li_X1_55 (by decide) rfl rfl (Nat.le_of_ble_eq_true rfl) (fun q => q) dX1_heldDays_2 ⟨_, _, rfl, hr, (by assumption), ?_⟩
  refine a_if_eq_b 19 hX dX1_heldDays_5 (by decide) (fun c_5 => ?_) (fun c_5 => ?_)
  · refine a_aload_n hX dX1_heldDays_19 rfl ?_
    refine a_iload_n hX dX1_heldDays_20 rfl ?_
    refine a_callV [_] hX c_X1_isRow mi_X1_isRow mv_X1_isRow se_X1_isRow (klt hr (by decide)) (adr_lt (kd_lt hr (by decide))) (cell_1 hr) rfl li_X1_52 (by decide) rfl rfl (Nat.le_of_ble_eq_true rfl) (fun q => q) dX1_heldDays_21 ⟨_, _, rfl, hr, (by assumption), ?_⟩
    refine a_if_eq_b 36 hX dX1_heldDays_24 (by decide) (fun c_24 => ?_) (fun c_24 => ?_)
    · refine a_ldc hX dX1_heldDays_36 co_X1_58 ?_
      refine a_iret hX hR dX1_heldDays_38 ⟨Nat.le_refl _, Nat.le_refl _⟩ rfl ?_
      exact po_int h (by unfold hdW; grind)
    · refine a_aload_n hX dX1_heldDays_27 rfl ?_
      refine gf_X1_24 hr hX dX1_heldDays_28 ?_
      refine a_iload_n hX dX1_heldDays_31 rfl ?_
      refine a_iald (j) hX (K1_4 hr) rfl (by rw [L1_4 hr]; omega) dX1_heldDays_32 ?_
      refine a_goto 38 hX dX1_heldDays_33 (by decide) ?_
      refine a_iret hX hR dX1_heldDays_38 ⟨Nat.le_refl _, Nat.le_refl _⟩ rfl ?_
      exact po_int h (by unfold hdW; grind)
  · refine a_iload_n hX dX1_heldDays_8 rfl ?_
    refine a_if_eq 16 hX dX1_heldDays_9 (by decide) (fun c_9 => ?_) (fun c_9 => ?_)
    · refine a_ldc hX dX1_heldDays_16 co_X1_58 ?_
      refine a_iret hX hR dX1_heldDays_18 ⟨Nat.le_refl _, Nat.le_refl _⟩ rfl ?_
      exact po_int h (by unfold hdW; grind)
    · refine a_iconst (0) hX dX1_heldDays_12 (by decide) ?_
      refine a_goto 18 hX dX1_heldDays_13 (by decide) ?_
      refine a_iret hX hR dX1_heldDays_18 ⟨Nat.le_refl _, Nat.le_refl _⟩ rfl ?_
      exact po_int h (by unfold hdW; grind)
abbrev T_X1_isHeld : Tr := fun lay av w Po => ∃ (r d : Nat) (mo : Int32), av = [.ref (lay r), .int (nI d), .int mo] ∧ (kd r = 1) ∧ (d < 3600) ∧ Po (some (.int (bI (bt (hdW w r (d / 30) mo) (d % 30) = true)))) w
set_option maxRecDepth 100000 in
set_option maxHeartbeats 4000000 in
theorem c_X1_isHeld : Ct yX1_isHeld cX1_isHeld 3 (some .boolean) 4 0 0 T_X1_isHeld := by
  refine Ct.mk (by decide +kernel) ?_
  intro X av w Po hX hR hT
  obtain ⟨r, d, mo, rfl, hr, hd, h⟩ := hT
  refine ⟨rfl, ?_⟩
  show A X 0 0 0 [some (.ref (xlay X r)), some (.int (nI d)), some (.int mo)] [] w
  refine a_iload_n hX dX1_isHeld_0 rfl ?_
  refine a_callSN [_] hX c_X7_isDay mi_X7_isDay ms_X7_isDay ln_X1_59 (by decide) rfl rfl (Nat.le_of_ble_eq_true rfl) (fun q => q) dX1_isHeld_1 ⟨_, rfl, ?_⟩
  refine a_if_eq_b 30 hX dX1_isHeld_4 (by decide) (fun c_4 => ?_) (fun c_4 => ?_)
  · exact absurd (in_rng hd (by decide)) c_4
  · have hd30 : nI d / 30 = nI (d / 30) := pk_div (d := 30) (by omega) (by decide) (by decide)
    have hm30 : nI d - nI d / 30 * 30 = nI (d % 30) := pk_rem (d := 30) (by omega) (by decide) (by decide)
    refine a_aload_n hX dX1_isHeld_7 rfl ?_
    refine a_iload_n hX dX1_isHeld_8 rfl ?_
    refine a_bipush (30) hX dX1_isHeld_9 (by decide) ?_
    refine a_idiv hX dX1_isHeld_11 (by decide) ?_
    rw [hd30]
    refine a_iload_n hX dX1_isHeld_12 rfl ?_
    refine a_callV [_, _] hX c_X1_heldDays mi_X1_heldDays mv_X1_heldDays se_X1_heldDays (klt hr (by decide)) (adr_lt (kd_lt hr (by decide))) (cell_1 hr) rfl li_X1_62 (by decide) rfl rfl (Nat.le_of_ble_eq_true rfl) (fun q => q) dX1_isHeld_13 ⟨_, _, _, rfl, hr, (by omega), ?_⟩
    refine a_iload_n hX dX1_isHeld_16 rfl ?_
    refine a_bipush (30) hX dX1_isHeld_17 (by decide) ?_
    refine a_irem hX dX1_isHeld_19 (by decide) ?_
    rw [hm30]
    refine a_ishr hX dX1_isHeld_20 ?_
    refine a_iconst (1) hX dX1_isHeld_21 (by decide) ?_
    refine a_iand hX dX1_isHeld_22 ?_
    refine a_if_eq 30 hX dX1_isHeld_23 (by decide) (fun c_23 => ?_) (fun c_23 => ?_)
    · refine a_iconst (0) hX dX1_isHeld_30 (by decide) ?_
      refine a_iret hX hR dX1_isHeld_31 ⟨Nat.le_refl _, Nat.le_refl _⟩ rfl ?_
      exact po_int h (by first | (refine bI_t ?_; have := fun z => c_23 ((nm_0 (by omega)).mpr z); simpa using this) | (refine bI_f ?_; have := (nm_0 (by omega)).mp c_23; simp [this]))
    · refine a_iconst (1) hX dX1_isHeld_26 (by decide) ?_
      refine a_goto 31 hX dX1_isHeld_27 (by decide) ?_
      refine a_iret hX hR dX1_isHeld_31 ⟨Nat.le_refl _, Nat.le_refl _⟩ rfl ?_
      exact po_int h (by first | (refine bI_t ?_; have := fun z => c_23 ((nm_0 (by omega)).mpr z); simpa using this) | (refine bI_f ?_; have := (nm_0 (by omega)).mp c_23; simp [this]))
abbrev T_X1_isToldHeld : Tr := fun lay av w Po => ∃ (r d : Nat), av = [.ref (lay r), .int (nI d)] ∧ (kd r = 1) ∧ (d < 3600) ∧ Po (some (.int (bI (rowP w r (d / 30) ∧ ¬ opP w r (d / 30) ∧ bt (w.1 (r + 4) (d / 30)) (d % 30) = true)))) w
set_option maxRecDepth 100000 in
set_option maxHeartbeats 4000000 in
theorem c_X1_isToldHeld : Ct yX1_isToldHeld cX1_isToldHeld 3 (some .boolean) 5 0 0 T_X1_isToldHeld := by
  refine Ct.mk (by decide +kernel) ?_
  intro X av w Po hX hR hT
  obtain ⟨r, d, rfl, hr, hd, h⟩ := hT
  refine ⟨rfl, ?_⟩
  show A X 0 0 0 [some (.ref (xlay X r)), some (.int (nI d)), none] [] w
  refine a_iload_n hX dX1_isToldHeld_0 rfl ?_
  refine a_bipush (30) hX dX1_isToldHeld_1 (by decide) ?_
  refine a_idiv hX dX1_isToldHeld_3 (by decide) ?_
  have hd30 : nI d / 30 = nI (d / 30) := pk_div (d := 30) (by omega) (by decide) (by decide)
  rw [hd30]
  refine a_istore_n (ls' := [_, _, _]) hX dX1_isToldHeld_4 (Nat.le_of_ble_eq_true rfl) rfl ?_
  refine a_iload_n hX dX1_isToldHeld_5 rfl ?_
  refine a_callSN [_] hX c_X7_isDay mi_X7_isDay ms_X7_isDay ln_X1_59 (by decide) rfl rfl (Nat.le_of_ble_eq_true rfl) (fun q => q) dX1_isToldHeld_6 ⟨_, rfl, ?_⟩
  refine a_if_eq_b 41 hX dX1_isToldHeld_9 (by decide) (fun c_9 => ?_) (fun c_9 => ?_)
  · exact absurd (in_rng hd (by decide)) c_9
  · refine a_aload_n hX dX1_isToldHeld_12 rfl ?_
    refine a_iload_n hX dX1_isToldHeld_13 rfl ?_
    refine a_callV [_] hX c_X1_isRow mi_X1_isRow mv_X1_isRow se_X1_isRow (klt hr (by decide)) (adr_lt (kd_lt hr (by decide))) (cell_1 hr) rfl li_X1_52 (by decide) rfl rfl (Nat.le_of_ble_eq_true rfl) (fun q => q) dX1_isToldHeld_14 ⟨_, _, rfl, hr, (by omega), ?_⟩
    refine a_if_eq_b 41 hX dX1_isToldHeld_17 (by decide) (fun c_17 => ?_) (fun c_17 => ?_)
    · refine a_iconst (0) hX dX1_isToldHeld_41 (by decide) ?_
      refine a_iret hX hR dX1_isToldHeld_42 ⟨Nat.le_refl _, Nat.le_refl _⟩ rfl ?_
      exact po_int h (by grind [bI, hdW])
    · refine a_aload_n hX dX1_isToldHeld_20 rfl ?_
      refine a_iload_n hX dX1_isToldHeld_21 rfl ?_
      refine a_callV [_] hX c_X1_isOpen mi_X1_isOpen mv_X1_isOpen se_X1_isOpen (klt hr (by decide)) (adr_lt (kd_lt hr (by decide))) (cell_1 hr) rfl li_X1_55 (by decide) rfl rfl (Nat.le_of_ble_eq_true rfl) (fun q => q) dX1_isToldHeld_22 ⟨_, _, rfl, hr, (by omega), ?_⟩
      refine a_if_ne_b 41 hX dX1_isToldHeld_25 (by decide) (fun c_25 => ?_) (fun c_25 => ?_)
      · refine a_iconst (0) hX dX1_isToldHeld_41 (by decide) ?_
        refine a_iret hX hR dX1_isToldHeld_42 ⟨Nat.le_refl _, Nat.le_refl _⟩ rfl ?_
        exact po_int h (by grind [bI, hdW])
      · refine a_aload_n hX dX1_isToldHeld_28 rfl ?_
        refine a_iload_n hX dX1_isToldHeld_29 rfl ?_
        refine a_iconst (0) hX dX1_isToldHeld_30 (by decide) ?_
        refine a_callV [_, _] hX c_X1_isHeld mi_X1_isHeld mv_X1_isHeld se_X1_isHeld (klt hr (by decide)) (adr_lt (kd_lt hr (by decide))) (cell_1 hr) rfl li_X1_66 (by decide) rfl rfl (Nat.le_of_ble_eq_true rfl) (fun q => q) dX1_isToldHeld_31 ⟨_, _, _, rfl, hr, hd, ?_⟩
        refine a_if_eq_b 41 hX dX1_isToldHeld_34 (by decide) (fun c_34 => ?_) (fun c_34 => ?_)
        · refine a_iconst (0) hX dX1_isToldHeld_41 (by decide) ?_
          refine a_iret hX hR dX1_isToldHeld_42 ⟨Nat.le_refl _, Nat.le_refl _⟩ rfl ?_
          exact po_int h (by grind [bI, hdW])
        · refine a_iconst (1) hX dX1_isToldHeld_37 (by decide) ?_
          refine a_goto 42 hX dX1_isToldHeld_38 (by decide) ?_
          refine a_iret hX hR dX1_isToldHeld_42 ⟨Nat.le_refl _, Nat.le_refl _⟩ rfl ?_
          exact po_int h (by grind [bI, hdW])
abbrev T_X1_leastOf : Tr := fun lay av w Po => ∃ (r : Nat) (kk o d : Int32), av = [.ref (lay r), .int kk, .int o, .int d] ∧ (kd r = 1) ∧ ∀ res : Int32, loR (loP w r kk o d) res → Po (some (.int res)) w
set_option maxRecDepth 100000 in
set_option maxHeartbeats 4000000 in
theorem c_X1_leastOf : Ct yX1_leastOf cX1_leastOf 6 (some .int) 2 0 0 T_X1_leastOf := by
  refine Ct.mk (by decide +kernel) ?_
  intro X av w Po hX hR hT
  obtain ⟨r, kk, o, d, rfl, hr, h⟩ := hT
  refine ⟨rfl, ?_⟩
  show A X 0 0 0 [some (.ref (xlay X r)), some (.int kk), some (.int o), some (.int d), none, none] [] w
  refine a_iconst (0) hX dX1_leastOf_0 (by decide) ?_
  refine a_istore (ls' := [_, _, _, _, _, _]) hX dX1_leastOf_1 (Nat.le_of_ble_eq_true rfl) rfl ?_
  have L3 : ∀ (fu : Nat) (i : Nat) (y : Option Value), 12 - i < fu → (i ≤ 12) → (∀ j, j < i → ¬ loP w r kk o d j) → A X 0 0 3 [some (.ref (xlay X r)), some (.int kk), some (.int o), some (.int d), some (.int (nI i)), y] [] w := by
    intro fu
    induction fu with
    | zero => intro i y hmu; exact absurd hmu (Nat.not_lt_zero _)
    | succ fu ih =>
      intro i y hmu hi hno
      refine a_iload hX dX1_leastOf_3 rfl ?_
      refine a_bipush (12) hX dX1_leastOf_5 (by decide) ?_
      refine a_icmp_ge 60 hX dX1_leastOf_7 (by decide) (fun c_7 => ?_) (fun c_7 => ?_)
      · refine a_iconst (-1) hX dX1_leastOf_60 (by decide) ?_
        refine a_iret hX hR dX1_leastOf_61 ⟨Nat.le_refl _, Nat.le_refl _⟩ rfl ?_
        have hi12 : i = 12 := by
            have := le_of_c (b := 12) c_7 (by omega) (by omega)
            omega
        subst hi12
        exact h _ (Or.inr ⟨hno, rfl⟩)
      · have hi12 : i < 12 := lt_of_c (b := 12) c_7 (by omega) (by omega)
        refine a_aload_n hX dX1_leastOf_10 rfl ?_
        refine a_iload hX dX1_leastOf_11 rfl ?_
        refine a_callV [_] hX c_X1_at mi_X1_at mv_X1_at se_X1_at (klt hr (by decide)) (adr_lt (kd_lt hr (by decide))) (cell_1 hr) rfl li_X1_32 (by decide) rfl rfl (Nat.le_of_ble_eq_true rfl) (fun q => q) dX1_leastOf_13 ⟨_, _, rfl, hr, Or.inl ⟨i, hi12, rfl, ?_⟩⟩
        refine a_astore (ls' := [_, _, _, _, _, _]) hX dX1_leastOf_16 (Nat.le_of_ble_eq_true rfl) rfl ?_
        refine a_aload hX dX1_leastOf_18 rfl ?_
        refine a_ifnull hX dX1_leastOf_20 ?_
        refine a_aload hX dX1_leastOf_23 rfl ?_
        refine a_iload_n hX dX1_leastOf_25 rfl ?_
        refine a_iload_n hX dX1_leastOf_26 rfl ?_
        refine a_callV [_, _] hX c_X2_isFor mi_X2_isFor mv_X2_isFor se_X2_isFor (klt (K1_p hr hi12) (by decide)) (adr_lt (kd_lt (K1_p hr hi12) (by decide))) (cell_2 (K1_p hr hi12)) rfl li_X1_70 (by decide) rfl rfl (Nat.le_of_ble_eq_true rfl) (fun q => q) dX1_leastOf_27 ⟨_, _, _, rfl, (K1_p hr hi12), ?_⟩
        refine a_if_eq_b 54 hX dX1_leastOf_30 (by decide) (fun c_30 => ?_) (fun c_30 => ?_)
        · refine a_iinc (ls' := [_, _, _, _, _, _]) (nI (i + 1)) hX dX1_leastOf_54 rfl (nI_i1 i) rfl ?_
          refine a_goto 3 hX dX1_leastOf_57 (by decide) ?_
          exact ih (i + 1) _ (by omega) (by omega) (fun j hj => by
              rcases Nat.lt_or_ge j i with q | q
              · exact hno j q
              · have : j = i := by omega
                subst this
                grind)
        · refine a_aload hX dX1_leastOf_33 rfl ?_
          refine gf_X1_74 (K1_p hr hi12) hX dX1_leastOf_35 ?_
          refine a_iload_n hX dX1_leastOf_38 rfl ?_
          refine a_icmp_gt 54 hX dX1_leastOf_39 (by decide) (fun c_39 => ?_) (fun c_39 => ?_)
          · refine a_iinc (ls' := [_, _, _, _, _, _]) (nI (i + 1)) hX dX1_leastOf_54 rfl (nI_i1 i) rfl ?_
            refine a_goto 3 hX dX1_leastOf_57 (by decide) ?_
            exact ih (i + 1) _ (by omega) (by omega) (fun j hj => by
                rcases Nat.lt_or_ge j i with q | q
                · exact hno j q
                · have : j = i := by omega
                  subst this
                  grind)
          · refine a_iload_n hX dX1_leastOf_42 rfl ?_
            refine a_aload hX dX1_leastOf_43 rfl ?_
            refine gf_X1_77 (K1_p hr hi12) hX dX1_leastOf_45 ?_
            refine a_icmp_gt 54 hX dX1_leastOf_48 (by decide) (fun c_48 => ?_) (fun c_48 => ?_)
            · refine a_iinc (ls' := [_, _, _, _, _, _]) (nI (i + 1)) hX dX1_leastOf_54 rfl (nI_i1 i) rfl ?_
              refine a_goto 3 hX dX1_leastOf_57 (by decide) ?_
              exact ih (i + 1) _ (by omega) (by omega) (fun j hj => by
                  rcases Nat.lt_or_ge j i with q | q
                  · exact hno j q
                  · have : j = i := by omega
                    subst this
                    grind)
            · refine a_iload hX dX1_leastOf_51 rfl ?_
              refine a_iret hX hR dX1_leastOf_53 ⟨Nat.le_refl _, Nat.le_refl _⟩ rfl ?_
              exact h _ (Or.inl ⟨i, hi12, by grind, hno, rfl⟩)
  exact L3 13 0 none (by omega) (by omega) (fun j hj => by omega)
abbrev T_X1_setRow : Tr := fun lay av w Po => ∃ (r j : Nat) (b n : Int32), av = [.ref (lay r), .int (nI j), .int b, .int n] ∧ (kd r = 1) ∧ (j < 120) ∧ ∀ w' : St, w' = wset (wset (wset w (r + 2) j (if b = 0 then 1 else 2)) (r + 3) j n) (r + 4) j (bUpTo (n - 1)) → Po none w'
set_option maxRecDepth 100000 in
set_option maxHeartbeats 4000000 in
theorem c_X1_setRow : Ct yX1_setRow cX1_setRow 4 none 1 0 0 T_X1_setRow := by
  refine Ct.mk (by decide +kernel) ?_
  intro X av w Po hX hR hT
  obtain ⟨r, j, b, n, rfl, hr, hj, h⟩ := hT
  refine ⟨rfl, ?_⟩
  show A X 0 0 0 [some (.ref (xlay X r)), some (.int (nI j)), some (.int b), some (.int n)] [] w
  refine a_iload_n hX dX1_setRow_0 rfl ?_
  refine a_callSN [_] hX c_X7_isMonth mi_X7_isMonth ms_X7_isMonth ln_X1_49 (by decide) rfl rfl (Nat.le_of_ble_eq_true rfl) (fun q => q) dX1_setRow_1 ⟨_, rfl, ?_⟩
  refine a_if_eq_b 41 hX dX1_setRow_4 (by decide) (fun c_4 => ?_) (fun c_4 => ?_)
  · exact absurd (in_rng hj (by decide)) c_4
  · refine a_aload_n hX dX1_setRow_7 rfl ?_
    refine gf_X1_17 hr hX dX1_setRow_8 ?_
    refine a_iload_n hX dX1_setRow_11 rfl ?_
    refine a_iload_n hX dX1_setRow_12 rfl ?_
    refine a_if_eq 20 hX dX1_setRow_13 (by decide) (fun c_13 => ?_) (fun c_13 => ?_)
    · refine a_iconst (1) hX dX1_setRow_20 (by decide) ?_
      refine a_iast (j) hX (K1_2 hr) rfl (by rw [L1_2 hr]; omega) dX1_setRow_21 ?_
      refine a_aload_n hX dX1_setRow_22 rfl ?_
      refine gf_X1_21 hr hX dX1_setRow_23 ?_
      refine a_iload_n hX dX1_setRow_26 rfl ?_
      refine a_iload_n hX dX1_setRow_27 rfl ?_
      refine a_iast (j) hX (K1_3 hr) rfl (by rw [L1_3 hr]; omega) dX1_setRow_28 ?_
      refine a_aload_n hX dX1_setRow_29 rfl ?_
      refine gf_X1_24 hr hX dX1_setRow_30 ?_
      refine a_iload_n hX dX1_setRow_33 rfl ?_
      refine a_iload_n hX dX1_setRow_34 rfl ?_
      refine a_iconst (1) hX dX1_setRow_35 (by decide) ?_
      refine a_isub hX dX1_setRow_36 ?_
      refine a_callSN [_] hX c_X7_bitsUpTo mi_X7_bitsUpTo ms_X7_bitsUpTo ln_X1_80 (by decide) rfl rfl (Nat.le_of_ble_eq_true rfl) (fun q => q) dX1_setRow_37 ⟨_, rfl, ?_⟩
      refine a_iast (j) hX (K1_4 hr) rfl (by rw [L1_4 hr]; omega) dX1_setRow_40 ?_
      refine a_vret hX hR dX1_setRow_41 ⟨Nat.le_refl _, Nat.le_refl _⟩ ?_
      exact h _ (by first | rw [if_pos c_13] | rw [if_neg c_13])
    · refine a_iconst (2) hX dX1_setRow_16 (by decide) ?_
      refine a_goto 21 hX dX1_setRow_17 (by decide) ?_
      refine a_iast (j) hX (K1_2 hr) rfl (by rw [L1_2 hr]; omega) dX1_setRow_21 ?_
      refine a_aload_n hX dX1_setRow_22 rfl ?_
      refine gf_X1_21 hr hX dX1_setRow_23 ?_
      refine a_iload_n hX dX1_setRow_26 rfl ?_
      refine a_iload_n hX dX1_setRow_27 rfl ?_
      refine a_iast (j) hX (K1_3 hr) rfl (by rw [L1_3 hr]; omega) dX1_setRow_28 ?_
      refine a_aload_n hX dX1_setRow_29 rfl ?_
      refine gf_X1_24 hr hX dX1_setRow_30 ?_
      refine a_iload_n hX dX1_setRow_33 rfl ?_
      refine a_iload_n hX dX1_setRow_34 rfl ?_
      refine a_iconst (1) hX dX1_setRow_35 (by decide) ?_
      refine a_isub hX dX1_setRow_36 ?_
      refine a_callSN [_] hX c_X7_bitsUpTo mi_X7_bitsUpTo ms_X7_bitsUpTo ln_X1_80 (by decide) rfl rfl (Nat.le_of_ble_eq_true rfl) (fun q => q) dX1_setRow_37 ⟨_, rfl, ?_⟩
      refine a_iast (j) hX (K1_4 hr) rfl (by rw [L1_4 hr]; omega) dX1_setRow_40 ?_
      refine a_vret hX hR dX1_setRow_41 ⟨Nat.le_refl _, Nat.le_refl _⟩ ?_
      exact h _ (by first | rw [if_pos c_13] | rw [if_neg c_13])
abbrev T_X1_setDay : Tr := fun lay av w Po => ∃ (r j q : Nat) (b : Int32), av = [.ref (lay r), .int (nI j), .int (nI q), .int b] ∧ (kd r = 1) ∧ (j < 120) ∧ (q < 30) ∧ ∀ w' : St, w' = wset w (r + 4) j (if b = 0 then w.1 (r + 4) j &&& (((1 : Int32) <<< (nI q &&& 31)) ^^^ (-1)) else w.1 (r + 4) j ||| ((1 : Int32) <<< (nI q &&& 31))) → Po none w'
set_option maxRecDepth 100000 in
set_option maxHeartbeats 4000000 in
theorem c_X1_setDay : Ct yX1_setDay cX1_setDay 4 none 1 0 0 T_X1_setDay := by
  refine Ct.mk (by decide +kernel) ?_
  intro X av w Po hX hR hT
  obtain ⟨r, j, q, b, rfl, hr, hj, hq, h⟩ := hT
  refine ⟨rfl, ?_⟩
  show A X 0 0 0 [some (.ref (xlay X r)), some (.int (nI j)), some (.int (nI q)), some (.int b)] [] w
  refine a_iload_n hX dX1_setDay_0 rfl ?_
  refine a_callSN [_] hX c_X7_isMonth mi_X7_isMonth ms_X7_isMonth ln_X1_49 (by decide) rfl rfl (Nat.le_of_ble_eq_true rfl) (fun q => q) dX1_setDay_1 ⟨_, rfl, ?_⟩
  refine a_if_eq_b 52 hX dX1_setDay_4 (by decide) (fun c_4 => ?_) (fun c_4 => ?_)
  · exact absurd (in_rng hj (by decide)) c_4
  · refine a_iload_n hX dX1_setDay_7 rfl ?_
    refine a_if_lt 52 hX dX1_setDay_8 (by decide) (fun c_8 => ?_) (fun c_8 => ?_)
    · exact absurd c_8 (nI_pos (by omega))
    · refine a_iload_n hX dX1_setDay_11 rfl ?_
      refine a_bipush (30) hX dX1_setDay_12 (by decide) ?_
      refine a_icmp_ge 52 hX dX1_setDay_14 (by decide) (fun c_14 => ?_) (fun c_14 => ?_)
      · exact absurd (in_rng hq (by decide)).2 (Int32.not_lt.mpr c_14)
      · refine a_aload_n hX dX1_setDay_17 rfl ?_
        refine gf_X1_24 hr hX dX1_setDay_18 ?_
        refine a_iload_n hX dX1_setDay_21 rfl ?_
        refine a_iload_n hX dX1_setDay_22 rfl ?_
        refine a_if_eq 39 hX dX1_setDay_23 (by decide) (fun c_23 => ?_) (fun c_23 => ?_)
        · refine a_aload_n hX dX1_setDay_39 rfl ?_
          refine gf_X1_24 hr hX dX1_setDay_40 ?_
          refine a_iload_n hX dX1_setDay_43 rfl ?_
          refine a_iald (j) hX (K1_4 hr) rfl (by rw [L1_4 hr]; omega) dX1_setDay_44 ?_
          refine a_iconst (1) hX dX1_setDay_45 (by decide) ?_
          refine a_iload_n hX dX1_setDay_46 rfl ?_
          refine a_ishl hX dX1_setDay_47 ?_
          refine a_iconst (-1) hX dX1_setDay_48 (by decide) ?_
          refine a_ixor hX dX1_setDay_49 ?_
          refine a_iand hX dX1_setDay_50 ?_
          refine a_iast (j) hX (K1_4 hr) rfl (by rw [L1_4 hr]; omega) dX1_setDay_51 ?_
          refine a_vret hX hR dX1_setDay_52 ⟨Nat.le_refl _, Nat.le_refl _⟩ ?_
          exact h _ (by first | rw [if_pos c_23] | rw [if_neg c_23])
        · refine a_aload_n hX dX1_setDay_26 rfl ?_
          refine gf_X1_24 hr hX dX1_setDay_27 ?_
          refine a_iload_n hX dX1_setDay_30 rfl ?_
          refine a_iald (j) hX (K1_4 hr) rfl (by rw [L1_4 hr]; omega) dX1_setDay_31 ?_
          refine a_iconst (1) hX dX1_setDay_32 (by decide) ?_
          refine a_iload_n hX dX1_setDay_33 rfl ?_
          refine a_ishl hX dX1_setDay_34 ?_
          refine a_ior hX dX1_setDay_35 ?_
          refine a_goto 51 hX dX1_setDay_36 (by decide) ?_
          refine a_iast (j) hX (K1_4 hr) rfl (by rw [L1_4 hr]; omega) dX1_setDay_51 ?_
          refine a_vret hX hR dX1_setDay_52 ⟨Nat.le_refl _, Nat.le_refl _⟩ ?_
          exact h _ (by first | rw [if_pos c_23] | rw [if_neg c_23])
abbrev T_X1_setTorn : Tr := fun lay av w Po => ∃ (r j : Nat), av = [.ref (lay r), .int (nI j)] ∧ (kd r = 1) ∧ (j < 120) ∧ ∀ w' : St, w' = wset w (r + 2) j 3 → Po none w'
set_option maxRecDepth 100000 in
set_option maxHeartbeats 4000000 in
theorem c_X1_setTorn : Ct yX1_setTorn cX1_setTorn 2 none 1 0 0 T_X1_setTorn := by
  refine Ct.mk (by decide +kernel) ?_
  intro X av w Po hX hR hT
  obtain ⟨r, j, rfl, hr, hj, h⟩ := hT
  refine ⟨rfl, ?_⟩
  show A X 0 0 0 [some (.ref (xlay X r)), some (.int (nI j))] [] w
  refine a_iload_n hX dX1_setTorn_0 rfl ?_
  refine a_callSN [_] hX c_X7_isMonth mi_X7_isMonth ms_X7_isMonth ln_X1_49 (by decide) rfl rfl (Nat.le_of_ble_eq_true rfl) (fun q => q) dX1_setTorn_1 ⟨_, rfl, ?_⟩
  refine a_if_eq_b 14 hX dX1_setTorn_4 (by decide) (fun c_4 => ?_) (fun c_4 => ?_)
  · exact absurd (in_rng hj (by decide)) c_4
  · refine a_aload_n hX dX1_setTorn_7 rfl ?_
    refine gf_X1_17 hr hX dX1_setTorn_8 ?_
    refine a_iload_n hX dX1_setTorn_11 rfl ?_
    refine a_iconst (3) hX dX1_setTorn_12 (by decide) ?_
    refine a_iast (j) hX (K1_2 hr) rfl (by rw [L1_2 hr]; omega) dX1_setTorn_13 ?_
    refine a_vret hX hR dX1_setTorn_14 ⟨Nat.le_refl _, Nat.le_refl _⟩ ?_
    exact h _ rfl
theorem K1_x {r q : Nat} (h : kd r = 1) (h2 : kd q = 1) : q = r ∨ q + 5 ≤ r ∨ r + 5 ≤ q := (by decide +kernel : ∀ r, r < 248 → kd r = 1 → ∀ q, q < 248 → kd q = 1 → q = r ∨ q + 5 ≤ r ∨ r + 5 ≤ q) r (kd_lt h (by decide)) h q (kd_lt h2 (by decide)) h2
abbrev T_X1_copyRow : Tr := fun lay av w Po => ∃ (r q j t : Nat), av = [.ref (lay r), .ref (lay q), .int (nI j), .int (nI t)] ∧ (kd r = 1) ∧ (kd q = 1) ∧ (j < 120) ∧ (t < 120) ∧ ∀ w' : St, Fr w w' (fun z => z = r + 2 ∨ z = r + 3 ∨ z = r + 4) ∧ w'.1 (r + 2) = upd (w.1 (r + 2)) t (w.1 (q + 2) j) ∧ w'.1 (r + 3) = upd (w.1 (r + 3)) t (w.1 (q + 3) j) ∧ w'.1 (r + 4) = upd (w.1 (r + 4)) t (w.1 (q + 4) j) → Po none w'
set_option maxRecDepth 100000 in
set_option maxHeartbeats 4000000 in
theorem c_X1_copyRow : Ct yX1_copyRow cX1_copyRow 4 none 1 0 0 T_X1_copyRow := by
  refine Ct.mk (by decide +kernel) ?_
  intro X av w Po hX hR hT
  obtain ⟨r, q, j, t, rfl, hr, hq, hj, ht, h⟩ := hT
  refine ⟨rfl, ?_⟩
  show A X 0 0 0 [some (.ref (xlay X r)), some (.ref (xlay X q)), some (.int (nI j)), some (.int (nI t))] [] w
  refine a_iload_n hX dX1_copyRow_0 rfl ?_
  refine a_callSN [_] hX c_X7_isMonth mi_X7_isMonth ms_X7_isMonth ln_X1_49 (by decide) rfl rfl (Nat.le_of_ble_eq_true rfl) (fun q => q) dX1_copyRow_1 ⟨_, rfl, ?_⟩
  refine a_if_eq_b 50 hX dX1_copyRow_4 (by decide) (fun c_4 => ?_) (fun c_4 => ?_)
  · exact absurd (in_rng hj (by decide)) c_4
  · refine a_iload_n hX dX1_copyRow_7 rfl ?_
    refine a_callSN [_] hX c_X7_isMonth mi_X7_isMonth ms_X7_isMonth ln_X1_49 (by decide) rfl rfl (Nat.le_of_ble_eq_true rfl) (fun q => q) dX1_copyRow_8 ⟨_, rfl, ?_⟩
    refine a_if_eq_b 50 hX dX1_copyRow_11 (by decide) (fun c_11 => ?_) (fun c_11 => ?_)
    · exact absurd (in_rng ht (by decide)) c_11
    · refine a_aload_n hX dX1_copyRow_14 rfl ?_
      refine gf_X1_17 hr hX dX1_copyRow_15 ?_
      refine a_iload_n hX dX1_copyRow_18 rfl ?_
      refine a_aload_n hX dX1_copyRow_19 rfl ?_
      refine gf_X1_17 hq hX dX1_copyRow_20 ?_
      refine a_iload_n hX dX1_copyRow_23 rfl ?_
      refine a_iald (j) hX (K1_2 hq) rfl (by rw [L1_2 hq]; omega) dX1_copyRow_24 ?_
      refine a_iast (t) hX (K1_2 hr) rfl (by rw [L1_2 hr]; omega) dX1_copyRow_25 ?_
      refine a_aload_n hX dX1_copyRow_26 rfl ?_
      refine gf_X1_21 hr hX dX1_copyRow_27 ?_
      refine a_iload_n hX dX1_copyRow_30 rfl ?_
      refine a_aload_n hX dX1_copyRow_31 rfl ?_
      refine gf_X1_21 hq hX dX1_copyRow_32 ?_
      refine a_iload_n hX dX1_copyRow_35 rfl ?_
      refine a_iald (j) hX (K1_3 hq) rfl (by rw [L1_3 hq]; omega) dX1_copyRow_36 ?_
      refine a_iast (t) hX (K1_3 hr) rfl (by rw [L1_3 hr]; omega) dX1_copyRow_37 ?_
      refine a_aload_n hX dX1_copyRow_38 rfl ?_
      refine gf_X1_24 hr hX dX1_copyRow_39 ?_
      refine a_iload_n hX dX1_copyRow_42 rfl ?_
      refine a_aload_n hX dX1_copyRow_43 rfl ?_
      refine gf_X1_24 hq hX dX1_copyRow_44 ?_
      refine a_iload_n hX dX1_copyRow_47 rfl ?_
      refine a_iald (j) hX (K1_4 hq) rfl (by rw [L1_4 hq]; omega) dX1_copyRow_48 ?_
      refine a_iast (t) hX (K1_4 hr) rfl (by rw [L1_4 hr]; omega) dX1_copyRow_49 ?_
      refine a_vret hX hR dX1_copyRow_50 ⟨Nat.le_refl _, Nat.le_refl _⟩ ?_
      have e1 : q + 3 ≠ r + 2 := fun e => by
          have a := K1_x hr hq
          omega
      have e2 : q + 4 ≠ r + 2 := fun e => by
          have a := K1_x hr hq
          omega
      have e3 : q + 4 ≠ r + 3 := fun e => by
          have a := K1_x hr hq
          omega
      refine h _ ⟨?_, ?_, ?_, ?_⟩
      · refine Fr.set (Fr.set (Fr.set Fr.rf ?_) ?_) ?_ <;> simp
      · rw [wset_ne _ _ _ _ (by omega), wset_ne _ _ _ _ (by omega), wset_row]
      · rw [wset_ne _ _ _ _ (by omega), wset_row, wset_ne _ _ _ _ (by omega)]
        simp only [wset_1]
        simp [e1]
      · rw [wset_row, wset_ne _ _ _ _ (by omega), wset_ne _ _ _ _ (by omega)]
        simp only [wset_1]
        simp [e2, e3]
abbrev T_J7_fill_53178 : Tr := fun lay av w Po => ∃ (r : Nat) (v : Int32), av = [.ref (lay r), .int v] ∧ (kd r = 10) ∧ ∀ w' : St, Fr w w' (fun q => q = r) ∧ (∀ j, j < ln r → w'.1 r j = v) → Po none w'
set_option maxRecDepth 100000 in
set_option maxHeartbeats 4000000 in
theorem c_J7_fill_53178 : Ct yJ7_fill_53178 cJ7_fill_53178 4 none 0 0 0 T_J7_fill_53178 := by
  refine Ct.mk (by decide +kernel) ?_
  intro X av w Po hX hR hT
  obtain ⟨r, v, rfl, hr, h⟩ := hT
  refine ⟨rfl, ?_⟩
  show A X 0 0 0 [some (.ref (xlay X r)), some (.int v), none, none] [] w
  refine a_iconst (0) hX dJ7_fill_53178_0 (by decide) ?_
  refine a_istore_n (ls' := [_, _, _, _]) hX dJ7_fill_53178_1 (Nat.le_of_ble_eq_true rfl) rfl ?_
  refine a_aload_n hX dJ7_fill_53178_2 rfl ?_
  refine a_ilen hX hr dJ7_fill_53178_3 ?_
  refine a_istore_n (ls' := [_, _, _, _]) hX dJ7_fill_53178_4 (Nat.le_of_ble_eq_true rfl) rfl ?_
  have L5 : ∀ (fu : Nat) (i : Nat) (w2 : St), ln r - i < fu → (i ≤ ln r) → (Fr w w2 (fun q => q = r)) → (∀ j, j < i → w2.1 r j = v) → A X 0 0 5 [some (.ref (xlay X r)), some (.int v), some (.int (nI i)), some (.int (nI (ln r)))] [] w2 := by
    intro fu
    induction fu with
    | zero => intro i w2 hmu; exact absurd hmu (Nat.not_lt_zero _)
    | succ fu ih =>
      intro i w2 hmu hi hf2 hv
      refine a_iload_n hX dJ7_fill_53178_5 rfl ?_
      refine a_iload_n hX dJ7_fill_53178_6 rfl ?_
      refine a_icmp_ge 20 hX dJ7_fill_53178_7 (by decide) (fun c_7 => ?_) (fun c_7 => ?_)
      · refine a_vret hX hR dJ7_fill_53178_20 ⟨Nat.le_refl _, Nat.le_refl _⟩ ?_
        have hl := ln_lt r
        have hi2 := le_of_c c_7 (by omega) (by omega)
        exact h _ ⟨hf2, fun j hj => hv j (by omega)⟩
      · have hl := ln_lt r
        have hi2 : i < ln r := lt_of_c c_7 (by omega) (by omega)
        refine a_aload_n hX dJ7_fill_53178_10 rfl ?_
        refine a_iload_n hX dJ7_fill_53178_11 rfl ?_
        refine a_iload_n hX dJ7_fill_53178_12 rfl ?_
        refine a_iast i hX hr rfl hi2 dJ7_fill_53178_13 ?_
        refine a_iinc (ls' := [_, _, _, _]) (nI (i + 1)) hX dJ7_fill_53178_14 rfl (nI_i1 i) rfl ?_
        refine a_goto 5 hX dJ7_fill_53178_17 (by decide) ?_
        exact ih (i + 1) _ (by omega) (by omega) (Fr.set hf2 rfl) (fun j hj => by
            rw [wset_1]
            by_cases e : j = i
            · rw [if_pos ⟨rfl, e⟩]
            · rw [if_neg (fun z => e z.2)]
              exact hv j (by omega))
  exact L5 (ln r + 1) 0 w (by omega) (by omega) Fr.rf (fun j hj => by omega)
theorem kd_ap {r a b : Nat} (h : kd r = 1) (ha : a < 17) (hb : b < 17) (hab : a ≠ b) : r + a ≠ r + b := by omega
/-- a File is wiped -/
def wipF (w w' : St) (r : Nat) : Prop := Fr w w' (fun q => r ≤ q ∧ q < r + 17) ∧ (∀ i, i < 12 → ∀ k, k < 9 → w'.1 (r + 1 + 4 + i) k = if k = 5 then -1 else 0) ∧ (∀ j, j < 120 → w'.1 (r + 2) j = 0 ∧ w'.1 (r + 3) j = 0 ∧ w'.1 (r + 4) j = 0) ∧ w'.1 r 4 = -1
abbrev T_X1_wipe : Tr := fun lay av w Po => ∃ (r : Nat), av = [.ref (lay r)] ∧ (kd r = 1) ∧ ∀ w' : St, wipF w w' r → Po none w'
set_option maxRecDepth 100000 in
set_option maxHeartbeats 4000000 in
theorem c_X1_wipe : Ct yX1_wipe cX1_wipe 3 none 2 0 0 T_X1_wipe := by
  refine Ct.mk (by decide +kernel) ?_
  intro X av w Po hX hR hT
  obtain ⟨r, rfl, hr, h⟩ := hT
  refine ⟨rfl, ?_⟩
  show A X 0 0 0 [some (.ref (xlay X r)), none, none] [] w
  refine a_iconst (0) hX dX1_wipe_0 (by decide) ?_
  refine a_istore_n (ls' := [_, _, _]) hX dX1_wipe_1 (Nat.le_of_ble_eq_true rfl) rfl ?_
  have L2 : ∀ (fu : Nat) (i : Nat) (w2 : St) (y : Option Value), 12 - i < fu → (i ≤ 12) → (Fr w w2 (fun q => r ≤ q ∧ q < r + 17)) → (∀ i2, i2 < i → ∀ k, k < 9 → w2.1 (r + 1 + 4 + i2) k = if k = 5 then -1 else 0) → A X 0 0 2 [some (.ref (xlay X r)), some (.int (nI i)), y] [] w2 := by
    intro fu
    induction fu with
    | zero => intro i w2 y hmu; exact absurd hmu (Nat.not_lt_zero _)
    | succ fu ih =>
      intro i w2 y hmu hi hf2 hv
      refine a_iload_n hX dX1_wipe_2 rfl ?_
      refine a_bipush (12) hX dX1_wipe_3 (by decide) ?_
      refine a_icmp_ge 28 hX dX1_wipe_5 (by decide) (fun c_5 => ?_) (fun c_5 => ?_)
      · refine a_aload_n hX dX1_wipe_28 rfl ?_
        refine gf_X1_17 hr hX dX1_wipe_29 ?_
        refine a_iconst (0) hX dX1_wipe_32 (by decide) ?_
        refine a_callS [_, _] hX c_J7_fill_53178 mi_J7_fill_53178 ms_J7_fill_53178 li_X1_39 (by decide) rfl rfl (Nat.le_of_ble_eq_true rfl) (fun q => q) dX1_wipe_33 ⟨_, _, rfl, (K1_2 hr), ?_⟩
        intro w33 h33
        refine a_aload_n hX dX1_wipe_36 rfl ?_
        refine gf_X1_21 hr hX dX1_wipe_37 ?_
        refine a_iconst (0) hX dX1_wipe_40 (by decide) ?_
        refine a_callS [_, _] hX c_J7_fill_53178 mi_J7_fill_53178 ms_J7_fill_53178 li_X1_39 (by decide) rfl rfl (Nat.le_of_ble_eq_true rfl) (fun q => q) dX1_wipe_41 ⟨_, _, rfl, (K1_3 hr), ?_⟩
        intro w41 h41
        refine a_aload_n hX dX1_wipe_44 rfl ?_
        refine gf_X1_24 hr hX dX1_wipe_45 ?_
        refine a_iconst (0) hX dX1_wipe_48 (by decide) ?_
        refine a_callS [_, _] hX c_J7_fill_53178 mi_J7_fill_53178 ms_J7_fill_53178 li_X1_39 (by decide) rfl rfl (Nat.le_of_ble_eq_true rfl) (fun q => q) dX1_wipe_49 ⟨_, _, rfl, (K1_4 hr), ?_⟩
        intro w49 h49
        refine a_aload_n hX dX1_wipe_52 rfl ?_
        refine a_iconst (-1) hX dX1_wipe_53 (by decide) ?_
        refine pf_X1_27 hr hX dX1_wipe_54 ?_
        refine a_vret hX hR dX1_wipe_57 ⟨Nat.le_refl _, Nat.le_refl _⟩ ?_
        have hi12 : i = 12 := by
            have := le_of_c (b := 12) c_5 (by omega) (by omega)
            omega
        subst hi12
        rw [L1_2 hr] at h33
        rw [L1_3 hr] at h41
        rw [L1_4 hr] at h49
        refine h _ ⟨?_, ?_, ?_, ?_⟩
        · refine Fr.set ?_ (by omega)
          exact ((hf2.tr (h33.1.mono (fun q hq => by omega))).tr (h41.1.mono (fun q hq => by omega))).tr (h49.1.mono (fun q hq => by omega))
        · intro i2 hi2 k hk
          rw [wset_ne _ _ _ _ (by omega), h49.1.2 _ (by omega), h41.1.2 _ (by omega), h33.1.2 _ (by omega)]
          exact hv i2 hi2 k hk
        · intro j hj
          refine ⟨?_, ?_, ?_⟩
          · rw [wset_ne _ _ _ _ (by omega), h49.1.2 _ (by omega), h41.1.2 _ (by omega)]
            exact h33.2 j hj
          · rw [wset_ne _ _ _ _ (by omega), h49.1.2 _ (by omega)]
            exact h41.2 j hj
          · rw [wset_ne _ _ _ _ (by omega)]
            exact h49.2 j hj
        · rw [wset_1]
          simp
      · have hi12 : i < 12 := lt_of_c (b := 12) c_5 (by omega) (by omega)
        refine a_aload_n hX dX1_wipe_8 rfl ?_
        refine a_iload_n hX dX1_wipe_9 rfl ?_
        refine a_callV [_] hX c_X1_at mi_X1_at mv_X1_at se_X1_at (klt hr (by decide)) (adr_lt (kd_lt hr (by decide))) (cell_1 hr) rfl li_X1_32 (by decide) rfl rfl (Nat.le_of_ble_eq_true rfl) (fun q => q) dX1_wipe_10 ⟨_, _, rfl, hr, Or.inl ⟨i, hi12, rfl, ?_⟩⟩
        refine a_astore_n (ls' := [_, _, _]) hX dX1_wipe_13 (Nat.le_of_ble_eq_true rfl) rfl ?_
        refine a_aload_n hX dX1_wipe_14 rfl ?_
        refine a_ifnull hX dX1_wipe_15 ?_
        refine a_aload_n hX dX1_wipe_18 rfl ?_
        refine a_callV [] hX c_X2_wipe mi_X2_wipe mv_X2_wipe se_X2_wipe (klt (K1_p hr hi12) (by decide)) (adr_lt (kd_lt (K1_p hr hi12) (by decide))) (cell_2 (K1_p hr hi12)) rfl li_X1_36 (by decide) rfl rfl (Nat.le_of_ble_eq_true rfl) (fun q => q) dX1_wipe_19 ⟨_, rfl, (K1_p hr hi12), ?_⟩
        intro w19 h19
        refine a_iinc (ls' := [_, _, _]) (nI (i + 1)) hX dX1_wipe_22 rfl (nI_i1 i) rfl ?_
        refine a_goto 2 hX dX1_wipe_25 (by decide) ?_
        exact ih (i + 1) _ _ (by omega) (by omega) (hf2.tr (h19.1.mono (fun q hq => by omega))) (fun i2 hi2 k hk => by
            by_cases e : i2 = i
            · subst e
              exact h19.2 k hk
            · rw [h19.1.2 _ (by omega)]
              exact hv i2 (by omega) k hk)
  exact L2 13 0 w none (by omega) (by omega) Fr.rf (fun i2 hi2 => by omega)
